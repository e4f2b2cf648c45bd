/-! Numbers, names, room: what a statement is made of. -/
def sN (B : Nat → Int) (N : Nat) (lo hi : Int) (s : ST) : ST := if kd B N s = 2 then (if lo ≤ vl B N s ∧ vl B N s ≤ hi then sA B N s else sG B N 4 s) else sW B N s
def isNm (B : Nat → Int) (N : Nat) (s : ST) : Bool := decide (kd B N s = 1) && decide (ow B N s = -1)
def sNew (B : Nat → Int) (N : Nat) (kn : Int → Bool) (s : ST) : ST := if isNm B N s = true then (if kn (vl B N s) = true then sG B N 2 s else sA B N s) else sW B N s
def sKn (B : Nat → Int) (N : Nat) (fit : Bool) (s : ST) : ST := if isNm B N s = true then (if fit = true then sA B N s else sG B N 3 s) else sW B N s
def sRm (B : Nat → Int) (N : Nat) (room : Bool) (s : ST) : ST := if room = true then sA B N s else sG B N 6 s
def mn (n : Nat → Nat) (a : PH) (x : Int) : Int := fi (fun k => decide (a 7 k = x)) (n 1) 0
def hn (n : Nat → Nat) (a : PH) (x : Int) : Int := fi (fun k => decide (a 8 k = x)) (n 2) 0
def knw (n : Nat → Nat) (a : PH) (x : Int) : Bool := decide (mn n a x ≠ -1) || decide (hn n a x ≠ -1)
def NM (M : PH) (c : Nat) (n : Nat → Nat) (a : PH) : Prop := (M c 1 = (n 1 : Int) ∧ n 1 ≤ 3 ∧ ∀ k, k < n 1 → M (c + 1) k = a 7 k ∧ inR (a 7 k)) ∧ (M c 2 = (n 2 : Int) ∧ n 2 ≤ 8 ∧ ∀ k, k < n 2 → M (c + 3) k = a 8 k ∧ inR (a 8 k))
section CST
variable {d c N : Nat} {X : Nat × (Nat → Int)} {v : Nat → Int} {M M' : PH} {K : PV → PS → Prop} {B : Nat → Int} {s : ST} {n : Nat → Nat} {a : PH}
theorem NM_f (hc : isCh c) (h : NM M c n a) (hf : frQ c M M') : NM M' c n a := by
  have : c = 9 ∨ c = 35 := hc
  unfold NM at *
  rw [hf c (by omega) (by omega) (by omega) (by omega), hf (c + 1) (by omega) (by omega) (by omega) (by omega), hf (c + 3) (by omega) (by omega) (by omega) (by omega)]
  exact h
theorem fi_b {p : Nat → Bool} {k i : Nat} : -1 ≤ fi p k i ∧ fi p k i < ((i + k : Nat) : Int) ∨ fi p k i = -1 := by
  by_cases q : fi p k i = -1
  · exact Or.inr q
  · obtain ⟨j, e, h1, h2, -⟩ := fi_s q
    left; rw [e]; omega
theorem mn_b (h : n 1 ≤ 3) {x : Int} : -1 ≤ mn n a x ∧ mn n a x < 3 := by
  have := fi_b (p := fun k => decide (a 7 k = x)) (k := n 1) (i := 0)
  unfold mn; omega
theorem hn_b (h : n 2 ≤ 8) {x : Int} : -1 ≤ hn n a x ∧ hn n a x < 8 := by
  have := fi_b (p := fun k => decide (a 8 k = x)) (k := n 2) (i := 0)
  unfold hn; omega
theorem c14n (hc : isCh c) (hN : NM M c n a) {x : Int} (hx : inR x) : pm_Call (d + 1) 14 [vA c, vI x] (GF X, M, PTF v) K ↔ K (vI (mn n a x)) (GF X, M, PTF v) := by
  obtain ⟨⟨h1, h2, h3⟩, -⟩ := hN
  rw [c14 (n := n) hc h1 h2 (fun k hk => by rw [(h3 k hk).1]; exact (h3 k hk).2) hx, fi_c (p' := fun k => decide (a 7 k = x)) (fun j _ hj => by rw [(h3 j (by omega)).1])]
  exact Iff.rfl
theorem c15n (hc : isCh c) (hN : NM M c n a) {x : Int} (hx : inR x) : pm_Call (d + 1) 15 [vA c, vI x] (GF X, M, PTF v) K ↔ K (vI (hn n a x)) (GF X, M, PTF v) := by
  obtain ⟨-, ⟨h1, h2, h3⟩⟩ := hN
  rw [c15 (n := n) hc h1 h2 (fun k hk => by rw [(h3 k hk).1]; exact (h3 k hk).2) hx, fi_c (p' := fun k => decide (a 8 k = x)) (fun j _ hj => by rw [(h3 j (by omega)).1])]
  exact Iff.rfl
theorem c75 (hE : PEn v M c B N) (hP : PSt M c B N s) {lo hi : Int} (hlo : inR lo) (hhi : inR hi) (hK : ∀ M', frQ c M M' → PSt M' c B N (sN B N lo hi s) → K (vI (if kd B N s = 2 ∧ lo ≤ vl B N s ∧ vl B N s ≤ hi then vl B N s else lo)) (GF X, M', PTF v)) : pm_Call (d + 3) 75 [vA 31, vI lo, vI hi] (GF X, M, PTF v) K := by
  obtain ⟨e4, r4, e8, r8, r7⟩ := PSt_4 hE hP
  unfold sN at hK
  rw [en75, r75_0 (by rw [e4]; exact r4), e4]
  by_cases q : kd B N s = 2
  · obtain ⟨x, rfl⟩ := kd_x q (by decide)
    obtain ⟨e7, b1, b2⟩ := vl_b hE hP
    rw [if_pos q] at hK
    have bad : ¬ (lo ≤ vl B N (.inr x) ∧ vl B N (.inr x) ≤ hi) → pm_Run (d + 2) 75 36 [vA 31, vI lo, vI hi, vI (vl B N (.inr x))] [] (GF X, M, PTF v) K := by
      intro h
      rw [if_neg h, if_neg (fun z => h z.2)] at hK
      rw [r75_36]
      refine c69s hE hP (by decide) (by omega) (fun M2 f2 p2 => ?_)
      rw [push_u, r75_48, r75_60]
      exact hK M2 f2 p2
    rw [if_pos q, e7, r75_26 (by omega) hlo]
    by_cases q1 : vl B N (.inr x) < lo
    · rw [if_pos q1]; exact bad (by omega)
    rw [if_neg q1, r75_31 (by omega) hhi]
    by_cases q2 : vl B N (.inr x) ≤ hi
    · rw [if_pos ⟨by omega, q2⟩, if_pos ⟨q, by omega, q2⟩] at hK
      rw [if_pos q2, r75_51]
      refine c51p hE hP (fun M2 f2 p2 => ?_)
      rw [push_u, r75_58]
      exact hK M2 f2 p2
    · rw [if_neg q2]; exact bad (by omega)
  · rw [if_neg q, if_neg (fun z => q z.1)] at hK
    rw [if_neg q, r75_19]
    refine c70 hE hP (fun M2 f2 p2 => ?_)
    rw [push_u, r75_23, r75_60]
    exact hK M2 f2 p2
theorem c76 (hE : PEn v M c B N) (hP : PSt M c B N s) : pm_Call (d + 1) 76 [vA 31] (GF X, M, PTF v) K ↔ K (vI (if isNm B N s = true then 1 else 0)) (GF X, M, PTF v) := by
  obtain ⟨e4, r4, e8, r8, r7⟩ := PSt_4 hE hP
  rw [en76, r76_0 (by rw [e4]; exact r4), e4]
  by_cases q : kd B N s = 1
  · rw [if_neg (by simpa using q), r76_11 (by rw [e8]; exact r8), e8]
    by_cases q2 : ow B N s = -1
    · rw [if_neg (by simpa using q2), r76_22, r76_27 (by simp), if_pos (show isNm B N s = true by simp [isNm, q, q2])]
    · rw [if_pos q2, r76_26, r76_27 (by simp), if_neg (show ¬ isNm B N s = true by simp [isNm, q2])]
  · rw [if_pos q, r76_26, r76_27 (by simp), if_neg (show ¬ isNm B N s = true by simp [isNm, q])]
theorem isNm_x (h : isNm B N s = true) : ∃ x, s = .inr x := by
  match s, h with
  | .inr x, _ => exact ⟨x, rfl⟩
theorem c77 (hE : PEn v M c B N) (hP : PSt M c B N s) (hN : NM M c n a) (hK : ∀ M' r, frQ c M M' → PSt M' c B N (sNew B N (knw n a) s) → inR r → (∀ x, s = .inr x → r = vl B N s) → K (vI r) (GF X, M', PTF v)) : pm_Call (d + 3) 77 [vA 31] (GF X, M, PTF v) K := by
  obtain ⟨e4, r4, e8, r8, r7⟩ := PSt_4 hE hP
  have hv7 : ∀ x, s = .inr x → M 32 7 = vl B N s := fun x h => by subst h; exact (vl_b hE hP).1
  unfold sNew at hK
  rw [en77, r77_0, c76 hE hP, push_i, r77_12 (by have := if01 (x := isNm B N s); omega)]
  by_cases q : isNm B N s = true
  · obtain ⟨x, rfl⟩ := isNm_x q
    obtain ⟨e7, b1, b2⟩ := vl_b hE hP
    rw [if_pos q] at hK
    have mb := mn_b (a := a) (x := M 32 7) hN.1.2.1
    have hb := hn_b (a := a) (x := M 32 7) hN.2.2.1
    have bad : knw n a (vl B N (.inr x)) = true → pm_Run (d + 2) 77 46 [vA 31, vI (M 32 7)] [] (GF X, M, PTF v) K := by
      intro h
      rw [if_pos h] at hK
      rw [r77_46]
      refine c69s hE hP (by decide) (by omega) (fun M2 f2 p2 => ?_)
      rw [push_u, r77_58, r77_68]
      exact hK M2 _ f2 p2 r7 hv7
    rw [if_pos q, if_pos (by omega), r77_22 hE.1 hE.2.1, c14n hE.1 hN r7, push_i, r77_30 (by omega)]
    by_cases q1 : mn n a (M 32 7) = -1
    · rw [if_neg (by simpa using q1), r77_34 hE.1 hE.2.1, c15n hE.1 hN r7, push_i, r77_42 (by omega)]
      by_cases q2 : hn n a (M 32 7) = -1
      · rw [if_neg (by rw [← e7]; simp [knw, q1, q2])] at hK
        rw [if_pos q2, r77_61]
        refine c51p hE hP (fun M2 f2 p2 => ?_)
        rw [push_u, r77_68]
        exact hK M2 _ f2 p2 r7 hv7
      · rw [if_neg q2]
        exact bad (by rw [← e7]; simp [knw, q2])
    · rw [if_pos q1]
      exact bad (by rw [← e7]; simp [knw, q1])
  · rw [if_neg q] at hK
    rw [if_neg q, if_neg (by simp), r77_15]
    refine c70 hE hP (fun M2 f2 p2 => ?_)
    rw [push_u, r77_19, r77_68]
    exact hK M2 _ f2 p2 r7 hv7
theorem c80 (hE : PEn v M c B N) (hP : PSt M c B N s) {fit : Bool} (hK : ∀ M', frQ c M M' → PSt M' c B N (sKn B N fit s) → K PU (GF X, M', PTF v)) : pm_Call (d + 3) 80 [vA 31, vI (if fit = true then 1 else 0)] (GF X, M, PTF v) K := by
  unfold sKn at hK
  rw [en80, r80_0, c76 hE hP, push_i, r80_4 (by have := if01 (x := isNm B N s); omega)]
  by_cases q : isNm B N s = true
  · obtain ⟨x, rfl⟩ := isNm_x q
    rw [if_pos q] at hK
    rw [if_pos q, if_pos (by omega), r80_14 (by have := if01 (x := fit); omega)]
    cases fit
    · rw [if_neg (show ¬ false = true by decide)] at hK
      rw [if_neg (show ¬ false = true by decide), if_neg (by simp), r80_18]
      refine c69s hE hP (by decide) (by omega) (fun M2 f2 p2 => ?_)
      rw [push_u, r80_30, r80_40]
      exact hK M2 f2 p2
    · rw [if_pos rfl] at hK
      rw [if_pos (show true = true from rfl), if_pos (by omega), r80_33]
      refine c51p hE hP (fun M2 f2 p2 => ?_)
      rw [push_u, r80_40]
      exact hK M2 f2 p2
  · rw [if_neg q] at hK
    rw [if_neg q, if_neg (by simp), r80_7]
    refine c70 hE hP (fun M2 f2 p2 => ?_)
    rw [push_u, r80_11, r80_40]
    exact hK M2 f2 p2
/-- the value that was read last, known where there is no fault -/
def vlu (B : Nat → Int) (N : Nat) (s : ST) (x : Int) : Prop := inR x ∧ ∀ z, s = .inr z → x = vl B N s
theorem vlu_i (hE : PEn v M c B N) (hP : PSt M c B N s) : vlu B N s (M 32 7) := ⟨(PSt_4 hE hP).2.2.2.2, fun z h => by subst h; exact (vl_b hE hP).1⟩
theorem c78 (hE : PEn v M c B N) (hP : PSt M c B N s) (hN : NM M c n a) (hK : ∀ M' y, frQ c M M' → vlu B N s y → PSt M' c B N (sKn B N (decide (mn n a y ≠ -1)) s) → K (vI (mn n a y)) (GF X, M', PTF v)) : pm_Call (d + 4) 78 [vA 31] (GF X, M, PTF v) K := by
  have hu := vlu_i hE hP
  have mb := mn_b (a := a) (x := M 32 7) hN.1.2.1
  have hk : ∀ M', frQ c M M' → PSt M' c B N (sKn B N (decide (mn n a (M 32 7) ≠ -1)) s) → K (vI (mn n a (M 32 7))) (GF X, M', PTF v) := fun M' h1 h2 => hK M' _ h1 hu h2
  rw [en78, r78_0 hE.1 hE.2.1, c14n hE.1 hN hu.1, push_i, r78_14 (by omega)]
  by_cases q : mn n a (M 32 7) = -1
  · rw [if_pos q, r78_25, r78_26]
    refine c80 (fit := false) hE hP (fun M2 f2 p2 => ?_)
    rw [push_u, r78_29]
    exact hk M2 f2 (by simpa [q] using p2)
  · rw [if_neg q, r78_21, r78_26]
    refine c80 (fit := true) hE hP (fun M2 f2 p2 => ?_)
    rw [push_u, r78_29]
    exact hk M2 f2 (by simpa [q] using p2)
theorem c79 (hE : PEn v M c B N) (hP : PSt M c B N s) (hN : NM M c n a) {o : Int} (ho : inR o) (hK : ∀ M' y, frQ c M M' → vlu B N s y → PSt M' c B N (sKn B N (decide (hn n a y ≠ -1) && decide (hn n a y ≠ o)) s) → K (vI (hn n a y)) (GF X, M', PTF v)) : pm_Call (d + 4) 79 [vA 31, vI o] (GF X, M, PTF v) K := by
  have hu := vlu_i hE hP
  have mb := hn_b (a := a) (x := M 32 7) hN.2.2.1
  have hk : ∀ M', frQ c M M' → PSt M' c B N (sKn B N (decide (hn n a (M 32 7) ≠ -1) && decide (hn n a (M 32 7) ≠ o)) s) → K (vI (hn n a (M 32 7))) (GF X, M', PTF v) := fun M' h1 h2 => hK M' _ h1 hu h2
  have no : ¬ (hn n a (M 32 7) ≠ -1 ∧ hn n a (M 32 7) ≠ o) → pm_Run (d + 3) 79 30 [vA 31, vI o, vI (hn n a (M 32 7))] [vA 31] (GF X, M, PTF v) K := by
    intro h
    rw [r79_30, r79_31]
    refine c80 (fit := false) hE hP (fun M2 f2 p2 => ?_)
    rw [push_u, r79_34]
    refine hk M2 f2 ?_
    rw [show (decide (hn n a (M 32 7) ≠ -1) && decide (hn n a (M 32 7) ≠ o)) = false by
      by_cases z : hn n a (M 32 7) = -1
      · simp [z]
      · by_cases z2 : hn n a (M 32 7) = o
        · simp [z2]
        · exact absurd ⟨z, z2⟩ h]
    exact p2
  rw [en79, r79_0 hE.1 hE.2.1, c15n hE.1 hN hu.1, push_i, r79_14 (by omega)]
  by_cases q : hn n a (M 32 7) = -1
  · rw [if_pos q]; exact no (fun z => z.1 q)
  · rw [if_neg q, r79_21 (by omega) ho]
    by_cases q2 : hn n a (M 32 7) = o
    · rw [if_pos q2]; exact no (fun z => z.2 q2)
    · rw [if_neg q2, r79_26, r79_31]
      refine c80 (fit := true) hE hP (fun M2 f2 p2 => ?_)
      rw [push_u, r79_34]
      refine hk M2 f2 ?_
      rw [show (decide (hn n a (M 32 7) ≠ -1) && decide (hn n a (M 32 7) ≠ o)) = true by simp [q, q2]]
      exact p2
theorem c81 (hE : PEn v M c B N) {x : KP × Nat × List Int} (hP : PSt M c B N (.inr x)) {room : Bool} (hK : ∀ M', frQ c M M' → PSt M' c B N (sRm B N room (.inr x)) → K (vI (if room = true then 1 else 0)) (GF X, M', PTF v)) : pm_Call (d + 3) 81 [vA 31, vI (if room = true then 1 else 0)] (GF X, M, PTF v) K := by
  unfold sRm at hK
  rw [en81, r81_0 (by have := if01 (x := room); omega)]
  cases room
  · rw [if_neg (show ¬ false = true by decide), if_neg (show ¬ false = true by decide)] at hK
    rw [if_neg (show ¬ false = true by decide), if_pos rfl, r81_14]
    refine c69s hE hP (by decide) (by omega) (fun M2 f2 p2 => ?_)
    have e3 : M2 31 3 = 6 := p2.1
    rw [push_u, r81_27 (by rw [e3]; omega), e3, if_pos (by omega), r81_38, r81_39 (by simp)]
    exact hK M2 f2 p2
  · rw [if_pos rfl, if_pos rfl] at hK
    rw [if_pos (show true = true from rfl), if_neg (by omega), r81_4]
    refine c51p hE hP (fun M2 f2 p2 => ?_)
    have e3 : M2 31 3 = 0 := p2.1
    rw [push_u, r81_11, r81_27 (by rw [e3]; omega), e3, if_neg (by simp), r81_34, r81_39 (by simp)]
    exact hK M2 f2 p2
def sFr (B : Nat → Int) (N : Nat) (n : Nat → Nat) (a : PH) (s : ST) : ST := if kd B N s = 2 ∧ fi (fun k => decide (a 2 k = vl B N s)) (n 2) 0 ≠ -1 then sG B N 4 s else sN B N 0 ((n 0 : Int) - 1) s
theorem c86 (hE : PEn v M c B N) (hP : PSt M c B N s) (e0 : M c 0 = (n 0 : Int)) (h24 : n 0 ≤ 24) (e2 : M c 2 = (n 2 : Int)) (h8 : n 2 ≤ 8) (ha : ∀ k, k < n 2 → M (c + 4) k = a 2 k ∧ inR (a 2 k)) (hK : ∀ M' r, frQ c M M' → PSt M' c B N (sFr B N n a s) → (∀ y, sFr B N n a s = .inr y → r = vl B N s) → K (vI r) (GF X, M', PTF v)) : pm_Call (d + 4) 86 [vA 31] (GF X, M, PTF v) K := by
  obtain ⟨e4, r4, e8, r8, r7⟩ := PSt_4 hE hP
  have hcc : c = 9 ∨ c = 35 := hE.1
  have fin : ∀ (M2 : PH) (s2 : ST), frQ c M M2 → PSt M2 c B N s2 → sN B N 0 ((n 0 : Int) - 1) s2 = sFr B N n a s → (∀ y, sFr B N n a s = .inr y → s2 = s) → pm_Run (d + 3) 86 40 [vA 31] [] (GF X, M2, PTF v) K := by
    intro M2 s2 f2 p2 h1 h2
    have e0' : M2 c 0 = (n 0 : Int) := by rw [f2 c (by omega) (by omega) (by omega) (by omega)]; exact e0
    rw [r86_40 hE.1 hE.2.1, e0']
    refine c75 (PEn_f hE f2) p2 (by omega) (by omega) (fun M3 f3 p3 => ?_)
    rw [push_i, r86_54]
    rw [h1] at p3
    refine hK M3 _ (frQ_t f2 f3) p3 (fun y hy => ?_)
    have hs := h2 y hy
    subst hs
    rw [← h1] at hy
    unfold sN at hy
    by_cases z : kd B N s2 = 2
    · rw [if_pos z] at hy
      by_cases z2 : 0 ≤ vl B N s2 ∧ vl B N s2 ≤ (n 0 : Int) - 1
      · rw [if_pos ⟨z, z2⟩]
      · rw [if_neg z2] at hy
        obtain ⟨x, rfl⟩ := kd_x z (by decide)
        exact (opk_G hy).elim
    · rw [if_neg z] at hy
      match s2, hy with
      | .inr x, hy => exact (opk_W hy).elim
  rw [en86, r86_0 (by rw [e4]; exact r4), e4]
  by_cases q : kd B N s = 2
  · obtain ⟨x, rfl⟩ := kd_x q (by decide)
    obtain ⟨e7, b1, b2⟩ := vl_b hE hP
    rw [if_neg (by simpa using q), r86_11 hE.1 hE.2.1, e7, c16 (n := n) hE.1 e2 h8 (fun k hk => by rw [(ha k hk).1]; exact (ha k hk).2) (by omega), push_i, fi_c (p' := fun k => decide (a 2 k = vl B N (.inr x))) (fun j _ hj => by rw [(ha j (by omega)).1])]
    by_cases q2 : fi (fun k => decide (a 2 k = vl B N (.inr x))) (n 2) 0 = -1
    · rw [if_pos q2, r86_25 (by omega), if_pos rfl]
      exact fin M _ frQ_r hP (by rw [sFr, if_neg (fun z => z.2 q2)]) (fun _ _ => rfl)
    · rw [if_neg q2, r86_25 (by omega), if_neg (by omega), r86_28]
      refine c69s hE hP (by decide) (by omega) (fun M2 f2 p2 => ?_)
      have e : sFr B N n a (.inr x) = sG B N 4 (.inr x) := by rw [sFr, if_pos ⟨q, q2⟩]
      rw [push_u]
      refine fin M2 _ f2 p2 ?_ (fun y hy => ?_)
      · rw [e]
        show sN B N 0 ((n 0 : Int) - 1) (.inl _) = _
        rw [sN, if_neg (show ¬ kd B N (.inl (4, ((tok B N x.1).2.1 : Int))) = 2 by show ¬ (4 : Int) = 2; decide)]; rfl
      · rw [e] at hy; exact (opk_G hy).elim
  · rw [if_pos q]
    exact fin M s frQ_r hP (by rw [sFr, if_neg (fun z => q z.1)]) (fun _ _ => rfl)
end CST
