/-! Bidding: trials. -/
/-- bid m of the i-th row of bids below B -/
def dg (B n1 i m : Nat) : Int := if m < n1 then ((i / B ^ (n1 - 1 - m) % B : Nat) : Int) else 0
theorem dg_b {B n1 i m : Nat} (hB : 0 < B) : 0 ≤ dg B n1 i m ∧ dg B n1 i m < B := by
  have := Nat.mod_lt (i / B ^ (n1 - 1 - m)) hB
  unfold dg
  split <;> omega
theorem dg_n {B n1 i m : Nat} (h : n1 ≤ m) : dg B n1 i m = 0 := by rw [dg, if_neg (by omega)]
theorem dg_0 {B n1 m : Nat} : dg B n1 0 m = 0 := by
  unfold dg
  split
  · rw [Nat.zero_div, Nat.zero_mod]; rfl
  · rfl
/-- a harbor's bids are others -/
def setb (μ : PH) (h : Nat) (tr : Nat → Int) : PH := pm_sa μ 4 (pm_cp tr (μ 4) 0 (h * 3) 3)
theorem sm_1 {f : Nat → Int} {h : Nat} {x : Int} : ∀ {n : Nat}, h < n → sm (fun i => if i = h then x else f i) n = sm f n - f h + x
  | 0, hh => absurd hh (by omega)
  | n + 1, hh => by
    by_cases q : h = n
    · subst q
      rw [sm, sm, if_pos rfl, sm_c (g := f) (fun i hi => if_neg (by omega))]; omega
    · rw [sm, sm, if_neg (by omega), sm_1 (by omega)]; omega
theorem setb_4 {μ : PH} {h h' m : Nat} {tr : Nat → Int} (hm : m < 3) : setb μ h tr 4 (h' * 3 + m) = if h' = h then tr m else μ 4 (h' * 3 + m) := by
  rw [setb, sa_s, pm_cp]
  by_cases q : h' = h
  · subst q
    rw [if_pos (by omega), if_pos rfl]; congr 1; omega
  · rw [if_neg (by omega), if_neg q]
theorem setb_i {μ : PH} {h i : Nat} {tr : Nat → Int} (hi : i ≠ 4) : setb μ h tr i = μ i := by rw [setb, sa_n hi]
theorem setb_bt {μ : PH} {h m : Nat} {tr : Nat → Int} (hh : h < 8) (hm : m < 3) : bt (setb μ h tr) m = bt μ m - μ 4 (h * 3 + m) + tr m := by
  unfold bt
  rw [sm_c (g := fun h' => if h' = h then tr m else μ 4 (h' * 3 + m)) (fun i _ => setb_4 hm), sm_1 (f := fun h => μ 4 (h * 3 + m)) hh]
theorem ba_3 {μ : PH} : ba μ = bt μ 0 + bt μ 1 + bt μ 2 := by simp [ba, bt, sm]; omega
theorem plq_4 {n : Nat → Nat} {F : Nat → List Int} {μ : PH} {h m p : Nat} {tr : Nat → Int} {x y : Int} : pl n F (setb μ h tr) m x y p = pl n F μ m x y p := by
  unfold pl envM dt
  simp only [setb_i (show 1 ≠ 4 by omega), setb_i (show 2 ≠ 4 by omega), setb_i (show 0 ≠ 4 by omega), setb_i (show 5 ≠ 4 by omega)]
theorem pl_r {n : Nat → Nat} {F : Nat → List Int} {μ : PH} {m p : Nat} {x y y' : Int} (h : (10020 : Int) ∉ F 0) : pl n F μ m x y p = pl n F μ m x y' p := by
  unfold pl ev
  rw [ev_c (fun z hz h1 h2 => ?_)]
  unfold envM
  have hz20 : z ≠ 10020 := fun e => h (e ▸ hz)
  have g20 : ¬ (z - 10000).toNat = 20 := by omega
  rw [if_neg g20, if_neg g20]
/-- what the others bid a moon -/
def bas (μ : PH) (h m : Nat) : Int := bt μ m - μ 4 (h * 3 + m)
def rvl (μ : PH) (h m : Nat) (o : Int) : Int := bas μ h 0 + bas μ h 1 + bas μ h 2 - bas μ h m + o
theorem hts_setb {n : Nat → Nat} {F : Nat → List Int} {μ : PH} {h p : Nat} {tr : Nat → Int} (hh : h < 8) (h3 : n 1 ≤ 3) (hp : p < n 0) : hts n F (setb μ h tr) p = hg n (fun m p => pl n F μ m (bas μ h m + tr m) (rvl μ h m (tr 0 + tr 1 + tr 2 - tr m)) p) p := by
  unfold hts
  refine hg_c (fun m q hm hq => ?_) hp
  unfold pls
  rw [plq_4, ba_3, setb_bt hh (show 0 < 3 by omega), setb_bt hh (show 1 < 3 by omega), setb_bt hh (show 2 < 3 by omega), setb_bt hh (show m < 3 by omega)]
  congr 1
  unfold rvl bas; omega
def thh (n : Nat → Nat) (a : PH) (F : Nat → List Int) (μ : PH) (h B i : Nat) : Int := hts n F (setb μ h (dg B (n 1) i)) (a 2 h).toNat
def sdg (B n1 i : Nat) : Int := dg B n1 i 0 + dg B n1 i 1 + dg B n1 i 2
def wl (n : Nat → Nat) (a : PH) (F : Nat → List Int) (μ : PH) (h : Nat) (H : Int) : Nat → Int × Nat
  | 0 => (31, 0)
  | i + 1 => if sdg 11 (n 1) i < (wl n a F μ h H i).1 ∧ H ≤ thh n a F μ h 11 i then (sdg 11 (n 1) i, i) else wl n a F μ h H i
/-- all of the first k -/
def al (p : Nat → Bool) : Nat → Bool
  | 0 => true
  | k + 1 => al p k && p k
/-- the first one of the most of the first k -/
def mx (g : Nat → Int) : Nat → Int × Nat
  | 0 => (-1000000000, 0)
  | i + 1 => if (mx g i).1 < g i then (g i, i) else mx g i
/-- what the last one of these gains -/
def og (g : Nat → Int) (e : Nat → Bool) : Nat → Int
  | 0 => -1000000000
  | i + 1 => if e i then g i else og g e i
def gain (n : Nat → Nat) (a : PH) (F : Nat → List Int) (μ : PH) (h i : Nat) : Int := thh n a F μ h 5 i - sdg 5 (n 1) i
def isO (n : Nat → Nat) (μ : PH) (h i : Nat) : Bool := al (fun m => decide (dg 5 (n 1) i m = μ 4 (h * 3 + m))) (n 1)
def mvs (n : Nat → Nat) (a : PH) (F : Nat → List Int) (μ : PH) (h : Nat) : Bool := decide (og (gain n a F μ h) (isO n μ h) (5 ^ n 1) ≠ (mx (gain n a F μ h) (5 ^ n 1)).1)
def tks (n : Nat → Nat) (a : PH) (F : Nat → List Int) (h : Nat) (μ : PH) : PH := if mvs n a F μ h then setb μ h (dg 5 (n 1) (mx (gain n a F μ h) (5 ^ n 1)).2) else μ
/-- a round: the bids then, whether someone took others -/
def rnd (n : Nat → Nat) (a : PH) (F : Nat → List Int) (μ : PH) : Nat → PH × Bool
  | 0 => (μ, false)
  | h + 1 => (tks n a F h (rnd n a F μ h).1, (rnd n a F μ h).2 || mvs n a F (rnd n a F μ h).1 h)
def rst (n : Nat → Nat) (a : PH) (F : Nat → List Int) : Nat → Nat → PH → Int × PH
  | 0, _, μ => (13, μ)
  | k + 1, r, μ => if (rnd n a F μ (n 2)).2 then rst n a F k (r + 1) (rnd n a F μ (n 2)).1 else ((r : Int), (rnd n a F μ (n 2)).1)
theorem sdg_b {B n1 i : Nat} (hB : 0 < B) : 0 ≤ sdg B n1 i ∧ sdg B n1 i ≤ 3 * (B : Int) - 3 := by
  have h0 := dg_b (n1 := n1) (i := i) (m := 0) hB
  have h1 := dg_b (n1 := n1) (i := i) (m := 1) hB
  have h2 := dg_b (n1 := n1) (i := i) (m := 2) hB
  unfold sdg; omega
theorem wl_b {n : Nat → Nat} {a : PH} {F : Nat → List Int} {μ : PH} {h : Nat} {H : Int} : ∀ {i : Nat}, 0 ≤ (wl n a F μ h H i).1 ∧ (wl n a F μ h H i).1 ≤ 31
  | 0 => by simp [wl]
  | i + 1 => by
    have h1 := wl_b (n := n) (a := a) (F := F) (μ := μ) (h := h) (H := H) (i := i)
    have h2 := sdg_b (B := 11) (n1 := n 1) (i := i) (by omega)
    rw [wl]
    split
    · show 0 ≤ sdg 11 (n 1) i ∧ sdg 11 (n 1) i ≤ 31; omega
    · exact h1
theorem and01 {x y : Bool} : pm_and (if x = true then 1 else 0) (if y = true then 1 else 0) = if (x && y) = true then 1 else 0 := by cases x <;> cases y <;> decide +kernel
theorem or01 {x y : Bool} : pm_or (if x = true then 1 else 0) (if y = true then 1 else 0) = if (x || y) = true then 1 else 0 := by cases x <;> cases y <;> decide +kernel
theorem if01 {x : Bool} : 0 ≤ (if x = true then (1 : Int) else 0) ∧ (if x = true then (1 : Int) else 0) ≤ 1 := by cases x <;> simp
theorem if01' {x : Bool} : (if x = true then (1 : Int) else 0) = 0 ∨ (if x = true then (1 : Int) else 0) = 1 := by cases x <;> simp
theorem dgA {t n1 i k : Nat} (ht : t = 10 ∨ t = 4) (h3 : n1 ≤ 3) (hk : k + 1 ≤ n1) (hA : i % (t + 1) ^ (n1 - (k + 1)) = (t + 1) ^ (n1 - (k + 1)) - 1) (hd : (t : Int) ≤ dg (t + 1) n1 i k) : i % (t + 1) ^ (n1 - k) = (t + 1) ^ (n1 - k) - 1 := by
  have h : (n1 = 1 ∧ k = 0) ∨ (n1 = 2 ∧ k = 0) ∨ (n1 = 2 ∧ k = 1) ∨ (n1 = 3 ∧ k = 0) ∨ (n1 = 3 ∧ k = 1) ∨ (n1 = 3 ∧ k = 2) := by omega
  rcases ht with rfl | rfl <;> rcases h with ⟨rfl, rfl⟩ | ⟨rfl, rfl⟩ | ⟨rfl, rfl⟩ | ⟨rfl, rfl⟩ | ⟨rfl, rfl⟩ | ⟨rfl, rfl⟩ <;> simp [dg] at hA hd ⊢ <;> omega
theorem dgB {t n1 i k : Nat} (ht : t = 10 ∨ t = 4) (h3 : n1 ≤ 3) (hk : k + 1 ≤ n1) (hA : i % (t + 1) ^ (n1 - (k + 1)) = (t + 1) ^ (n1 - (k + 1)) - 1) (hd : dg (t + 1) n1 i k < (t : Int)) {j : Nat} (hj : j < 3) : dg (t + 1) n1 (i + 1) j = if j < k then dg (t + 1) n1 i j else if j = k then dg (t + 1) n1 i k + 1 else 0 := by
  have h : (n1 = 1 ∧ k = 0) ∨ (n1 = 2 ∧ k = 0) ∨ (n1 = 2 ∧ k = 1) ∨ (n1 = 3 ∧ k = 0) ∨ (n1 = 3 ∧ k = 1) ∨ (n1 = 3 ∧ k = 2) := by omega
  have h' : j = 0 ∨ j = 1 ∨ j = 2 := by omega
  rcases ht with rfl | rfl <;> rcases h with ⟨rfl, rfl⟩ | ⟨rfl, rfl⟩ | ⟨rfl, rfl⟩ | ⟨rfl, rfl⟩ | ⟨rfl, rfl⟩ | ⟨rfl, rfl⟩ <;> rcases h' with rfl | rfl | rfl <;> simp [dg] at hA hd ⊢ <;> omega
theorem dgC {t n1 i : Nat} (ht : t = 10 ∨ t = 4) (h3 : n1 ≤ 3) (hA : i % (t + 1) ^ n1 = (t + 1) ^ n1 - 1) {j : Nat} (hj : j < 3) : dg (t + 1) n1 (i + 1) j = 0 := by
  have h : n1 = 0 ∨ n1 = 1 ∨ n1 = 2 ∨ n1 = 3 := by omega
  have h' : j = 0 ∨ j = 1 ∨ j = 2 := by omega
  rcases ht with rfl | rfl <;> rcases h with rfl | rfl | rfl | rfl <;> rcases h' with rfl | rfl | rfl <;> simp [dg] at hA ⊢ <;> omega
section CBI
variable {d c b : Nat} {X : Nat × (Nat → Int)} {v : Nat → Int} {M M' : PH} {K : PV → PS → Prop} {n : Nat → Nat} {a μ : PH} {F : Nat → List Int}
theorem c8 (hc : isCh c) (hv : v 3 = (c : Int)) (e1 : M c 1 = (n 1 : Int)) (h3 : n 1 ≤ 3) {t : Nat} : pm_Call (d + 1) 8 [vA 74, vI (t : Int)] (GF X, M, PTF v) K ↔ K (vI (((t + 1) ^ n 1 : Nat) : Int)) (GF X, M, PTF v) := by
  rw [en8, r8_0]
  refine (loopN (fun j => pm_Run d 8 4 [vA 74, vI (t : Int), vI (((t + 1) ^ j : Nat) : Int), vI (j : Int)] [] (GF X, M, PTF v) K) (n 1) (fun j hj => ?_)).trans ?_
  · rw [r8_4 hc hv (by omega) (by rw [e1]; omega), e1, if_neg (by omega), r8_15, Nat.pow_succ, Int.natCast_mul]
    exact Iff.rfl
  · rw [r8_4 hc hv (by omega) (by rw [e1]; omega), e1, if_pos (by omega), r8_27]
theorem c10 : pm_Call (d + 1) 10 [vA 74] (GF X, M, PTF v) K ↔ K (vI (M 82 0 + M 82 1 + M 82 2)) (GF X, M, PTF v) := by rw [en10, r10_0]
theorem c9 (hc : isCh c) (hv : v 3 = (c : Int)) (e1 : M c 1 = (n 1 : Int)) (h3 : n 1 ≤ 3) {t i : Nat} (ht : t = 10 ∨ t = 4) (hT : ∀ m, m < 3 → M 82 m = dg (t + 1) (n 1) i m) (hK : ∀ g : Nat → Int, (∀ m, m < 3 → g m = dg (t + 1) (n 1) (i + 1) m) → K PU (GF X, pm_sa M 82 g, PTF v)) : pm_Call (d + 1) 9 [vA 74, vI (t : Int)] (GF X, M, PTF v) K := by
  have main : ∀ k, k ≤ n 1 → ∀ g : Nat → Int, (∀ j, j < 3 → g j = if j < k then dg (t + 1) (n 1) i j else 0) → i % (t + 1) ^ (n 1 - k) = (t + 1) ^ (n 1 - k) - 1 → pm_Run d 9 10 [vA 74, vI (t : Int), vI ((k : Int) - 1)] [] (GF X, pm_sa M 82 g, PTF v) K := by
    intro k
    induction k with
    | zero =>
      intro _ g hg hA
      rw [r9_10 (by omega), if_pos (by omega), r9_48]
      exact hK g (fun j hj => by rw [hg j hj, if_neg (by omega), dgC ht h3 hA hj])
    | succ k ih =>
      intro hk g hg hA
      have hb := dg_b (B := t + 1) (n1 := n 1) (i := i) (m := k) (by omega)
      have ek : g k = dg (t + 1) (n 1) i k := by rw [hg k (by omega), if_pos (by omega)]
      rw [show (((k + 1 : Nat) : Int) - 1) = (k : Int) by omega, r9_10 (by omega), if_neg (by omega), r9_14 (by omega) (by omega) (by rw [Int.toNat_natCast, sa_s, ek]; omega) (by omega), Int.toNat_natCast, sa_s, ek]
      by_cases q : (t : Int) ≤ dg (t + 1) (n 1) i k
      · rw [if_pos q, r9_35 (by omega) (by omega), r9_42, sa_s, sa_sa, Int.toNat_natCast]
        refine ih (by omega) _ (fun j hj => ?_) (dgA ht h3 hk hA q)
        by_cases z : j = k
        · rw [up_e z, if_neg (by omega)]
        · rw [up_n z, hg j hj]
          by_cases z2 : j < k
          · rw [if_pos (by omega), if_pos z2]
          · rw [if_neg (by omega), if_neg z2]
      · rw [if_neg q, r9_24 (by omega) (by omega), sa_s, sa_sa, Int.toNat_natCast, ek]
        refine hK _ (fun j hj => ?_)
        rw [dgB ht h3 hk hA (by omega) hj]
        by_cases z : j = k
        · rw [up_e z, if_neg (by omega), if_pos z]
        · rw [up_n z, hg j hj]
          by_cases z2 : j < k
          · rw [if_pos (by omega), if_pos z2]
          · rw [if_neg (by omega), if_neg z2, if_neg z]
  rw [en9, r9_0 hc hv, e1]
  have := main (n 1) (Nat.le_refl _) (M 82) (fun j hj => by
    rw [hT j hj]
    by_cases q : j < n 1
    · rw [if_pos q]
    · rw [if_neg q, dg_n (by omega)]) (by rw [Nat.sub_self, Nat.pow_zero, Nat.mod_one])
  rw [sa_id rfl] at this
  exact this
theorem c7 (hb : isMo b) (hb82 : b + 5 < 74 ∨ 82 < b) (hμ : mo M b = μ) {h : Nat} (hh : h < 8) (hK : ∀ M' : PH, (∀ q, q ≠ 74 → q ≠ 81 → q ≠ 82 → M' q = M q) → (∀ j, j ≠ 9 → j ≠ 10 → M' 74 j = M 74 j) → M' 74 9 = (h : Int) → M' 74 10 = M 74 10 + 1 → (∀ m, m < 3 → M' 82 m = 0) → (∀ m, m < 3 → M' 81 m = bas μ h m) → K PU (GF X, M', PTF v)) : pm_Call (d + 2) 7 [vA 74, vI (h : Int), vA b] (GF X, M, PTF v) K := by
  rw [en7, r7_0, r7_5, r7_15, c307 (nr := 3) (by decide +kernel), push_u, r7_23]
  simp only [sa_s, sa_sa]
  refine loopI 3 (fun j (M' : PH) => (∀ q, q ≠ 74 → q ≠ 81 → q ≠ 82 → M' q = M q) ∧ (∀ j, j ≠ 9 → j ≠ 10 → M' 74 j = M 74 j) ∧ M' 74 9 = (h : Int) ∧ M' 74 10 = M 74 10 + 1 ∧ (∀ m, m < 3 → M' 82 m = 0) ∧ (∀ m, m < j → M' 81 m = bas μ h m)) (fun j M' => pm_Run (d + 1) 7 25 [vA 74, vI (h : Int), vA b, vI (j : Int)] [] (GF X, M', PTF v) K) (fun j M' hj hI ih => ?_) (fun M' hI => ?_) _ ⟨fun q h1 h2 h3 => by rw [sa_n h3, sa_n h1], fun j h1 h2 => by rw [sa_n (by omega), sa_s, up_n h2, up_n h1], by rw [sa_n (by omega), sa_s, up_n (by omega), up_s], by rw [sa_n (by omega), sa_s, up_s, up_n (by omega)], fun m hm => by rw [sa_s, fl, if_pos hm], fun m hm => absurd hm (by omega)⟩
  · obtain ⟨i1, i2, i3, i4, i5, i6⟩ := hI
    have em : mo M' b = μ := (mo_fr (fun i hi => i1 _ (by omega) (by omega) (by omega))).trans hμ
    have e4 : M' (b + 4) (h * 3 + j) = μ 4 (h * 3 + j) := (mo_4 (M := M') (b := b) (by omega)).trans (by rw [em])
    rw [r7_25 (by omega), if_neg (by omega), r7_30 hb, c58 hb (by omega), push_i, r7_40 hb, c55, push_i, r7_49 hb (by omega) (by omega) (by omega) (by omega), r7_52, bt_m (by omega), em, show ((h : Int) * 3 + (j : Int)).toNat = h * 3 + j by omega, e4, Int.toNat_natCast]
    refine ih _ ⟨fun q h1 h2 h3 => by rw [sa_n h2]; exact i1 q h1 h2 h3, fun k h1 h2 => by rw [sa_n (by omega)]; exact i2 k h1 h2, by rw [sa_n (by omega)]; exact i3, by rw [sa_n (by omega)]; exact i4, fun m hm => by rw [sa_n (by omega)]; exact i5 m hm, fun m hm => ?_⟩
    rw [sa_s]
    by_cases q : m = j
    · rw [up_e q, q]; rfl
    · rw [up_n q]; exact i6 m (by omega)
  · obtain ⟨i1, i2, i3, i4, i5, i6⟩ := hI
    rw [r7_25 (by omega), if_pos (by omega), r7_58]
    exact hK M' i1 i2 i3 i4 i5 i6
theorem c6 (hc : isCh c) (hv : v 3 = (c : Int)) (e1 : M c 1 = (n 1 : Int)) (h3 : n 1 ≤ 3) {h : Nat} (hh : h < 8) (ht : ∀ m, m < 3 → inR (M 82 m)) (ho : ∀ k, k < 24 → inR (M 89 k)) : pm_Call (d + 2) 6 [vA 74, vI (h : Int)] (GF X, M, PTF v) K ↔ K (vI (if al (fun m => decide (M 82 m = M 89 (h * 3 + m))) (n 1) = true then 1 else 0)) (GF X, M, PTF v) := by
  rw [en6, r6_0]
  refine (loopN (fun j => pm_Run (d + 1) 6 4 [vA 74, vI (h : Int), vI (if al (fun m => decide (M 82 m = M 89 (h * 3 + m))) j = true then 1 else 0), vI (j : Int)] [] (GF X, M, PTF v) K) (n 1) (fun j hj => ?_)).trans ?_
  · rw [r6_4 hc hv (by omega) (by rw [e1]; omega), e1, if_neg (by omega), r6_15 (by omega) (by omega), c55, push_i, show (h : Int) * 3 + (j : Int) = ((h * 3 + j : Nat) : Int) by omega, r6_34 (by omega) (by omega) (by rw [Int.toNat_natCast]; exact ht j (by omega)) (by rw [Int.toNat_natCast]; exact ho _ (by omega)), Int.toNat_natCast, Int.toNat_natCast, al, ← and01]
    by_cases q : M 82 j = M 89 (h * 3 + j)
    · rw [if_neg (by simp [q]), r6_38, r6_43, if_pos (show decide (M 82 j = M 89 (h * 3 + j)) = true by simp [q])]; exact Iff.rfl
    · rw [if_pos q, r6_42, r6_43, if_neg (show ¬ decide (M 82 j = M 89 (h * 3 + j)) = true by simp [q])]; exact Iff.rfl
  · rw [r6_4 hc hv (by omega) (by rw [e1]; omega), e1, if_pos (by omega), r6_51 if01']
end CBI
