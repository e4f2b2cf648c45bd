/-! An hour goes by. -/
/-- one after the other -/
def itr {α : Type} (f : Nat → α → α) : Nat → α → α
  | 0, x => x
  | k + 1, x => f k (itr f k x)
def pay1 (μ : PH) (h k : Nat) : PH := if μ 3 h < μ 4 k then ups μ 5 k (min 9999 (μ 5 k + μ 4 k)) else ups μ 3 h (μ 3 h - μ 4 k)
def pay2 (μ : PH) (h k : Nat) : PH := if μ 5 k ≤ 0 then μ else if μ 3 h < μ 5 k then μ else ups (ups μ 3 h (μ 3 h - μ 5 k)) 5 k 0
def pay (μ : PH) (h m : Nat) : PH := pay2 (pay1 μ h (h * 3 + m)) h (h * 3 + m)
def payA (n : Nat → Nat) (μ : PH) : PH := itr (fun h μ => itr (fun m μ => pay μ h m) (n 1) μ) (n 2) μ
def ern (a : PH) (F : Nat → List Int) (hh : Nat → Int) (μ : PH) (h : Nat) : PH := ups μ 3 h (min 9999 (μ 3 h + wi 0 (ev (envH a μ h (hh (a 2 h).toNat)) (F 1)) 99))
def ernA (n : Nat → Nat) (a : PH) (F : Nat → List Int) (hh : Nat → Int) (μ : PH) : PH := if F 1 = [] then μ else itr (fun h μ => ern a F hh μ h) (n 2) μ
def mov (n : Nat → Nat) (a : PH) (μ : PH) : PH := itr (fun m μ => ups μ 1 m ((μ 1 m + a 1 m).tmod (n 0))) (n 1) μ
def pass (n : Nat → Nat) (a : PH) (F : Nat → List Int) (μ : PH) : PH := ups (mov n a (payA n (ernA n a F (hts n F μ) μ))) 0 0 (min 9999 (mov n a (payA n (ernA n a F (hts n F μ) μ)) 0 0 + 1))
theorem ups_s {μ : PH} {i k : Nat} {x : Int} : ups μ i k x i k = x := by rw [ups, sa_s, up_s]
theorem ups_n {μ : PH} {i k j l : Nat} {x : Int} (h : j ≠ i ∨ l ≠ k) : ups μ i k x j l = μ j l := by
  by_cases q : j = i
  · subst q
    rw [ups, sa_s, up_n (by omega)]
  · rw [ups, sa_n q]
theorem ups_i {μ : PH} {i k j : Nat} {x : Int} (h : j ≠ i) : ups μ i k x j = μ j := by rw [ups, sa_n h]
theorem ups_e {μ : PH} {i k : Nat} {x : Int} (h : x = μ i k) : ups μ i k x = μ := by
  funext j l
  by_cases q : j = i ∧ l = k
  · rw [q.1, q.2, ups_s, h]
  · rw [ups_n (by omega)]
section WMU
variable {n : Nat → Nat} {μ : PH} {a : PH} {F : Nat → List Int}
/-- what of a moment is still bound in after a change -/
theorem wM_3 (h : wM n μ) {k : Nat} {x : Int} (hk : k < n 2) (hx : 0 ≤ x ∧ x ≤ 9999) : wM n (ups μ 3 k x) := by
  obtain ⟨h0, h1, h2, h3, h4, h5, h6, h7⟩ := h
  refine ⟨by rw [ups_i (by omega)]; exact h0, by rw [ups_i (by omega)]; exact h1, by rw [ups_i (by omega)]; exact h2, fun j hj => ?_, by rw [ups_i (by omega), ups_i (by omega)]; exact h4, by rw [ups_i (by omega), ups_i (by omega)]; exact h5, fun j hj => by rw [ups_n (by omega)]; exact h6 j hj, by rw [ups_i (by omega), ups_i (by omega)]; exact h7⟩
  by_cases q : j = k
  · rw [q, ups_s]; exact hx
  · rw [ups_n (by omega)]; exact h3 j hj
theorem wM_4 (h : wM n μ) {k m : Nat} {x : Int} (hk : k < n 2) (hm : m < n 1) (hm3 : m < 3) (hx : 0 ≤ x ∧ x ≤ 20) : wM n (ups μ 4 (k * 3 + m) x) := by
  obtain ⟨h0, h1, h2, h3, h4, h5, h6, h7⟩ := h
  refine ⟨by rw [ups_i (by omega)]; exact h0, by rw [ups_i (by omega)]; exact h1, by rw [ups_i (by omega)]; exact h2, by rw [ups_i (by omega)]; exact h3, fun j hj => ?_, by rw [ups_i (by omega), ups_i (by omega)]; exact h5, by rw [ups_i (by omega)]; exact h6, fun j l hl hj => ?_⟩
  · rw [ups_i (show 5 ≠ 4 by omega)]
    by_cases q : j = k * 3 + m
    · rw [q, ups_s]; have := h4 j hj; rw [q] at this; exact ⟨hx.1, hx.2, this.2.2⟩
    · rw [ups_n (by omega)]; exact h4 j hj
  · rw [ups_i (show 5 ≠ 4 by omega), ups_n (by omega)]; exact h7 j l hl hj
theorem wM_5 (h : wM n μ) {k m : Nat} {x : Int} (hk : k < n 2) (hm : m < n 1) (hm3 : m < 3) (hx : 0 ≤ x ∧ x ≤ 9999) : wM n (ups μ 5 (k * 3 + m) x) := by
  obtain ⟨h0, h1, h2, h3, h4, h5, h6, h7⟩ := h
  refine ⟨by rw [ups_i (by omega)]; exact h0, by rw [ups_i (by omega)]; exact h1, by rw [ups_i (by omega)]; exact h2, by rw [ups_i (by omega)]; exact h3, fun j hj => ?_, by rw [ups_i (by omega), ups_i (by omega)]; exact h5, by rw [ups_i (by omega)]; exact h6, fun j l hl hj => ?_⟩
  · rw [ups_i (show 4 ≠ 5 by omega)]
    by_cases q : j = k * 3 + m
    · rw [q, ups_s]; have := h4 j hj; rw [q] at this; exact ⟨this.1, this.2.1, hx⟩
    · rw [ups_n (by omega)]; exact h4 j hj
  · rw [ups_i (show 4 ≠ 5 by omega), ups_n (by omega)]; exact h7 j l hl hj
theorem wM_1 (h : wM n μ) {k : Nat} {x : Int} (hk : k < n 1) (hx : 0 ≤ x ∧ x < n 0) : wM n (ups μ 1 k x) := by
  obtain ⟨h0, h1, h2, h3, h4, h5, h6, h7⟩ := h
  refine ⟨by rw [ups_i (by omega)]; exact h0, fun j hj => ?_, by rw [ups_i (by omega)]; exact h2, by rw [ups_i (by omega)]; exact h3, by rw [ups_i (by omega), ups_i (by omega)]; exact h4, fun j hj => by rw [ups_n (by omega), ups_i (by omega)]; exact h5 j hj, by rw [ups_i (by omega)]; exact h6, by rw [ups_i (by omega), ups_i (by omega)]; exact h7⟩
  by_cases q : j = k
  · rw [q, ups_s]; exact hx
  · rw [ups_n (by omega)]; exact h1 j hj
theorem wM_2 (h : wM n μ) {k : Nat} {x : Int} (hk : k < n 1) (hx : 0 ≤ x ∧ x ≤ 9) : wM n (ups μ 2 k x) := by
  obtain ⟨h0, h1, h2, h3, h4, h5, h6, h7⟩ := h
  refine ⟨by rw [ups_i (by omega)]; exact h0, by rw [ups_i (by omega)]; exact h1, fun j hj => ?_, by rw [ups_i (by omega)]; exact h3, by rw [ups_i (by omega), ups_i (by omega)]; exact h4, fun j hj => by rw [ups_i (by omega), ups_n (by omega)]; exact h5 j hj, by rw [ups_i (by omega)]; exact h6, by rw [ups_i (by omega), ups_i (by omega)]; exact h7⟩
  by_cases q : j = k
  · rw [q, ups_s]; exact hx
  · rw [ups_n (by omega)]; exact h2 j hj
theorem wM_0 (h : wM n μ) {x : Int} (hx : 0 ≤ x ∧ x ≤ 9999) : wM n (ups μ 0 0 x) := by
  obtain ⟨h0, h1, h2, h3, h4, h5, h6, h7⟩ := h
  exact ⟨by rw [ups_s]; exact hx, by rw [ups_i (by omega)]; exact h1, by rw [ups_i (by omega)]; exact h2, by rw [ups_i (by omega)]; exact h3, by rw [ups_i (by omega), ups_i (by omega)]; exact h4, by rw [ups_i (by omega), ups_i (by omega)]; exact h5, by rw [ups_i (by omega)]; exact h6, by rw [ups_i (by omega), ups_i (by omega)]; exact h7⟩
theorem wM_pay1 (h : wM n μ) {k m : Nat} (hk : k < n 2) (hm : m < n 1) (h8 : n 2 ≤ 8) (h3 : n 1 ≤ 3) : wM n (pay1 μ k (k * 3 + m)) := by
  have g3 := h.2.2.2.1 k (by omega)
  have g4 := h.2.2.2.2.1 (k * 3 + m) (by omega)
  unfold pay1
  split
  · exact wM_5 h hk hm (by omega) (by omega)
  · exact wM_3 h hk (by omega)
theorem wM_pay2 (h : wM n μ) {k m : Nat} (hk : k < n 2) (hm : m < n 1) (h8 : n 2 ≤ 8) (h3 : n 1 ≤ 3) : wM n (pay2 μ k (k * 3 + m)) := by
  have g3 := h.2.2.2.1 k (by omega)
  have g4 := h.2.2.2.2.1 (k * 3 + m) (by omega)
  unfold pay2
  split
  · exact h
  split
  · exact h
  · exact wM_5 (wM_3 h hk (by omega)) hk hm (by omega) (by omega)
theorem wM_pay (h : wM n μ) {k m : Nat} (hk : k < n 2) (hm : m < n 1) (h8 : n 2 ≤ 8) (h3 : n 1 ≤ 3) : wM n (pay μ k m) := wM_pay2 (wM_pay1 h hk hm h8 h3) hk hm h8 h3
theorem wM_itr {f : Nat → PH → PH} : ∀ {k : Nat} {μ : PH}, (∀ i ν, i < k → wM n ν → wM n (f i ν)) → wM n μ → wM n (itr f k μ)
  | 0, _, _, h => h
  | k + 1, _, hf, h => hf k _ (by omega) (wM_itr (fun i ν hi => hf i ν (by omega)) h)
theorem wM_payA (h : wM n μ) (h8 : n 2 ≤ 8) (h3 : n 1 ≤ 3) : wM n (payA n μ) := wM_itr (fun _ _ hi hν => wM_itr (fun _ _ hj hν' => wM_pay hν' hi hj h8 h3) hν) h
theorem wM_ern (h : wM n μ) {hh : Nat → Int} {k : Nat} (hk : k < n 2) (h8 : n 2 ≤ 8) : wM n (ern a F hh μ k) := by
  have g3 := h.2.2.2.1 k (by omega)
  have g := wi_b (lo := 0) (x := ev (envH a μ k (hh (a 2 k).toNat)) (F 1)) (hi := 99) (by omega)
  exact wM_3 h hk (by omega)
theorem wM_ernA (h : wM n μ) {hh : Nat → Int} (h8 : n 2 ≤ 8) : wM n (ernA n a F hh μ) := by
  unfold ernA
  split
  · exact h
  · exact wM_itr (fun _ _ hi hν => wM_ern hν hi h8) h
theorem tm_b {x y : Int} (hx : 0 ≤ x) (hy : 0 < y) : 0 ≤ x.tmod y ∧ x.tmod y < y := by
  rw [Int.tmod_eq_emod_of_nonneg hx]
  exact ⟨Int.emod_nonneg _ (by omega), Int.emod_lt_of_pos _ hy⟩
theorem wM_mov (h : wM n μ) (hwC : wC n a F) : wM n (mov n a μ) := wM_itr (fun i ν hi hν => by
  have g1 := hν.2.1 i hi
  have g2 := hwC.2.1 i hi
  have := tm_b (x := ν 1 i + a 1 i) (y := n 0) (by omega) (by omega)
  exact wM_1 hν hi this) h
theorem wM_pass (h : wM n μ) (hwC : wC n a F) : wM n (pass n a F μ) := by
  have h8 : n 2 ≤ 8 := hwC.1.2.2.1
  have h3 : n 1 ≤ 3 := hwC.1.2.1
  have h1 := wM_mov (a := a) (wM_payA (wM_ernA (a := a) (F := F) (hh := hts n F μ) h h8) h8 h3) hwC
  exact wM_0 h1 (by have := h1.1; omega)
theorem envH_b (h : wM n μ) {k : Nat} (hk : k < n 2) (h8 : n 2 ≤ 8) (hwC : wC n a F) {x : Int} (w : Nat) (hx : w = 15 → -100000 ≤ x ∧ x ≤ 100000) : -1000000 ≤ envH a μ k x w ∧ envH a μ k x w ≤ 1000000 := by
  have g1 := hwC.2.2.1 k hk
  have g2 := h.2.2.2.1 k (by omega)
  have g3 := bb_b h (k := k) (by omega)
  have g4 := db_b h (k := k) (by omega)
  have g5 := h.1
  have g6 := hwC.1.1
  unfold envH
  split
  · rename_i hq; have := hx hq; omega
  split
  · omega
  split
  · omega
  split
  · omega
  split
  · omega
  split
  · omega
  split <;> omega
theorem ev_r {e : Nat → Int} {l : List Int} {ts : List Bool} (he : ∀ w, isVw w = true → ((10000 + w : Nat) : Int) ∈ l → -1000000 ≤ e w ∧ e w ≤ 1000000) (ht : ty l = some ts) : -1000000 ≤ ev e l ∧ ev e l ≤ 1000000 := by
  have h1 := ev_b (l := l) (ts := []) (xs := []) he ht trivial
  unfold ev
  revert h1
  generalize List.foldl (ev1 e) [] l = xs
  intro h1
  match ts, xs, h1 with
  | [], [], _ => exact ⟨by simp, by simp⟩
  | q :: ts, x :: xs, h1 =>
    have := h1.1
    show -1000000 ≤ x ∧ x ≤ 1000000
    split at this <;> omega
theorem ev_t {e e' : Nat → Int} {l : List Int} {ts : List Bool} (ht : ty l = some ts) (h : ∀ w, isVw w = true → (((10000 + w : Nat) : Int) ∈ l) → e w = e' w) : ev e l = ev e' l := by
  unfold ev
  rw [ev_c (fun x hx h1 h2 => ?_)]
  rcases ty_w (l := l) (s := []) (by rw [show List.foldl ty1 (some []) l = ty l from rfl, ht]; simp) x hx with g | g | g
  · omega
  · exact h _ g.2.2 (by rw [show ((10000 + (x - 10000).toNat : Nat) : Int) = x by omega]; exact hx)
  · omega
end WMU
section CPA
variable {d b c t : Nat} {X : Nat × (Nat → Int)} {v : Nat → Int} {M M' : PH} {K : PV → PS → Prop} {n : Nat → Nat} {a μ : PH} {F : Nat → List Int}
theorem c124 (hb : isMo b) (hμ : mo M b = μ) (hw : wM n μ) {h m : Nat} (hh : h < 8) (hm : m < 3) (hK : ∀ M' : PH, (∀ q, q ≠ b + 3 → q ≠ b + 5 → M' q = M q) → mo M' b = pay μ h m → K PU (GF X, M', PTF v)) : pm_Call (d + 1) 124 [vA b, vI (h : Int), vI ((h : Int) * 3 + (m : Int))] (GF X, M, PTF v) K := by
  have hk : h * 3 + m < 24 := by omega
  have ek : ((h : Int) * 3 + (m : Int)).toNat = h * 3 + m := by omega
  have g3 := hw.2.2.2.1 h hh
  have g4 := hw.2.2.2.2.1 (h * 3 + m) hk
  have e3 : ∀ M : PH, M (b + 3) h = mo M b 3 h := fun _ => mo_3 hh
  have e4 : ∀ M : PH, M (b + 4) (h * 3 + m) = mo M b 4 (h * 3 + m) := fun _ => mo_4 hk
  have e5 : ∀ M : PH, M (b + 5) (h * 3 + m) = mo M b 5 (h * 3 + m) := fun _ => mo_5 hk
  have tail : ∀ M1 : PH, (∀ q, q ≠ b + 3 → q ≠ b + 5 → M1 q = M q) → ∀ μ1, mo M1 b = μ1 → (0 ≤ μ1 3 h ∧ μ1 3 h ≤ 9999 ∧ 0 ≤ μ1 5 (h * 3 + m) ∧ μ1 5 (h * 3 + m) ≤ 9999) → pay2 μ1 h (h * 3 + m) = pay μ h m → pm_Run d 124 58 [vA b, vI (h : Int), vI ((h : Int) * 3 + (m : Int))] [] (GF X, M1, PTF v) K := by
    intro M1 hf μ1 hμ1 hb1 he
    rw [r124_58 hb (by omega) (by omega) (by rw [ek, e5 M1, hμ1]; omega), ek, e5 M1, hμ1]
    by_cases q : μ1 5 (h * 3 + m) ≤ 0
    · rw [if_pos q, r124_104]
      exact hK M1 hf (by rw [hμ1, ← he, pay2, if_pos q])
    · rw [if_neg q, r124_67 hb (by omega) (by omega) (by omega) (by omega) (by rw [Int.toNat_natCast, e3 M1, hμ1]; omega) (by rw [ek, e5 M1, hμ1]; omega), ek, Int.toNat_natCast, e3 M1, e5 M1, hμ1]
      by_cases q2 : μ1 3 h < μ1 5 (h * 3 + m)
      · rw [if_pos q2, r124_104]
        exact hK M1 hf (by rw [hμ1, ← he, pay2, if_neg q, if_pos q2])
      · rw [if_neg q2, r124_82 hb (by omega) (by omega) (by omega) (by omega), r124_97 hb (by omega) (by omega), r124_104, ek, Int.toNat_natCast]
        refine hK _ (fun q h1 h2 => by rw [sa_n h2, sa_n h1]; exact hf q h1 h2) ?_
        rw [mo_up hk, mo_up hh, e3 M1, e5 M1, hμ1, ← he, pay2, if_neg q, if_neg q2]
  rw [en124, r124_0 hb (by omega) (by omega) (by omega) (by omega) (by rw [Int.toNat_natCast, e3 M, hμ]; omega) (by rw [ek, e4 M, hμ]; omega), ek, Int.toNat_natCast, e3 M, e4 M, hμ]
  by_cases q : μ 3 h < μ 4 (h * 3 + m)
  · rw [if_pos q, r124_33 hb (by omega) (by omega) (by rw [ek, e5 M, e4 M, hμ]; omega), ek]
    refine tail _ (fun q h1 h2 => sa_n h2) _ rfl ?_ ?_
    · rw [mo_up hk, hμ, ups_s, ups_n (by omega), e5 M, e4 M, hμ]; omega
    · rw [mo_up hk, hμ, e5 M, e4 M, hμ, pay, pay1, if_pos q]
  · rw [if_neg q, r124_15 hb (by omega) (by omega) (by omega) (by omega), ek, Int.toNat_natCast]
    refine tail _ (fun q h1 h2 => sa_n h1) _ rfl ?_ ?_
    · rw [mo_up hh, hμ, ups_s, ups_n (by omega), e3 M, e4 M, hμ]; omega
    · rw [mo_up hh, hμ, e3 M, e4 M, hμ, pay, pay1, if_neg q]
/-- what tellHarbor writes -/
def thv (g : Nat → Int) (a μ : PH) (h : Nat) (x : Int) : Nat → Int := pm_up (pm_up (pm_up (pm_up (pm_up (pm_up (pm_up (pm_up (pm_up (pm_up (pm_up g 15 x) 7 (a 3 h)) 6 (μ 3 h)) 16 (bb μ h)) 17 (db μ h)) 18 0) 4 0) 19 0) 20 0) 21 (μ 0 0)) 22 (a 2 h)
theorem thv_e {g : Nat → Int} {h : Nat} {x : Int} {u : Nat} (hu : isVw u = true) : thv g a μ h x u = envH a μ h x u := by
  have h := vw_c hu
  have h' : u = 4 ∨ u = 6 ∨ u = 7 ∨ u = 15 ∨ u = 16 ∨ u = 17 ∨ u = 18 ∨ u = 19 ∨ u = 20 ∨ u = 21 ∨ u = 22 := by omega
  rcases h' with rfl | rfl | rfl | rfl | rfl | rfl | rfl | rfl | rfl | rfl | rfl <;> rfl
theorem c119 (hc : isCh c) (hb : isMo b) (hC : isC M c n a F) (hμ : mo M b = μ) {h : Nat} (hh : h < n 2) (h8 : n 2 ≤ 8) {x : Int} : pm_Call (d + 2) 119 [vA c, vA b, vI (h : Int), vI x] (GF X, M, PTF v) K ↔ K PU (GF X, pm_sa M (c + 20) (thv (M (c + 20)) a μ h x), PTF v) := by
  have hbc := mo_cv hb hc
  have hh8 : h < 8 := by omega
  have em : ∀ g, mo (pm_sa M (c + 20) g) b = μ := fun g => by rw [mo_n (by omega), hμ]
  have e3 : ∀ g, (pm_sa M (c + 20) g) (b + 3) ((h : Int)).toNat = μ 3 h := fun g => by rw [Int.toNat_natCast, sa_n (by omega), ← hμ]; exact mo_3 hh8
  have e0 : ∀ g, (pm_sa M (c + 20) g) b 0 = μ 0 0 := fun g => by rw [sa_n (by omega), ← hμ]; rfl
  have e4 : ∀ g, (pm_sa M (c + 20) g) (c + 4) ((h : Int)).toNat = a 2 h := fun g => by rw [Int.toNat_natCast, sa_n (by omega)]; exact (hC.2.2.1 h hh).1
  have e5 : ∀ g, (pm_sa M (c + 20) g) (c + 5) ((h : Int)).toNat = a 3 h := fun g => by rw [Int.toNat_natCast, sa_n (by omega)]; exact (hC.2.2.1 h hh).2
  rw [en119, r119_0 hc, r119_15 hc (by omega) (by omega), r119_26 hb hc (by omega) (by omega), r119_37 hb]
  simp only [sa_s, sa_sa, e3, e5]
  rw [c60 hb hh8, push_i, bb_m hh8, em, r119_46 hc (by omega) (by omega), r119_47 hb, sa_s, sa_sa, c61 hb hh8, push_i, db_m hh8, em, r119_56 hc (by omega) (by omega), r119_57 hc, r119_63 hc, r119_68 hc, r119_74 hc, r119_80 hb hc, r119_89 hc (by omega) (by omega)]
  simp only [sa_s, sa_sa, e0, e4]
  exact Iff.rfl
/-- what a harbor's formula says at heights in the tide's row -/
theorem c46h (hc : isCh c) (hC : isC M c n a F) (hwC : wC n a F) (hw : wM n μ) {h : Nat} (hh : h < n 2) {x : Int} {w : Nat} (hw8 : w < 8) (hx : (10015 : Int) ∈ F w → -100000 ≤ x ∧ x ≤ 100000) (hE : ∀ u, isVw u = true → M (c + 20) u = envH a μ h x u) (hK : ∀ g, K (vI (ev (envH a μ h x) (F w))) (GF X, pm_sa M (c + 21) g, PTF v)) : pm_Call (d + 2) 46 [vA (c + 15), vI (w : Int)] (GF X, M, PTF v) K := by
  obtain ⟨ts, hts⟩ := hwC.2.2.2.2 w hw8
  have h8 : n 2 ≤ 8 := hwC.1.2.2.1
  refine c46 (ch_fo hc) hw8 (hC.2.2.2.2.1 w hw8) hts (fun u hu hm => by rw [show c + 15 + 5 = c + 20 from rfl, hE u hu]; exact envH_b hw hh h8 hwC u (fun hq => hx (by subst hq; exact hm))) (fun g => ?_)
  have := hK g
  rw [show c + 15 + 5 = c + 20 from rfl, ev_t hts (fun u hu _ => hE u hu)]
  exact this
theorem c123 (hc : isCh c) (ht : isTi t) (hb : isMo b) (hC : isC M c n a F) (hwC : wC n a F) (hμ : mo M b = μ) (hw : wM n μ) {h : Nat} (hh : h < n 2) {H : Nat → Int} (hHb : ∀ p, p < n 0 → -100000 ≤ H p ∧ H p ≤ 100000) (hH : (10015 : Int) ∈ F 1 → ∀ p, p < n 0 → M (t + 2) p = H p) (hK : ∀ M' : PH, (∀ q, q ≠ c + 20 → q ≠ c + 21 → q ≠ b + 3 → M' q = M q) → mo M' b = ern a F H μ h → K PU (GF X, M', PTF v)) : pm_Call (d + 3) 123 [vA t, vA c, vA b, vI (h : Int)] (GF X, M, PTF v) K := by
  have h8 : n 2 ≤ 8 := hwC.1.2.2.1
  have hbc := mo_cv hb hc
  have g1 := hwC.2.2.1 h hh
  have g24 : n 0 ≤ 24 := hwC.1.1
  have e4 : M (c + 4) ((h : Int)).toNat = a 2 h := by rw [Int.toNat_natCast]; exact (hC.2.2.1 h hh).1
  obtain ⟨ts, hts⟩ := hwC.2.2.2.2 1 (by omega)
  rw [en123, r123_0 hc ht (by omega) (by omega) (by rw [e4]; omega) (by rw [e4]; omega), e4, c119 hc hb hC hμ hh h8, push_u, r123_17 hc]
  have hC1 : isC (pm_sa M (c + 20) (thv (M (c + 20)) a μ h (M (t + 2) (a 2 h).toNat))) c n a F := isC_fr (fun i hi => sa_n (by omega)) hC
  refine c46h (w := 1) (x := M (t + 2) (a 2 h).toNat) hc hC1 hwC hw hh (by omega) (fun hm => by rw [hH hm _ (by omega)]; exact hHb _ (by omega)) (fun u hu => by rw [sa_s]; exact thv_e hu) (fun g => ?_)
  have heq : ev (envH a μ h (M (t + 2) (a 2 h).toNat)) (F 1) = ev (envH a μ h (H (a 2 h).toNat)) (F 1) := by
    refine ev_t hts (fun u hu hm => ?_)
    by_cases q : u = 15
    · subst q
      rw [hH hm _ (by omega)]
    · unfold envH; rw [if_neg q, if_neg q]
  have hevb := ev_r (e := envH a μ h (H (a 2 h).toNat)) (fun u _ _ => envH_b hw hh h8 hwC u (fun _ => hHb _ (by omega))) hts
  rw [heq, push_i, r123_26, c177 (by omega) (by omega) (by omega), push_i]
  have gw := wi_b (lo := 0) (x := ev (envH a μ h (H (a 2 h).toNat)) (F 1)) (hi := 99) (by omega)
  have g3 := hw.2.2.2.1 h (by omega)
  have em : mo (pm_sa (pm_sa M (c + 20) (thv (M (c + 20)) a μ h (M (t + 2) (a 2 h).toNat))) (c + 21) g) b = μ := by rw [mo_n (by omega), mo_n (by omega), hμ]
  have e3 : (pm_sa (pm_sa M (c + 20) (thv (M (c + 20)) a μ h (M (t + 2) (a 2 h).toNat))) (c + 21) g) (b + 3) h = μ 3 h := (mo_3 (by omega)).trans (by rw [em])
  rw [r123_31 hb (by omega) (by omega) (by rw [Int.toNat_natCast, e3]; omega), Int.toNat_natCast, e3]
  refine hK _ (fun q h1 h2 h3 => by rw [sa_n h3, sa_n h2, sa_n h1]) ?_
  rw [mo_up (show h < len 3 by show h < 8; omega), em, ern]
theorem c20 (hc : isCh c) (hb : isMo b) {m : Nat} (hm : m < 3) {l : Int} (e0 : M c 0 = (n 0 : Int)) (h24 : n 0 ≤ 24) (hr : inR (M (b + 1) m + l * M (c + 2) m)) : pm_Call (d + 1) 20 [vA c, vA b, vI (m : Int), vI l] (GF X, M, PTF v) K ↔ K (vI (if n 0 = 0 then 0 else (M (b + 1) m + l * M (c + 2) m).tmod (n 0))) (GF X, M, PTF v) := by
  rw [en20, r20_0 hc (by rw [e0]; omega), e0]
  by_cases q : n 0 = 0
  · rw [if_pos (by omega), r20_30, r20_31, if_pos q]
  · rw [if_neg (by omega), r20_7 hb hc (by omega) (by omega) (by rw [Int.toNat_natCast]; exact hr) (by rw [e0]; omega) (by rw [e0]; omega), r20_31, if_neg q, Int.toNat_natCast, e0]
end CPA
