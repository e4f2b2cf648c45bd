/-! The sea as numbers: moments, charts, pulls, heights. -/
theorem loop2 {α β : Type} (n : Nat) (I : Nat → α → β → Prop) (Q : Nat → α → β → Prop) (step : ∀ j s u, j < n → I j s u → (∀ s' u', I (j + 1) s' u' → Q (j + 1) s' u') → Q j s u) (last : ∀ s u, I n s u → Q n s u) : ∀ s u, I 0 s u → Q 0 s u := fun s u h => loopI (α := α × β) n (fun j z => I j z.1 z.2) (fun j z => Q j z.1 z.2) (fun j z hj hI ih => step j z.1 z.2 hj hI (fun s' u' h' => ih (s', u') h')) (fun z hI => last z.1 z.2 hI) (s, u) h
theorem sm_c {f g : Nat → Int} : ∀ {n : Nat}, (∀ i, i < n → f i = g i) → sm f n = sm g n
  | 0, _ => rfl
  | n + 1, h => by rw [sm, sm, sm_c (fun i hi => h i (by omega)), h n (by omega)]
theorem sm_b {f : Nat → Int} {lo hi : Int} : ∀ {n : Nat}, (∀ i, i < n → lo ≤ f i ∧ f i ≤ hi) → n * lo ≤ sm f n ∧ sm f n ≤ n * hi
  | 0, _ => by simp [sm]
  | n + 1, h => by
    have h1 := sm_b (n := n) (fun i hi => h i (by omega))
    have h2 := h n (by omega)
    rw [sm, show ((n + 1 : Nat) : Int) * lo = n * lo + lo by rw [Int.natCast_add, Int.add_mul]; simp, show ((n + 1 : Nat) : Int) * hi = n * hi + hi by rw [Int.natCast_add, Int.add_mul]; simp]
    omega
theorem sm_a {f g : Nat → Int} : ∀ {n : Nat}, sm (fun i => f i + g i) n = sm f n + sm g n
  | 0 => rfl
  | n + 1 => by rw [sm, sm, sm, sm_a]; omega
theorem sm_0 : ∀ {n : Nat}, sm (fun _ => 0) n = 0
  | 0 => rfl
  | n + 1 => by rw [sm, sm_0]; rfl
theorem sm_x {f : Nat → Nat → Int} {k : Nat} : ∀ {n : Nat}, sm (fun i => sm (fun j => f i j) k) n = sm (fun j => sm (fun i => f i j) n) k
  | 0 => sm_0.symm
  | n + 1 => by rw [sm, sm_x, ← sm_a]; exact sm_c (fun _ _ => rfl)
theorem sm_z {f : Nat → Int} {k : Nat} : ∀ {n : Nat}, k ≤ n → (∀ i, k ≤ i → i < n → f i = 0) → sm f n = sm f k
  | 0, h, _ => by rw [Nat.le_zero.mp h]
  | n + 1, h, hz => by
    by_cases q : k = n + 1
    · rw [q]
    · rw [sm, sm_z (n := n) (by omega) (fun i h1 h2 => hz i h1 (by omega)), hz n (by omega) (by omega)]; omega
def bt (μ : PH) (m : Nat) : Int := sm (fun h => μ 4 (h * 3 + m)) 8
def dt (μ : PH) (m : Nat) : Int := sm (fun h => μ 5 (h * 3 + m)) 8
def bb (μ : PH) (h : Nat) : Int := sm (fun m => μ 4 (h * 3 + m)) 3
def db (μ : PH) (h : Nat) : Int := sm (fun m => μ 5 (h * 3 + m)) 3
def ba (μ : PH) : Int := sm (μ 4) 24
def envM (n : Nat → Nat) (μ : PH) (m : Nat) (paid rival far place : Int) : Nat → Int := fun w =>
  if w = 16 then paid else if w = 17 then dt μ m else if w = 18 then far else if w = 4 then μ 2 m else if w = 19 then (if (n 6 : Int) ≤ dt μ m then 1 else 0) else if w = 20 then rival else if w = 21 then μ 0 0 else if w = 22 then place else 0
def envH (a : PH) (μ : PH) (h : Nat) (ht : Int) : Nat → Int := fun w =>
  if w = 15 then ht else if w = 7 then a 3 h else if w = 6 then μ 3 h else if w = 16 then bb μ h else if w = 17 then db μ h else if w = 21 then μ 0 0 else if w = 22 then a 2 h else 0
/-- how far round the ring -/
def fa (n0 : Nat) (x : Int) (p : Nat) : Int := if x < p then (if p - x < n0 - (p - x) then p - x else n0 - (p - x)) else (if x - p < n0 - (x - p) then x - p else n0 - (x - p))
def pl (n : Nat → Nat) (F : Nat → List Int) (μ : PH) (m : Nat) (paid rival : Int) (p : Nat) : Int := wi (-99) (ev (envM n μ m paid rival (fa (n 0) (μ 1 m) p) p) (F 0)) 99
def pls (n : Nat → Nat) (F : Nat → List Int) (μ : PH) (m p : Nat) : Int := pl n F μ m (bt μ m) (ba μ - bt μ m) p
/-- the height that pulls make -/
def hg (n : Nat → Nat) (pp : Nat → Nat → Int) (p : Nat) : Int := n 5 + sm (fun m => pp m p) (n 1) - (sm (fun m => sm (pp m) (n 0)) (n 1)).fdiv (n 0) - (if (p : Int) < sm (fun m => sm (pp m) (n 0)) (n 1) - (sm (fun m => sm (pp m) (n 0)) (n 1)).fdiv (n 0) * n 0 then 1 else 0)
def hts (n : Nat → Nat) (F : Nat → List Int) (μ : PH) (p : Nat) : Int := hg n (pls n F μ) p
def wC (n : Nat → Nat) (a : PH) (F : Nat → List Int) : Prop := (n 0 ≤ 24 ∧ n 1 ≤ 3 ∧ n 2 ≤ 8 ∧ n 3 ≤ 16 ∧ n 4 ≤ 6 ∧ n 5 ≤ 99 ∧ n 6 ≤ 999 ∧ (n 0 = 0 → n 1 = 0 ∧ n 2 = 0)) ∧ (∀ m, m < n 1 → 0 ≤ a 1 m ∧ a 1 m ≤ 23) ∧ (∀ h, h < n 2 → 0 ≤ a 2 h ∧ a 2 h < n 0 ∧ 0 ≤ a 3 h ∧ a 3 h ≤ 99) ∧ (∀ k, k < n 3 → 0 ≤ a 4 k ∧ a 4 k < n 2 ∧ 0 ≤ a 5 k ∧ a 5 k < n 2 ∧ 1 ≤ a 6 k ∧ a 6 k ≤ 999) ∧ (∀ w, w < 8 → ∃ ts, ty (F w) = some ts)
def wM (n : Nat → Nat) (μ : PH) : Prop := (0 ≤ μ 0 0 ∧ μ 0 0 ≤ 9999) ∧ (∀ m, m < n 1 → 0 ≤ μ 1 m ∧ μ 1 m < n 0) ∧ (∀ m, m < 3 → 0 ≤ μ 2 m ∧ μ 2 m ≤ 9) ∧ (∀ h, h < 8 → 0 ≤ μ 3 h ∧ μ 3 h ≤ 9999) ∧ (∀ k, k < 24 → 0 ≤ μ 4 k ∧ μ 4 k ≤ 20 ∧ 0 ≤ μ 5 k ∧ μ 5 k ≤ 9999) ∧ (∀ m, n 1 ≤ m → μ 1 m = 0 ∧ μ 2 m = 0) ∧ (∀ h, n 2 ≤ h → μ 3 h = 0) ∧ (∀ h m, m < 3 → n 2 ≤ h ∨ n 1 ≤ m → μ 4 (h * 3 + m) = 0 ∧ μ 5 (h * 3 + m) = 0)
/-- the chart in the cells from c -/
def isC (M : PH) (c : Nat) (n : Nat → Nat) (a : PH) (F : Nat → List Int) : Prop := (∀ i, i < 7 → M c i = (n i : Int)) ∧ (∀ m, m < n 1 → M (c + 2) m = a 1 m) ∧ (∀ h, h < n 2 → M (c + 4) h = a 2 h ∧ M (c + 5) h = a 3 h) ∧ (∀ k, k < n 3 → M (c + 6) k = a 4 k ∧ M (c + 7) k = a 5 k ∧ M (c + 8) k = a 6 k) ∧ (∀ w, w < 8 → isFw M (c + 15) w (F w)) ∧ (∀ w, w < 8 → ∃ U : Nat, U < 2147483648 ∧ M (c + 15 + 4) w = (U : Int) ∧ ∀ u, u < 29 → (U.testBit u = true ↔ ((10000 + u : Nat) : Int) ∈ F w))
theorem isC_fr {M M' : PH} {c : Nat} {n : Nat → Nat} {a : PH} {F : Nat → List Int} (h : ∀ i, i < 9 ∨ (16 ≤ i ∧ i < 20) → M' (c + i) = M (c + i)) (hC : isC M c n a F) : isC M' c n a F := by
  obtain ⟨h1, h2, h3, h4, h5, h6⟩ := hC
  have e0 : M' c = M c := h 0 (by omega)
  have e19 : M' (c + 15 + 4) = M (c + 15 + 4) := h 19 (by omega)
  refine ⟨fun i hi => by rw [e0]; exact h1 i hi, fun m hm => by rw [h 2 (by omega)]; exact h2 m hm, fun k hk => by rw [h 4 (by omega), h 5 (by omega)]; exact h3 k hk, fun k hk => by rw [h 6 (by omega), h 7 (by omega), h 8 (by omega)]; exact h4 k hk, fun w hw => ?_, fun w hw => by rw [e19]; exact h6 w hw⟩
  have e16 : M' (c + 15 + 1) = M (c + 15 + 1) := h 16 (by omega)
  have e17 : M' (c + 15 + 2) = M (c + 15 + 2) := h 17 (by omega)
  have e18 : M' (c + 15 + 3) = M (c + 15 + 3) := h 18 (by omega)
  have := h5 w hw
  unfold isFw at this ⊢
  rw [e16, e17, e18]
  exact this
theorem mo_d0 : ∀ b ∈ MOL, (b + 5 < 9 ∨ 17 < b) ∧ (b + 5 < 24 ∨ 43 < b) ∧ (b + 5 < 50 ∨ 63 < b) ∧ (b + 5 < 70 ∨ 84 < b) ∧ (b + 5 < 91 ∨ 94 < b) ∧ (b + 5 < 101 ∨ 104 < b) ∧ (b + 5 < 225 ∨ 226 < b) ∧ b + 5 < 233 ∧ 3 ≤ b := by decide +kernel
theorem ti_d {t : Nat} (h : isTi t) : t = 57 ∨ t = 61 ∨ t = 75 ∨ t = 92 := by simpa [isTi] using h
theorem ct_d {c t : Nat} (hc : isCh c) (ht : isTi t) : c + 21 < t := by
  have h1 := ti_d ht
  have h2 : c = 9 ∨ c = 35 := hc
  omega
theorem mo_cv {b c : Nat} (hb : isMo b) (hc : isCh c) : b + 5 < c + 20 ∨ c + 21 < b := by
  have h1 := mo_d0 b hb
  have h2 : c = 9 ∨ c = 35 := hc
  rcases h2 with rfl | rfl <;> omega
theorem mo_ti {b t : Nat} (hb : isMo b) (ht : isTi t) : b + 5 < t ∨ t + 2 < b := by
  have h1 := mo_d0 b hb
  rcases ti_d ht with rfl | rfl | rfl | rfl <;> omega
/-- a moment lies outside of the chart's own cells -/
theorem mo_ch {b c : Nat} (hb : isMo b) (hc : isCh c) : (b + 5 < c ∨ c + 8 < b) ∧ (b + 5 < c + 15 ∨ c + 21 < b) := by
  have h1 := mo_d0 b hb
  have h2 : c = 9 ∨ c = 35 := hc
  rcases h2 with rfl | rfl <;> omega
theorem tmN {x n : Nat} (h : x < 2 * n) : ∃ r : Nat, ((x : Int)).tmod (n : Int) = (r : Int) ∧ r < n ∧ (r = x ∨ r + n = x) := by
  refine ⟨x % n, (Int.ofNat_tmod x n).symm, Nat.mod_lt _ (by omega), ?_⟩
  by_cases q : x < n
  · left; exact Nat.mod_eq_of_lt q
  · right; rw [Nat.mod_eq_sub_mod (by omega), Nat.mod_eq_of_lt (by omega)]; omega
section SEA
variable {M : PH} {b : Nat}
theorem bt_m {m : Nat} (hm : m < 3) : sm (fun h => M (b + 4) (h * 3 + m)) 8 = bt (mo M b) m := sm_c (fun h hh => mo_4 (by omega))
theorem dt_m {m : Nat} (hm : m < 3) : sm (fun h => M (b + 5) (h * 3 + m)) 8 = dt (mo M b) m := sm_c (fun h hh => mo_5 (by omega))
theorem bb_m {h : Nat} (hm : h < 8) : sm (fun m => M (b + 4) (h * 3 + m)) 3 = bb (mo M b) h := sm_c (fun h hh => mo_4 (by omega))
theorem db_m {h : Nat} (hm : h < 8) : sm (fun m => M (b + 5) (h * 3 + m)) 3 = db (mo M b) h := sm_c (fun h hh => mo_5 (by omega))
theorem ba_m : sm (M (b + 4)) 24 = ba (mo M b) := sm_c (fun h hh => mo_4 (by omega))
variable {n : Nat → Nat} {μ : PH}
theorem bt_b (h : wM n μ) {m : Nat} (hm : m < 3) : 0 ≤ bt μ m ∧ bt μ m ≤ 160 := by
  have := sm_b (f := fun h => μ 4 (h * 3 + m)) (lo := 0) (hi := 20) (n := 8) (fun i hi => by have := h.2.2.2.2.1 (i * 3 + m) (by omega); exact ⟨this.1, this.2.1⟩)
  unfold bt; omega
theorem dt_b (h : wM n μ) {m : Nat} (hm : m < 3) : 0 ≤ dt μ m ∧ dt μ m ≤ 79992 := by
  have := sm_b (f := fun h => μ 5 (h * 3 + m)) (lo := 0) (hi := 9999) (n := 8) (fun i hi => by have := h.2.2.2.2.1 (i * 3 + m) (by omega); exact ⟨this.2.2.1, this.2.2.2⟩)
  unfold dt; omega
theorem bb_b (h : wM n μ) {k : Nat} (hm : k < 8) : 0 ≤ bb μ k ∧ bb μ k ≤ 60 := by
  have := sm_b (f := fun m => μ 4 (k * 3 + m)) (lo := 0) (hi := 20) (n := 3) (fun i hi => by have := h.2.2.2.2.1 (k * 3 + i) (by omega); exact ⟨this.1, this.2.1⟩)
  unfold bb; omega
theorem db_b (h : wM n μ) {k : Nat} (hm : k < 8) : 0 ≤ db μ k ∧ db μ k ≤ 29997 := by
  have := sm_b (f := fun m => μ 5 (k * 3 + m)) (lo := 0) (hi := 9999) (n := 3) (fun i hi => by have := h.2.2.2.2.1 (k * 3 + i) (by omega); exact ⟨this.2.2.1, this.2.2.2⟩)
  unfold db; omega
theorem ba_b (h : wM n μ) : 0 ≤ ba μ ∧ ba μ ≤ 480 := by
  have := sm_b (f := μ 4) (lo := 0) (hi := 20) (n := 24) (fun i hi => by have := h.2.2.2.2.1 i (by omega); exact ⟨this.1, this.2.1⟩)
  unfold ba; omega
theorem vw_c {w : Nat} (h : isVw w = true) : w = 4 ∨ w = 6 ∨ w = 7 ∨ (15 ≤ w ∧ w ≤ 22) := by simpa [isVw, or_assoc] using h
end SEA
