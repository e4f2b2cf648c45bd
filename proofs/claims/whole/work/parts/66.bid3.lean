/-! Bidding: the rest. -/
def wsI (M : PH) (n : Nat → Nat) (a : PH) (F : Nat → List Int) (μ : PH) : Prop := inR (M 74 12) ∧ (M 74 11 = -1 ∨ ∃ h : Nat, h < n 2 ∧ M 74 11 = (h : Int) ∧ wok M n a F μ h (M 74 12))
def rsI (M : PH) (n : Nat → Nat) (a : PH) (F : Nat → List Int) (μ : PH) : Prop := M 74 16 = 0 ∨ (M 74 16 = (rst n a F 12 1 μ).1 ∧ mo M 85 = (rst n a F 12 1 μ).2)
def stI (M : PH) (T : Int) : Prop := (0 ≤ M 74 10 ∧ M 74 10 ≤ T) ∧ ∀ s, s < 693 → 0 ≤ M 80 s ∧ M 80 s ≤ M 74 10
def BI (M : PH) (n : Nat → Nat) (a : PH) (F : Nat → List Int) (μ : PH) (T : Int) : Prop := stI M T ∧ wsI M n a F μ ∧ rsI M n a F μ
theorem rst_b {n : Nat → Nat} {a : PH} {F : Nat → List Int} : ∀ {k r : Nat} {μ : PH}, 1 ≤ r → r + k ≤ 13 → 1 ≤ (rst n a F k r μ).1 ∧ (rst n a F k r μ).1 ≤ 13
  | 0, r, μ, _, _ => by simp [rst]
  | k + 1, r, μ, h1, h2 => by
    rw [rst]
    split
    · exact rst_b (by omega) (by omega)
    · show 1 ≤ (r : Int) ∧ (r : Int) ≤ 13; omega
section CB3
variable {d c b : Nat} {X : Nat × (Nat → Int)} {v : Nat → Int} {M M' : PH} {K : PV → PS → Prop} {n : Nat → Nat} {a μ : PH} {F : Nat → List Int}
theorem frW_C (hc : isCh c) (h : frW c M M') (hC : isC M c n a F) : isC M' c n a F := by
  have := ch60 hc
  exact isC_fr (fun i hi => h _ (by omega) (by omega) (by omega)) hC
theorem frW_3 (hc : isCh c) (h : frW c M M') : mo M' 3 = mo M 3 := by
  have : c = 9 ∨ c = 35 := hc
  exact mo_fr (fun i hi => h _ (by omega) (by omega) (by omega))
theorem frW_r : frW c M M := fun _ _ _ _ => rfl
theorem frW_t {M2 : PH} (h : frW c M M') (h2 : frW c M' M2) : frW c M M2 := fun q h1 h3 h4 => (h2 q h1 h3 h4).trans (h q h1 h3 h4)
theorem CA_0 {h p : Nat} (h1 : ∀ s, s < 693 → 0 ≤ M' 80 s ∧ M' 80 s < M' 74 10) (hn : n 1 ≤ 3) : CA M' n F μ h p := ⟨fun s hs => by have := h1 s hs; omega, fun m b o hm hb ho q => by have := h1 ((m * 11 + b) * 21 + o) (by omega); omega⟩
theorem c2 (hc : isCh c) (hv : v 3 = (c : Int)) (hC : isC M c n a F) (hwC : wC n a F) (hμ : mo M 3 = μ) (hw : wM n μ) {T : Int} (hI : BI M n a F μ T) (hT : T < 900000000) {h : Nat} (hh : h < n 2) {H : Int} (hH : inR H) (hK : ∀ M' : PH, frW c M M' → BI M' n a F μ (T + 1) → wok M' n a F μ h H → K (vI (if (wl n a F μ h H (11 ^ n 1)).1 = 31 then 0 else 1)) (GF X, M', PTF v)) : pm_Call (d + 6) 2 [vA 74, vI (h : Int), vI H] (GF X, M, PTF v) K := by
  obtain ⟨⟨t1, t2⟩, ⟨w1, w2⟩, r1⟩ := hI
  have hn2 : n 2 ≤ 8 := hwC.1.2.2.1
  have hn1 : n 1 ≤ 3 := hwC.1.2.1
  have h11 : inR (M 74 11) := by
    rcases w2 with e | ⟨h', g1, g2, -⟩
    · rw [e]; omega
    · rw [g2]; omega
  have hwb := wl_b (n := n) (a := a) (F := F) (μ := μ) (h := h) (H := H) (i := 11 ^ n 1)
  have E : ∀ M2 : PH, frW c M M2 → BI M2 n a F μ (T + 1) → wok M2 n a F μ h H → pm_Run (d + 5) 2 45 [vA 74, vI (h : Int), vI H] [] (GF X, M2, PTF v) K := by
    intro M2 f1 f2 f3
    have := hK M2 f1 f2 f3
    by_cases q : (wl n a F μ h H (11 ^ n 1)).1 = 31
    · rw [r2_45 (by rw [f3.1 q]; omega), f3.1 q, if_pos rfl, r2_57, r2_58 (by simp)]
      rw [if_pos q] at this; exact this
    · rw [r2_45 (by rw [(f3.2 q).1]; omega), (f3.2 q).1, if_neg (by omega), r2_53, r2_58 (by simp)]
      rw [if_neg q] at this; exact this
  have R : pm_Run (d + 5) 2 16 [vA 74, vI (h : Int), vI H] [] (GF X, M, PTF v) K := by
    rw [r2_16, r2_21, r2_26, r2_31]
    simp only [sa_s, sa_sa]
    refine c7 mo3 (by omega) (μ := μ) (by rw [mo_n (by omega)]; exact hμ) (by omega) (fun M2 f1 f2 f3 f4 f5 f6 => ?_)
    have g10 : M2 74 10 = M 74 10 + 1 := by rw [f4, sa_s, up_n (by omega), up_n (by omega), up_n (by omega)]
    have g80 : M2 80 = M 80 := by rw [f1 80 (by omega) (by omega) (by omega), sa_n (by omega)]
    have hC2 : isC M2 c n a F := by
      have := ch60 hc
      exact isC_fr (fun i hi => by rw [f1 _ (by omega) (by omega) (by omega), sa_n (by omega)]) hC
    have em : mo M2 3 = μ := (mo_fr (fun i hi => by rw [f1 _ (by omega) (by omega) (by omega), sa_n (by omega)])).trans hμ
    rw [push_u, r2_40]
    refine c3 hc hv hC2 hwC em hw hh f3 (by rw [g10]; omega) (by rw [f2 13 (by omega) (by omega), sa_s, up_s]) f5 f6 (CA_0 (fun s hs => by rw [g80, g10]; have := t2 s hs; omega) hn1) hH (fun M3 j1 j2 j3 j4 => ?_)
    have k10 : M3 74 10 = M 74 10 + 1 := by rw [j2 10 (by omega), g10]
    have k11 : M3 74 11 = (h : Int) := by rw [j2 11 (by omega), f2 11 (by omega) (by omega), sa_s, up_n (by omega), up_n (by omega), up_s]
    have k12 : M3 74 12 = H := by rw [j2 12 (by omega), f2 12 (by omega) (by omega), sa_s, up_n (by omega), up_s]
    have k16 : M3 74 16 = M 74 16 := by rw [j2 16 (by omega), f2 16 (by omega) (by omega), sa_s, up_n (by omega), up_n (by omega), up_n (by omega)]
    have f85 : mo M3 85 = mo M 85 := by
      have : c = 9 ∨ c = 35 := hc
      exact mo_fr (fun i hi => by rw [j1 _ (by omega) (by omega) (by omega) (by omega) (by omega) (by omega) (by omega), f1 _ (by omega) (by omega) (by omega), sa_n (by omega)])
    rw [push_u]
    refine E M3 (fun q z1 z2 z3 => by rw [j1 q z1 z2 (by omega) (by omega) (by omega) (by omega) (by omega), f1 q (by omega) (by omega) (by omega), sa_n (by omega)]) ⟨⟨by rw [k10]; omega, fun s hs => by rw [k10, ← g10]; exact j3 s hs⟩, ⟨by rw [k12]; exact hH, Or.inr ⟨h, hh, k11, by rw [k12]; exact j4⟩⟩, ?_⟩ j4
    unfold rsI at r1 ⊢
    rw [k16, f85]; exact r1
  rw [en2, r2_0 (by omega) h11]
  by_cases q1 : (h : Int) = M 74 11
  · rw [if_neg (by omega), r2_8 hH w1]
    by_cases q2 : H = M 74 12
    · rw [if_pos q2]
      refine E M frW_r ⟨⟨by omega, t2⟩, ⟨w1, w2⟩, r1⟩ ?_
      rcases w2 with e | ⟨h', g1, g2, g3⟩
      · omega
      · have : h = h' := by omega
        subst this
        rw [q2]; exact g3
    · rw [if_neg q2]; exact R
  · rw [if_pos q1]; exact R
theorem mx_b {g : Nat → Int} (hg : ∀ i, -200000 ≤ g i ∧ g i ≤ 200000) : ∀ {k : Nat}, -1000000000 ≤ (mx g k).1 ∧ (mx g k).1 ≤ 200000
  | 0 => by simp [mx]
  | k + 1 => by
    have h1 := mx_b hg (k := k)
    have h2 := hg k
    rw [mx]
    split
    · show -1000000000 ≤ g k ∧ g k ≤ 200000; omega
    · exact h1
theorem og_b {g : Nat → Int} {e : Nat → Bool} (hg : ∀ i, -200000 ≤ g i ∧ g i ≤ 200000) : ∀ {k : Nat}, -1000000000 ≤ og g e k ∧ og g e k ≤ 200000
  | 0 => by simp [og]
  | k + 1 => by
    have h1 := og_b (e := e) hg (k := k)
    have h2 := hg k
    rw [og]
    split
    · omega
    · exact h1
theorem gain_b (hwC : wC n a F) {h : Nat} (i : Nat) : -200000 ≤ gain n a F μ h i ∧ gain n a F μ h i ≤ 200000 := by
  have h1 := hts_b (μ := setb μ h (dg 5 (n 1) i)) (p := (a 2 h).toNat) hwC
  have h2 := sdg_b (B := 5) (n1 := n 1) (i := i) (by omega)
  unfold gain thh; omega
theorem wM_setb (hw : wM n μ) {h : Nat} (hh : h < n 2) {tr : Nat → Int} (htr : ∀ m, 0 ≤ tr m ∧ tr m ≤ 20) (htz : ∀ m, n 1 ≤ m → tr m = 0) : wM n (setb μ h tr) := by
  obtain ⟨h0, h1, h2, h3, h4, h5, h6, h7⟩ := hw
  refine ⟨by rw [setb_i (by omega)]; exact h0, by rw [setb_i (by omega)]; exact h1, by rw [setb_i (by omega)]; exact h2, by rw [setb_i (by omega)]; exact h3, fun k hk => ?_, by rw [setb_i (by omega), setb_i (by omega)]; exact h5, by rw [setb_i (by omega)]; exact h6, fun j l hl hj => ?_⟩
  · have e : k = k / 3 * 3 + k % 3 := by omega
    have := h4 k hk
    rw [setb_i (show 5 ≠ 4 by omega), e, setb_4 (by omega), ← e]
    by_cases q : k / 3 = h
    · rw [if_pos q]; exact ⟨(htr _).1, (htr _).2, this.2.2⟩
    · rw [if_neg q]; exact this
  · rw [setb_i (show 5 ≠ 4 by omega), setb_4 hl]
    by_cases q : j = h
    · rw [if_pos q]; exact ⟨htz l (by omega), (h7 j l hl hj).2⟩
    · rw [if_neg q]; exact h7 j l hl hj
theorem mx_dg {n1 i : Nat} (m : Nat) : 0 ≤ dg 5 n1 i m ∧ dg 5 n1 i m ≤ 20 := by
  have := dg_b (B := 5) (n1 := n1) (i := i) (m := m) (by omega)
  omega
theorem wM_tks (hw : wM n μ) {h : Nat} (hh : h < n 2) : wM n (tks n a F h μ) := by
  unfold tks
  split
  · exact wM_setb hw hh mx_dg (fun m hm => dg_n hm)
  · exact hw
theorem al_c {p p' : Nat → Bool} : ∀ {k : Nat}, (∀ i, i < k → p i = p' i) → al p k = al p' k
  | 0, _ => rfl
  | k + 1, h => by rw [al, al, al_c (fun i hi => h i (by omega)), h k (by omega)]
theorem c5 (hc : isCh c) (hv : v 3 = (c : Int)) (hC : isC M c n a F) (hwC : wC n a F) (hμ : mo M 85 = μ) (hw : wM n μ) {T : Int} (hI : stI M T) (hT : T < 900000000) {h : Nat} (hh : h < n 2) (hK : ∀ M' : PH, (∀ q, q ≠ c + 20 → q ≠ c + 21 → (q < 74 ∨ 90 < q) → M' q = M q) → M' 84 = M 84 → (∀ j, j ≠ 9 → j ≠ 10 → M' 74 j = M 74 j) → stI M' (T + 1) → mo M' 85 = tks n a F h μ → K (vI (if mvs n a F μ h = true then 1 else 0)) (GF X, M', PTF v)) : pm_Call (d + 5) 5 [vA 74, vI (h : Int)] (GF X, M, PTF v) K := by
  obtain ⟨t1, t2⟩ := hI
  obtain ⟨hn0, hn1, hn2, -, -, hn5, -, hn00⟩ := hwC.1
  have hcc := ch60 hc
  have hpw := pw5 hn1
  have hpz : (0 : Int) ≤ ((5 ^ n 1 : Nat) : Int) := Int.natCast_nonneg _
  have hgb := gain_b (μ := μ) (h := h) hwC
  rw [en5, r5_0]
  refine c7 mo85 (by omega) hμ (by omega) (fun M1 f1 f2 f3 f4 f5 f6 => ?_)
  have hC1 : isC M1 c n a F := isC_fr (fun i hi => f1 _ (by omega) (by omega) (by omega)) hC
  have e1 : M1 c 1 = (n 1 : Int) := hC1.1 1 (by omega)
  rw [push_u, r5_9]
  refine (c8 (t := 4) (n := n) hc hv e1 hn1).mpr ?_
  rw [push_i, r5_20]
  have hgo : ∀ M' : PH, (∀ q, q ≠ c + 20 → q ≠ c + 21 → q ≠ 76 → (q < 78 ∨ 80 < q) → q ≠ 82 → q ≠ 83 → M' q = M1 q) → isC M' c n a F ∧ mo M' 85 = μ ∧ M' 74 = M1 74 ∧ M' 81 = M1 81 := fun M' f => by
    have hcc' : c = 9 ∨ c = 35 := hc
    exact ⟨isC_fr (fun i hi => f _ (by omega) (by omega) (by omega) (by omega) (by omega) (by omega)) hC1, (mo_fr (fun i hi => by rw [f _ (by omega) (by omega) (by omega) (by omega) (by omega) (by omega), f1 _ (by omega) (by omega) (by omega)])).trans hμ, f 74 (by omega) (by omega) (by omega) (by omega) (by omega) (by omega), f 81 (by omega) (by omega) (by omega) (by omega) (by omega) (by omega)⟩
  have m80 : M1 80 = M 80 := f1 80 (by omega) (by omega) (by omega)
  refine loopI (5 ^ n 1) (fun i (M' : PH) => (∀ q, q ≠ c + 20 → q ≠ c + 21 → q ≠ 76 → (q < 78 ∨ 80 < q) → q ≠ 82 → q ≠ 83 → M' q = M1 q) ∧ (∀ m, m < 3 → M' 82 m = dg 5 (n 1) i m) ∧ CA M' n F μ h (a 2 h).toNat ∧ (0 < i → ∀ m, m < 3 → M' 83 m = dg 5 (n 1) (mx (gain n a F μ h) i).2 m)) (fun i M' => ∀ l6 : PV, pm_Run (d + 4) 5 25 [vA 74, vI (h : Int), vI ((mx (gain n a F μ h) i).1), vI (og (gain n a F μ h) (isO n μ h) i), vI ((5 ^ n 1 : Nat) : Int), vI (i : Int), l6] [] (GF X, M', PTF v) K) (fun i M' hi hI ih l6 => ?_) (fun M' hI l6 => ?_) M1 ⟨fun _ _ _ _ _ _ _ => rfl, fun m hm => by rw [f5 m hm, dg_0], CA_0 (fun s hs => by rw [m80, f4]; have := t2 s hs; omega) hn1, fun h => absurd h (by omega)⟩ PU
  · obtain ⟨i1, i2, i3, i4⟩ := hI
    obtain ⟨hC', hμ', e74, e81⟩ := hgo M' i1
    have hmb := mx_b (g := gain n a F μ h) hgb (k := i)
    have hob := og_b (g := gain n a F μ h) (e := isO n μ h) hgb (k := i)
    have hsb := sdg_b (B := 5) (n1 := n 1) (i := i) (by omega)
    have htb := hts_b (μ := setb μ h (dg 5 (n 1) i)) (p := (a 2 h).toNat) hwC
    have hgi := hgb i
    rw [r5_25 (by omega) (by omega), if_neg (by omega), r5_32]
    refine c11 (b := 85) hc hv (Or.inr rfl) hC' hwC hμ' hw hh (by rw [e74]; exact f3) (by rw [e74, f4]; omega) (tr := dg 5 (n 1) i) (fun m hm => ⟨i2 m hm, by have := dg_b (B := 5) (n1 := n 1) (i := i) (m := m) (by omega); omega, by have := dg_b (B := 5) (n1 := n 1) (i := i) (m := m) (by omega); omega⟩) (fun m hm => by rw [e81]; exact f6 m hm) i3 (fun M2 g1 g2 => ?_)
    have k1 : ∀ q, q ≠ c + 20 → q ≠ c + 21 → q ≠ 76 → (q < 78 ∨ 80 < q) → q ≠ 82 → q ≠ 83 → M2 q = M1 q := fun q z1 z2 z3 z4 z5 z6 => by rw [g1 q z1 z2 z3 z4]; exact i1 q z1 z2 z3 z4 z5 z6
    have k2 : ∀ m, m < 3 → M2 82 m = dg 5 (n 1) i m := fun m hm => by rw [g1 82 (by omega) (by omega) (by omega) (by omega)]; exact i2 m hm
    have k83 : M2 83 = M' 83 := g1 83 (by omega) (by omega) (by omega) (by omega)
    have es : M2 82 0 + M2 82 1 + M2 82 2 = sdg 5 (n 1) i := by rw [k2 0 (by omega), k2 1 (by omega), k2 2 (by omega)]; rfl
    have eg : hts n F (setb μ h (dg 5 (n 1) i)) (a 2 h).toNat - sdg 5 (n 1) i = gain n a F μ h i := rfl
    rw [push_i, r5_40, c10, push_i, es, r5_44 (by rw [eg]; omega) (by omega), eg]
    -- own ones, and the next
    have N : ∀ (M3 : PH) (x : Int), (∀ q, q ≠ c + 20 → q ≠ c + 21 → q ≠ 76 → (q < 78 ∨ 80 < q) → q ≠ 82 → q ≠ 83 → M3 q = M1 q) → (∀ m, m < 3 → M3 82 m = dg 5 (n 1) i m) → CA M3 n F μ h (a 2 h).toNat → x = (mx (gain n a F μ h) (i + 1)).1 → (∀ m, m < 3 → M3 83 m = dg 5 (n 1) (mx (gain n a F μ h) (i + 1)).2 m) → pm_Run (d + 4) 5 70 [vA 74, vI (h : Int), vI x, vI (og (gain n a F μ h) (isO n μ h) i), vI ((5 ^ n 1 : Nat) : Int), vI (i : Int), vI (gain n a F μ h i)] [] (GF X, M3, PTF v) K := by
      intro M3 x j1 j2 j3 j4 j5
      obtain ⟨hC3, hμ3, -, -⟩ := hgo M3 j1
      have e89 : ∀ k, k < 24 → M3 89 k = μ 4 k := fun k hk => (mo_4 (M := M3) (b := 85) hk).trans (by rw [hμ3])
      have eal : al (fun m => decide (M3 82 m = M3 89 (h * 3 + m))) (n 1) = isO n μ h i := al_c (fun m hm => by rw [j2 m (by omega), e89 _ (by omega)])
      rw [r5_70, c6 (n := n) hc hv (hC3.1 1 (by omega)) hn1 (by omega) (fun m hm => by rw [j2 m hm]; have := dg_b (B := 5) (n1 := n 1) (i := i) (m := m) (by omega); omega) (fun k hk => by rw [e89 k hk]; have := hw.2.2.2.2.1 k hk; omega), push_i, eal]
      have fin : ∀ y : Int, y = og (gain n a F μ h) (isO n μ h) (i + 1) → pm_Run (d + 4) 5 81 [vA 74, vI (h : Int), vI x, vI y, vI ((5 ^ n 1 : Nat) : Int), vI (i : Int), vI (gain n a F μ h i)] [] (GF X, M3, PTF v) K := by
        intro y hy
        rw [r5_81, hy, j4]
        refine c9 (t := 4) (i := i) (n := n) hc hv (hC3.1 1 (by omega)) hn1 (Or.inr rfl) j2 (fun g hg => ?_)
        rw [push_u, r5_86]
        refine ih _ ⟨fun q z1 z2 z3 z4 z5 z6 => by rw [sa_n z5]; exact j1 q z1 z2 z3 z4 z5 z6, fun m hm => by rw [sa_s]; exact hg m hm, ?_, fun _ m hm => by rw [sa_n (by omega)]; exact j5 m hm⟩ _
        unfold CA at j3 ⊢
        rw [sa_n (show 80 ≠ 82 by omega), sa_n (show 74 ≠ 82 by omega), sa_n (show 78 ≠ 82 by omega), sa_n (show 79 ≠ 82 by omega)]; exact j3
      by_cases q : isO n μ h i = true
      · rw [if_pos q, r5_75 (by omega), if_neg (by omega), r5_78]
        exact fin _ (by rw [og, if_pos q])
      · rw [if_neg q, r5_75 (by omega), if_pos rfl]
        exact fin _ (by rw [og, if_neg q])
    by_cases q : gain n a F μ h i ≤ (mx (gain n a F μ h) i).1
    · have ew : mx (gain n a F μ h) (i + 1) = mx (gain n a F μ h) i := by rw [mx, if_neg (by omega)]
      rw [if_pos q]
      refine N M2 _ k1 k2 g2 (by rw [ew]) (fun m hm => ?_)
      rw [ew, k83]
      by_cases z : i = 0
      · subst z
        have : (mx (gain n a F μ h) 0).1 = -1000000000 := rfl
        omega
      · exact i4 (by omega) m hm
    · have ew : mx (gain n a F μ h) (i + 1) = (gain n a F μ h i, i) := by rw [mx, if_pos (by omega)]
      rw [if_neg q, r5_53]
      refine N _ _ (fun q z1 z2 z3 z4 z5 z6 => by rw [sa_n z6]; exact k1 q z1 z2 z3 z4 z5 z6) (fun m hm => by rw [sa_n (by omega)]; exact k2 m hm) ?_ (by rw [ew]) (fun m hm => ?_)
      · unfold CA at g2 ⊢
        rw [sa_n (show 80 ≠ 83 by omega), sa_n (show 74 ≠ 83 by omega), sa_n (show 78 ≠ 83 by omega), sa_n (show 79 ≠ 83 by omega)]; exact g2
      · rw [sa_s, cpn_e, cpn, if_pos hm, ew]; exact k2 m hm
  · obtain ⟨i1, i2, i3, i4⟩ := hI
    obtain ⟨hC', hμ', e74, e81⟩ := hgo M' i1
    have hmb := mx_b (g := gain n a F μ h) hgb (k := 5 ^ n 1)
    have hob := og_b (g := gain n a F μ h) (e := isO n μ h) hgb (k := 5 ^ n 1)
    have fr1 : ∀ q, q ≠ c + 20 → q ≠ c + 21 → (q < 74 ∨ 90 < q) → M' q = M q := fun q z1 z2 z3 => by rw [i1 q z1 z2 (by omega) (by omega) (by omega) (by omega), f1 q (by omega) (by omega) (by omega)]
    have fr84 : M' 84 = M 84 := by rw [i1 84 (by omega) (by omega) (by omega) (by omega) (by omega) (by omega), f1 84 (by omega) (by omega) (by omega)]
    have fr74 : ∀ j, j ≠ 9 → j ≠ 10 → M' 74 j = M 74 j := fun j z1 z2 => by rw [e74, f2 j z1 z2]
    have fst : stI M' (T + 1) := ⟨by rw [e74, f4]; omega, i3.1⟩
    rw [r5_25 (by omega) (by omega), if_pos (by omega), r5_92 (by omega) (by omega)]
    by_cases q : og (gain n a F μ h) (isO n μ h) (5 ^ n 1) = (mx (gain n a F μ h) (5 ^ n 1)).1
    · have hm : mvs n a F μ h = false := by simp [mvs, q]
      have := hK M' fr1 fr84 fr74 fst (by rw [tks, hm, if_neg (by decide)]; exact hμ')
      rw [hm, if_neg (by decide)] at this
      rw [if_neg (by simp [q]), r5_97]; exact this
    · have hm : mvs n a F μ h = true := by simp [mvs, q]
      have hp : 0 < 5 ^ n 1 := Nat.pow_pos (by omega)
      rw [if_pos q, r5_99, c55, push_i, r5_116 (by omega), r5_120, show ((h : Int) * 3 + 0).toNat = h * 3 by omega, show (0 : Int).toNat = 0 from rfl]
      have := hK (pm_sa M' 89 (pm_cp (M' 83) (M' 89) 0 (h * 3) 3)) (fun q z1 z2 z3 => by rw [sa_n (by omega)]; exact fr1 q z1 z2 z3) (by rw [sa_n (by omega)]; exact fr84) (fun j z1 z2 => by rw [sa_n (by omega)]; exact fr74 j z1 z2) (by unfold stI; rw [sa_n (show 74 ≠ 89 by omega), sa_n (show 80 ≠ 89 by omega)]; exact fst) (by
        rw [tks, hm, if_pos rfl]
        funext i k
        by_cases z : i = 4
        · subst z
          by_cases hk : k < 24
          · rw [← mo_4 (M := pm_sa M' 89 (pm_cp (M' 83) (M' 89) 0 (h * 3) 3)) (b := 85) hk, sa_s, setb, sa_s, pm_cp, pm_cp]
            by_cases zz : h * 3 ≤ k ∧ k < h * 3 + 3
            · rw [if_pos zz, if_pos zz]; exact i4 hp _ (by omega)
            · rw [if_neg zz, if_neg zz, ← hμ']; exact mo_4 hk
          · rw [mo, if_neg (show ¬ k < len 4 from hk), setb, sa_s, pm_cp, if_neg (by omega), ← hμ', mo, if_neg (show ¬ k < len 4 from hk)]
        · rw [setb_i z, ← hμ']
          by_cases hk : k < len i
          · have := len_0 hk
            rw [mo, mo, if_pos hk, if_pos hk, sa_n (by omega)]
          · rw [mo, mo, if_neg hk, if_neg hk])
      rw [hm, if_pos rfl] at this
      exact this
end CB3
