/-! The class's forecast. -/
def ahd (n : Nat → Nat) (a : PH) (F : Nat → List Int) (μ : PH) : Nat → PH
  | 0 => μ
  | t + 1 => pass n a F (ahd n a F μ t)
theorem fi_sn {p : Nat → Bool} : ∀ {k i : Nat}, fi p (k + 1) i = if fi p k i = -1 then (if p (i + k) then ((i + k : Nat) : Int) else -1) else fi p k i
  | 0, i => by simp [fi]
  | k + 1, i => by
    rw [fi]
    by_cases h : p i = true
    · rw [if_pos h, fi, if_pos h, if_neg (by omega)]
    · rw [if_neg h, fi_sn, fi, if_neg h, show i + 1 + k = i + (k + 1) by omega]
theorem fi_c {p p' : Nat → Bool} : ∀ {k i : Nat}, (∀ j, i ≤ j → j < i + k → p j = p' j) → fi p k i = fi p' k i
  | 0, _, _ => rfl
  | k + 1, i, h => by rw [fi, fi, h i (by omega) (by omega), fi_c (fun j h1 h2 => h j (by omega) (by omega))]
theorem fi_n {p : Nat → Bool} : ∀ {k i : Nat}, fi p k i = -1 → ∀ j, i ≤ j → j < i + k → p j = false
  | 0, _, _, j, _, _ => by omega
  | k + 1, i, h, j, h1, h2 => by
    rw [fi] at h
    by_cases q : p i = true
    · rw [if_pos q] at h; omega
    · rw [if_neg q] at h
      by_cases e : j = i
      · rw [e]; simpa using q
      · exact fi_n h j (by omega) (by omega)
theorem fi_s {p : Nat → Bool} : ∀ {k i : Nat}, fi p k i ≠ -1 → ∃ j : Nat, fi p k i = (j : Int) ∧ i ≤ j ∧ j < i + k ∧ p j = true ∧ ∀ j', i ≤ j' → j' < j → p j' = false
  | 0, _, h => absurd rfl h
  | k + 1, i, h => by
    rw [fi] at h ⊢
    by_cases q : p i = true
    · rw [if_pos q] at h ⊢
      exact ⟨i, rfl, by omega, by omega, q, fun j' h1 h2 => absurd h1 (by omega)⟩
    · rw [if_neg q] at h ⊢
      obtain ⟨j, e, h1, h2, h3, h4⟩ := fi_s h
      refine ⟨j, e, by omega, by omega, h3, fun j' g1 g2 => ?_⟩
      by_cases z : j' = i
      · rw [z]; simpa using q
      · exact h4 j' (by omega) g2
theorem fi_0 {p : Nat → Bool} {k i : Nat} (h : ∀ j, i ≤ j → j < i + k → p j = false) : fi p k i = -1 := by
  by_cases q : fi p k i = -1
  · exact q
  · obtain ⟨j, -, h1, h2, h3, -⟩ := fi_s q
    rw [h j h1 h2] at h3
    exact absurd h3 (by decide)
theorem fi_1 {p : Nat → Bool} {k i j : Nat} (h1 : i ≤ j) (h2 : j < i + k) (h3 : p j = true) (h4 : ∀ j', i ≤ j' → j' < j → p j' = false) : fi p k i = (j : Int) := by
  by_cases q : fi p k i = -1
  · rw [fi_n q j h1 h2] at h3; exact absurd h3 (by decide)
  · obtain ⟨j2, e, g1, g2, g3, g4⟩ := fi_s q
    by_cases z : j2 < j
    · rw [h4 j2 g1 z] at g3; exact absurd g3 (by decide)
    · by_cases z2 : j < j2
      · rw [g4 j h1 z2] at h3; exact absurd h3 (by decide)
      · rw [e]; omega
/-- the first harbor that breaks a clause then, and the first hour ahead of k when one does -/
def brh (n : Nat → Nat) (a : PH) (F : Nat → List Int) (ν : PH) (k : Nat) : Int := fi (fun h => decide (brk n a F ν h ≠ -1)) k 0
def bro (n : Nat → Nat) (a : PH) (F : Nat → List Int) (μ : PH) (k : Nat) : Int := fi (fun t => decide (brh n a F (ahd n a F μ t) (n 2) ≠ -1)) k 0
/-- three numbers that tell of the first break -/
def brE (M : PH) (n : Nat → Nat) (a : PH) (F : Nat → List Int) (μ : PH) (k : Nat) : Prop := M 60 10 = bro n a F μ k ∧ (bro n a F μ k = -1 → M 60 11 = -1 ∧ M 60 12 = -1) ∧ (bro n a F μ k ≠ -1 → M 60 11 = brh n a F (ahd n a F μ (bro n a F μ k).toNat) (n 2) ∧ M 60 12 = brk n a F (ahd n a F μ (bro n a F μ k).toNat) (brh n a F (ahd n a F μ (bro n a F μ k).toNat) (n 2)).toNat)
def FI (M : PH) (n : Nat → Nat) (a : PH) (F : Nat → List Int) (μ : PH) (k : Nat) : Prop := M 60 8 = min 48 (9999 - μ 0 0) ∧ M 60 9 = (k : Int) ∧ (0 < k → mo M 64 = ahd n a F μ (k - 1) ∧ (∀ p, p < n 0 → M 63 p = hts n F (ahd n a F μ (k - 1)) p) ∧ ∀ m p, m < n 1 → p < n 0 → M 70 (m * 24 + p) = pls n F μ m p) ∧ (∀ t, t < k → (∀ p, p < n 0 → M 71 (t * 24 + p) = hts n F (ahd n a F μ t) p) ∧ ∀ h, h < n 2 → M 72 (t * 8 + h) = ahd n a F μ t 3 h ∧ M 73 (t * 8 + h) = db (ahd n a F μ t) h) ∧ brE M n a F μ k ∧ (k : Int) ≤ min 48 (9999 - μ 0 0) + 1
theorem mo64 : isMo 64 := by simp [isMo, MOL]
theorem mo3 : isMo 3 := by simp [isMo, MOL]
theorem ti61 : isTi 61 := by simp [isTi]
section CFC
variable {d c : Nat} {X : Nat × (Nat → Int)} {v : Nat → Int} {M M' : PH} {K : PV → PS → Prop} {n : Nat → Nat} {a μ : PH} {F : Nat → List Int}
theorem wM_ahd (hw : wM n μ) (hwC : wC n a F) : ∀ t, wM n (ahd n a F μ t)
  | 0 => hw
  | t + 1 => wM_pass (wM_ahd hw hwC t) hwC
theorem brk_r (hwC : wC n a F) {ν : PH} {h : Nat} : -1 ≤ brk n a F ν h ∧ brk n a F ν h ≤ 6 := by
  have h4 : n 4 ≤ 6 := hwC.1.2.2.2.2.1
  unfold brk
  by_cases q : fi (fun i => decide (ev (envH a ν h (hts n F ν (a 2 h).toNat)) (F (2 + i)) = 0)) (n 4) 0 = -1
  · rw [q]; omega
  · obtain ⟨j, e, g1, g2, -⟩ := fi_s q
    rw [e]; omega
theorem bro_r {k : Nat} : -1 ≤ bro n a F μ k ∧ bro n a F μ k < (k : Int) := by
  unfold bro
  by_cases q : fi (fun t => decide (brh n a F (ahd n a F μ t) (n 2) ≠ -1)) k 0 = -1
  · rw [q]; omega
  · obtain ⟨j, e, g1, g2, -⟩ := fi_s q
    rw [e]; omega
theorem c38 (hc : isCh c) (hv : v 2 = (c : Int)) (hC : isC M c n a F) (hwC : wC n a F) {t : Nat} (ht : t < 49) (hμ : mo M 64 = ahd n a F μ t) (hw : wM n (ahd n a F μ t)) (hH : ∀ p, p < n 0 → M 63 p = hts n F (ahd n a F μ t) p) (hE : brE M n a F μ t)
    (hK : ∀ M' : PH, (∀ q, q ≠ c + 20 → q ≠ c + 21 → q ≠ 60 → (q < 70 ∨ 73 < q) → M' q = M q) → (∀ j, j ≠ 10 → j ≠ 11 → j ≠ 12 → M' 60 j = M 60 j) → M' 70 = (if t = 0 then cpn (M 62) (M 70) 72 else M 70) → (∀ p, p < n 0 → M' 71 (t * 24 + p) = hts n F (ahd n a F μ t) p) → (∀ k, k < t * 24 → M' 71 k = M 71 k) → (∀ h, h < n 2 → M' 72 (t * 8 + h) = ahd n a F μ t 3 h ∧ M' 73 (t * 8 + h) = db (ahd n a F μ t) h) → (∀ k, k < t * 8 → M' 72 k = M 72 k ∧ M' 73 k = M 73 k) → brE M' n a F μ (t + 1) → K PU (GF X, M', PTF v)) : pm_Call (d + 4) 38 [vA 60, vI (t : Int)] (GF X, M, PTF v) K := by
  obtain ⟨hn0, hn1, hn2, hn3, hn4, hn5, -, hn00⟩ := hwC.1
  have hcc : c + 21 < 57 := by have : c = 9 ∨ c = 35 := hc; omega
  have hbr := bro_r (n := n) (a := a) (F := F) (μ := μ) (k := t)
  have A : ∀ M1 : PH, (∀ q, q ≠ 70 → M1 q = M q) → M1 70 = (if t = 0 then cpn (M 62) (M 70) 72 else M 70) → pm_Run (d + 3) 38 25 [vA 60, vI (t : Int), PU, PU] [] (GF X, M1, PTF v) K := by
    intro M1 f1 f2
    rw [r38_25 (by omega), r38_46, f1 63 (by omega), f1 71 (by omega), show ((t : Int) * 24).toNat = t * 24 by omega]
    have hE1 : ∀ p, p < n 0 → pm_cp (M 63) (M 71) 0 (t * 24) 24 (t * 24 + p) = hts n F (ahd n a F μ t) p := fun p hp => by
      rw [pm_cp, if_pos (by omega), show 0 + (t * 24 + p - t * 24) = p by omega]; exact hH p hp
    refine loopI (n 2) (fun j (M' : PH) => (∀ q, q ≠ c + 20 → q ≠ c + 21 → q ≠ 60 → (q < 70 ∨ 73 < q) → M' q = M q) ∧ (∀ j, j ≠ 10 → j ≠ 11 → j ≠ 12 → M' 60 j = M 60 j) ∧ M' 70 = (if t = 0 then cpn (M 62) (M 70) 72 else M 70) ∧ M' 71 = pm_cp (M 63) (M 71) 0 (t * 24) 24 ∧ (∀ h, h < j → M' 72 (t * 8 + h) = ahd n a F μ t 3 h ∧ M' 73 (t * 8 + h) = db (ahd n a F μ t) h) ∧ (∀ k, k < t * 8 → M' 72 k = M 72 k ∧ M' 73 k = M 73 k) ∧ (bro n a F μ t ≠ -1 → M' 60 = M 60) ∧ (bro n a F μ t = -1 → brh n a F (ahd n a F μ t) j = -1 → M' 60 = M 60) ∧ (bro n a F μ t = -1 → brh n a F (ahd n a F μ t) j ≠ -1 → M' 60 10 = (t : Int) ∧ M' 60 11 = brh n a F (ahd n a F μ t) j ∧ M' 60 12 = brk n a F (ahd n a F μ t) (brh n a F (ahd n a F μ t) j).toNat)) (fun j M' => ∀ l3 : PV, pm_Run (d + 3) 38 48 [vA 60, vI (t : Int), vI (j : Int), l3] [] (GF X, M', PTF v) K) (fun j M' hj hI ih l3 => ?_) (fun M' hI l3 => ?_) _ ⟨fun q h1 h2 h3 h4 => by rw [sa_n (by omega)]; exact f1 q (by omega), fun j h1 h2 h3 => by rw [sa_n (by omega), f1 60 (by omega)], by rw [sa_n (by omega)]; exact f2, sa_s, fun h hh => absurd hh (by omega), fun k hk => by rw [sa_n (by omega), sa_n (by omega), f1 72 (by omega), f1 73 (by omega)]; exact ⟨rfl, rfl⟩, fun _ => by rw [sa_n (by omega), f1 60 (by omega)], fun _ _ => by rw [sa_n (by omega), f1 60 (by omega)], fun _ h => absurd rfl h⟩ PU
    · obtain ⟨i1, i2, i3, i4, i5, i6, i7, i8, i9⟩ := hI
      have hC' : isC M' c n a F := isC_fr (fun i hi => i1 _ (by omega) (by omega) (by omega) (by omega)) hC
      have em : mo M' 64 = ahd n a F μ t := (mo_fr (fun i hi => i1 _ (by omega) (by omega) (by omega) (by omega))).trans hμ
      have e2 : M' c 2 = (n 2 : Int) := hC'.1 2 (by omega)
      have e67 : M' 67 j = ahd n a F μ t 3 j := (mo_3 (M := M') (b := 64) (by omega)).trans (by rw [em])
      have ej : ((t : Int) * 8 + (j : Int)).toNat = t * 8 + j := by omega
      rw [r38_48 hc hv (by omega) (by rw [e2]; omega), e2, if_neg (by omega), r38_59 (by omega) (by omega) (by omega) (by omega), r38_79, c61 mo64 (by omega), push_i, r38_97 (by omega) (by omega), ej, Int.toNat_natCast, e67]
      have em2 : mo (pm_sa M' 72 (pm_up (M' 72) (t * 8 + j) (ahd n a F μ t 3 j))) 64 = ahd n a F μ t := by rw [mo_n (by omega), em]
      rw [db_m (by omega), em2]
      obtain ⟨M2, hM2⟩ : ∃ M2, M2 = pm_sa (pm_sa M' 72 (pm_up (M' 72) (t * 8 + j) (ahd n a F μ t 3 j))) 73 (pm_up (pm_sa M' 72 (pm_up (M' 72) (t * 8 + j) (ahd n a F μ t 3 j)) 73) (t * 8 + j) (db (ahd n a F μ t) j)) := ⟨_, rfl⟩
      rw [← hM2]
      have g0 : ∀ q, q ≠ 72 → q ≠ 73 → M2 q = M' q := fun q h1 h2 => by rw [hM2, sa_n h2, sa_n h1]
      have g1 : M2 72 = pm_up (M' 72) (t * 8 + j) (ahd n a F μ t 3 j) := by rw [hM2, sa_n (by omega), sa_s]
      have g2 : M2 73 = pm_up (M' 73) (t * 8 + j) (db (ahd n a F μ t) j) := by rw [hM2, sa_s, sa_n (by omega)]
      have J1 : ∀ q, q ≠ c + 20 → q ≠ c + 21 → q ≠ 60 → (q < 70 ∨ 73 < q) → M2 q = M q := fun q h1 h2 h3 h4 => by rw [g0 q (by omega) (by omega)]; exact i1 q h1 h2 h3 h4
      have J3 : M2 70 = (if t = 0 then cpn (M 62) (M 70) 72 else M 70) := by rw [g0 70 (by omega) (by omega)]; exact i3
      have J4 : M2 71 = pm_cp (M 63) (M 71) 0 (t * 24) 24 := by rw [g0 71 (by omega) (by omega)]; exact i4
      have J5 : ∀ h, h < j + 1 → M2 72 (t * 8 + h) = ahd n a F μ t 3 h ∧ M2 73 (t * 8 + h) = db (ahd n a F μ t) h := fun h hh => by
        rw [g1, g2]
        by_cases q : h = j
        · rw [q, up_s, up_s]; exact ⟨rfl, rfl⟩
        · rw [up_n (by omega), up_n (by omega)]; exact i5 h (by omega)
      have J6 : ∀ k, k < t * 8 → M2 72 k = M 72 k ∧ M2 73 k = M 73 k := fun k hk => by
        rw [g1, g2, up_n (by omega), up_n (by omega)]; exact i6 k hk
      have e60 : M2 60 = M' 60 := g0 60 (by omega) (by omega)
      have hsn : brh n a F (ahd n a F μ t) (j + 1) = if brh n a F (ahd n a F μ t) j = -1 then (if brk n a F (ahd n a F μ t) j = -1 then -1 else (j : Int)) else brh n a F (ahd n a F μ t) j := by
        unfold brh
        rw [fi_sn]
        by_cases q : brk n a F (ahd n a F μ t) j = -1 <;> simp [q]
      have hR : inR (M' 60 10) := by
        by_cases q1 : bro n a F μ t = -1
        · by_cases q2 : brh n a F (ahd n a F μ t) j = -1
          · rw [i8 q1 q2, hE.1]; omega
          · rw [(i9 q1 q2).1]; omega
        · rw [i7 q1, hE.1]; omega
      -- nothing new is written
      have done : (bro n a F μ t ≠ -1 ∨ brh n a F (ahd n a F μ t) j ≠ -1 ∨ brk n a F (ahd n a F μ t) j = -1) → ∀ M3 : PH, (∀ q, q ≠ c + 20 → q ≠ c + 21 → M3 q = M2 q) → ∀ l3 : Int, pm_Run (d + 3) 38 147 [vA 60, vI (t : Int), vI (j : Int), vI l3] [] (GF X, M3, PTF v) K := by
        intro hq M3 f3 l3
        rw [r38_147]
        refine ih M3 ⟨fun q h1 h2 h3 h4 => by rw [f3 q h1 h2]; exact J1 q h1 h2 h3 h4, fun j h1 h2 h3 => by rw [f3 60 (by omega) (by omega), e60]; exact i2 j h1 h2 h3, by rw [f3 70 (by omega) (by omega)]; exact J3, by rw [f3 71 (by omega) (by omega)]; exact J4, by rw [f3 72 (by omega) (by omega), f3 73 (by omega) (by omega)]; exact J5, by rw [f3 72 (by omega) (by omega), f3 73 (by omega) (by omega)]; exact J6, fun z => by rw [f3 60 (by omega) (by omega), e60]; exact i7 z, fun z1 z2 => ?_, fun z1 z2 => ?_⟩ (vI l3)
        · rw [f3 60 (by omega) (by omega), e60]
          rw [hsn] at z2
          by_cases q : brh n a F (ahd n a F μ t) j = -1
          · exact i8 z1 q
          · rw [if_neg q] at z2; exact absurd z2 q
        · rw [f3 60 (by omega) (by omega), e60]
          rw [hsn] at z2 ⊢
          by_cases q : brh n a F (ahd n a F μ t) j = -1
          · rw [if_pos q] at z2
            rcases hq with hq | hq | hq
            · exact absurd z1 hq
            · exact absurd q hq
            · rw [if_pos hq] at z2; exact absurd rfl z2
          · rw [if_neg q] at z2 ⊢; exact i9 z1 q
      rw [r38_98 (by rw [e60]; exact hR), e60]
      by_cases q0 : bro n a F μ t = -1 ∧ brh n a F (ahd n a F μ t) j = -1
      · have e10 : M' 60 10 = -1 := by rw [i8 q0.1 q0.2, hE.1, q0.1]
        rw [if_neg (by rw [e10]; simp), r38_106 hc hv]
        have hC2 : isC M2 c n a F := isC_fr (fun i hi => J1 _ (by omega) (by omega) (by omega) (by omega)) hC
        have em3 : mo M2 64 = ahd n a F μ t := (mo_fr (fun i hi => J1 _ (by omega) (by omega) (by omega) (by omega))).trans hμ
        refine c120 hc ti61 mo64 hC2 hwC em3 hw hj (fun p hp => by rw [show (61 + 2 : Nat) = 63 from rfl, J1 63 (by omega) (by omega) (by omega) (by omega)]; exact hH p hp) (fun M3 f3 => ?_)
        have hbk := brk_r hwC (ν := ahd n a F μ t) (h := j)
        rw [push_i, r38_122, r38_126 (by omega)]
        by_cases q : brk n a F (ahd n a F μ t) j = -1
        · rw [if_pos q]; exact done (Or.inr (Or.inr q)) M3 f3 _
        · rw [if_neg q, r38_132, r38_137, r38_142, r38_147]
          simp only [sa_s, sa_sa]
          refine ih _ ⟨fun q h1 h2 h3 h4 => by rw [sa_n h3, f3 q h1 h2]; exact J1 q h1 h2 h3 h4, fun j h1 h2 h3 => by rw [sa_s, up_n h3, up_n h2, up_n h1, f3 60 (by omega) (by omega), e60]; exact i2 j h1 h2 h3, by rw [sa_n (by omega), f3 70 (by omega) (by omega)]; exact J3, by rw [sa_n (by omega), f3 71 (by omega) (by omega)]; exact J4, by rw [sa_n (by omega), sa_n (by omega), f3 72 (by omega) (by omega), f3 73 (by omega) (by omega)]; exact J5, by rw [sa_n (by omega), sa_n (by omega), f3 72 (by omega) (by omega), f3 73 (by omega) (by omega)]; exact J6, fun z => absurd q0.1 z, fun z1 z2 => ?_, fun z1 z2 => ?_⟩ _
          · rw [hsn, if_pos q0.2, if_neg q] at z2; omega
          · rw [hsn, if_pos q0.2, if_neg q, sa_s, up_n (by omega), up_n (by omega), up_s, up_n (by omega), up_s, up_s, Int.toNat_natCast]; exact ⟨rfl, rfl, rfl⟩
      · have hq0 : bro n a F μ t ≠ -1 ∨ brh n a F (ahd n a F μ t) j ≠ -1 := by omega
        have e10 : M' 60 10 ≠ -1 := by
          by_cases q1 : bro n a F μ t = -1
          · rw [(i9 q1 (by omega)).1]; omega
          · rw [i7 q1, hE.1]; exact q1
        rw [if_pos e10, r38_125, r38_126 (by omega), if_pos rfl]
        exact done (by omega) M2 (fun _ _ _ => rfl) _
    · obtain ⟨i1, i2, i3, i4, i5, i6, i7, i8, i9⟩ := hI
      have hC' : isC M' c n a F := isC_fr (fun i hi => i1 _ (by omega) (by omega) (by omega) (by omega)) hC
      have e2 : M' c 2 = (n 2 : Int) := hC'.1 2 (by omega)
      rw [r38_48 hc hv (by omega) (by rw [e2]; omega), e2, if_pos (by omega), r38_153]
      refine hK M' i1 i2 i3 (fun p hp => by rw [i4]; exact hE1 p hp) (fun k hk => by rw [i4, pm_cp, if_neg (by omega)]) i5 i6 ?_
      have hsn : bro n a F μ (t + 1) = if bro n a F μ t = -1 then (if brh n a F (ahd n a F μ t) (n 2) = -1 then -1 else (t : Int)) else bro n a F μ t := by
        unfold bro
        rw [fi_sn]
        by_cases q : brh n a F (ahd n a F μ t) (n 2) = -1 <;> simp [q]
      unfold brE
      rw [hsn]
      by_cases q1 : bro n a F μ t = -1
      · rw [if_pos q1]
        by_cases q2 : brh n a F (ahd n a F μ t) (n 2) = -1
        · rw [if_pos q2, i8 q1 q2]
          exact ⟨hE.1.trans q1, fun _ => hE.2.1 q1, fun z => absurd rfl z⟩
        · rw [if_neg q2]
          have := i9 q1 q2
          exact ⟨this.1, fun z => absurd z (by omega), fun _ => by rw [Int.toNat_natCast]; exact this.2⟩
      · rw [if_neg q1, i7 q1]
        exact hE
  rw [en38, r38_0 (by omega)]
  by_cases q : t = 0
  · rw [if_neg (by omega), r38_4]
    exact A _ (fun q h => sa_n h) (by rw [sa_s, if_pos q, cpn_e])
  · rw [if_pos (by omega)]
    exact A M (fun _ _ => rfl) (by rw [if_neg q])
end CFC
