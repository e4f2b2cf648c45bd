/-! The reference: the least wish; the best bids. -/
theorem og_i {g : Nat → Int} {e : Nat → Bool} {i0 : Nat} : ∀ {k : Nat}, (∀ i, i < k → e i = true → i = i0) → i0 < k → e i0 = true → og g e k = g i0
  | 0, _, h, _ => by omega
  | k + 1, h1, h2, h3 => by
    rw [og]
    by_cases q : e k = true
    · rw [if_pos q, h1 k (by omega) q]
    · rw [if_neg q]
      have : i0 ≠ k := fun z => q (z ▸ h3)
      exact og_i (fun i hi => h1 i (by omega)) (by omega) h3
theorem og_n {g : Nat → Int} {e : Nat → Bool} : ∀ {k : Nat}, (∀ i, i < k → e i = false) → og g e k = -1000000000
  | 0, _ => rfl
  | k + 1, h => by rw [og, if_neg (by rw [h k (by omega)]; simp)]; exact og_n (fun i hi => h i (by omega))
theorem mx_ge {g : Nat → Int} : ∀ {k i : Nat}, i < k → g i ≤ (mx g k).1
  | 0, _, h => by omega
  | k + 1, i, h => by
    rw [mx]
    by_cases q : (mx g k).1 < g k
    · rw [if_pos q]
      by_cases z : i = k
      · subst z; exact Int.le_refl _
      · have := mx_ge (g := g) (k := k) (i := i) (by omega); show g i ≤ g k; omega
    · rw [if_neg q]
      by_cases z : i = k
      · subst z; omega
      · exact mx_ge (by omega)
theorem mx_at {g : Nat → Int} (hg : ∀ i, -200000 ≤ g i) : ∀ {k : Nat}, 0 < k → (mx g k).2 < k ∧ (mx g k).1 = g (mx g k).2
  | 0, h => by omega
  | k + 1, _ => by
    rw [mx]
    by_cases q : (mx g k).1 < g k
    · rw [if_pos q]; exact ⟨by show k < k + 1; omega, rfl⟩
    · rw [if_neg q]
      cases k with
      | zero => exfalso; apply q; show (-1000000000 : Int) < g 0; have := hg 0; omega
      | succ k => have := mx_at hg (k := k + 1) (by omega); exact ⟨by omega, this.2⟩
/-- rows of bids below five, and their numbers -/
theorem dg_u {n1 i j : Nat} (h : n1 ≤ 3) (hi : i < 5 ^ n1) (hj : j < 5 ^ n1) (he : ∀ m, m < n1 → dg 5 n1 i m = dg 5 n1 j m) : i = j := by
  have : n1 = 0 ∨ n1 = 1 ∨ n1 = 2 ∨ n1 = 3 := by omega
  rcases this with rfl | rfl | rfl | rfl
  · simp at hi hj; omega
  · have e0 := he 0 (by omega); simp [dg] at e0 hi hj; omega
  · have e0 := he 0 (by omega); have e1 := he 1 (by omega); simp [dg] at e0 e1 hi hj; omega
  · have e0 := he 0 (by omega); have e1 := he 1 (by omega); have e2 := he 2 (by omega); simp [dg] at e0 e1 e2 hi hj; omega
theorem dg_x {n1 : Nat} (h : n1 ≤ 3) {f : Nat → Int} (hf : ∀ m, m < n1 → 0 ≤ f m ∧ f m ≤ 4) : ∃ i, i < 5 ^ n1 ∧ ∀ m, m < n1 → dg 5 n1 i m = f m := by
  have : n1 = 0 ∨ n1 = 1 ∨ n1 = 2 ∨ n1 = 3 := by omega
  rcases this with rfl | rfl | rfl | rfl
  · exact ⟨0, by simp, fun m hm => by omega⟩
  · have f0 := hf 0 (by omega)
    refine ⟨(f 0).toNat, by simp; omega, fun m hm => ?_⟩
    have : m = 0 := by omega
    subst this; simp [dg]; omega
  · have f0 := hf 0 (by omega)
    have f1 := hf 1 (by omega)
    refine ⟨5 * (f 0).toNat + (f 1).toNat, by simp; omega, fun m hm => ?_⟩
    have : m = 0 ∨ m = 1 := by omega
    rcases this with rfl | rfl
    · simp [dg]; omega
    · simp [dg]; omega
  · have f0 := hf 0 (by omega)
    have f1 := hf 1 (by omega)
    have f2 := hf 2 (by omega)
    refine ⟨25 * (f 0).toNat + 5 * (f 1).toNat + (f 2).toNat, by simp; omega, fun m hm => ?_⟩
    have : m = 0 ∨ m = 1 ∨ m = 2 := by omega
    rcases this with rfl | rfl | rfl
    · simp [dg]; omega
    · simp [dg]; omega
    · simp [dg]; omega
/-- bids as one number -/
def cod (f : Nat → Int) : Nat → Int
  | 0 => 0
  | m + 1 => 21 * cod f m + f m
theorem cod_b {f : Nat → Int} (hf : ∀ m, 0 ≤ f m ∧ f m ≤ 20) {k : Nat} (h : k ≤ 3) : 0 ≤ cod f k ∧ cod f k ≤ 10000 := by
  have : k = 0 ∨ k = 1 ∨ k = 2 ∨ k = 3 := by omega
  have f0 := hf 0
  have f1 := hf 1
  have f2 := hf 2
  rcases this with rfl | rfl | rfl | rfl <;> simp [cod] <;> omega
theorem cod_i {f g : Nat → Int} (hf : ∀ m, 0 ≤ f m ∧ f m ≤ 20) (hg : ∀ m, 0 ≤ g m ∧ g m ≤ 20) {k : Nat} (h : k ≤ 3) : cod f k = cod g k ↔ ∀ m, m < k → f m = g m := by
  have : k = 0 ∨ k = 1 ∨ k = 2 ∨ k = 3 := by omega
  have f0 := hf 0
  have f1 := hf 1
  have f2 := hf 2
  have g0 := hg 0
  have g1 := hg 1
  have g2 := hg 2
  refine ⟨fun e m hm => ?_, fun e => ?_⟩
  · have hm' : m = 0 ∨ m = 1 ∨ m = 2 := by omega
    rcases this with rfl | rfl | rfl | rfl <;> simp [cod] at e <;> rcases hm' with rfl | rfl | rfl <;> omega
  · rcases this with rfl | rfl | rfl | rfl
    · rfl
    · have := e 0 (by omega); simp [cod]; omega
    · have := e 0 (by omega); have := e 1 (by omega); simp [cod]; omega
    · have := e 0 (by omega); have := e 1 (by omega); have := e 2 (by omega); simp [cod]; omega
section RFg
variable {d b w : Nat} {X : Nat × (Nat → Int)} {v : Nat → Int} {M M' M2 : PH} {K : PV → PS → Prop} {n : Nat → Nat} {a μ ν : PH} {F : Nat → List Int}
theorem c287 (hS : RS M b n a F) (hM : RM M n 0 μ) (hw : wM n μ) {x y z : Int} (hx : inR x) (hy : inR y) (hz : inR z) (hK : ∀ M', fq M M' → K (vI (qWsh n a F μ x y z)) (GF X, M', PTF v)) : pm_Call (d + 8) 287 [vA 234, vI x, vI y, vI z] (GF X, M, PTF v) K := by
  have hwC := hS.2.2
  have hn := hwC.1
  have bad : ¬ (isIx (n 2) x = true ∧ (-999 ≤ y ∧ y ≤ 999) ∧ (z = -1 ∨ isIx (n 1) z = true)) → pm_Run (d + 7) 287 34 [vA 234, vI x, vI y, vI z, PU, PU, PU] [] (GF X, M, PTF v) K := by
    intro q
    rw [r287_34]
    have := hK M fq_r
    rw [qWsh, if_neg q] at this; exact this
  have good : isIx (n 2) x = true ∧ (-999 ≤ y ∧ y ≤ 999) ∧ (z = -1 ∨ isIx (n 1) z = true) → pm_Run (d + 7) 287 36 [vA 234, vI x, vI y, vI z, PU, PU, PU] [] (GF X, M, PTF v) K := by
    intro q
    rw [qWsh, if_pos q] at hK
    obtain ⟨q1, q2, q3⟩ := q
    obtain ⟨h, rfl, hh⟩ := ixN q1
    rw [Int.toNat_natCast] at hK
    have ha := hwC.2.2.1 h hh
    have p11 : (11 : Nat) ^ n 1 ≤ 1331 := Nat.le_trans (Nat.pow_le_pow_right (by omega) (show n 1 ≤ 3 by omega)) (by decide)
    have main : ∀ k j, j + k = 11 ^ n 1 → ∀ (Mx : PH) (best : Int) (l6 : PV) (tr : Nat → Int), fq M Mx → RM Mx n 1 (setb μ h tr) → (((wl n a F μ h y j).1 = 31 → best = -1) ∧ ((wl n a F μ h y j).1 ≠ 31 → best = (wl n a F μ h y j).1 ∧ ∀ m, m < n 1 → Mx 278 m = dg 11 (n 1) (wl n a F μ h y j).2 m)) → pm_Run (d + 7) 287 48 [vA 234, vI (h : Int), vI y, vI z, vI best, vI (j : Int), l6] [] (GF X, Mx, PTF v) K := by
      intro k
      induction k with
      | zero =>
        intro j hj Mx best l6 tr fx rx hb
        have hSx := RS_q fx hS
        have wb := wl_b (n := n) (a := a) (F := F) (μ := μ) (h := h) (H := y) (i := j)
        have kk := hK Mx fx
        rw [← show j = 11 ^ n 1 by omega] at kk
        rw [r287_48]
        refine (c285 (C := 11) hSx).mpr ?_
        rw [push_i, r287_56 (by omega) (by omega), if_pos (by omega)]
        by_cases w31 : (wl n a F μ h y j).1 = 31
        · rw [if_pos w31] at kk
          rw [hb.1 w31, r287_125 (by omega), if_pos rfl, r287_136, r287_147]; exact kk
        · rw [if_neg w31] at kk
          obtain ⟨e1, e2⟩ := hb.2 w31
          rw [e1, r287_125 (by omega), if_neg (by omega), r287_131 hz]
          by_cases z1 : z = -1
          · rw [if_pos z1] at kk
            rw [if_neg (by simpa using z1), r287_136, r287_147]; exact kk
          · rw [if_neg z1] at kk
            obtain ⟨m, rfl, hm⟩ := ixN (q3.resolve_left z1)
            rw [Int.toNat_natCast] at kk
            rw [if_pos z1, r287_141 (by omega) (by omega), r287_147, Int.toNat_natCast, e2 m hm]; exact kk
      | succ k ih =>
        intro j hj Mx best l6 tr fx rx hb
        have hSx := RS_q fx hS
        have wb := wl_b (n := n) (a := a) (F := F) (μ := μ) (h := h) (H := y) (i := j)
        have sb := sdg_b (B := 11) (n1 := n 1) (i := j) (by omega)
        rw [r287_48]
        refine (c285 (C := 11) hSx).mpr ?_
        rw [push_i, r287_56 (by omega) (by omega), if_neg (by omega), r287_59]
        refine c284 (w := 1) (C := 11) (row := j) hSx rx hh (by omega) (by omega) (by omega) (fun My fy h7 gy ry => ?_)
        rw [setb_2] at ry
        have f2 := fq_t fx (fw_q fy)
        have hSy := RS_q f2 hS
        have bb : inR best := by
          by_cases w31 : (wl n a F μ h y j).1 = 31
          · have := hb.1 w31; omega
          · have := (hb.2 w31).1; omega
        have b8 : My 278 = Mx 278 := gy 278 (by omega)
        -- the row is passed over
        have skip : ∀ Mz, fq M Mz → RM Mz n 1 (setb μ h (dg 11 (n 1) j)) → Mz 278 = Mx 278 → ¬ (sdg 11 (n 1) j < (wl n a F μ h y j).1 ∧ y ≤ thh n a F μ h 11 j) → pm_Run (d + 7) 287 119 [vA 234, vI (h : Int), vI y, vI z, vI best, vI (j : Int), vI (sdg 11 (n 1) j)] [] (GF X, Mz, PTF v) K := by
          intro Mz fz rz e8 q
          rw [r287_119]
          refine ih (j + 1) (by omega) Mz best _ (dg 11 (n 1) j) fz rz ?_
          rw [wl, if_neg q, e8]; exact hb
        have go : sdg 11 (n 1) j < (wl n a F μ h y j).1 → pm_Run (d + 7) 287 87 [vA 234, vI (h : Int), vI y, vI z, vI best, vI (j : Int), vI (sdg 11 (n 1) j)] [] (GF X, My, PTF v) K := by
          intro qs
          rw [r287_87]
          refine c255 (w := 1) hSy ry (wN_i (wM_dg hw hh (by omega) (by omega))) (by omega) (fun Mz fz hz => ?_)
          have f3 := fq_t f2 (fw_q (fh_w fz))
          have hSz := RS_q f3 hS
          have e := hz (a 2 h).toNat (by omega)
          have tb := hts_b (μ := setb μ h (dg 11 (n 1) j)) (p := (a 2 h).toNat) hwC
          rw [push_u, r287_92, c230 hSz.1 hwC hh, push_i, r287_101 (by omega) (by omega) (by rw [e]; omega) hy, e]
          by_cases q : y ≤ hts n F (setb μ h (dg 11 (n 1) j)) (a 2 h).toNat
          · rw [if_pos q, r287_109]
            refine c286 (w := 1) hSz (RM_h fz ry) hh (fun Mu fu hu => ?_)
            rw [push_u, r287_119]
            have rz : RM Mu n 1 (setb μ h (dg 11 (n 1) j)) := RM_f (fun q z1 z2 => fu q (by omega)) (RM_h fz ry)
            refine ih (j + 1) (by omega) Mu (sdg 11 (n 1) j) _ (dg 11 (n 1) j) (fq_t f3 (fq_8 (fun q z1 z2 => fu q z1))) rz ?_
            rw [wl, if_pos ⟨qs, q⟩]
            refine ⟨fun z => by have z' : sdg 11 (n 1) j = 31 := z; omega, fun _ => ⟨rfl, fun m hm => ?_⟩⟩
            rw [hu m hm, setb_4 (by omega), if_pos rfl]
          · rw [if_neg q, r287_106]
            exact skip Mz f3 (RM_h fz ry) ((fz.1 278 (by omega) (by omega) (by omega)).trans b8) (fun z => q z.2)
        rw [push_i, r287_69 bb]
        by_cases w31 : (wl n a F μ h y j).1 = 31
        · rw [if_pos (hb.1 w31)]
          exact go (by omega)
        · have e1 := (hb.2 w31).1
          rw [if_neg (by omega), r287_77 (by omega) bb]
          by_cases qs : sdg 11 (n 1) j < best
          · rw [if_pos qs]; exact go (by omega)
          · rw [if_neg qs, r287_84]
            exact skip My f2 ry b8 (fun z => by have := z.1; omega)
    rw [r287_36]
    refine (c232 (t := 1) (s := 0) (by omega) (by omega) (by omega)).mpr ?_
    rw [push_u, r287_42]
    have r0 := lcp_R (M := M) (t := 1) (s := 0) (by omega) (by omega) (by omega) hM
    have es : setb μ h (fun m => μ 4 (h * 3 + m)) = μ := by
      unfold setb
      refine sa_id ?_
      funext k
      unfold pm_cp
      by_cases q : h * 3 ≤ k ∧ k < h * 3 + 3
      · rw [if_pos q]
        show μ 4 (h * 3 + (0 + (k - h * 3))) = μ 4 k
        rw [show h * 3 + (0 + (k - h * 3)) = k by omega]
      · rw [if_neg q]
    exact main (11 ^ n 1) 0 (by omega) _ (-1) PU (fun m => μ 4 (h * 3 + m)) (fw_q lcp_w) (by rw [es]; exact r0) ⟨fun _ => rfl, fun z => absurd rfl z⟩
  by_cases q : isIx (n 2) x = true
  · by_cases q1 : -999 ≤ y ∧ y ≤ 999
    · by_cases q2 : z = -1
      · rw [en287, r287_0, c229t hS hx q, push_i, r287_5 (by omega), if_neg (by omega), r287_8, c179t hy (by omega) (by omega) q1, push_i, r287_18 (by omega), if_neg (by omega), r287_21 hz, if_pos q2]
        exact good ⟨q, q1, Or.inl q2⟩
      · by_cases q3 : isIx (n 1) z = true
        · rw [en287, r287_0, c229t hS hx q, push_i, r287_5 (by omega), if_neg (by omega), r287_8, c179t hy (by omega) (by omega) q1, push_i, r287_18 (by omega), if_neg (by omega), r287_21 hz, if_neg q2, r287_26, c228t hS hz q3, push_i, r287_31 (by omega), if_pos (by omega)]
          exact good ⟨q, q1, Or.inr q3⟩
        · rw [en287, r287_0, c229t hS hx q, push_i, r287_5 (by omega), if_neg (by omega), r287_8, c179t hy (by omega) (by omega) q1, push_i, r287_18 (by omega), if_neg (by omega), r287_21 hz, if_neg q2, r287_26, c228f hS hz q3, push_i, r287_31 (by omega), if_neg (by simp)]
          exact bad (fun z => z.2.2.elim q2 q3)
    · rw [en287, r287_0, c229t hS hx q, push_i, r287_5 (by omega), if_neg (by omega), r287_8, c179f hy (by omega) (by omega) q1, push_i, r287_18 (by omega), if_pos (by omega)]
      exact bad (fun z => q1 z.2.1)
  · rw [en287, r287_0, c229f hS hx q, push_i, r287_5 (by omega), if_pos (by omega)]
    exact bad (fun z => q z.1)
end RFg
