/-! The reference: the rest. -/
section RFi
variable {d b w : Nat} {X : Nat × (Nat → Int)} {v : Nat → Int} {M M' M2 : PH} {K : PV → PS → Prop} {n : Nat → Nat} {a μ ν : PH} {F : Nat → List Int}
theorem setb_own {h : Nat} : setb μ h (fun m => μ 4 (h * 3 + m)) = μ := by
  unfold setb
  refine sa_id ?_
  funext k
  unfold pm_cp
  by_cases q : h * 3 ≤ k ∧ k < h * 3 + 3
  · rw [if_pos q]
    show μ 4 (h * 3 + (0 + (k - h * 3))) = μ 4 k
    rw [show h * 3 + (0 + (k - h * 3)) = k by omega]
  · rw [if_neg q]
theorem bst_s {h j : Nat} : bst n a F ν h (j + 1) = (if bst n a F ν h j < gain n a F ν h j then gain n a F ν h j else bst n a F ν h j) ∧ ∀ m, bsr n a F ν h (j + 1) m = if bst n a F ν h j < gain n a F ν h j then dg 5 (n 1) j m else bsr n a F ν h j m := by
  unfold bst bsr
  rw [mx]
  generalize b0 n a F ν h = B
  generalize gain n a F ν h j = g
  generalize mx (gain n a F ν h) j = p
  by_cases q1 : p.1 < g
  · rw [if_pos q1]
    by_cases q2 : B < g
    · by_cases q3 : B < p.1
      · exact ⟨by simp [q1, q2, q3], fun m => by simp [q1, q2, q3]⟩
      · exact ⟨by simp [q2, q3], fun m => by simp [q2, q3]⟩
    · have q3 : ¬ B < p.1 := by omega
      exact ⟨by simp [q2, q3], fun m => by simp [q2, q3]⟩
  · rw [if_neg q1]
    by_cases q3 : B < p.1
    · exact ⟨by simp [q1, q3], fun m => by simp [q1, q3]⟩
    · have q2 : ¬ B < g := by omega
      exact ⟨by simp [q2, q3], fun m => by simp [q2, q3]⟩
theorem bst_b (hw : wM n ν) (hwC : wC n a F) {h j : Nat} (hh : h < n 2) : -1000000000 ≤ bst n a F ν h j ∧ bst n a F ν h j ≤ 200000 := by
  have h1 := mx_b (g := gain n a F ν h) (fun i => gainB hwC i) (k := j)
  have hn := hwC.1
  have h2 := hts_b (μ := ν) (p := (a 2 h).toNat) hwC
  have h3 := bb_b hw (k := h) (by omega)
  have hb : -1000000000 ≤ b0 n a F ν h ∧ b0 n a F ν h ≤ 200000 := by
    by_cases q : low n ν h = true
    · rw [b0, if_pos q]; omega
    · rw [b0, if_neg q]; omega
  by_cases q : b0 n a F ν h < (mx (gain n a F ν h) j).1
  · rw [bst, if_pos q]; exact h1
  · rw [bst, if_neg q]; exact hb
theorem c290 (hS : RS M b n a F) (hM : RM M n 1 ν) (hw : wM n ν) {h : Nat} (hh : h < n 2) (hK : ∀ M', fq M M' → RM M' n 1 (tks n a F h ν) → K (vI (if mvs n a F ν h = true then 1 else 0)) (GF X, M', PTF v)) : pm_Call (d + 8) 290 [vA 234, vI (h : Int)] (GF X, M, PTF v) K := by
  have hwC := hS.2.2
  have hn := hwC.1
  have ha := hwC.2.2.1 h hh
  obtain ⟨⟨hb, e13⟩, ⟨-, e1, -⟩, -⟩ := id hS.1
  have en : M 237 (M 234 13).toNat = (n 1 : Int) := by rw [e13, Int.toNat_natCast, e1]
  have p5 : (5 : Nat) ^ n 1 ≤ 125 := Nat.le_trans (Nat.pow_le_pow_right (by omega) (show n 1 ≤ 3 by omega)) (by decide)
  have fo : ∀ m, 0 ≤ ν 4 (h * 3 + m) ∧ ν 4 (h * 3 + m) ≤ 20 ∨ 3 ≤ m := fun m => by
    by_cases q : m < 3
    · have := hw.2.2.2.2.1 (h * 3 + m) (by omega); exact Or.inl ⟨this.1, this.2.1⟩
    · exact Or.inr (by omega)
  generalize hOW : cod (fun m => ν 4 (h * 3 + m)) (n 1) = OW
  have ob : 0 ≤ OW ∧ OW ≤ 10000 := by
    have := cod_b (f := fun m => if m < 3 then ν 4 (h * 3 + m) else 0) (fun m => by
      show 0 ≤ (if m < 3 then ν 4 (h * 3 + m) else 0) ∧ (if m < 3 then ν 4 (h * 3 + m) else 0) ≤ 20
      by_cases q : m < 3
      · rw [if_pos q]; have := fo m; omega
      · rw [if_neg q]; omega) (k := n 1) (by omega)
    rw [← hOW]
    have e : ∀ k, k ≤ 3 → cod (fun m => ν 4 (h * 3 + m)) k = cod (fun m => if m < 3 then ν 4 (h * 3 + m) else 0) k := by
      intro k
      induction k with
      | zero => intro _; rfl
      | succ k ih => intro hk; rw [cod, cod, ih (by omega), if_pos (by omega)]
    rw [e _ (by omega)]; exact this
  -- the bids that were best are put down
  have fin : ∀ (Mx : PH) (l3 l4 : Int) (tr : Nat → Int), fq M Mx → RM Mx n 1 (setb ν h tr) → (∀ m, m < n 1 → Mx 278 m = bsr n a F ν h (5 ^ n 1) m) → pm_Run (d + 7) 290 139 [vA 234, vI (h : Int), vI OW, vI l3, vI l4, vI 0, vI 0] [] (GF X, Mx, PTF v) K := by
    intro Mx l3 l4 tr fx rx hx
    have brb : ∀ m, m < n 1 → 0 ≤ bsr n a F ν h (5 ^ n 1) m ∧ bsr n a F ν h (5 ^ n 1) m ≤ 20 := fun m hm => by
      unfold bsr; split
      · have := dg_b (n1 := n 1) (i := (mx (gain n a F ν h) (5 ^ n 1)).2) (m := m) (show 0 < 5 by omega); omega
      · have := fo m; omega
    have main : ∀ k j, j + k = n 1 → ∀ My, (∀ q, q ≠ 274 → My q = Mx q) → (∀ i, i < 24 + 3 * h ∨ 24 + 3 * h + n 1 ≤ i → My 274 i = Mx 274 i) → (∀ m, m < j → My 274 (24 + 3 * h + m) = bsr n a F ν h (5 ^ n 1) m) → pm_Run (d + 7) 290 139 [vA 234, vI (h : Int), vI OW, vI l3, vI l4, vI (cod (bsr n a F ν h (5 ^ n 1)) j), vI (j : Int)] [] (GF X, My, PTF v) K := by
      intro k
      induction k with
      | zero =>
        intro j hj My fy gy hy
        have e13y : My 234 13 = (b : Int) := by rw [fy 234 (by omega), fx.2.1 13 (by omega)]; exact e13
        have eny : My 237 (My 234 13).toNat = (n 1 : Int) := by rw [e13y, Int.toNat_natCast, fy 237 (by omega), fx.1 237 (by omega) (by omega)]; exact e1
        have f2 : fq M My := by
          refine fq_t fx ⟨fun q z1 z2 => fy q (by omega), fun j _ => by rw [fy 234 (by omega)], fun k _ => by rw [fy 270 (by omega)], fun k _ => ?_, fun k _ => by rw [fy 273 (by omega)], fun k z => ?_⟩
          · rw [fy 271 (by omega), fy 272 (by omega)]; exact ⟨rfl, rfl⟩
          · rw [fy 275 (by omega)]; exact ⟨gy k (by omega), rfl⟩
        have rr : ∀ ν' : PH, (∀ i, i ≠ 4 → ν' i = ν i) → (∀ h' m, h' ≠ h → m < 3 → ν' 4 (h' * 3 + m) = ν 4 (h' * 3 + m)) → (∀ m, m < n 1 → ν' 4 (h * 3 + m) = bsr n a F ν h (5 ^ n 1) m) → RM My n 1 ν' := by
          intro ν' v1 v2 v3
          obtain ⟨m0, m1, m2, m3, m4⟩ := rx
          refine ⟨m0, ?_, fun m hm => ?_, fun h' hh' => ?_, fun h' m hh' hm => ?_⟩
          · rw [fy 270 (by omega), v1 0 (by omega)]; rw [setb_i (by omega)] at m1; exact m1
          · rw [fy 271 (by omega), fy 272 (by omega), v1 1 (by omega), v1 2 (by omega)]
            have := m2 m hm
            rw [setb_i (by omega), setb_i (by omega)] at this; exact this
          · rw [fy 273 (by omega), v1 3 (by omega)]
            have := m3 h' hh'
            rw [setb_i (by omega)] at this; exact this
          · have := m4 h' m hh' hm
            rw [setb_i (i := 5) (by omega), setb_4 (by omega)] at this
            rw [fy 275 (by omega), v1 5 (by omega)]
            refine ⟨?_, this.2⟩
            by_cases q : h' = h
            · subst q; rw [v3 m hm]; exact hy m (by omega)
            · rw [v2 h' m q (by omega), gy _ (by omega)]
              rw [if_neg q] at this; exact this.1
        obtain ⟨t1, t2⟩ := tkb hw hwC hh
        have cb : 0 ≤ cod (bsr n a F ν h (5 ^ n 1)) j ∧ cod (bsr n a F ν h (5 ^ n 1)) j ≤ 10000 := by
          have b0' : ∀ m, m < n 1 → _ := brb
          have : j = 0 ∨ j = 1 ∨ j = 2 ∨ j = 3 := by omega
          rcases this with rfl | rfl | rfl | rfl
          · simp [cod]
          · have := brb 0 (by omega); simp [cod]; omega
          · have := brb 0 (by omega); have := brb 1 (by omega); simp [cod]; omega
          · have := brb 0 (by omega); have := brb 1 (by omega); have := brb 2 (by omega); simp [cod]; omega
        rw [r290_139 (by omega) (by omega) (by omega) (by rw [eny]; omega), eny, if_pos (by omega), r290_195 (by omega) (by omega)]
        have ci : cod (bsr n a F ν h (5 ^ n 1)) j = OW ↔ ∀ m, m < n 1 → bsr n a F ν h (5 ^ n 1) m = ν 4 (h * 3 + m) := by
          rw [← hOW, show j = n 1 by omega]
          have hf : ∀ k, k ≤ n 1 → cod (bsr n a F ν h (5 ^ n 1)) k = cod (fun m => if m < n 1 then bsr n a F ν h (5 ^ n 1) m else 0) k ∧ cod (fun m => ν 4 (h * 3 + m)) k = cod (fun m => if m < n 1 then ν 4 (h * 3 + m) else 0) k := by
            intro k
            induction k with
            | zero => intro _; exact ⟨rfl, rfl⟩
            | succ k ih => intro hk; obtain ⟨i1, i2⟩ := ih (by omega); rw [cod, cod, cod, cod, i1, i2, if_pos (by omega), if_pos (by omega)]; exact ⟨rfl, rfl⟩
          obtain ⟨i1, i2⟩ := hf (n 1) (Nat.le_refl _)
          rw [i1, i2, cod_i (fun m => ?_) (fun m => ?_) (by omega)]
          · exact ⟨fun z m hm => by have := z m hm; rw [if_pos hm, if_pos hm] at this; exact this, fun z m hm => by rw [if_pos hm, if_pos hm]; exact z m hm⟩
          · show 0 ≤ (if m < n 1 then bsr n a F ν h (5 ^ n 1) m else 0) ∧ (if m < n 1 then bsr n a F ν h (5 ^ n 1) m else 0) ≤ 20
            by_cases q : m < n 1
            · rw [if_pos q]; exact brb m q
            · rw [if_neg q]; omega
          · show 0 ≤ (if m < n 1 then ν 4 (h * 3 + m) else 0) ∧ (if m < n 1 then ν 4 (h * 3 + m) else 0) ≤ 20
            by_cases q : m < n 1
            · rw [if_pos q]; have := fo m; omega
            · rw [if_neg q]; omega
        by_cases q : b0 n a F ν h < (mx (gain n a F ν h) (5 ^ n 1)).1
        · have eb : ∀ m, bsr n a F ν h (5 ^ n 1) m = dg 5 (n 1) (mx (gain n a F ν h) (5 ^ n 1)).2 m := fun m => by rw [bsr, if_pos q]
          have mv := t1.mpr q
          rw [if_neg (fun z => t2 q (fun m hm => by rw [← eb]; exact ci.mp z m hm)), r290_201, r290_206 (by simp)]
          have kk := hK My f2 (rr _ (fun i hi => by rw [tks, if_pos mv, setb_i hi]) (fun h' m z1 z2 => by rw [tks, if_pos mv, setb_4 z2, if_neg z1]) (fun m hm => by rw [tks, if_pos mv, setb_4 (by omega), if_pos rfl, eb]))
          rw [if_pos mv] at kk; exact kk
        · have eb : ∀ m, bsr n a F ν h (5 ^ n 1) m = ν 4 (h * 3 + m) := fun m => by rw [bsr, if_neg q]
          have mv : ¬ mvs n a F ν h = true := fun z => q (t1.mp z)
          rw [if_pos (ci.mpr (fun m _ => eb m)), r290_205, r290_206 (by simp)]
          have kk := hK My f2 (rr _ (fun i hi => by rw [tks, if_neg mv]) (fun h' m z1 z2 => by rw [tks, if_neg mv]) (fun m hm => by rw [tks, if_neg mv, eb]))
          rw [if_neg mv] at kk; exact kk
      | succ k ih =>
        intro j hj My fy gy hy
        have e13y : My 234 13 = (b : Int) := by rw [fy 234 (by omega), fx.2.1 13 (by omega)]; exact e13
        have eny : My 237 (My 234 13).toNat = (n 1 : Int) := by rw [e13y, Int.toNat_natCast, fy 237 (by omega), fx.1 237 (by omega) (by omega)]; exact e1
        have ix : (24 + 3 * (h : Int) + (j : Int)).toNat = 24 + 3 * h + j := by omega
        have e8 : My 278 j = bsr n a F ν h (5 ^ n 1) j := by rw [fy 278 (by omega)]; exact hx j (by omega)
        rw [r290_139 (by omega) (by omega) (by omega) (by rw [eny]; omega), eny, if_neg (by omega), r290_153 (by omega) (by omega) (by omega) (by omega), r290_174 (by omega) (by omega), ix, Int.toNat_natCast, e8, sa_n (by omega), e8]
        refine ih (j + 1) (by omega) _ (fun q z => by rw [sa_n z]; exact fy q z) (fun i hi => by rw [sa_s, up_n (by omega)]; exact gy i hi) (fun m hm => ?_)
        rw [sa_s]
        by_cases q : m = j
        · subst q; rw [up_s]
        · rw [up_n (by omega)]; exact hy m (by omega)
    exact main (n 1) 0 (by omega) Mx (fun _ _ => rfl) (fun _ _ => rfl) (fun m hm => by omega)
  -- the rows, one after the other
  have lp : ∀ k j, j + k = 5 ^ n 1 → ∀ (Mx : PH) (l3 : Int) (l6 : PV) (tr : Nat → Int), fq M Mx → RM Mx n 1 (setb ν h tr) → (∀ m, m < n 1 → Mx 278 m = bsr n a F ν h j m) → pm_Run (d + 7) 290 79 [vA 234, vI (h : Int), vI OW, vI l3, vI (bst n a F ν h j), vI (j : Int), l6] [] (GF X, Mx, PTF v) K := by
    intro k
    induction k with
    | zero =>
      intro j hj Mx l3 l6 tr fx rx hx
      have hSx := RS_q fx hS
      rw [r290_79]
      refine (c285 (C := 5) hSx).mpr ?_
      rw [push_i, r290_86 (by omega) (by omega), if_pos (by omega), r290_133]
      rw [show j = 5 ^ n 1 by omega] at hx
      exact fin Mx l3 _ tr fx rx hx
    | succ k ih =>
      intro j hj Mx l3 l6 tr fx rx hx
      have hSx := RS_q fx hS
      have bbd := bst_b (j := j) hw hwC hh
      have gb := gainB (ν := ν) (h := h) hwC j
      rw [r290_79]
      refine (c285 (C := 5) hSx).mpr ?_
      rw [push_i, r290_86 (by omega) (by omega), if_neg (by omega), r290_89]
      refine c284 (w := 1) (C := 5) (row := j) hSx rx hh (by omega) (by omega) (by omega) (fun My fy h7 gy ry => ?_)
      rw [setb_2] at ry
      have f2 := fq_t fx (fw_q fy)
      rw [push_i, r290_98]
      refine c288 (w := 1) (RS_q f2 hS) ry (wM_dg hw hh (by omega) (by omega)) hh (fun Mz fz => ?_)
      have eg : hts n F (setb ν h (dg 5 (n 1) j)) (a 2 h).toNat - bb (setb ν h (dg 5 (n 1) j)) h = gain n a F ν h j := by rw [bb_setb]; rfl
      have f3 := fq_t f2 (fw_q (fh_w fz))
      have e8 : Mz 278 = Mx 278 := (fz.1 278 (by omega) (by omega) (by omega)).trans (gy 278 (by omega))
      obtain ⟨s1, s2⟩ := bst_s (n := n) (a := a) (F := F) (ν := ν) (h := h) (j := j)
      rw [eg, push_i, r290_105 (by omega) (by omega)]
      by_cases q : bst n a F ν h j < gain n a F ν h j
      · rw [if_pos q] at s1
        rw [if_pos q, r290_117]
        refine c286 (w := 1) (RS_q f3 hS) (RM_h fz ry) hh (fun Mu fu hu => ?_)
        rw [push_u, r290_127, ← s1]
        refine ih (j + 1) (by omega) Mu l3 _ (dg 5 (n 1) j) (fq_t f3 (fq_8 (fun q z1 z2 => fu q z1))) (RM_f (fun q z1 z2 => fu q (by omega)) (RM_h fz ry)) (fun m hm => ?_)
        rw [hu m hm, setb_4 (by omega), if_pos rfl, s2, if_pos q]
      · rw [if_neg q] at s1
        rw [if_neg q, r290_114, r290_127]
        have := ih (j + 1) (by omega) Mz l3 (vI (gain n a F ν h j)) (dg 5 (n 1) j) f3 (RM_h fz ry) (fun m hm => by rw [e8, hx m hm, s2, if_neg q])
        rw [s1] at this; exact this
  have bst0 : bst n a F ν h 0 = b0 n a F ν h ∧ ∀ m, bsr n a F ν h 0 m = ν 4 (h * 3 + m) := by
    have h2 := hts_b (μ := ν) (p := (a 2 h).toNat) hwC
    have h3 := bb_b hw (k := h) (by omega)
    have q : ¬ b0 n a F ν h < (mx (gain n a F ν h) 0).1 := by
      show ¬ b0 n a F ν h < -1000000000
      unfold b0; split <;> omega
    exact ⟨by rw [bst, if_neg q], fun m => by rw [bsr, if_neg q]⟩
  have beg : ∀ (Mx : PH) (l3 l4 : Int), fh M Mx → pm_Run (d + 7) 290 68 [vA 234, vI (h : Int), vI OW, vI l3, vI l4, PU, PU] [vI (b0 n a F ν h)] (GF X, Mx, PTF v) K := by
    intro Mx l3 l4 fx
    have hSx := RS_w (w := 1) (fh_w fx) hS
    rw [r290_68]
    refine c286 (w := 1) hSx (RM_h fx hM) hh (fun Mu fu hu => ?_)
    rw [push_u, r290_76, ← bst0.1]
    refine lp (5 ^ n 1) 0 (by omega) Mu l3 PU (fun m => ν 4 (h * 3 + m)) (fq_t (fw_q (fh_w fx)) (fq_8 (fun q z1 z2 => fu q z1))) ?_ (fun m hm => by rw [hu m hm, bst0.2])
    rw [setb_own]; exact RM_f (fun q z1 z2 => fu q (by omega)) (RM_h fx hM)
  rw [en290, r290_0]
  refine (c289 (w := 1) hS hM hw hh).mpr ?_
  rw [push_i, r290_8]
  refine (loopN (fun j => pm_Run (d + 7) 290 12 [vA 234, vI (h : Int), vI (cod (fun m => ν 4 (h * 3 + m)) j), vI (if low n ν h = true then 1 else 0), vI (j : Int), PU, PU] [] (GF X, M, PTF v) K) (n 1) (fun j hj => ?_)).mpr ?_
  · have ix : (24 + 3 * (h : Int) + (j : Int)).toNat = 24 * 1 + 3 * h + j := by omega
    rw [r290_12 (by omega) (by omega) (by omega) (by rw [en]; omega), en, if_neg (by omega), r290_26 (by omega) (by omega), ix, (hM.2.2.2.2 h j hh (by omega)).1]; exact Iff.rfl
  · rw [r290_12 (by omega) (by omega) (by omega) (by rw [en]; omega), en, if_pos (by omega), hOW, r290_52 i01]
    by_cases q : low n ν h = true
    · rw [if_pos q, if_neg (by omega), r290_56]
      refine c288 (w := 1) hS hM hw hh (fun M1 f1 => ?_)
      have e0 : b0 n a F ν h = hts n F ν (a 2 h).toNat - bb ν h := by rw [b0, if_pos q]
      rw [push_i, r290_62, ← e0]
      exact beg M1 _ _ f1
    · have e0 : b0 n a F ν h = -1000000000 := by rw [b0, if_neg q]
      rw [if_neg q, if_pos rfl, r290_65, ← e0]
      exact beg M _ _ fh_r
end RFi
