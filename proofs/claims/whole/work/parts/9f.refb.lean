/-! The reference: guards; sums and rows that are told. -/
section RFb
variable {d b w : Nat} {X : Nat × (Nat → Int)} {v : Nat → Int} {M M' M2 : PH} {K : PV → PS → Prop} {n : Nat → Nat} {a μ : PH} {F : Nat → List Int} {A : Nat} {sd : Int}
theorem c179t {x y z : Int} (hx : inR x) (hy : inR y) (hz : inR z) (h : y ≤ x ∧ x ≤ z) : pm_Call (d + 1) 179 [vI x, vI y, vI z] (GF X, M, PTF v) K ↔ K (vI 1) (GF X, M, PTF v) := by
  rw [c179 hx hy hz, if_pos (by simpa using h)]
theorem c179f {x y z : Int} (hx : inR x) (hy : inR y) (hz : inR z) (h : ¬ (y ≤ x ∧ x ≤ z)) : pm_Call (d + 1) 179 [vI x, vI y, vI z] (GF X, M, PTF v) K ↔ K (vI 0) (GF X, M, PTF v) := by
  rw [c179 hx hy hz, if_neg (by simpa using h)]
theorem c226t (hS : RS M b n a F) (h : 0 < n 0) : pm_Call (d + 1) 226 [vA 234] (GF X, M, PTF v) K ↔ K (vI 1) (GF X, M, PTF v) := by
  rw [c226 hS.1 hS.2.2, if_pos (by simpa using h)]
theorem c226f (hS : RS M b n a F) (h : ¬ 0 < n 0) : pm_Call (d + 1) 226 [vA 234] (GF X, M, PTF v) K ↔ K (vI 0) (GF X, M, PTF v) := by
  rw [c226 hS.1 hS.2.2, if_neg (by simpa using h)]
theorem c227t (hS : RS M b n a F) {x : Int} (hx : inR x) (h : isIx (n 0) x = true) : pm_Call (d + 1) 227 [vA 234, vI x] (GF X, M, PTF v) K ↔ K (vI 1) (GF X, M, PTF v) := by
  rw [c227 hS.1 hS.2.2 hx, if_pos h]
theorem c227f (hS : RS M b n a F) {x : Int} (hx : inR x) (h : ¬ isIx (n 0) x = true) : pm_Call (d + 1) 227 [vA 234, vI x] (GF X, M, PTF v) K ↔ K (vI 0) (GF X, M, PTF v) := by
  rw [c227 hS.1 hS.2.2 hx, if_neg h]
theorem c228t (hS : RS M b n a F) {x : Int} (hx : inR x) (h : isIx (n 1) x = true) : pm_Call (d + 1) 228 [vA 234, vI x] (GF X, M, PTF v) K ↔ K (vI 1) (GF X, M, PTF v) := by
  rw [c228 hS.1 hS.2.2 hx, if_pos h]
theorem c228f (hS : RS M b n a F) {x : Int} (hx : inR x) (h : ¬ isIx (n 1) x = true) : pm_Call (d + 1) 228 [vA 234, vI x] (GF X, M, PTF v) K ↔ K (vI 0) (GF X, M, PTF v) := by
  rw [c228 hS.1 hS.2.2 hx, if_neg h]
theorem c229t (hS : RS M b n a F) {x : Int} (hx : inR x) (h : isIx (n 2) x = true) : pm_Call (d + 1) 229 [vA 234, vI x] (GF X, M, PTF v) K ↔ K (vI 1) (GF X, M, PTF v) := by
  rw [c229 hS.1 hS.2.2 hx, if_pos h]
theorem c229f (hS : RS M b n a F) {x : Int} (hx : inR x) (h : ¬ isIx (n 2) x = true) : pm_Call (d + 1) 229 [vA 234, vI x] (GF X, M, PTF v) K ↔ K (vI 0) (GF X, M, PTF v) := by
  rw [c229 hS.1 hS.2.2 hx, if_neg h]
theorem c259t (hS : RS M b n a F) (hM : RM M n 0 μ) (hw : wM n μ) {x : Int} (hx : inR x) (h : isT n μ x = true) : pm_Call (d + 2) 259 [vA 234, vI x] (GF X, M, PTF v) K ↔ K (vI 1) (GF X, M, PTF v) := by
  rw [c259 hS hM.2.1 hw hx, if_pos h]
theorem c259f (hS : RS M b n a F) (hM : RM M n 0 μ) (hw : wM n μ) {x : Int} (hx : inR x) (h : ¬ isT n μ x = true) : pm_Call (d + 2) 259 [vA 234, vI x] (GF X, M, PTF v) K ↔ K (vI 0) (GF X, M, PTF v) := by
  rw [c259 hS hM.2.1 hw hx, if_neg h]
theorem isT_n {t : Int} (h : isT n μ t = true) : ∃ k : Nat, t = (k : Int) ∧ k ≤ lst μ ∧ 0 < n 0 := by
  rw [isT] at h
  have h := of_decide_eq_true h
  obtain ⟨k, hk⟩ := Int.eq_ofNat_of_zero_le h.2.1
  exact ⟨k, hk, by omega, h.1⟩
theorem c261 (hS : RS M b n a F) (hM : RM M n 0 μ) (hw : wM n μ) (hA : M 234 61 = (A : Int)) (hs : M 234 62 = sd) {x : Int} (hx : inR x) : pm_Call (d + 2) 261 [vA 234, vI x] (GF X, M, PTF v) K ↔ K (vI (qHas n μ A sd x)) (GF X, M, PTF v) := by
  have hS' := hS
  obtain ⟨⟨⟨hb, e13⟩, ⟨e0, e1, e2, e3, e4, e5, e6⟩, -⟩, -, hwC⟩ := hS'
  have hn := hwC.1
  have eb : (M 234 13).toNat = b := by omega
  have en : M 241 (M 234 13).toNat = (n 2 : Int) := by rw [eb, e2]
  rw [en261, r261_0 hx]
  by_cases q : 0 ≤ x ∧ x < 12
  · have hx' : x = 0 ∨ x = 1 ∨ x = 2 ∨ x = 3 ∨ x = 4 ∨ x = 5 ∨ x = 6 ∨ x = 7 ∨ x = 8 ∨ x = 9 ∨ x = 10 ∨ x = 11 := by omega
    rcases hx' with rfl | rfl | rfl | rfl | rfl | rfl | rfl | rfl | rfl | rfl | rfl | rfl
    · change pm_Run _ 261 64 _ _ _ _ ↔ _
      rw [r261_64 (by omega) (by omega), eb, e0]; exact Iff.rfl
    · change pm_Run _ 261 74 _ _ _ _ ↔ _
      rw [r261_74 (by omega) (by omega), eb, e1]; exact Iff.rfl
    · change pm_Run _ 261 84 _ _ _ _ ↔ _
      rw [r261_84 (by omega) (by omega), eb, e2]; exact Iff.rfl
    · change pm_Run _ 261 94 _ _ _ _ ↔ _
      rw [r261_94 (by omega) (by omega), eb, e3]; exact Iff.rfl
    · change pm_Run _ 261 104 _ _ _ _ ↔ _
      rw [r261_104 (by omega) (by omega), eb, e4]; exact Iff.rfl
    · change pm_Run _ 261 114 _ _ _ _ ↔ _
      rw [r261_114 (by omega) (by omega), eb, e5]; exact Iff.rfl
    · change pm_Run _ 261 124 _ _ _ _ ↔ _
      rw [r261_124 (by omega) (by omega), eb, e6]; exact Iff.rfl
    · change pm_Run _ 261 134 _ _ _ _ ↔ _
      rw [r261_134, hM.2.1]; exact Iff.rfl
    · change pm_Run _ 261 141 _ _ _ _ ↔ _
      have es : sm (μ 3) 8 = sm (μ 3) (n 2) := sm_z (by omega) (fun i h1 _ => hw.2.2.2.2.2.2.1 i h1)
      rw [r261_141]
      refine (loopN (fun j => pm_Run (d + 1) 261 143 [vA 234, vI 8, vI (sm (μ 3) j), vI (j : Int)] [] (GF X, M, PTF v) K) (n 2) (fun j hj => ?_)).trans ?_
      · have g := hM.2.2.2.1 j hj
        rw [show 8 * 0 + j = j by omega] at g
        rw [r261_143 (by omega) (by omega) (by omega) (by rw [en]; omega), en, if_neg (by omega), r261_156 (by omega) (by omega), Int.toNat_natCast, g]; exact Iff.rfl
      · rw [r261_143 (by omega) (by omega) (by omega) (by rw [en]; omega), en, if_pos (by omega), r261_171, ← es]; exact Iff.rfl
    · change pm_Run _ 261 173 _ _ _ _ ↔ _
      have es : sm (μ 5) 24 = sm (db μ) (n 2) := by
        have e8 : sm (db μ) 8 = sm (db μ) (n 2) := sm_z (by omega) (fun i h1 _ => by
          show sm (fun m => μ 5 (i * 3 + m)) 3 = 0
          rw [sm_c (g := fun _ => 0) (fun m hm => (hw.2.2.2.2.2.2.2 i m hm (Or.inl h1)).2), sm_0])
        rw [← e8]
        simp [sm, db] <;> omega
      rw [r261_173]
      refine (loopN (fun j => pm_Run (d + 1) 261 175 [vA 234, vI 9, vI (sm (db μ) j), vI (j : Int)] [] (GF X, M, PTF v) K) (n 2) (fun j hj => ?_)).trans ?_
      · rw [r261_175 (by omega) (by omega) (by omega) (by rw [en]; omega), en, if_neg (by omega), r261_188]
        refine (c240 (w := 0) hS.1 hwC hM (wN_i hw) hj).trans ?_
        rw [push_i, r261_195]; exact Iff.rfl
      · rw [r261_175 (by omega) (by omega) (by omega) (by rw [en]; omega), en, if_pos (by omega), r261_203, ← es]; exact Iff.rfl
    · change pm_Run _ 261 205 _ _ _ _ ↔ _
      rw [r261_205, hA]; exact Iff.rfl
    · change pm_Run _ 261 210 _ _ _ _ ↔ _
      rw [r261_210, hs]; exact Iff.rfl
  · rw [tgN (by simp; omega), r261_216]
    have : qHas n μ A sd x = -1 := by
      rw [qHas, if_neg (by rw [isIx_i]; omega), if_neg (by omega), if_neg (by omega), if_neg (by omega), if_neg (by omega), if_neg (by omega)]
    rw [this]
theorem c263 (hS : RS M b n a F) (hM : RM M n 0 μ) (hw : wM n μ) {x y : Int} (hx : inR x) (hy : inR y) : pm_Call (d + 3) 263 [vA 234, vI x, vI y] (GF X, M, PTF v) K ↔ K (vI (qMoon n a μ x y)) (GF X, M, PTF v) := by
  have hwC := hS.2.2
  have hn := hwC.1
  by_cases q : isIx (n 1) x = true
  · rw [qMoon, if_pos q]
    obtain ⟨m, rfl, hm⟩ := ixN q
    obtain ⟨⟨hb, e13⟩, -, eg, -⟩ := hS.1
    have i1 : (3 * M 234 13 + (m : Int)).toNat = 3 * b + m := by omega
    have g := hM.2.2.1 m hm
    rw [show 3 * 0 + m = m by omega] at g
    rw [en263, r263_0, c228t hS hx q, push_i, r263_5 (by omega), if_pos (by omega), r263_10 hy]
    rw [Int.toNat_natCast]
    by_cases q2 : 0 ≤ y ∧ y < 6
    · have hx' : y = 0 ∨ y = 1 ∨ y = 2 ∨ y = 3 ∨ y = 4 ∨ y = 5 := by omega
      rcases hx' with rfl | rfl | rfl | rfl | rfl | rfl
      · change pm_Run _ 263 48 _ _ _ _ ↔ _
        rw [r263_48 (by omega) (by omega), Int.toNat_natCast, g.1]; exact Iff.rfl
      · change pm_Run _ 263 55 _ _ _ _ ↔ _
        rw [r263_55 (by omega) (by omega), i1, eg m hm]; exact Iff.rfl
      · change pm_Run _ 263 69 _ _ _ _ ↔ _
        rw [r263_69 (by omega) (by omega), Int.toNat_natCast, g.2]; exact Iff.rfl
      · change pm_Run _ 263 76 _ _ _ _ ↔ _
        rw [r263_76]
        refine (c237 (w := 0) hS.1 hwC hM (wN_i hw) hm).trans ?_
        rw [push_i, r263_82]; exact Iff.rfl
      · change pm_Run _ 263 83 _ _ _ _ ↔ _
        rw [r263_83]
        refine (c238 (w := 0) hS.1 hwC hM (wN_i hw) hm).trans ?_
        rw [push_i, r263_89]; exact Iff.rfl
      · change pm_Run _ 263 90 _ _ _ _ ↔ _
        rw [r263_90]
        refine (c243 (w := 0) hS.1 hwC hM (wN_i hw) hm).trans ?_
        by_cases q3 : dt μ m < (n 6 : Int)
        · rw [if_pos q3, push_i, r263_96 (by omega), if_pos rfl, r263_103, r263_104]; exact Iff.rfl
        · rw [if_neg q3, push_i, r263_96 (by omega), if_neg (by omega), r263_99, r263_104]; exact Iff.rfl
    · rw [tgN (by simp; omega), r263_105, if_neg (by omega), if_neg (by omega), if_neg (by omega), if_neg (by omega), if_neg (by omega), if_neg (by omega)]
  · rw [qMoon, if_neg q]
    rw [en263, r263_0, c228f hS hx q, push_i, r263_5 (by omega), if_neg (by simp), r263_8]
theorem c270 (hS : RS M b n a F) (hM : RM M n 0 μ) {x y z : Int} (hx : inR x) (hy : inR y) (hz : inR z) : pm_Call (d + 2) 270 [vA 234, vI x, vI y, vI z] (GF X, M, PTF v) K ↔ K (vI (qBids n μ x y z)) (GF X, M, PTF v) := by
  have hn := hS.2.2.1
  rw [qBids]
  by_cases q : isIx (n 2) x = true
  · by_cases q1 : isIx (n 1) y = true
    · rw [if_pos ⟨q, q1⟩]
      have q' := q
      have q1' := q1
      obtain ⟨h, rfl, hh⟩ := ixN q
      obtain ⟨m, rfl, hm⟩ := ixN q1
      have g := hM.2.2.2.2 h m hh hm
      have i1 : (3 * (h : Int) + (m : Int)).toNat = 24 * 0 + 3 * h + m := by omega
      rw [en270, r270_0, c229t hS hx q', push_i, r270_5 (by omega), if_neg (by omega), r270_8, c228t hS hy q1', push_i, r270_13 (by omega), if_pos (by omega)]
      by_cases z0 : z = 0
      · rw [if_pos z0]
        rw [r270_20 (by omega), if_neg (by omega), r270_24 (by omega) (by omega), r270_56, i1, g.1]; exact Iff.rfl
      · rw [if_neg z0]
        by_cases z1 : z = 1
        · rw [if_pos z1]
          rw [r270_20 (by omega), if_pos (by omega), r270_37 (by omega), if_neg (by omega), r270_42 (by omega) (by omega), r270_56, i1, g.2]; exact Iff.rfl
        · rw [if_neg z1]
          rw [r270_20 (by omega), if_pos (by omega), r270_37 (by omega), if_pos (by omega), r270_55, r270_56]
    · rw [if_neg (fun z => q1 z.2)]
      rw [en270, r270_0, c229t hS hx q, push_i, r270_5 (by omega), if_neg (by omega), r270_8, c228f hS hy q1, push_i, r270_13 (by omega), if_neg (by simp), r270_16, r270_56]
  · rw [if_neg (fun z => q z.1)]
    rw [en270, r270_0, c229f hS hx q, push_i, r270_5 (by omega), if_pos (by omega), r270_16, r270_56]
theorem c271 (hS : RS M b n a F) (hM : RM M n 0 μ) (hw : wM n μ) {x y : Int} (hx : inR x) (hy : inR y) (hK : ∀ M', fw 1 M M' → K (vI (qPull n F μ x y)) (GF X, M', PTF v)) : pm_Call (d + 6) 271 [vA 234, vI x, vI y] (GF X, M, PTF v) K := by
  have hn := hS.2.2.1
  by_cases q : isIx (n 1) x = true
  · by_cases q1 : isIx (n 0) y = true
    · rw [show qPull n F μ x y = pls n F μ x.toNat y.toNat by rw [qPull, if_pos ⟨q, q1⟩]] at hK
      have q' := q
      have q1' := q1
      obtain ⟨m, rfl, hm⟩ := ixN q
      obtain ⟨p, rfl, hp⟩ := ixN q1
      rw [en271, r271_0, c228t hS hx q', push_i, r271_5 (by omega), if_neg (by omega), r271_8, c227t hS hy q1', push_i, r271_13 (by omega), if_neg (by omega), r271_16]
      refine c251 (w := 0) hS hM (wN_i hw) hm hp (fun M1 f1 => ?_)
      rw [push_i, r271_23, r271_29]
      exact hK M1 (fh_w (fk_h f1))
    · rw [show qPull n F μ x y = -1000000000 by rw [qPull, if_neg (fun z => q1 z.2)]] at hK
      rw [en271, r271_0, c228t hS hx q, push_i, r271_5 (by omega), if_neg (by omega), r271_8, c227f hS hy q1, push_i, r271_13 (by omega), if_pos (by omega), r271_26, r271_29]
      exact hK M fw_r
  · rw [show qPull n F μ x y = -1000000000 by rw [qPull, if_neg (fun z => q z.1)]] at hK
    rw [en271, r271_0, c228f hS hx q, push_i, r271_5 (by omega), if_pos (by omega), r271_26, r271_29]
    exact hK M fw_r
theorem c272 (hS : RS M b n a F) (hM : RM M n 0 μ) (hw : wM n μ) {x y : Int} (hx : inR x) (hy : inR y) (hK : ∀ M', fw 1 M M' → K (vI (qHgt n a F μ x y)) (GF X, M', PTF v)) : pm_Call (d + 9) 272 [vA 234, vI x, vI y] (GF X, M, PTF v) K := by
  have hn := hS.2.2.1
  by_cases q : isIx (n 0) x = true
  · by_cases q1 : isT n μ y = true
    · rw [show qHgt n a F μ x y = hts n F (ahd n a F μ y.toNat) x.toNat by rw [qHgt, if_pos ⟨q, q1⟩]] at hK
      have q' := q
      have q1' := q1
      obtain ⟨p, rfl, hp⟩ := ixN q
      obtain ⟨t, rfl, ht, h0⟩ := isT_n q1
      rw [en272, r272_0, c227t hS hx q', push_i, r272_5 (by omega), if_neg (by omega), r272_8, c259t hS hM hw hy q1', push_i, r272_13 (by omega), if_pos (by omega), r272_20]
      refine c260 hS hM hw h0 ht (fun M1 f1 r1 h1 => ?_)
      rw [push_u, r272_25 (by omega) (by omega), Int.toNat_natCast, h1 p hp]
      exact hK M1 f1
    · rw [show qHgt n a F μ x y = -1000000000 by rw [qHgt, if_neg (fun z => q1 z.2)]] at hK
      rw [en272, r272_0, c227t hS hx q, push_i, r272_5 (by omega), if_neg (by omega), r272_8, c259f hS hM hw hy q1, push_i, r272_13 (by omega), if_neg (by simp), r272_16]
      exact hK M fw_r
  · rw [show qHgt n a F μ x y = -1000000000 by rw [qHgt, if_neg (fun z => q z.1)]] at hK
    rw [en272, r272_0, c227f hS hx q, push_i, r272_5 (by omega), if_pos (by omega), r272_16]
    exact hK M fw_r
theorem c268 (hS : RS M b n a F) {ν : PH} (hH : ∀ p, p < n 0 → M 277 p = hts n F ν p) {h : Nat} (hh : h < n 2) : pm_Call (d + 2) 268 [vA 234, vI (h : Int)] (GF X, M, PTF v) K ↔ K (vI (strd n a F ν h)) (GF X, M, PTF v) := by
  have hn := hS.2.2.1
  have ha := hS.2.2.2.2.1 h hh
  have hb := hts_b (μ := ν) (p := (a 2 h).toNat) hS.2.2
  have e := hH (a 2 h).toNat (by omega)
  rw [en268, r268_0, c230 hS.1 hS.2.2 hh, push_i, r268_9 (by omega) (by omega), c231 hS.1 hS.2.2 hh, push_i, e, r268_15 (by omega) (by omega)]
  rw [strd]
  by_cases q : hts n F ν (a 2 h).toNat < a 3 h
  · rw [if_neg (by omega), if_pos q, r268_18, r268_23 (by simp)]
  · rw [if_pos (by omega), if_neg q, r268_22, r268_23 (by simp)]
theorem str01 {ν : PH} {h : Nat} : strd n a F ν h = 0 ∨ strd n a F ν h = 1 := by unfold strd; split <;> simp
theorem c273 (hS : RS M b n a F) (hM : RM M n 0 μ) (hw : wM n μ) {x y z : Int} (hx : inR x) (hy : inR y) (hz : inR z) (hK : ∀ M', fw 1 M M' → K (vI (qAhd n a F μ x y z)) (GF X, M', PTF v)) : pm_Call (d + 9) 273 [vA 234, vI x, vI y, vI z] (GF X, M, PTF v) K := by
  have hn := hS.2.2.1
  by_cases q : isIx (n 2) x = true
  · by_cases q1 : isT n μ y = true
    · rw [qAhd, if_pos ⟨q, q1⟩] at hK
      by_cases q2 : 0 ≤ z ∧ z ≤ 2
      · have q' := q
        have q1' := q1
        obtain ⟨h, rfl, hh⟩ := ixN q
        obtain ⟨t, rfl, ht, h0⟩ := isT_n q1
        rw [en273, r273_0, c229t hS hx q', push_i, r273_5 (by omega), if_neg (by omega), r273_8, c259t hS hM hw hy q1', push_i, r273_13 (by omega), if_neg (by omega), r273_16, c179t hz (by omega) (by omega) q2, push_i, r273_22 (by omega), if_pos (by omega), r273_27]
        refine c260 hS hM hw h0 ht (fun M1 f1 r1 h1 => ?_)
        have hS1 := RS_w f1 hS
        rw [Int.toNat_natCast, Int.toNat_natCast] at hK
        have k1 := hK M1 f1
        rw [push_u]
        have z3 : z = 0 ∨ z = 1 ∨ z = 2 := by omega
        rcases z3 with rfl | rfl | rfl
        · rw [if_pos rfl] at k1
          rw [r273_32 (by omega), if_neg (by simp), r273_36 (by omega) (by omega), r273_75, show (8 + (h : Int)).toNat = 8 * 1 + h by omega, r1.2.2.2.1 h hh]; exact k1
        · rw [if_neg (by omega), if_pos rfl] at k1
          rw [r273_32 (by omega), if_pos (by omega), r273_48 (by omega), if_neg (by simp), r273_53, c268 hS1 h1 hh, push_i, r273_58 (by have := str01 (n := n) (a := a) (F := F) (ν := ahd n a F μ t) (h := h); omega)]
          rcases str01 (n := n) (a := a) (F := F) (ν := ahd n a F μ t) (h := h) with e | e
          · rw [e] at k1 ⊢; rw [if_pos rfl, r273_65, r273_75]; exact k1
          · rw [e] at k1 ⊢; rw [if_neg (by omega), r273_61, r273_75]; exact k1
        · rw [if_neg (by omega), if_neg (by omega), if_pos rfl] at k1
          rw [r273_32 (by omega), if_pos (by omega), r273_48 (by omega), if_pos (by omega), r273_69]
          refine (c240 (w := 1) hS1.1 hS1.2.2 r1 (wN_i (wM_ahd hw hS.2.2 t)) hh).mpr ?_
          rw [push_i, r273_75]; exact k1
      · rw [if_neg (by omega), if_neg (by omega), if_neg (by omega)] at hK
        rw [en273, r273_0, c229t hS hx q, push_i, r273_5 (by omega), if_neg (by omega), r273_8, c259t hS hM hw hy q1, push_i, r273_13 (by omega), if_neg (by omega), r273_16, c179f hz (by omega) (by omega) q2, push_i, r273_22 (by omega), if_neg (by simp), r273_25]
        exact hK M fw_r
    · rw [show qAhd n a F μ x y z = -1 by rw [qAhd, if_neg (fun z => q1 z.2)]] at hK
      rw [en273, r273_0, c229t hS hx q, push_i, r273_5 (by omega), if_neg (by omega), r273_8, c259f hS hM hw hy q1, push_i, r273_13 (by omega), if_pos (by omega), r273_25]
      exact hK M fw_r
  · rw [show qAhd n a F μ x y z = -1 by rw [qAhd, if_neg (fun z => q z.1)]] at hK
    rw [en273, r273_0, c229f hS hx q, push_i, r273_5 (by omega), if_pos (by omega), r273_25]
    exact hK M fw_r
theorem c275 (hS : RS M b n a F) {ν : PH} (hH : ∀ p, p < n 0 → M 277 p = hts n F ν p) : pm_Call (d + 3) 275 [vA 234] (GF X, M, PTF v) K ↔ K (vI (stc n a F ν)) (GF X, M, PTF v) := by
  have hn := hS.2.2.1
  obtain ⟨⟨hb, e13⟩, ⟨-, -, e2, -⟩, -⟩ := hS.1
  have en : M 241 (M 234 13).toNat = (n 2 : Int) := by rw [e13, Int.toNat_natCast, e2]
  rw [en275, r275_0]
  refine (loopN (fun j => pm_Run (d + 2) 275 4 [vA 234, vI (sm (strd n a F ν) j), vI (j : Int)] [] (GF X, M, PTF v) K) (n 2) (fun j hj => ?_)).trans ?_
  · have h01 := str01 (n := n) (a := a) (F := F) (ν := ν) (h := j)
    rw [r275_4 (by omega) (by omega) (by omega) (by rw [en]; omega), en, if_neg (by omega), r275_17, c268 hS hH hj, push_i, r275_23 (by omega), sm]
    rcases h01 with e | e
    · rw [e, if_pos rfl, r275_30, r275_31]; exact Iff.rfl
    · rw [e, if_neg (by omega), r275_26, r275_31]; exact Iff.rfl
  · rw [r275_4 (by omega) (by omega) (by omega) (by rw [en]; omega), en, if_pos (by omega), r275_39]; exact Iff.rfl
theorem c276 (hS : RS M b n a F) (hM : RM M n 0 μ) (hw : wM n μ) {x y : Int} (hx : inR x) (hy : inR y) (hK : ∀ M', fw 1 M M' → K (vI (qStr n a F μ x y)) (GF X, M', PTF v)) : pm_Call (d + 9) 276 [vA 234, vI x, vI y] (GF X, M, PTF v) K := by
  have hn := hS.2.2.1
  have hl := lst_i hw
  by_cases q1 : isT n μ x = true
  · rw [qStr, if_pos q1] at hK
    by_cases q2 : 0 ≤ y ∧ y ≤ 1
    · have q1' := q1
      obtain ⟨t, rfl, ht, h0⟩ := isT_n q1
      rw [en276, r276_0, c259t hS hM hw hx q1', push_i, r276_5 (by omega), if_neg (by omega), r276_8, c179t hy (by omega) (by omega) q2, push_i, r276_14 (by omega), if_pos (by omega), r276_19]
      refine c260 hS hM hw h0 ht (fun M1 f1 r1 h1 => ?_)
      have hS1 := RS_w f1 hS
      rw [Int.toNat_natCast] at hK
      have z3 : y = 0 ∨ y = 1 := by omega
      rcases z3 with rfl | rfl
      · rw [if_pos rfl] at hK
        rw [push_u, r276_24 (by omega), if_neg (by simp), r276_28, c275 hS1 h1, push_i, r276_32]
        exact hK M1 f1
      · rw [if_neg (by omega), if_pos rfl] at hK
        rw [push_u, r276_24 (by omega), if_pos (by omega), r276_33]
        have main : ∀ k j, j + k = lst μ + 1 → t ≤ j → ∀ Mx, fw 1 M Mx → (j ≤ lst μ → RM Mx n 1 (ahd n a F μ j) ∧ ∀ p, p < n 0 → Mx 277 p = hts n F (ahd n a F μ j) p) → fi (fun s => decide (0 < stc n a F (ahd n a F μ s))) (lst μ + 1 - t) t = fi (fun s => decide (0 < stc n a F (ahd n a F μ s))) k j → pm_Run (d + 8) 276 35 [vA 234, vI (t : Int), vI 1, vI (j : Int)] [] (GF X, Mx, PTF v) K := by
          intro k
          induction k with
          | zero =>
            intro j hj tj Mx fx rx he
            have h270 : Mx 270 0 = μ 0 0 := (fx.2.2.1 0 (by omega)).trans hM.2.1
            rw [r276_35, c258 h270 hw, push_i, r276_40 (by omega) (by omega), if_pos (by omega), r276_68]
            have := hK Mx fx
            rw [he] at this; exact this
          | succ k ih =>
            intro j hj tj Mx fx rx he
            have h270 : Mx 270 0 = μ 0 0 := (fx.2.2.1 0 (by omega)).trans hM.2.1
            have hSx := RS_w fx hS
            obtain ⟨rx1, rx2⟩ := rx (by omega)
            have sb := stc_b (n := n) (a := a) (F := F) (by omega) (ν := ahd n a F μ j)
            rw [r276_35, c258 h270 hw, push_i, r276_40 (by omega) (by omega), if_neg (by omega), r276_43, c275 hSx rx2, push_i, r276_47 (by omega)]
            by_cases q3 : 0 < stc n a F (ahd n a F μ j)
            · rw [if_neg (by omega), r276_50]
              have := hK Mx fx
              rw [he, fi, if_pos (by simpa using q3)] at this; exact this
            · rw [if_pos (by omega), r276_52]
              refine c257 (w := 1) hSx rx1 (wM_ahd hw hS.2.2 j) h0 (fun My fy ry rn => ?_)
              have hSy := RS_w fy hSx
              rw [push_u, r276_57]
              rw [fi, if_neg (by simpa using q3)] at he
              by_cases q4 : j < lst μ
              · have ry' := ry (by rw [ahd_0 hw]; omega)
                refine c255 (w := 1) hSy ry' (wN_i (wM_pass (wM_ahd hw hS.2.2 j) hS.2.2)) h0 (fun Mz fz hz => ?_)
                rw [push_u, r276_62]
                exact ih (j + 1) (by omega) (by omega) Mz (fw_t fx (fw_t fy (fh_w fz))) (fun _ => ⟨RM_h fz ry', hz⟩) he
              · obtain ⟨ν, hν, rν⟩ := rn
                refine c255 (w := 1) hSy rν hν h0 (fun Mz fz hz => ?_)
                rw [push_u, r276_62]
                exact ih (j + 1) (by omega) (by omega) Mz (fw_t fx (fw_t fy (fh_w fz))) (fun z => by omega) he
        exact main (lst μ + 1 - t) t (by omega) (by omega) M1 f1 (fun _ => ⟨r1, h1⟩) rfl
    · rw [if_neg (by omega), if_neg (by omega)] at hK
      rw [en276, r276_0, c259t hS hM hw hx q1, push_i, r276_5 (by omega), if_neg (by omega), r276_8, c179f hy (by omega) (by omega) q2, push_i, r276_14 (by omega), if_neg (by simp), r276_17]
      exact hK M fw_r
  · rw [show qStr n a F μ x y = -1 by rw [qStr, if_neg q1]] at hK
    rw [en276, r276_0, c259f hS hM hw hx q1, push_i, r276_5 (by omega), if_pos (by omega), r276_17]
    exact hK M fw_r
end RFb
