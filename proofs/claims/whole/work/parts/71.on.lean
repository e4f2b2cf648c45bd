/-! Images are read. -/
def two (B : Nat → Int) (i : Nat) : Int := B i * 256 + B (i + 1)
/-- where a harbor's bytes begin, where those of a bid -/
def hat (n : Nat → Nat) (h : Nat) : Nat := 2 + 2 * n 1 + (2 + 3 * n 1) * h
def bat (n : Nat → Nat) (h m : Nat) : Nat := hat n h + 2 + 3 * m
def dcd (n : Nat → Nat) (B : Nat → Int) : PH := fun i k =>
  if i = 0 then (if k = 0 then two B 0 else 0) else if i = 1 then (if k < n 1 then B (2 + 2 * k) else 0) else if i = 2 then (if k < n 1 then B (3 + 2 * k) else 0) else if i = 3 then (if k < n 2 then two B (hat n k) else 0) else if i = 4 then (if k < 3 * n 2 ∧ k % 3 < n 1 then B (bat n (k / 3) (k % 3)) else 0) else if i = 5 then (if k < 3 * n 2 ∧ k % 3 < n 1 then two B (bat n (k / 3) (k % 3) + 1) else 0) else 0
def okM (n : Nat → Nat) (B : Nat → Int) (m : Nat) : Bool := decide (B (2 + 2 * m) ≤ (n 0 : Int) - 1) && decide (B (3 + 2 * m) ≤ 9)
def okP (n : Nat → Nat) (B : Nat → Int) (h m : Nat) : Bool := decide (B (bat n h m) ≤ 20) && decide (two B (bat n h m + 1) ≤ 9999)
def okH (n : Nat → Nat) (B : Nat → Int) (h : Nat) : Bool := decide (two B (hat n h) ≤ 9999) && al (okP n B h) (n 1)
def okB (n : Nat → Nat) (B : Nat → Int) : Bool := (decide (two B 0 ≤ 9999) && al (okM n B) (n 1)) && al (okH n B) (n 2)
def onOk (n : Nat → Nat) (B : Nat → Int) (s : Nat) : Prop := s = hat n (n 2) + 1 ∧ B (s - 1) = chk B (s - 1) ∧ okB n B = true
def shA (M : PH) (n : Nat → Nat) (B : Nat → Int) (x1 x2 x3 x4 x5 : Nat) : Prop := M 227 0 = two B 0 ∧ (∀ k, k < 3 → M 228 k = if k < x1 then B (2 + 2 * k) else 0) ∧ (∀ k, k < 3 → M 229 k = if k < x2 then B (3 + 2 * k) else 0) ∧ (∀ k, k < 8 → M 230 k = if k < x3 then two B (hat n k) else 0) ∧ (∀ k, k < 24 → M 231 k = if k < x4 ∧ k % 3 < n 1 then B (bat n (k / 3) (k % 3)) else 0) ∧ (∀ k, k < 24 → M 232 k = if k < x5 ∧ k % 3 < n 1 then two B (bat n (k / 3) (k % 3) + 1) else 0)
def frO (M M' : PH) : Prop := (∀ q, q ≠ 225 → (q < 227 ∨ 232 < q) → M' q = M q) ∧ ∀ j, j ≠ 4 → j ≠ 5 → M' 225 j = M 225 j
theorem frO_r {M : PH} : frO M M := ⟨fun _ _ _ => rfl, fun _ _ _ => rfl⟩
theorem frO_t {M M' M2 : PH} (h : frO M M') (h2 : frO M' M2) : frO M M2 := ⟨fun q z1 z2 => (h2.1 q z1 z2).trans (h.1 q z1 z2), fun j z z' => (h2.2 j z z').trans (h.2 j z z')⟩
theorem frO_5 {M : PH} {x y : Int} : frO M (pm_sa M 225 (pm_up (pm_up (M 225) 4 x) 5 y)) := ⟨fun q z1 _ => sa_n z1, fun j z1 z2 => by rw [sa_s, up_n z2, up_n z1]⟩
theorem frO_q {M : PH} {q : Nat} {f : Nat → Int} (h : 227 ≤ q ∧ q ≤ 232) : frO M (pm_sa M q f) := ⟨fun q' z1 z2 => sa_n (by omega), fun j _ _ => by rw [sa_n (by omega)]⟩
section CON
variable {d c b : Nat} {X : Nat × (Nat → Int)} {v : Nat → Int} {M M' : PH} {K : PV → PS → Prop} {n : Nat → Nat} {a μ : PH} {F : Nat → List Int} {B : Nat → Int}
theorem TP_f (h : TP M B) (e : M' 1 = M 1) : TP M' B := fun k hk => by rw [e]; exact h k hk
theorem c109 (hv : v 6 = ((1 : Nat) : Int)) (hB : TP M B) {i : Nat} (hi : i < 1600) : pm_Call (d + 1) 109 [vA 225, vI (i : Int)] (GF X, M, PTF v) K ↔ K (vI (B i)) (GF X, M, PTF v) := by
  have g := hB i hi
  rw [en109, r109_0 (by omega), if_neg (by omega), r109_4 hv (by omega), if_neg (by omega), r109_13 hv (by omega) (by omega), r109_27, Int.toNat_natCast, g.1, b8_a g.2]
theorem c110 (hv : v 6 = ((1 : Nat) : Int)) (hB : TP M B) {i : Nat} (h4 : M 225 4 = (i : Int)) (hi : i < 1600) {f : Bool} (hf : M 225 5 = if f = true then 1 else 0) {w : Int} (hw : inR w) : pm_Call (d + 2) 110 [vA 225, vI w] (GF X, M, PTF v) K ↔ K (vI (B i)) (GF X, pm_sa M 225 (pm_up (pm_up (M 225) 4 ((i + 1 : Nat) : Int)) 5 (if (f && decide (B i ≤ w)) = true then 1 else 0)), PTF v) := by
  have g := hB i hi
  rw [en110, r110_0, h4, c109 hv hB hi, push_i, r110_8, h4, r110_19 (by omega) hw, ← and01]
  simp only [sa_s]
  rw [up_n (show 5 ≠ 4 by omega), hf]
  by_cases q : w < B i
  · rw [if_pos q, r110_33, if_neg (show ¬ decide (B i ≤ w) = true by simp; omega), r110_34 (by cases f <;> decide +kernel), r110_38]
    simp only [sa_s, sa_sa]
    exact Iff.rfl
  · rw [if_neg q, r110_29, if_pos (show decide (B i ≤ w) = true by simp; omega), r110_34 (by cases f <;> decide +kernel), r110_38]
    simp only [sa_s, sa_sa]
    exact Iff.rfl
theorem two_b (hB : TP M B) {i : Nat} (hi : i + 1 < 1600) : 0 ≤ two B i ∧ two B i ≤ 65535 := by
  have g := hB i (by omega)
  have g2 := hB (i + 1) hi
  unfold two; omega
theorem c111 (hv : v 6 = ((1 : Nat) : Int)) (hB : TP M B) {i : Nat} (h4 : M 225 4 = (i : Int)) (hi : i + 1 < 1600) {f : Bool} (hf : M 225 5 = if f = true then 1 else 0) {w : Int} (hw : inR w) : pm_Call (d + 2) 111 [vA 225, vI w] (GF X, M, PTF v) K ↔ K (vI (two B i)) (GF X, pm_sa M 225 (pm_up (pm_up (M 225) 4 ((i + 2 : Nat) : Int)) 5 (if (f && decide (two B i ≤ w)) = true then 1 else 0)), PTF v) := by
  have g := hB i (by omega)
  have g2 := hB (i + 1) hi
  have gt := two_b hB hi
  rw [en111, r111_0, h4, c109 hv hB (by omega), push_i, r111_8, h4, show (i : Int) + 1 = ((i + 1 : Nat) : Int) by omega, c109 hv hB hi, push_i, r111_21, b8_2 g.2 g2.2, h4, show B i * 256 + B (i + 1) = two B i from rfl, r111_33 (by omega) hw, ← and01]
  simp only [sa_s]
  rw [up_n (show 5 ≠ 4 by omega), hf]
  by_cases q : w < two B i
  · rw [if_pos q, r111_47, if_neg (show ¬ decide (two B i ≤ w) = true by simp; omega), r111_48 (by cases f <;> decide +kernel), r111_52]
    simp only [sa_s, sa_sa]
    exact Iff.rfl
  · rw [if_neg q, r111_43, if_pos (show decide (two B i ≤ w) = true by simp; omega), r111_48 (by cases f <;> decide +kernel), r111_52]
    simp only [sa_s, sa_sa]
    exact Iff.rfl
theorem shA_5 {x1 x2 x3 x4 x5 : Nat} {g : Nat → Int} (h : shA M n B x1 x2 x3 x4 x5) : shA (pm_sa M 225 g) n B x1 x2 x3 x4 x5 := by
  unfold shA at *
  rw [sa_n (show 227 ≠ 225 by omega), sa_n (show 228 ≠ 225 by omega), sa_n (show 229 ≠ 225 by omega), sa_n (show 230 ≠ 225 by omega), sa_n (show 231 ≠ 225 by omega), sa_n (show 232 ≠ 225 by omega)]
  exact h
theorem c105 (hc : isCh c) (hC : isC M c n a F) (hwC : wC n a F) (hB : TP M B) {s : Nat} (hs : s ≤ 1600) (hK0 : ∀ (M' : PH) (v' : Nat → Int), frO M M' → (v' = v ∨ v' = pm_up v 6 ((1 : Nat) : Int)) → ¬ onOk n B s → K (vI 0) (GF X, M', PTF v')) (hK1 : ∀ M' : PH, frO M M' → onOk n B s → mo M' 227 = dcd n B → K (vI 1) (GF X, M', PTF (pm_up v 6 ((1 : Nat) : Int)))) : pm_Call (d + 3) 105 [vA 225, vA c, vA 1, vI (s : Int)] (GF X, M, PTF v) K := by
  obtain ⟨hn0, hn1, hn2, -, -, hn5, -, hn00⟩ := hwC.1
  have hcc := ch60 hc
  have hcc' : c = 9 ∨ c = 35 := hc
  have hb22 : (2 + 3 * n 1) * n 2 ≤ 11 * 8 := Nat.mul_le_mul (by omega) hn2
  have hl : hat n (n 2) = 2 + 2 * n 1 + (2 + 3 * n 1) * n 2 := rfl
  have hln : ((3 + 2 * (n 1 : Int)) + (n 2 : Int) * (2 + 3 * (n 1 : Int))) = ((hat n (n 2) + 1 : Nat) : Int) := by
    rw [hl]; simp only [Int.natCast_add, Int.natCast_mul]; rw [Int.mul_comm (n 2 : Int)]; simp; omega
  have e1 : M c 1 = (n 1 : Int) := hC.1 1 (by omega)
  have e2 : M c 2 = (n 2 : Int) := hC.1 2 (by omega)
  rw [en105, r105_0 (nr := 1600) hc (by omega) (by rw [e1, e2, hln]; omega), e1, e2, hln]
  have no : ¬ onOk n B s → pm_Run (d + 2) 105 55 [vA 225, vA c, vA 1, vI (s : Int), vI ((hat n (n 2) + 1 : Nat) : Int), PU, PU] [] (GF X, M, PTF v) K := fun h => by
    rw [r105_55 (nr := 1600)]; exact hK0 M v frO_r (Or.inl rfl) h
  by_cases q1 : s = hat n (n 2) + 1
  case neg => rw [if_pos (by omega)]; exact no (fun z => q1 z.1)
  have g0 := hB (s - 1) (by omega)
  have cb := chk_b (f := B) (k := s - 1) (fun i hi => (hB i (by omega)).2)
  rw [if_neg (by omega), r105_30 r1S (by omega) (by omega), if_neg (by omega), r105_36 r1S (by omega) (by omega), show (s : Int) - 1 = ((s - 1 : Nat) : Int) by omega, c106 (f := B) r1S (by omega) (fun i hi => hB i (by omega)), push_i, Int.toNat_natCast, g0.1, b8_a g0.2, r105_52 (nr := 1600) (by omega) (by omega)]
  by_cases q2 : B (s - 1) = chk B (s - 1)
  case neg => rw [if_neg q2]; exact no (fun z => q2 z.2.1)
  rw [if_pos q2]
  have o225 : pm_ob (GF X) ((225 : Nat) : Int) 8 := ob_i (n := 6) (by decide +kernel)
  have eT : (pm_sa (PTF v) ((225 : Nat) : Int).toNat (pm_up (PTF v ((225 : Nat) : Int).toNat) 3 ((1 : Nat) : Int))) ((225 : Nat) : Int).toNat 1 = ((227 : Nat) : Int) := by
    rw [Int.toNat_natCast, ptu6]; exact ptf_l (by decide +kernel)
  have mo227 : isMo 227 := by simp [isMo, MOL]
  rw [b105_57 o225 (by omega) (by rw [eT]; exact ob_i (n := 6) (by decide +kernel)), eT]
  simp only [Int.toNat_natCast, sa_s, sa_sa, ptu6]
  obtain ⟨w, hw⟩ : ∃ w, w = pm_up v 6 ((1 : Nat) : Int) := ⟨_, rfl⟩
  have hw6 : w 6 = ((1 : Nat) : Int) := by rw [hw, up_s]
  rw [← hw] at hK1 ⊢
  have hK0' : ∀ M' : PH, frO M M' → ¬ onOk n B s → K (vI 0) (GF X, M', PTF w) := fun M' h1 h2 => hK0 M' w h1 (Or.inr hw) h2
  have hc57 := c57 (d := d) (X := X) (v := w) (b := 227) (M := pm_sa M 225 (pm_up (pm_up (M 225) 4 0) 5 1)) (K := fun r S1 => pm_Run (d + 2) 105 79 [vA 225, vA c, vA 1, vI (s : Int), vI ((hat n (n 2) + 1 : Nat) : Int), PU, PU] (pm_push r []) S1 K) mo227
  refine hc57.mpr ?_
  obtain ⟨M1, hM1⟩ : ∃ M1, M1 = mcl (pm_sa M 225 (pm_up (pm_up (M 225) 4 0) 5 1)) 227 := ⟨_, rfl⟩
  rw [← hM1, push_u, r105_79 (nr := 1600)]
  have f1 : frO M M1 := ⟨fun q z1 z2 => by rw [hM1, mcl_n (by omega), sa_n z1], fun j z1 z2 => by rw [hM1, mcl_n (by omega), sa_s, up_n z2, up_n z1]⟩
  have z1 : mo M1 227 = fun _ _ => 0 := by rw [hM1]; exact mcl_s
  have p4 : M1 225 4 = ((0 : Nat) : Int) := by rw [hM1, mcl_n (by omega), sa_s, up_n (by omega), up_s]; rfl
  have p5 : M1 225 5 = if true = true then 1 else 0 := by rw [hM1, mcl_n (by omega), sa_s, up_s]; rfl
  have TT : ∀ M' : PH, frO M M' → TP M' B ∧ isC M' c n a F := fun M' h => ⟨TP_f hB (h.1 1 (by omega) (by omega)), isC_fr (fun i hi => h.1 _ (by omega) (by omega)) hC⟩
  have mz : ∀ i k, k < len i → M1 (227 + i) k = 0 := fun i k hk => by rw [mo_i (M := M1) (b := 227) hk, z1]
  refine (c111 hw6 (TT M1 f1).1 p4 (by omega) p5 (by omega)).mpr ?_
  rw [push_i, r105_90 (nr := 1600), r105_93 (nr := 1600)]
  -- the moons
  refine loopI (n 1) (fun j (M' : PH) => frO M M' ∧ M' 225 4 = ((2 + 2 * j : Nat) : Int) ∧ M' 225 5 = (if (decide (two B 0 ≤ 9999) && al (okM n B) j) = true then 1 else 0) ∧ shA M' n B j j 0 0 0) (fun j M' => pm_Run (d + 2) 105 96 [vA 225, vA c, vA 1, vI (s : Int), vI ((hat n (n 2) + 1 : Nat) : Int), vI (j : Int), PU] [] (GF X, M', PTF w) K) (fun j M' hj hI ih => ?_) (fun M' hI => ?_) _ ⟨frO_t f1 (frO_t frO_5 (frO_q (by omega))), by rw [sa_n (by omega), sa_s, up_n (by omega), up_s], by rw [sa_n (by omega), sa_s, up_s, Bool.true_and, al, Bool.and_true], ?_⟩
  · obtain ⟨i1, i2, i3, i4⟩ := hI
    obtain ⟨tB, tC⟩ := TT M' i1
    have b1 := tB (2 + 2 * j) (by omega)
    rw [r105_96 (nr := 1600) hc (by omega) (by rw [tC.1 1 (by omega)]; omega), tC.1 1 (by omega), if_neg (by omega), r105_105 (nr := 1600) hc, tC.1 0 (by omega)]
    refine (c110 hw6 tB i2 (by omega) i3 (by omega)).mpr ?_
    rw [push_i, r105_124 (nr := 1600) (by omega) (by omega), r105_125 (nr := 1600), Int.toNat_natCast]
    have f2 := frO_t i1 (frO_t (frO_5 (M := M') (x := ((2 + 2 * j + 1 : Nat) : Int)) (y := (if (decide (two B 0 ≤ 9999) && al (okM n B) j && decide (B (2 + 2 * j) ≤ (n 0 : Int) - 1)) = true then 1 else 0))) (frO_q (q := 228) (f := pm_up ((pm_sa M' 225 (pm_up (pm_up (M' 225) 4 ((2 + 2 * j + 1 : Nat) : Int)) 5 (if (decide (two B 0 ≤ 9999) && al (okM n B) j && decide (B (2 + 2 * j) ≤ (n 0 : Int) - 1)) = true then 1 else 0))) 228) j (B (2 + 2 * j))) (by omega)))
    refine (c110 (i := 2 + 2 * j + 1) hw6 (TT _ f2).1 (by rw [sa_n (by omega), sa_s, up_n (by omega), up_s]) (by omega) (f := decide (two B 0 ≤ 9999) && al (okM n B) j && decide (B (2 + 2 * j) ≤ (n 0 : Int) - 1)) (by rw [sa_n (by omega), sa_s, up_s]) (by omega)).mpr ?_
    rw [push_i, r105_140 (nr := 1600) (by omega) (by omega), r105_141 (nr := 1600), Int.toNat_natCast]
    refine ih _ ⟨frO_t f2 (frO_t frO_5 (frO_q (by omega))), ?_, ?_, ?_⟩
    · rw [sa_n (by omega), sa_s, up_n (by omega), up_s]; congr 1
    · rw [sa_n (by omega), sa_s, up_s, al, okM, show 2 + 2 * j + 1 = 3 + 2 * j by omega]
      cases decide (two B 0 ≤ 9999) <;> cases al (okM n B) j <;> cases decide (B (2 + 2 * j) ≤ (n 0 : Int) - 1) <;> rfl
    · obtain ⟨s0, s1, s2, s3, s4, s5⟩ := i4
      refine ⟨?_, fun k hk => ?_, fun k hk => ?_, fun k hk => ?_, fun k hk => ?_, fun k hk => ?_⟩
      · rw [sa_n (by omega), sa_n (by omega), sa_n (by omega), sa_n (by omega)]; exact s0
      · rw [sa_n (by omega), sa_n (by omega), sa_s, sa_n (by omega)]
        by_cases z : k = j
        · rw [up_e z, if_pos (by omega), z]
        · rw [up_n z, s1 k hk]
          by_cases z2 : k < j
          · rw [if_pos z2, if_pos (by omega)]
          · rw [if_neg z2, if_neg (by omega)]
      · rw [sa_s, sa_n (by omega), sa_n (by omega), sa_n (by omega)]
        by_cases z : k = j
        · rw [up_e z, if_pos (by omega), z, show 2 + 2 * j + 1 = 3 + 2 * j by omega]
        · rw [up_n z, s2 k hk]
          by_cases z2 : k < j
          · rw [if_pos z2, if_pos (by omega)]
          · rw [if_neg z2, if_neg (by omega)]
      · rw [sa_n (by omega), sa_n (by omega), sa_n (by omega), sa_n (by omega)]; exact s3 k hk
      · rw [sa_n (by omega), sa_n (by omega), sa_n (by omega), sa_n (by omega)]; exact s4 k hk
      · rw [sa_n (by omega), sa_n (by omega), sa_n (by omega), sa_n (by omega)]; exact s5 k hk
  · obtain ⟨i1, i2, i3, i4⟩ := hI
    obtain ⟨tB, tC⟩ := TT M' i1
    rw [r105_96 (nr := 1600) hc (by omega) (by rw [tC.1 1 (by omega)]; omega), tC.1 1 (by omega), if_pos (by omega), r105_147 (nr := 1600)]
    -- the harbors
    refine loopI (n 2) (fun j (M' : PH) => frO M M' ∧ M' 225 4 = ((hat n j : Nat) : Int) ∧ M' 225 5 = (if ((decide (two B 0 ≤ 9999) && al (okM n B) (n 1)) && al (okH n B) j) = true then 1 else 0) ∧ shA M' n B (n 1) (n 1) j (3 * j) (3 * j)) (fun j M' => ∀ l6 : PV, pm_Run (d + 2) 105 150 [vA 225, vA c, vA 1, vI (s : Int), vI ((hat n (n 2) + 1 : Nat) : Int), vI (j : Int), l6] [] (GF X, M', PTF w) K) (fun j M' hj hI ih l6 => ?_) (fun M' hI l6 => ?_) M' ⟨i1, by rw [i2]; rfl, by rw [i3, al, Bool.and_true], i4⟩ PU
    · obtain ⟨i1, i2, i3, i4⟩ := hI
      obtain ⟨tB, tC⟩ := TT M' i1
      have hhj : hat n j + (2 + 3 * n 1) ≤ hat n (n 2) := by
        have := Nat.mul_le_mul_left (2 + 3 * n 1) (show j + 1 ≤ n 2 by omega)
        rw [Nat.mul_add, Nat.mul_one] at this
        unfold hat; omega
      have hs1 : hat n (j + 1) = hat n j + (2 + 3 * n 1) := by unfold hat; rw [Nat.mul_add, Nat.mul_one]; omega
      have gt := two_b tB (i := hat n j) (by omega)
      rw [r105_150 (nr := 1600) hc (by omega) (by rw [tC.1 2 (by omega)]; omega), tC.1 2 (by omega), if_neg (by omega), r105_159 (nr := 1600)]
      refine (c111 hw6 tB i2 (by omega) i3 (by omega)).mpr ?_
      rw [push_i, r105_175 (nr := 1600) (by omega) (by omega), r105_176 (nr := 1600), Int.toNat_natCast]
      refine loopI (n 1) (fun i (M' : PH) => frO M M' ∧ M' 225 4 = ((bat n j i : Nat) : Int) ∧ M' 225 5 = (if (((decide (two B 0 ≤ 9999) && al (okM n B) (n 1)) && al (okH n B) j) && (decide (two B (hat n j) ≤ 9999) && al (okP n B j) i)) = true then 1 else 0) ∧ shA M' n B (n 1) (n 1) (j + 1) (3 * j + i) (3 * j + i)) (fun i M' => pm_Run (d + 2) 105 179 [vA 225, vA c, vA 1, vI (s : Int), vI ((hat n (n 2) + 1 : Nat) : Int), vI (j : Int), vI (i : Int)] [] (GF X, M', PTF w) K) (fun i M2 hi hI2 ih2 => ?_) (fun M2 hI2 => ?_) _ ⟨frO_t i1 (frO_t frO_5 (frO_q (by omega))), by rw [sa_n (by omega), sa_s, up_n (by omega), up_s]; rfl, by rw [sa_n (by omega), sa_s, up_s, al, Bool.and_true], ?_⟩
      · obtain ⟨k1, k2, k3, k4⟩ := hI2
        obtain ⟨tB2, tC2⟩ := TT M2 k1
        have hbi : bat n j i = hat n j + 2 + 3 * i := rfl
        have b1 := tB2 (bat n j i) (by omega)
        have b2 := two_b tB2 (i := bat n j i + 1) (by omega)
        rw [r105_179 (nr := 1600) hc (by omega) (by rw [tC2.1 1 (by omega)]; omega), tC2.1 1 (by omega), if_neg (by omega), r105_188 (nr := 1600), c55, push_i, r105_202 (nr := 1600)]
        refine (c110 hw6 tB2 k2 (by omega) k3 (by omega)).mpr ?_
        rw [push_i, r105_208 (nr := 1600) (by omega) (by omega), r105_209 (nr := 1600), c55, push_i, r105_223 (nr := 1600), show ((j : Int) * 3 + (i : Int)).toNat = 3 * j + i by omega]
        have f2 := frO_t k1 (frO_t (frO_5 (M := M2) (x := ((bat n j i + 1 : Nat) : Int)) (y := (if (((decide (two B 0 ≤ 9999) && al (okM n B) (n 1)) && al (okH n B) j) && (decide (two B (hat n j) ≤ 9999) && al (okP n B j) i) && decide (B (bat n j i) ≤ 20)) = true then 1 else 0))) (frO_q (q := 231) (f := pm_up ((pm_sa M2 225 (pm_up (pm_up (M2 225) 4 ((bat n j i + 1 : Nat) : Int)) 5 (if (((decide (two B 0 ≤ 9999) && al (okM n B) (n 1)) && al (okH n B) j) && (decide (two B (hat n j) ≤ 9999) && al (okP n B j) i) && decide (B (bat n j i) ≤ 20)) = true then 1 else 0))) 231) (3 * j + i) (B (bat n j i))) (by omega)))
        refine (c111 (i := bat n j i + 1) hw6 (TT _ f2).1 (by rw [sa_n (by omega), sa_s, up_n (by omega), up_s]) (by omega) (f := ((decide (two B 0 ≤ 9999) && al (okM n B) (n 1)) && al (okH n B) j) && (decide (two B (hat n j) ≤ 9999) && al (okP n B j) i) && decide (B (bat n j i) ≤ 20)) (by rw [sa_n (by omega), sa_s, up_s]) (by omega)).mpr ?_
        rw [push_i, r105_230 (nr := 1600) (by omega) (by omega), r105_231 (nr := 1600), show ((j : Int) * 3 + (i : Int)).toNat = 3 * j + i by omega]
        refine ih2 _ ⟨frO_t f2 (frO_t frO_5 (frO_q (by omega))), ?_, ?_, ?_⟩
        · rw [sa_n (by omega), sa_s, up_n (by omega), up_s]; congr 1
        · rw [sa_n (by omega), sa_s, up_s, al, okP]
          cases (decide (two B 0 ≤ 9999) && al (okM n B) (n 1)) && al (okH n B) j <;> cases decide (two B (hat n j) ≤ 9999) <;> cases al (okP n B j) i <;> cases decide (B (bat n j i) ≤ 20) <;> rfl
        · obtain ⟨s0, s1, s2, s3, s4, s5⟩ := k4
          refine ⟨?_, fun k hk => ?_, fun k hk => ?_, fun k hk => ?_, fun k hk => ?_, fun k hk => ?_⟩
          · rw [sa_n (by omega), sa_n (by omega), sa_n (by omega), sa_n (by omega)]; exact s0
          · rw [sa_n (by omega), sa_n (by omega), sa_n (by omega), sa_n (by omega)]; exact s1 k hk
          · rw [sa_n (by omega), sa_n (by omega), sa_n (by omega), sa_n (by omega)]; exact s2 k hk
          · rw [sa_n (by omega), sa_n (by omega), sa_n (by omega), sa_n (by omega)]; exact s3 k hk
          · rw [sa_n (by omega), sa_n (by omega), sa_s, sa_n (by omega)]
            by_cases z : k = 3 * j + i
            · rw [up_e z, if_pos (by omega), show k / 3 = j by omega, show k % 3 = i by omega]
            · rw [up_n z, s4 k hk]
              by_cases z2 : k < 3 * j + i ∧ k % 3 < n 1
              · rw [if_pos z2, if_pos (by omega)]
              · rw [if_neg z2, if_neg (by omega)]
          · rw [sa_s, sa_n (by omega), sa_n (by omega), sa_n (by omega)]
            by_cases z : k = 3 * j + i
            · rw [up_e z, if_pos (by omega), show k / 3 = j by omega, show k % 3 = i by omega]
            · rw [up_n z, s5 k hk]
              by_cases z2 : k < 3 * j + i ∧ k % 3 < n 1
              · rw [if_pos z2, if_pos (by omega)]
              · rw [if_neg z2, if_neg (by omega)]
      · obtain ⟨k1, k2, k3, k4⟩ := hI2
        obtain ⟨tB2, tC2⟩ := TT M2 k1
        rw [r105_179 (nr := 1600) hc (by omega) (by rw [tC2.1 1 (by omega)]; omega), tC2.1 1 (by omega), if_pos (by omega), r105_237 (nr := 1600)]
        refine ih M2 ⟨k1, by rw [k2, hs1, bat]; omega, by rw [k3, al, okH]; cases (decide (two B 0 ≤ 9999) && al (okM n B) (n 1)) <;> cases al (okH n B) j <;> rfl, ?_⟩ _
        obtain ⟨s0, s1, s2, s3, s4, s5⟩ := k4
        refine ⟨s0, s1, s2, s3, fun k hk => ?_, fun k hk => ?_⟩
        · rw [s4 k hk]
          by_cases z2 : k < 3 * j + n 1 ∧ k % 3 < n 1
          · rw [if_pos z2, if_pos (by omega)]
          · rw [if_neg z2, if_neg (by omega)]
        · rw [s5 k hk]
          by_cases z2 : k < 3 * j + n 1 ∧ k % 3 < n 1
          · rw [if_pos z2, if_pos (by omega)]
          · rw [if_neg z2, if_neg (by omega)]
      · obtain ⟨s0, s1, s2, s3, s4, s5⟩ := i4
        refine ⟨?_, fun k hk => ?_, fun k hk => ?_, fun k hk => ?_, fun k hk => ?_, fun k hk => ?_⟩
        · rw [sa_n (by omega), sa_n (by omega)]; exact s0
        · rw [sa_n (by omega), sa_n (by omega)]; exact s1 k hk
        · rw [sa_n (by omega), sa_n (by omega)]; exact s2 k hk
        · rw [sa_s, sa_n (by omega)]
          by_cases z : k = j
          · rw [up_e z, if_pos (by omega), z]
          · rw [up_n z, s3 k hk]
            by_cases z2 : k < j
            · rw [if_pos z2, if_pos (by omega)]
            · rw [if_neg z2, if_neg (by omega)]
        · rw [sa_n (by omega), sa_n (by omega)]; exact s4 k hk
        · rw [sa_n (by omega), sa_n (by omega)]; exact s5 k hk
    · obtain ⟨i1, i2, i3, i4⟩ := hI
      obtain ⟨tB, tC⟩ := TT M' i1
      rw [r105_150 (nr := 1600) hc (by omega) (by rw [tC.1 2 (by omega)]; omega), tC.1 2 (by omega), if_pos (by omega), r105_243 (nr := 1600) (by rw [i3]; exact if01'), i3, show ((decide (two B 0 ≤ 9999) && al (okM n B) (n 1)) && al (okH n B) (n 2)) = okB n B from rfl]
      by_cases q : okB n B = true
      · rw [if_pos q]
        refine hK1 M' i1 ⟨q1, q2, q⟩ ?_
        obtain ⟨s0, s1, s2, s3, s4, s5⟩ := i4
        funext i k
        by_cases hk : k < len i
        · have := len_0 hk
          have hi : i = 0 ∨ i = 1 ∨ i = 2 ∨ i = 3 ∨ i = 4 ∨ i = 5 := by omega
          rw [mo, if_pos hk]
          rcases hi with rfl | rfl | rfl | rfl | rfl | rfl
          · have : k = 0 := Nat.lt_one_iff.mp hk
            subst this; exact s0
          · exact s1 k hk
          · exact s2 k hk
          · exact s3 k hk
          · exact s4 k hk
          · exact s5 k hk
        · rw [mo, if_neg hk]
          unfold dcd
          by_cases y0 : i = 0
          · subst y0; rw [if_pos rfl, if_neg (fun e => hk (by rw [e]; decide))]
          rw [if_neg y0]
          by_cases y1 : i = 1
          · subst y1; rw [if_pos rfl, if_neg (fun e => hk (show k < 3 by omega))]
          rw [if_neg y1]
          by_cases y2 : i = 2
          · subst y2; rw [if_pos rfl, if_neg (fun e => hk (show k < 3 by omega))]
          rw [if_neg y2]
          by_cases y3 : i = 3
          · subst y3; rw [if_pos rfl, if_neg (fun e => hk (show k < 8 by omega))]
          rw [if_neg y3]
          by_cases y4 : i = 4
          · subst y4; rw [if_pos rfl, if_neg (fun e => hk (show k < 24 by omega))]
          rw [if_neg y4]
          by_cases y5 : i = 5
          · subst y5; rw [if_pos rfl, if_neg (fun e => hk (show k < 24 by omega))]
          rw [if_neg y5]
      · rw [if_neg q]
        exact hK0' M' i1 (fun z => q z.2.2)
  · refine ⟨?_, fun k hk => ?_, fun k hk => ?_, fun k hk => ?_, fun k hk => ?_, fun k hk => ?_⟩
    · rw [sa_s, up_s]
    · rw [sa_n (by omega), sa_n (by omega), if_neg (by omega)]; exact mz 1 k hk
    · rw [sa_n (by omega), sa_n (by omega), if_neg (by omega)]; exact mz 2 k hk
    · rw [sa_n (by omega), sa_n (by omega), if_neg (by omega)]; exact mz 3 k hk
    · rw [sa_n (by omega), sa_n (by omega), if_neg (by omega)]; exact mz 4 k hk
    · rw [sa_n (by omega), sa_n (by omega), if_neg (by omega)]; exact mz 5 k hk
end CON
