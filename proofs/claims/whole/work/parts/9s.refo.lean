/-! The reference: images. -/
/-- only what is written has changed -/
def fo (M M' : PH) : Prop := (∀ q, q ≠ 234 → q ≠ 282 → M' q = M q) ∧ ∀ j, j ≠ 75 → M' 234 j = M 234 j
def pb (p : PB2) : Prop := ∀ i, i < p.1 → 0 ≤ p.2 i ∧ p.2 i ≤ 255
theorem pb_pt {p : PB2} {x : Int} (h : pb p) : pb (pt p x) := fun i hi => by
  show 0 ≤ pm_up p.2 p.1 (x % 256) i ∧ pm_up p.2 p.1 (x % 256) i ≤ 255
  have hi' : i < p.1 + 1 := hi
  by_cases q : i = p.1
  · rw [q, up_s]; omega
  · rw [up_n q]; exact h i (by omega)
theorem pb_2 {p : PB2} {x : Int} (h : pb p) : pb (pt2 p x) := pb_pt (pb_pt h)
theorem pb_i {f : Nat → PB2 → PB2} (hf : ∀ i p, pb p → pb (f i p)) : ∀ {k : Nat} {p : PB2}, pb p → pb (itr f k p)
  | 0, _, h => h
  | k + 1, p, h => hf k _ (pb_i hf h)
theorem pb_im {n : Nat → Nat} {μ : PH} {k : Nat} : pb (im2 n μ k) := pb_i (fun h p hp => pb_i (fun m q hq => pb_2 (pb_pt hq)) (pb_2 hp)) (pb_i (fun m q hq => pb_pt (pb_pt hq)) (pb_2 (fun i hi => by have : i < 0 := hi; omega)))
section RFo2
variable {d b w : Nat} {X : Nat × (Nat → Int)} {v : Nat → Int} {M M' M2 : PH} {K : PV → PS → Prop} {n : Nat → Nat} {a μ ν : PH} {F : Nat → List Int} {B : Nat → Int} {N : Nat} {rf : Nat → Int} {sd : Int} {A : Nat} {P : Nat → PH} {R R' : Nat} {sp sh sp' sh' : Nat → Int} {pi pi' p : PB2} {fe : Int × Int}
theorem fo_r : fo M M := ⟨fun _ _ _ => rfl, fun _ _ => rfl⟩
theorem fo_t (h : fo M M') (h2 : fo M' M2) : fo M M2 := ⟨fun q z1 z2 => (h2.1 q z1 z2).trans (h.1 q z1 z2), fun j z => (h2.2 j z).trans (h.2 j z)⟩
theorem RS_o (h : fo M M') (hS : RS M b n a F) : RS M' b n a F := RS_f (fun q z1 z2 => h.1 q (by omega) (by omega)) (h.2 13 (by omega)) hS
theorem RM_o (h : fo M M') (hM : RM M n w μ) : RM M' n w μ := RM_f (fun q z1 z2 => h.1 q (by omega) (by omega)) hM
theorem IR_im (h : IR M b n a F μ B N rf sd A P R sp sh pi fe) (hf : fo M M') (hi : RI M' pi') : IR M' b n a F μ B N rf sd A P R sp sh pi' fe := by
  obtain ⟨h1, h2, ⟨t1, t2, t3⟩, h4, h5, h6, ⟨g1, g2⟩, -, ⟨f1, f2⟩, n1, n2⟩ := h
  refine ⟨RS_o hf h1, RM_o hf h2, ⟨?_, t2, (hf.2 1 (by omega)).trans t3⟩, ?_, (hf.2 62 (by omega)).trans h5, RU_f (fun q z1 z2 => hf.1 q (by omega) (by omega)) ⟨hf.2 60 (by omega), hf.2 61 (by omega)⟩ h6, ⟨(hf.2 71 (by omega)).trans g1, ?_⟩, hi, ⟨(hf.2 10 (by omega)).trans f1, (hf.2 11 (by omega)).trans f2⟩, ?_, ?_⟩
  · rw [hf.1 235 (by omega) (by omega)]; exact t1
  · unfold RRf at *; rw [hf.1 269 (by omega) (by omega)]; exact h4
  · rw [hf.1 280 (by omega) (by omega), hf.1 281 (by omega) (by omega)]; exact g2
  · rw [hf.1 261 (by omega) (by omega)]; exact n1
  · rw [hf.1 262 (by omega) (by omega)]; exact n2
theorem c300 (hp : RI M p) (hl : p.1 < 110) {x : Int} (hK : ∀ M', fo M M' → RI M' (pt p x) → K PU (GF X, M', PTF v)) : pm_Call (d + 1) 300 [vA 234, vI x] (GF X, M, PTF v) K := by
  obtain ⟨p1, p2⟩ := hp
  rw [en300, r300_0 (by rw [p1]; omega) (by rw [p1]; omega), r300_14, p1, Int.toNat_natCast, and255]
  refine hK _ ⟨fun q z1 z2 => by rw [sa_n z1, sa_n z2], fun j z => by rw [sa_s, up_n z, sa_n (by omega)]⟩ ⟨?_, fun i hi => ?_⟩
  · rw [sa_s, up_s, sa_n (by omega), p1, pt_l]; omega
  · rw [sa_n (by omega), sa_s]
    show _ = pm_up p.2 p.1 (x % 256) i
    rw [pt_l] at hi
    by_cases q : i = p.1
    · rw [q, up_s, up_s]
    · rw [up_n q, up_n q]; exact p2 i (by omega)
theorem c301 (hp : RI M p) (hl : p.1 + 1 < 110) {x : Int} (hx : 0 ≤ x ∧ x ≤ 9999) (hK : ∀ M', fo M M' → RI M' (pt2 p x) → K PU (GF X, M', PTF v)) : pm_Call (d + 2) 301 [vA 234, vI x] (GF X, M, PTF v) K := by
  have e : pm_shr x 8 = x / 256 := by
    obtain ⟨k, rfl⟩ := Int.eq_ofNat_of_zero_le hx.1
    have := pm_shrN (a := k) (k := 8) (by omega) (by omega)
    rw [show pm_shr (k : Int) 8 = ((k >>> 8 : Nat) : Int) from this, Nat.shiftRight_eq_div_pow]; rfl
  rw [en301, r301_0, e]
  refine c300 hp (by omega) (fun M1 f1 i1 => ?_)
  rw [push_u, r301_8]
  refine c300 i1 (by rw [pt_l]; omega) (fun M2 f2 i2 => ?_)
  rw [push_u, r301_13]
  exact hK M2 (fo_t f1 f2) i2
theorem bt_1 (hw : wM n μ) {h m : Nat} (hh : h < 8) (hm : m < 3) : 0 ≤ μ 5 (h * 3 + m) ∧ μ 5 (h * 3 + m) ≤ 9999 := (hw.2.2.2.2.1 (h * 3 + m) (by omega)).2.2
theorem s302 (hI : IR M b n a F μ B N rf sd A P R sp sh pi fe) (hw : wM n μ) (hK : ∀ M', IR M' b n a F μ B N rf sd A P R sp sh (img n μ) fe → frS M M' → K (vI ((img n μ).1 : Nat)) (GF X, M', PTF v)) : pm_Call (d + 3) 302 [vA 234] (GF X, M, PTF v) K := by
  have hS := hI.1
  have hM := hI.2.1
  have hn := hS.2.2.1
  have hsz : ∀ k, k ≤ n 2 → (2 + 3 * n 1) * k ≤ 88 := fun k hk => Nat.le_trans (Nat.mul_le_mul (show 2 + 3 * n 1 ≤ 11 by omega) (show k ≤ 8 by omega)) (by decide)
  have i2l : ∀ k, k ≤ n 2 → (im2 n μ k).1 ≤ 96 := fun k hk => by
    have := hsz k hk
    rw [im2_l, Nat.mul_comm k]; omega
  rw [en302, r302_0, r302_5]
  have f0 : fo M (pm_sa M 234 (pm_up (M 234) 75 0)) := ⟨fun q z1 z2 => sa_n z1, fun j z => by rw [sa_s, up_n z]⟩
  have i0 : RI (pm_sa M 234 (pm_up (M 234) 75 0)) (0, fun _ => 0) := ⟨by rw [sa_s, up_s]; rfl, fun i hi => by have : i < 0 := hi; omega⟩
  rw [sa_n (a := 234) (b := 270) (by omega), hM.2.1]
  refine c301 i0 (by show 0 + 1 < 110; omega) hw.1 (fun M1 f1 i1 => ?_)
  have g1 := fo_t f0 f1
  rw [push_u, r302_15]
  -- the moons
  have lm : ∀ k j, j + k = n 1 → ∀ Mx, fo M Mx → RI Mx (im1 μ j) → pm_Run (d + 2) 302 17 [vA 234, vI (j : Int), PU] [] (GF X, Mx, PTF v) K := by
    intro k
    induction k with
    | zero =>
      intro j hj Mx fx ix
      have hSx := RS_o fx hS
      obtain ⟨⟨hb, e13⟩, ⟨-, e1, -⟩, -⟩ := id hSx.1
      have en : Mx 237 (Mx 234 13).toNat = (n 1 : Int) := by rw [e13, Int.toNat_natCast, e1]
      rw [r302_17 (by omega) (by omega) (by omega) (by rw [en]; omega), en, if_pos (by omega), r302_56]
      -- the harbors
      have lh : ∀ k2 h, h + k2 = n 2 → ∀ My (l2 : PV), fo M My → RI My (im2 n μ h) → pm_Run (d + 2) 302 58 [vA 234, vI (h : Int), l2] [] (GF X, My, PTF v) K := by
        intro k2
        induction k2 with
        | zero =>
          intro h hh My l2 fy iy
          have hSy := RS_o fy hS
          obtain ⟨⟨hb, e13⟩, ⟨-, -, e2, -⟩, -⟩ := id hSy.1
          have en : My 241 (My 234 13).toNat = (n 2 : Int) := by rw [e13, Int.toNat_natCast, e2]
          rw [r302_58 (by omega) (by omega) (by omega) (by rw [en]; omega), en, if_pos (by omega), r302_136]
          rw [show h = n 2 by omega] at iy
          have hl := i2l (n 2) (Nat.le_refl _)
          have bd : ∀ i, i < (im2 n μ (n 2)).1 → 0 ≤ (im2 n μ (n 2)).2 i ∧ (im2 n μ (n 2)).2 i ≤ 255 := pb_im
          refine (loopN (fun j => pm_Run (d + 2) 302 141 [vA 234, vI (chk (im2 n μ (n 2)).2 j), vI (j : Int)] [] (GF X, My, PTF v) K) (im2 n μ (n 2)).1 (fun j hj => ?_)).mpr ?_
          · have cb := chk_b (f := (im2 n μ (n 2)).2) (k := j) (fun i hi => bd i (by omega))
            have bj := bd j hj
            have ej := iy.2 j hj
            rw [r302_141 (by omega) (by rw [iy.1]; omega), iy.1, if_neg (by omega), r302_149 (by omega) (by omega) (by rw [Int.toNat_natCast, ej]; omega), Int.toNat_natCast, ej]; exact Iff.rfl
          · rw [r302_141 (by omega) (by rw [iy.1]; omega), iy.1, if_pos (by omega), r302_170]
            refine c300 iy (by omega) (fun Mz fz iz => ?_)
            rw [push_u, r302_175, iz.1]
            exact hK Mz (IR_im hI (fo_t fy fz) iz) (fun q hq => (fo_t fy fz).1 q (by omega) (by omega))
        | succ k2 ih2 =>
          intro h hh My l2 fy iy
          have hSy := RS_o fy hS
          have hMy := RM_o fy hM
          obtain ⟨⟨hb, e13⟩, ⟨-, -, e2, -⟩, -⟩ := id hSy.1
          have en : My 241 (My 234 13).toNat = (n 2 : Int) := by rw [e13, Int.toNat_natCast, e2]
          have e3 := hMy.2.2.2.1 h (by omega)
          rw [show 8 * 0 + h = h by omega] at e3
          have ll := i2l h (by omega)
          have ll2 := hsz (h + 1) (by omega)
          have pl0 : (im2 n μ h).1 + (2 + 3 * n 1) ≤ 96 := by
            have := i2l (h + 1) (by omega)
            rw [im2_l, Nat.succ_mul h] at this
            rw [im2_l]; omega
          rw [r302_58 (by omega) (by omega) (by omega) (by rw [en]; omega), en, if_neg (by omega), r302_71 (by omega) (by omega), Int.toNat_natCast, e3]
          refine c301 iy (by omega) (hw.2.2.2.1 h (by omega)) (fun Mz fz iz => ?_)
          rw [push_u, r302_81]
          have lb : ∀ k3 m, m + k3 = n 1 → ∀ Mu, fo M Mu → RI Mu (imP μ h m (im2 n μ h)) → pm_Run (d + 2) 302 83 [vA 234, vI (h : Int), vI (m : Int)] [] (GF X, Mu, PTF v) K := by
            intro k3
            induction k3 with
            | zero =>
              intro m hm Mu fu iu
              have hSu := RS_o fu hS
              obtain ⟨⟨hb, e13⟩, ⟨-, e1, -⟩, -⟩ := id hSu.1
              have en : Mu 237 (Mu 234 13).toNat = (n 1 : Int) := by rw [e13, Int.toNat_natCast, e1]
              rw [r302_83 (by omega) (by omega) (by omega) (by rw [en]; omega), en, if_pos (by omega), r302_130]
              rw [show m = n 1 by omega] at iu
              exact ih2 (h + 1) (by omega) Mu _ fu iu
            | succ k3 ih3 =>
              intro m hm Mu fu iu
              have hSu := RS_o fu hS
              have hMu := RM_o fu hM
              obtain ⟨⟨hb, e13⟩, ⟨-, e1, -⟩, -⟩ := id hSu.1
              have en : Mu 237 (Mu 234 13).toNat = (n 1 : Int) := by rw [e13, Int.toNat_natCast, e1]
              have pl := imP_l (μ := μ) (h := h) (p := im2 n μ h) (k := m)
              have ix : (3 * (h : Int) + (m : Int)).toNat = 24 * 0 + 3 * h + m := by omega
              rw [r302_83 (by omega) (by omega) (by omega) (by rw [en]; omega), en, if_neg (by omega), r302_96 (by omega) (by omega), ix, (hMu.2.2.2.2 h m (by omega) (by omega)).1]
              refine c300 iu (by omega) (fun Mt ft it => ?_)
              have hMt := RM_o ft hMu
              rw [push_u, r302_110 (by omega) (by omega), ix, (hMt.2.2.2.2 h m (by omega) (by omega)).2]
              refine c301 it (by rw [pt_l]; omega) (bt_1 hw (by omega) (by omega)) (fun Ms fs is => ?_)
              rw [push_u, r302_124]
              exact ih3 (m + 1) (by omega) Ms (fo_t fu (fo_t ft fs)) is
          exact lb (n 1) 0 (by omega) Mz (fo_t fy fz) iz
      rw [show j = n 1 by omega] at ix
      exact lh (n 2) 0 (by omega) Mx PU fx ix
    | succ k ih =>
      intro j hj Mx fx ix
      have hSx := RS_o fx hS
      have hMx := RM_o fx hM
      obtain ⟨⟨hb, e13⟩, ⟨-, e1, -⟩, -⟩ := id hSx.1
      have en : Mx 237 (Mx 234 13).toNat = (n 1 : Int) := by rw [e13, Int.toNat_natCast, e1]
      have l1 := im1_l (μ := μ) (k := j)
      have g := hMx.2.2.1 j (by omega)
      rw [show 3 * 0 + j = j by omega] at g
      rw [r302_17 (by omega) (by omega) (by omega) (by rw [en]; omega), en, if_neg (by omega), r302_30 (by omega) (by omega), Int.toNat_natCast, g.1]
      refine c300 ix (by omega) (fun Mt ft it => ?_)
      rw [push_u, r302_40 (by omega) (by omega), Int.toNat_natCast, ft.1 272 (by omega) (by omega), g.2]
      refine c300 it (by rw [pt_l]; omega) (fun Ms fs is => ?_)
      rw [push_u, r302_50]
      exact ih (j + 1) (by omega) Ms (fo_t fx (fo_t ft fs)) is
  exact lm (n 1) 0 (by omega) M1 g1 i1
theorem c303 (hi : RI M pi) (h97 : pi.1 ≤ 97) {x : Int} (hx : inR x) : pm_Call (d + 2) 303 [vA 234, vI x] (GF X, M, PTF v) K ↔ K (vI (qOct pi x)) (GF X, M, PTF v) := by
  rw [qOct]
  by_cases q : isIx pi.1 x = true
  · have q' := isIx_i.mp q
    obtain ⟨k, rfl, hk⟩ := ixN q
    rw [if_pos q, en303, r303_0, hi.1, c179t hx (by omega) (by omega) (by omega), push_i, r303_11 (by omega), if_neg (by omega), r303_14 (by omega) (by omega), r303_24, Int.toNat_natCast, hi.2 k hk]
  · rw [if_neg q, en303, r303_0, hi.1, c179f hx (by omega) (by omega) (fun z => q (isIx_i.mpr (by omega))), push_i, r303_11 (by omega), if_pos rfl, r303_23, r303_24]
end RFo2
