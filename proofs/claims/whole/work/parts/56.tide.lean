/-! The class's tide: pulls of a moon. -/
section CTI
variable {d b c t m : Nat} {X : Nat × (Nat → Int)} {v : Nat → Int} {M : PH} {K : PV → PS → Prop} {n : Nat → Nat} {a μ : PH} {F : Nat → List Int}
/-- what tellMoon writes -/
def tmv (g : Nat → Int) (n : Nat → Nat) (μ : PH) (m : Nat) (paid rival : Int) : Nat → Int := pm_up (pm_up (pm_up (pm_up (pm_up (pm_up (pm_up (pm_up (pm_up g 15 0) 7 0) 6 0) 16 paid) 17 (dt μ m)) 4 (μ 2 m)) 19 (if (n 6 : Int) ≤ dt μ m then 1 else 0)) 20 rival) 21 (μ 0 0)
theorem c118 (hc : isCh c) (hb : isMo b) (hC : isC M c n a F) (hμ : mo M b = μ) (hm : m < 3) (hw : wM n μ) (h6 : n 6 ≤ 999) {paid rival : Int} : pm_Call (d + 2) 118 [vA c, vA b, vI (m : Int), vI paid, vI rival] (GF X, M, PTF v) K ↔ K PU (GF X, pm_sa M (c + 20) (tmv (M (c + 20)) n μ m paid rival), PTF v) := by
  have hd := dt_b hw hm
  have hbc := mo_cv hb hc
  have e6 : M c 6 = (n 6 : Int) := hC.1 6 (by omega)
  rw [en118, r118_0 hb hc, c59 hb hm, push_i, dt_m hm, hμ, r118_14 hc, r118_22 hc, r118_28 hc, r118_34 hc, r118_40 hc, r118_47 hb hc (by omega) (by omega)]
  simp only [sa_s, sa_sa]
  have e2 : ∀ g, (pm_sa M (c + 20) g) (b + 2) ((m : Int)).toNat = μ 2 m := fun g => by rw [Int.toNat_natCast, sa_n (by omega), ← hμ]; exact mo_2 hm
  have e6' : ∀ g, (pm_sa M (c + 20) g) c 6 = (n 6 : Int) := fun g => by rw [sa_n (by omega), e6]
  have e0 : ∀ g, (pm_sa M (c + 20) g) b 0 = μ 0 0 := fun g => by rw [sa_n (by omega), ← hμ]; rfl
  rw [r118_57 hc (by omega) (by rw [e6']; omega), e2, e6']
  by_cases q : dt μ m < (n 6 : Int)
  · rw [if_pos q, r118_74, r118_75 hc (by omega) (by omega), r118_76 hc, r118_83 hb hc]
    simp only [sa_s, sa_sa, e0]
    rw [tmv, if_neg (show ¬ (n 6 : Int) ≤ dt μ m by omega)]; rfl
  · rw [if_neg q, r118_70, r118_75 hc (by omega) (by omega), r118_76 hc, r118_83 hb hc]
    simp only [sa_s, sa_sa, e0]
    rw [tmv, if_pos (show (n 6 : Int) ≤ dt μ m by omega)]; rfl
theorem tmv_e {g : Nat → Int} {paid rival far place : Int} {u : Nat} (hu : isVw u = true) : pm_up (pm_up (tmv g n μ m paid rival) 18 far) 22 place u = envM n μ m paid rival far place u := by
  have h := vw_c hu
  have h' : u = 4 ∨ u = 6 ∨ u = 7 ∨ u = 15 ∨ u = 16 ∨ u = 17 ∨ u = 18 ∨ u = 19 ∨ u = 20 ∨ u = 21 ∨ u = 22 := by omega
  rcases h' with rfl | rfl | rfl | rfl | rfl | rfl | rfl | rfl | rfl | rfl | rfl <;> rfl
theorem envM_b (hw : wM n μ) (hm : m < 3) {paid rival far place : Int} (h1 : 0 ≤ paid ∧ paid ≤ 1000) (h2 : 0 ≤ rival ∧ rival ≤ 1000) (h3 : 0 ≤ far ∧ far ≤ 1000) (h4 : 0 ≤ place ∧ place ≤ 1000) (w : Nat) : -1000000 ≤ envM n μ m paid rival far place w ∧ envM n μ m paid rival far place w ≤ 1000000 := by
  have hd := dt_b hw hm
  have h5 := hw.2.2.1 m hm
  have h6 := hw.1
  unfold envM
  split
  · omega
  split
  · omega
  split
  · omega
  split
  · omega
  split
  · split <;> omega
  split
  · omega
  split
  · omega
  split <;> omega
set_option maxHeartbeats 4000000 in
/-- the pulls' loop -/
theorem c114l (hc : isCh c) (ht : isTi t) (hb : isMo b) (hC : isC M c n a F) (hwC : wC n a F) (hw : wM n μ) (hm : m < n 1) {paid rival : Int} (hp : 0 ≤ paid ∧ paid ≤ 1000) (hr : 0 ≤ rival ∧ rival ≤ 1000) {fr most : Nat} (hfr : μ 1 m = (fr : Int)) {bp vr : Int} (hk : (bp = 1 ∧ vr = 1 ∧ most + 1 = n 0) ∨ (bp = 0 ∧ most = n 0 / 2 ∧ (10022 : Int) ∉ F 0 ∧ (vr = 1 ∨ (vr = 0 ∧ (10018 : Int) ∉ F 0)))) (hT : ∀ u, u ≠ 18 → u ≠ 22 → M (c + 20) u = tmv (M (c + 20)) n μ m paid rival u)
    (hK : ∀ M' : PH, (∀ q, q ≠ c + 20 → q ≠ c + 21 → q ≠ t + 1 → M' q = M q) → (∀ p, p < n 0 → M' (t + 1) (m * 24 + p) = pl n F μ m paid rival p) → (∀ k, k < m * 24 ∨ m * 24 + 24 ≤ k → M' (t + 1) k = M (t + 1) k) → K PU (GF X, M', PTF v)) :
    pm_Run (d + 2) 114 91 [vA t, vA c, vA b, vI (m : Int), vI paid, vI rival, vA (c + 15), vI bp, vI vr, vI ((m : Int) * 24), vI (fr : Int), vI 0, vI (most : Int), vI 0, PU] [] (GF X, M, PTF v) K := by
  obtain ⟨⟨hn0, hn1, -, -, -, -, -, hn00⟩, -, -, -, hty⟩ := hwC
  have hct := ct_d hc ht
  have hm3 : m < 3 := by omega
  have hpos : 0 < n 0 := by by_cases q : n 0 = 0 <;> omega
  have hfrb : fr < n 0 := by have := hw.2.1 m hm; omega
  obtain ⟨ts, hts⟩ := hty 0 (by omega)
  have hms : most < n 0 := by omega
  have key := loop2 (most + 1)
    (fun s (M' : PH) (st : Int) => (∀ q, q ≠ c + 20 → q ≠ c + 21 → q ≠ t + 1 → M' q = M q) ∧ (∀ u, u ≠ 18 → u ≠ 22 → M' (c + 20) u = tmv (M (c + 20)) n μ m paid rival u) ∧ (0 < s → vr = 0 → ∀ p, p < n 0 → st = pl n F μ m paid rival p) ∧ (∀ k, k < m * 24 ∨ m * 24 + 24 ≤ k → M' (t + 1) k = M (t + 1) k) ∧ (∀ p j, p < n 0 → j < s → (p = fr + j ∨ p + n 0 = fr + j ∨ (bp = 0 ∧ (p + j = fr ∨ p + j = fr + n 0))) → M' (t + 1) (m * 24 + p) = pl n F μ m paid rival p))
    (fun s (M' : PH) (st : Int) => ∀ l14 : PV, pm_Run (d + 2) 114 91 [vA t, vA c, vA b, vI (m : Int), vI paid, vI rival, vA (c + 15), vI bp, vI vr, vI ((m : Int) * 24), vI (fr : Int), vI st, vI (most : Int), vI (s : Int), l14] [] (GF X, M', PTF v) K)
    (fun s M' st hs hI ih l14 => by
      obtain ⟨i1, i2, i3, i4, i5⟩ := hI
      have e0 : M' c 0 = (n 0 : Int) := by rw [i1 c (by omega) (by omega) (by omega)]; exact hC.1 0 (by omega)
      obtain ⟨rt, hrt, hrt2, hrt3⟩ := tmN (x := fr + s) (n := n 0) (by omega)
      obtain ⟨lf, hlf, hlf2, hlf3⟩ := tmN (x := fr + n 0 - s) (n := n 0) (by omega)
      have hrt' : ((fr : Int) + (s : Int)).tmod (M' c 0) = (rt : Int) := by rw [e0, ← hrt]; congr 1
      have hfa : fa (n 0) (μ 1 m) rt = min (s : Int) ((n 0 : Int) - s) := by rw [hfr]; unfold fa; omega
      have hfl : fa (n 0) (μ 1 m) lf = min (s : Int) ((n 0 : Int) - s) := by rw [hfr]; unfold fa; omega
      rw [r114_91 (by omega) (by omega), if_neg (by omega), r114_98 hc (by rw [e0]; omega), e0, if_neg (by omega), r114_105 hc (by omega) (by rw [e0]; omega) (by rw [e0]; omega) (by omega), hrt']
      have A : ∀ (M2 : PH) (st2 : Int), (∀ q, q ≠ c + 20 → q ≠ c + 21 → M2 q = M' q) → (∀ u, u ≠ 18 → u ≠ 22 → M2 (c + 20) u = tmv (M (c + 20)) n μ m paid rival u) → (vr = 0 → ∀ p, p < n 0 → st2 = pl n F μ m paid rival p) → st2 = pl n F μ m paid rival rt → (bp = 0 → st2 = pl n F μ m paid rival lf) → pm_Run (d + 2) 114 172 [vA t, vA c, vA b, vI (m : Int), vI paid, vI rival, vA (c + 15), vI bp, vI vr, vI ((m : Int) * 24), vI (fr : Int), vI st2, vI (most : Int), vI (s : Int), vI (rt : Int)] [] (GF X, M2, PTF v) K := by
        intro M2 st2 g1 g2 g3 g4 g5
        have e0' : M2 c 0 = (n 0 : Int) := by rw [g1 c (by omega) (by omega), e0]
        have et : M2 (t + 1) = M' (t + 1) := g1 (t + 1) (by omega) (by omega)
        rw [r114_172 ht (by omega) (by omega), r114_184 (by omega), show ((m : Int) * 24 + (rt : Int)).toNat = m * 24 + rt by omega]
        by_cases q : bp = 0
        · have e0'' : ∀ f, (pm_sa M2 (t + 1) f) c 0 = (n 0 : Int) := fun f => by rw [sa_n (by omega), e0']
          have hlf' : ∀ f, ((fr : Int) + (pm_sa M2 (t + 1) f) c 0 - (s : Int)).tmod ((pm_sa M2 (t + 1) f) c 0) = (lf : Int) := fun f => by rw [e0'', ← hlf]; congr 1; omega
          rw [if_neg (by omega), r114_189 hc ht (by rw [e0'']; omega) (by rw [e0'']; omega) (by rw [e0'']; omega) (by rw [hlf']; omega) (by rw [hlf']; omega), hlf', show ((m : Int) * 24 + (lf : Int)).toNat = m * 24 + lf by omega, r114_214, sa_s, sa_sa]
          refine ih _ st2 ⟨fun q h1 h2 h3 => by rw [sa_n h3, g1 q h1 h2, i1 q h1 h2 h3], fun u h1 h2 => by rw [sa_n (by omega)]; exact g2 u h1 h2, fun _ => g3, fun k hk => ?_, fun p j hp hj hpj => ?_⟩ _
          · rw [sa_s, up_n (by omega), up_n (by omega), et]; exact i4 k hk
          · rw [sa_s]
            by_cases q1 : p = lf
            · rw [up_e (by omega), q1]; exact g5 q
            · rw [up_n (by omega)]
              by_cases q2 : p = rt
              · rw [up_e (by omega), q2]; exact g4
              · rw [up_n (by omega), et]
                exact i5 p j hp (by omega) hpj
        · rw [if_pos q, r114_214]
          refine ih _ st2 ⟨fun q h1 h2 h3 => by rw [sa_n h3, g1 q h1 h2, i1 q h1 h2 h3], fun u h1 h2 => by rw [sa_n (by omega)]; exact g2 u h1 h2, fun _ => g3, fun k hk => ?_, fun p j hp hj hpj => ?_⟩ _
          · rw [sa_s, up_n (by omega), et]; exact i4 k hk
          · rw [sa_s]
            by_cases q2 : p = rt
            · rw [up_e (by omega), q2]; exact g4
            · rw [up_n (by omega), et]
              exact i5 p j hp (by omega) hpj
      have B : pm_Run (d + 2) 114 127 [vA t, vA c, vA b, vI (m : Int), vI paid, vI rival, vA (c + 15), vI bp, vI vr, vI ((m : Int) * 24), vI (fr : Int), vI st, vI (most : Int), vI (s : Int), vI (rt : Int)] [] (GF X, M', PTF v) K := by
        rw [r114_127 hc (by omega) (by rw [e0]; omega), r114_147 hc, r114_157 hc, sa_s, sa_sa, e0]
        have hE : ∀ u, isVw u = true → (pm_sa M' (c + 20) (pm_up (pm_up (M' (c + 20)) 18 (min (s : Int) ((n 0 : Int) - s))) 22 (rt : Int))) (c + 15 + 5) u = envM n μ m paid rival (fa (n 0) (μ 1 m) rt) rt u := by
          intro u hu
          rw [show c + 15 + 5 = c + 20 from rfl, sa_s, hfa, ← tmv_e (g := M (c + 20)) hu]
          by_cases q1 : u = 22
          · rw [up_e q1, up_e q1]
          · rw [up_n q1, up_n q1]
            by_cases q2 : u = 18
            · rw [up_e q2, up_e q2]
            · rw [up_n q2, up_n q2]; exact i2 u q2 q1
        have hfb : 0 ≤ fa (n 0) (μ 1 m) rt ∧ fa (n 0) (μ 1 m) rt ≤ 1000 := by rw [hfa]; omega
        have hev : ev ((pm_sa M' (c + 20) (pm_up (pm_up (M' (c + 20)) 18 (min (s : Int) ((n 0 : Int) - s))) 22 (rt : Int))) (c + 15 + 5)) (F 0) = ev (envM n μ m paid rival (fa (n 0) (μ 1 m) rt) rt) (F 0) := by
          unfold ev
          rw [ev_c (fun x hx h1 h2 => ?_)]
          rcases ty_w (l := F 0) (s := []) (by rw [show List.foldl ty1 (some []) (F 0) = ty (F 0) from rfl, hts]; simp) x hx with h | h | h
          · omega
          · exact hE _ h.2.2
          · omega
        have hCM : isC (pm_sa M' (c + 20) (pm_up (pm_up (M' (c + 20)) 18 (min (s : Int) ((n 0 : Int) - s))) 22 (rt : Int))) c n a F := isC_fr (fun i hi => by rw [sa_n (by omega), i1 _ (by omega) (by omega) (by omega)]) hC
        refine c46 (w := 0) (ch_fo hc) (by omega) (hCM.2.2.2.2.1 0 (by omega)) hts (fun u hu _ => by rw [hE u hu]; exact envM_b hw hm3 hp hr hfb (by omega) u) (fun g => ?_)
        have hebnd : inR (ev (envM n μ m paid rival (fa (n 0) (μ 1 m) rt) rt) (F 0)) := by
          have h1 := ev_b (e := envM n μ m paid rival (fa (n 0) (μ 1 m) rt) rt) (l := F 0) (ts := []) (xs := []) (fun w _ _ => envM_b hw hm3 hp hr hfb (by omega) w) hts trivial
          unfold ev
          revert h1
          generalize List.foldl (ev1 (envM n μ m paid rival (fa (n 0) (μ 1 m) rt) rt)) [] (F 0) = xs
          intro h1
          match ts, xs, h1 with
          | [], [], _ => exact ⟨by simp, by simp⟩
          | q :: ts, x :: xs, h1 =>
            have := h1.1
            show inR x
            split at this <;> omega
        rw [hev, push_i, r114_165, c177 hebnd (by omega) (by omega), push_i, r114_170]
        have est : wi (-99) (ev (envM n μ m paid rival (fa (n 0) (μ 1 m) rt) rt) (F 0)) 99 = pl n F μ m paid rival rt := rfl
        have hsame : ∀ p : Nat, p < n 0 → (10022 : Int) ∉ F 0 → (fa (n 0) (μ 1 m) p = fa (n 0) (μ 1 m) rt ∨ (10018 : Int) ∉ F 0) → pl n F μ m paid rival rt = pl n F μ m paid rival p := by
          intro p hp' h22 h18
          unfold pl ev
          rw [ev_c (fun x hx h1 h2 => ?_)]
          unfold envM
          have hx22 : x ≠ 10022 := fun z => h22 (z ▸ hx)
          have g22 : ¬ (x - 10000).toNat = 22 := by omega
          rw [if_neg g22, if_neg g22]
          rcases h18 with h | h
          · rw [h]
          · have hx18 : x ≠ 10018 := fun z => h (z ▸ hx)
            have g18 : ¬ (x - 10000).toNat = 18 := by omega
            rw [if_neg g18, if_neg g18]
        refine A _ _ (fun q h1 h2 => by rw [sa_n (by omega), sa_n h1]) (fun u h1 h2 => ?_) (fun hv p hp' => ?_) est (fun hv => ?_)
        · rw [sa_n (by omega), sa_s, up_n h2, up_n h1]; exact i2 u h1 h2
        · rcases hk with h | ⟨-, -, h22, h | ⟨-, h18⟩⟩
          · omega
          · omega
          · exact est.trans (hsame p hp' h22 (Or.inr h18))
        · rcases hk with h | ⟨-, -, h22, -⟩
          · omega
          · exact est.trans (hsame lf hlf2 h22 (Or.inl (by rw [hfa, hfl])))
      by_cases q : vr = 0
      · rw [if_neg (by omega), r114_122 (by omega)]
        by_cases q2 : s = 0
        · rw [if_neg (by omega)]; exact B
        · rw [if_pos (by omega)]
          exact A M' st (fun _ _ _ => rfl) i2 (fun h => i3 (by omega) h) (i3 (by omega) q rt hrt2) (fun _ => i3 (by omega) q lf hlf2)
      · rw [if_pos (by omega)]; exact B)
    (fun M' st hI l14 => by
      obtain ⟨i1, i2, i3, i4, i5⟩ := hI
      rw [r114_91 (by omega) (by omega), if_pos (by omega), r114_220]
      refine hK M' i1 (fun p hp' => ?_) i4
      rcases hk with h | h
      · by_cases q : fr ≤ p
        · exact i5 p (p - fr) hp' (by omega) (by omega)
        · exact i5 p (p + n 0 - fr) hp' (by omega) (by omega)
      · by_cases q : fr ≤ p
        · by_cases q2 : p - fr ≤ most
          · exact i5 p (p - fr) hp' (by omega) (by omega)
          · exact i5 p (fr + n 0 - p) hp' (by omega) (by omega)
        · by_cases q2 : fr - p ≤ most
          · exact i5 p (fr - p) hp' (by omega) (by omega)
          · exact i5 p (p + n 0 - fr) hp' (by omega) (by omega))
  exact key M 0 ⟨fun _ _ _ _ => rfl, hT, fun h => absurd h (by omega), fun _ _ => rfl, fun p j _ hj => absurd hj (by omega)⟩ PU
end CTI
