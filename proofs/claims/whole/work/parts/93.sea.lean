/-! The class's acts: going on from an image, a new sea. -/
theorem mo227 : isMo 227 := by simp [isMo, MOL]
section AC4
variable {d c : Nat} {X : Nat × (Nat → Int)} {v v' : Nat → Int} {M M' : PH} {K : PV → PS → Prop} {n : Nat → Nat} {a μ μ' : PH} {F : Nat → List Int} {B B' : Nat → Int} {N N' : Nat} {rf rf' : Nat → Int} {sd sd' : Int} {A A' : Nat} {P P' : Nat → PH} {R R' : Nat} {sp sh sp' sh' : Nat → Int} {pi : PB2} {fe fe' : Int × Int} {T T' : Int}
theorem dcd_w (hwC : wC n a F) (hB : ∀ k, k < 1600 → 0 ≤ B k ∧ B k ≤ 255) (h : okB n B = true) : wM n (dcd n B) := by
  have hn3 := hwC.1.2.1
  have hn8 := hwC.1.2.2.1
  unfold okB at h
  rw [Bool.and_eq_true, Bool.and_eq_true] at h
  obtain ⟨⟨h0, h1⟩, h2⟩ := h
  have h0 : two B 0 ≤ 9999 := by simpa using h0
  have t : ∀ k, k + 1 < 1600 → 0 ≤ two B k := fun k hk => by
    have b0 := hB k (by omega)
    have b1 := hB (k + 1) hk
    unfold two; omega
  have m : ∀ j, j < n 1 → B (2 + 2 * j) ≤ (n 0 : Int) - 1 ∧ B (3 + 2 * j) ≤ 9 := fun j hj => by
    have := al_i h1 j hj
    unfold okM at this
    rw [Bool.and_eq_true] at this
    exact ⟨by simpa using this.1, by simpa using this.2⟩
  have hh : ∀ j, j < n 2 → two B (hat n j) ≤ 9999 ∧ ∀ i, i < n 1 → B (bat n j i) ≤ 20 ∧ two B (bat n j i + 1) ≤ 9999 := fun j hj => by
    have := al_i h2 j hj
    unfold okH at this
    rw [Bool.and_eq_true] at this
    refine ⟨by simpa using this.1, fun i hi => ?_⟩
    have := al_i this.2 i hi
    unfold okP at this
    rw [Bool.and_eq_true] at this
    exact ⟨by simpa using this.1, by simpa using this.2⟩
  have hb : ∀ j, j < n 2 → hat n j + 11 < 1000 := fun j hj => by
    have : (2 + 3 * n 1) * j ≤ 11 * 8 := Nat.mul_le_mul (by omega) (by omega)
    unfold hat; omega
  refine ⟨⟨t 0 (by omega), h0⟩, fun j hj => ?_, fun j hj => ?_, fun j hj => ?_, fun k hk => ?_, fun j hj => ?_, fun j hj => ?_, fun j i hi hj => ?_⟩
  · show 0 ≤ (if j < n 1 then B (2 + 2 * j) else 0) ∧ (if j < n 1 then B (2 + 2 * j) else 0) < (n 0 : Int)
    rw [if_pos hj]
    have := (m j hj).1
    exact ⟨(hB _ (by omega)).1, by omega⟩
  · show 0 ≤ (if j < n 1 then B (3 + 2 * j) else 0) ∧ (if j < n 1 then B (3 + 2 * j) else 0) ≤ 9
    by_cases q : j < n 1
    · rw [if_pos q]; exact ⟨(hB _ (by omega)).1, (m j q).2⟩
    · rw [if_neg q]; omega
  · show 0 ≤ (if j < n 2 then two B (hat n j) else 0) ∧ (if j < n 2 then two B (hat n j) else 0) ≤ 9999
    by_cases q : j < n 2
    · have := hb j q
      rw [if_pos q]; exact ⟨t _ (by omega), (hh j q).1⟩
    · rw [if_neg q]; omega
  · show 0 ≤ (if k < 3 * n 2 ∧ k % 3 < n 1 then B (bat n (k / 3) (k % 3)) else 0) ∧ (if k < 3 * n 2 ∧ k % 3 < n 1 then B (bat n (k / 3) (k % 3)) else 0) ≤ 20 ∧ 0 ≤ (if k < 3 * n 2 ∧ k % 3 < n 1 then two B (bat n (k / 3) (k % 3) + 1) else 0) ∧ (if k < 3 * n 2 ∧ k % 3 < n 1 then two B (bat n (k / 3) (k % 3) + 1) else 0) ≤ 9999
    by_cases q : k < 3 * n 2 ∧ k % 3 < n 1
    · have g := hh (k / 3) (by omega)
      have gb := hb (k / 3) (by omega)
      have gi := g.2 (k % 3) q.2
      have e : bat n (k / 3) (k % 3) < 1000 := by unfold bat; omega
      rw [if_pos q, if_pos q]; exact ⟨(hB _ (by omega)).1, gi.1, t _ (by omega), gi.2⟩
    · rw [if_neg q, if_neg q]; omega
  · show (if j < n 1 then B (2 + 2 * j) else 0) = 0 ∧ (if j < n 1 then B (3 + 2 * j) else 0) = 0
    rw [if_neg (by omega), if_neg (by omega)]; exact ⟨rfl, rfl⟩
  · show (if j < n 2 then two B (hat n j) else 0) = 0
    rw [if_neg (by omega)]
  · show (if j * 3 + i < 3 * n 2 ∧ (j * 3 + i) % 3 < n 1 then B (bat n ((j * 3 + i) / 3) ((j * 3 + i) % 3)) else 0) = 0 ∧ (if j * 3 + i < 3 * n 2 ∧ (j * 3 + i) % 3 < n 1 then two B (bat n ((j * 3 + i) / 3) ((j * 3 + i) % 3) + 1) else 0) = 0
    rw [if_neg (by omega), if_neg (by omega)]; exact ⟨rfl, rfl⟩
/-- cells of a picture's reader and references that are not looked at have changed -/
theorem IC_O (h : IC M v n a F μ B N rf sd A P R sp sh pi fe T) (hf : frO M M') (hv : ∀ j, j < 5 → v' j = v j) : IC M' v' n a F μ B N rf sd A P R sp sh pi fe T ∧ frR M M' := by
  refine ⟨?_, fun q hq => hf.1 q (by omega) (by omega)⟩
  obtain ⟨⟨c, c1, c2, c3, c4, c5, c6, c7, c8⟩, h2, ⟨h3, h3'⟩, h4, h5, ⟨k, h6⟩, h7, h8, ⟨p1, p2⟩, ⟨i1, i2⟩, h11, h12⟩ := h
  have hcc : c = 9 ∨ c = 35 := c1
  have g : ∀ q, (q < 225 ∨ q = 226) → M' q = M q := fun q hq => hf.1 q (by omega) (by omega)
  refine ⟨⟨c, c1, by rw [hv 0 (by omega)]; exact c2, by rw [hv 1 (by omega)]; exact c3, by rw [hv 2 (by omega)]; exact c4, by rw [hv 3 (by omega)]; exact c5, by rw [hv 4 (by omega)]; exact c6, isC_fr (fun i hi => g _ (by omega)) c7, ?_⟩, h2, ⟨(mo_fr (fun i hi => g _ (by omega))).trans h3, h3'⟩, tpI_f (g 0 (by omega)) (g 1 (by omega)) h4, rfI_f (Int.le_refl _) (g 2 (by omega)) h5, ⟨k, FI_f (fun q h1 h2 => g _ (by omega)) h6⟩, BI_f (fun q h1 h2 => g _ (by omega)) (Int.le_refl _) h7, WI_f (g _ (by omega)) (g _ (by omega)) (g _ (by omega)) h8, ⟨PA_f (fun q h1 h2 => g _ (by omega)) p1, p2⟩, ⟨?_, i2⟩, by rw [g 31 (by omega)]; exact h11, fun w hw => by rw [g 33 (by omega)]; exact h12 w hw⟩
  · unfold nmI at *
    rw [g _ (by omega), g _ (by omega)]; exact c8
  · unfold isP at *
    rw [hf.2 2 (by omega) (by omega), g _ (by omega)]; exact i1
theorem PA_0 (hP : PA M A P) : PA (pm_sa M 103 (pm_up (M 103) 2 0)) 0 P' := by
  obtain ⟨x, hx, h1, h2, h3, h4⟩ := hP
  exact ⟨x, hx, by omega, by rw [sa_s, up_n (by omega)]; exact h2, by rw [sa_s, up_s]; rfl, fun k hk => absurd hk (Nat.not_lt_zero k)⟩
theorem a162 (h : IC M v n a F μ B N rf sd A P R sp sh pi fe T) (hT : T + 1 ≤ T') (hK0 : ¬ (0 < n 0 ∧ onOk n B N) → ∀ M' v', IC M' v' n a F μ B 0 (pm_up rf 5 (rf 5 + 1)) sd A P R sp sh pi fe T' → frR M M' → K (vI 0) (GF X, M', PTF v')) (hK1 : 0 < n 0 ∧ onOk n B N → ∀ M' v', IC M' v' n a F (dcd n B) B 0 rf sd 0 P R sp sh pi fe T' → frR M M' → K (vI 1) (GF X, M', PTF v')) : pm_Call (d + 5) 162 [vA 0] (GF X, M, PTF v) K := by
  have hN := h.2.2.2.1.2.1
  rw [en162, r162_0]
  refine c166 h (fun M1 hI f1 => ?_)
  have hI' := hI
  obtain ⟨⟨c, c1, c2, c3, c4, c5, c6, c7, c8⟩, h2, ⟨h3, h3'⟩, h4, h5, h6, h7, h8, ⟨p1, p2⟩, -⟩ := hI'
  have hcc : c = 9 ∨ c = 35 := c1
  have bad : ¬ (0 < n 0 ∧ onOk n B N) → ∀ M2 v2, IC M2 v2 n a F μ B 0 rf sd A P R sp sh pi fe T → frR M M2 → pm_Run (d + 4) 162 31 [vA 0, vI (N : Int)] [] (GF X, M2, PTF v2) K := by
    intro q M2 v2 g1 g2
    rw [r162_31]
    refine c164 (j := 5) g1 hT (by omega) (fun M' k1 k2 => ?_)
    rw [push_i, r162_36 (by decide), if_pos rfl, r162_44, r162_45 (by simp)]
    exact hK0 q M' v2 k1 (frR_t g2 k2)
  rw [push_i, r162_4, c168 c1 c2 (c7.1 0 (by omega)) h2.1.1, push_i, r162_9 i01]
  by_cases q : 0 < n 0
  · rw [if_pos (c := decide _ = true) (by simpa using q), if_neg (by omega), r162_12 c1 c2]
    refine c105 c1 c7 h2 h4.1 hN (fun M2 v2 g1 g2 g3 => ?_) (fun M2 g1 g2 g3 => ?_)
    · obtain ⟨k1, k2⟩ := IC_O (v' := v2) hI g1 (fun j hj => by
        rcases g2 with rfl | rfl
        · rfl
        · rw [up_n (by omega)])
      rw [push_i, r162_28 (by decide), if_neg (by simp)]
      exact bad (fun w => g3 w.2) M2 v2 k1 (frR_t f1 k2)
    · obtain ⟨k1, k2⟩ := IC_O (v' := pm_up v 6 ((1 : Nat) : Int)) hI g1 (fun j hj => up_n (by omega))
      rw [push_i, r162_28 (by decide), if_pos (by simp), r162_46]
      refine (c56 mo3 mo227 (by omega)).mpr ?_
      rw [push_u, r162_60, c100, push_u, r162_67]
      have e3 : mo (mcp M2 3 227) 3 = dcd n B := mcp_s.trans g3
      have hpa := k1.2.2.2.2.2.2.2.2.1.1
      obtain ⟨u1, u2⟩ := IC_0 (M' := pm_sa (mcp M2 3 227) 103 (pm_up (mcp M2 3 227 103) 2 0)) (T' := T') (A' := 0) (P' := P) (by omega) k1 (fun c' _ _ q _ _ _ _ _ z5 z6 => by rw [sa_n (by omega), mcp_n (by omega)]) (tpI_f (by rw [sa_n (by omega), mcp_n (by omega)]) (by rw [sa_n (by omega), mcp_n (by omega)]) k1.2.2.2.1) ((mo_n (by omega)).trans e3) (dcd_w h2 (fun k hk => (h4.1 k hk).2) g2.2.2) ⟨by
        have := PA_0 (P' := P) (PA_f (M' := mcp M2 3 227) (fun q h1 h2 => mcp_n (by omega)) hpa)
        exact this, fun k hk => absurd hk (Nat.not_lt_zero k)⟩
      refine c167 u1 (fun M3 v3 k3 k4 _ => ?_)
      rw [push_u, r162_71]
      exact hK1 ⟨q, g2⟩ M3 v3 k3 (frR_t f1 (frR_t k2 (frR_t u2 k4)))
  · rw [if_neg (c := decide _ = true) (by simpa using q), if_pos rfl]
    exact bad (fun w => q w.1) M1 v hI f1
theorem r134_38 {c2 : Nat} (hc : isCh c2) {l1 : Int} : pm_Run d 134 38 [vA 0, vI l1] [vA c2, vA 0] (GF X, M, PTF v) K ↔ pm_Call d 56 [vA 3, vA (c2 + 9)] (GF X, M, PTF (pm_up v 0 (c2 : Int))) (fun r9 S1 => pm_Run d 134 55 [vA 0, vI l1] (pm_push r9 []) S1 K) := by
  have o0 : pm_ob (GF X) ((0 : Nat) : Int) 11 := ob_i (n := 13) (by decide +kernel)
  have e : pm_sa (PTF v) ((0 : Nat) : Int).toNat (pm_up (PTF v ((0 : Nat) : Int).toNat) 3 (c2 : Int)) = PTF (pm_up v 0 (c2 : Int)) := ptu0
  have e3 : PTF (pm_up v 0 (c2 : Int)) ((0 : Nat) : Int).toNat 3 = (c2 : Int) := ptd0 up_s
  have e2 : PTF (pm_up v 0 (c2 : Int)) ((0 : Nat) : Int).toNat 2 = ((3 : Nat) : Int) := ptf_l (a := 0) (k := 2) (n := 3) (by decide +kernel)
  have e16 : PTF (pm_up v 0 (c2 : Int)) ((c2 : Int)).toNat 16 = ((c2 + 9 : Nat) : Int) := by rw [Int.toNat_natCast]; exact chp0_16 hc
  have := b134_38 (d := d) (G := GF X) (M := M) (T := PTF v) (K := K) (l0 := ((0 : Nat) : Int)) (l1 := l1) (s0 := (c2 : Int)) (s1 := ((0 : Nat) : Int)) o0 (by omega) o0 (by rw [e, e3]; exact ob_i (chs0 hc)) (by rw [e, e2]; exact ob_i (n := 6) (by decide +kernel))
  rw [e, e3, e2, e16] at this
  exact this
end AC4
