/-! The class's acts: tape, refusals, moments. -/
def IC0 (M : PH) (v : Nat → Int) (n : Nat → Nat) (a : PH) (F : Nat → List Int) (μ : PH) (B : Nat → Int) (N : Nat) (rf : Nat → Int) (sd : Int) (A : Nat) (P : Nat → PH) (R : Nat) (sp sh : Nat → Int) (pi : PB2) (fe : Int × Int) (T : Int) : Prop := (∃ c : Nat, isCh c ∧ v 0 = (c : Int) ∧ v 1 = ((44 - c : Nat) : Int) ∧ isC M c n a F ∧ nmI M c n a) ∧ wC n a F ∧ (mo M 3 = μ ∧ wM n μ) ∧ tpI M B N sd ∧ rfI M rf T ∧ (stI M T ∧ inR (M 74 12)) ∧ rwI M n R sp sh ∧ paI M n A P ∧ (isP M pi ∧ pi.1 ≤ 97) ∧ (M 31 3 = fe.1 ∧ M 31 4 = fe.2) ∧ KY M
def oc (x s : Int) : Int := (pm_shr x s) % 256
def put4 (B : Nat → Int) (N : Nat) (x : Int) : Nat → Int := pm_up (pm_up (pm_up (pm_up B N (oc x 24)) (N + 1) (oc x 16)) (N + 2) (oc x 8)) (N + 3) (oc x 0)
def put5 (B : Nat → Int) (N : Nat) (x1 x2 x3 x4 x5 : Int) : Nat → Int := put4 (put4 (put4 (put4 (put4 B N x1) (N + 4) x2) (N + 8) x3) (N + 12) x4) (N + 16) x5
section ACT
variable {d c : Nat} {X : Nat × (Nat → Int)} {v : Nat → Int} {M M' : PH} {K : PV → PS → Prop} {n : Nat → Nat} {a μ μ' : PH} {F : Nat → List Int} {B B' : Nat → Int} {N N' : Nat} {rf rf' : Nat → Int} {sd sd' : Int} {A A' : Nat} {P P' : Nat → PH} {R : Nat} {sp sh : Nat → Int} {pi : PB2} {fe : Int × Int} {T T' : Int}
theorem frR_t {M2 : PH} (h : frR M M') (h2 : frR M' M2) : frR M M2 := fun q hq => (h2 q hq).trans (h q hq)
theorem IC_02 (hT : T ≤ T') (h : IC M v n a F μ B N rf sd A P R sp sh pi fe T) (hf : ∀ q, 3 ≤ q → M' q = M q) (ht : tpI M' B' N' sd') (hr : rfI M' rf' T') : IC M' v n a F μ B' N' rf' sd' A P R sp sh pi fe T' ∧ frR M M' := by
  refine ⟨?_, fun q hq => hf q (by omega)⟩
  obtain ⟨⟨c, c1, c2, c3, c4, c5, c6, c7, c8⟩, h2, ⟨h3, h3'⟩, ⟨t1, t2, t3, t4, t5⟩, h5, ⟨k, h6⟩, h7, h8, ⟨p1, p2⟩, ⟨i1, i2⟩, h11, h12⟩ := h
  have hcc : c = 9 ∨ c = 35 := c1
  refine ⟨⟨c, c1, c2, c3, c4, c5, c6, isC_fr (fun i hi => hf _ (by omega)) c7, ?_⟩, h2, ⟨(mo_fr (fun i hi => hf _ (by omega))).trans h3, h3'⟩, ht, hr, ⟨k, FI_f (fun q h1 h2 => hf _ (by omega)) h6⟩, BI_f (fun q h1 h2 => hf _ (by omega)) hT h7, WI_f (hf _ (by omega)) (hf _ (by omega)) (hf _ (by omega)) h8, ⟨PA_f (fun q h1 h2 => hf _ (by omega)) p1, p2⟩, ⟨?_, i2⟩, by rw [hf 31 (by omega)]; exact h11, fun w hw => by rw [hf 33 (by omega)]; exact h12 w hw⟩
  · unfold nmI at *
    rw [hf _ (by omega), hf _ (by omega)]; exact c8
  · unfold isP at *
    rw [hf _ (by omega), hf _ (by omega)]; exact i1
theorem tpI_f (h0 : M' 0 = M 0) (h1 : M' 1 = M 1) (h : tpI M B N sd) : tpI M' B N sd := by
  obtain ⟨t1, t2, t3, t4, t5⟩ := h
  exact ⟨TP_f t1 h1, t2, by rw [h0]; exact t3, by rw [h0]; exact t4, t5⟩
theorem rfI_f (hT : T ≤ T') (h2 : M' 2 = M 2) (h : rfI M rf T) : rfI M' rf T' := fun k hk => by
  have := h k hk
  rw [h2]; exact ⟨this.1, this.2.1, by omega⟩
theorem IC_02' (h : IC M v n a F μ B N rf sd A P R sp sh pi fe T) : tpI M B N sd ∧ rfI M rf T := ⟨h.2.2.2.1, h.2.2.2.2.1⟩
theorem c164 (h : IC M v n a F μ B N rf sd A P R sp sh pi fe T) (hT : T + 1 ≤ T') {j : Nat} (hj : j < 6) (hK : ∀ M', IC M' v n a F μ B N (pm_up rf j (rf j + 1)) sd A P R sp sh pi fe T' → frR M M' → K (vI (-1)) (GF X, M', PTF v)) : pm_Call (d + 1) 164 [vA 0, vI (j : Int)] (GF X, M, PTF v) K := by
  obtain ⟨h4, h5⟩ := IC_02' h
  have e := h5 j hj
  rw [en164, r164_0 (by omega), if_neg (by omega), r164_4 (by omega), if_neg (by omega), r164_13 (by omega) (by omega), r164_23, Int.toNat_natCast, e.1]
  obtain ⟨h1, h2⟩ := IC_02 (M' := pm_sa M 2 (pm_up (M 2) j (rf j + 1))) (T' := T') (rf' := pm_up rf j (rf j + 1)) (by omega) h (fun q hq => sa_n (by omega)) (tpI_f (sa_n (by omega)) (sa_n (by omega)) h4) (fun k hk => by
    have := h5 k hk
    rw [sa_s]
    by_cases q : k = j
    · subst q; rw [up_s, up_s]; omega
    · rw [up_n q, up_n q]; exact ⟨this.1, this.2.1, by omega⟩)
  exact hK _ h1 h2
theorem s165 (h : tpI M B N sd) (hN : N < 1600) {x : Int} {s : Nat} (hs : s < 32) (hK : ∀ M', tpI M' (pm_up B N (oc x s)) (N + 1) sd → (∀ q, 2 ≤ q → M' q = M q) → pm_Run d 165 3 [vA 0, vI x, vI ((s : Int) + -8)] [] (GF X, M', PTF v) K) : pm_Run d 165 3 [vA 0, vI x, vI (s : Int)] [] (GF X, M, PTF v) K := by
  obtain ⟨t1, t2, t3, t4, t5⟩ := h
  rw [r165_3 (by omega), if_neg (by omega), r165_7 (by rw [t3]; omega), t3, if_neg (by omega), r165_17 (by rw [t3]; omega) (by rw [t3]; omega), r165_30, r165_40]
  rw [t3, Int.toNat_natCast, b8_m]
  refine hK _ ⟨fun k hk => ?_, by omega, ?_, ?_, t5⟩ (fun q hq => by rw [sa_n (by omega), sa_n (by omega)])
  · rw [sa_n (by omega), sa_s]
    by_cases q : k = N
    · subst q; rw [up_s, up_s]; exact ⟨rfl, by unfold oc; omega, by unfold oc; omega⟩
    · rw [up_n q, up_n q]; exact t1 k hk
  · rw [sa_s, up_s, sa_n (by omega), t3]; omega
  · rw [sa_s, up_n (by omega), sa_n (by omega)]; exact t4
theorem c165 (h : tpI M B N sd) (hN : N + 4 ≤ 1600) (hN' : N' = N + 4) {x : Int} (hK : ∀ M', tpI M' (put4 B N x) N' sd → (∀ q, 2 ≤ q → M' q = M q) → K PU (GF X, M', PTF v)) : pm_Call (d + 1) 165 [vA 0, vI x] (GF X, M, PTF v) K := by
  subst hN'
  rw [en165, r165_0]
  refine s165 (s := 24) h (by omega) (by omega) (fun M1 g1 f1 => ?_)
  refine s165 (s := 16) g1 (by omega) (by omega) (fun M2 g2 f2 => ?_)
  refine s165 (s := 8) g2 (by omega) (by omega) (fun M3 g3 f3 => ?_)
  refine s165 (s := 0) g3 (by omega) (by omega) (fun M4 g4 f4 => ?_)
  rw [r165_3 (by decide), if_pos (by decide), r165_46]
  exact hK M4 g4 (fun q hq => (f4 q hq).trans ((f3 q hq).trans ((f2 q hq).trans (f1 q hq))))
set_option maxRecDepth 20000 in
theorem a132 (h : IC M v n a F μ B N rf sd A P R sp sh pi fe T) (hT : T + 1 ≤ T') {x1 x2 x3 x4 x5 : Int} (hK0 : 1600 < N + 20 → ∀ M', IC M' v n a F μ B N (pm_up rf 0 (rf 0 + 1)) sd A P R sp sh pi fe T' → frR M M' → K (vI (-1)) (GF X, M', PTF v)) (hK1 : N + 20 ≤ 1600 → ∀ M', IC M' v n a F μ (put5 B N x1 x2 x3 x4 x5) (N + 20) rf sd A P R sp sh pi fe T' → frR M M' → K (vI ((N + 20 : Nat) : Int)) (GF X, M', PTF v)) : pm_Call (d + 2) 132 [vA 0, vI x1, vI x2, vI x3, vI x4, vI x5] (GF X, M, PTF v) K := by
  obtain ⟨h4, h5⟩ := IC_02' h
  have t3 := h4.2.2.1
  have t2 := h4.2.1
  rw [en132, r132_0 (by rw [t3]; omega), t3]
  have q0 : True := trivial
  have em := Classical.em (1600 < (N : Int) + 20)
  refine em.elim (fun q => ?_) (fun q => ?_)
  · rw [if_neg (by omega), r132_13]
    refine c164 (j := 0) h hT (by omega) (fun M' k1 k2 => ?_)
    rw [push_i, r132_18]
    exact hK0 (by omega) M' k1 k2
  · rw [if_pos (by omega), r132_19]
    refine c165 (N' := N + 4) h4 (by omega) (by omega) (fun M1 g1 f1 => ?_)
    rw [push_u, r132_24]
    refine c165 (N' := N + 8) g1 (by omega) (by omega) (fun M2 g2 f2 => ?_)
    rw [push_u, r132_29]
    refine c165 (N' := N + 12) g2 (by omega) (by omega) (fun M3 g3 f3 => ?_)
    rw [push_u, r132_34]
    refine c165 (N' := N + 16) g3 (by omega) (by omega) (fun M4 g4 f4 => ?_)
    rw [push_u, r132_40]
    refine c165 (N' := N + 20) g4 (by omega) (by omega) (fun M5 g5 f5 => ?_)
    have f : ∀ q, 2 ≤ q → M5 q = M q := fun q hq => (f5 q hq).trans ((f4 q hq).trans ((f3 q hq).trans ((f2 q hq).trans (f1 q hq))))
    have e5 := g5.2.2.1
    rw [push_u, r132_46, e5]
    obtain ⟨k1, k2⟩ := IC_02 (T' := T') (by omega) h (fun q hq => f q (by omega)) g5 (rfI_f (T' := T') (by omega) (f 2 (by omega)) h5)
    have kk := hK1 (by omega) M5
    have kk := kk k1
    exact kk k2
theorem tpI_N (h : tpI M B N sd) {j : Nat} (hj : j ≤ N) : tpI (pm_sa M 0 (pm_up (M 0) 11 (j : Int))) B j sd := by
  obtain ⟨t1, t2, t3, t4, t5⟩ := h
  exact ⟨TP_f t1 (sa_n (by omega)), by omega, by rw [sa_s, up_s], by rw [sa_s, up_n (by omega)]; exact t4, t5⟩
theorem a133 (h : IC M v n a F μ B N rf sd A P R sp sh pi fe T) (hT : T + 1 ≤ T') {x : Int} (hx : inR x) (hK0 : ¬ (0 ≤ x ∧ x ≤ (N : Int)) → ∀ M', IC M' v n a F μ B N (pm_up rf 0 (rf 0 + 1)) sd A P R sp sh pi fe T' → frR M M' → K (vI 0) (GF X, M', PTF v)) (hK1 : 0 ≤ x ∧ x ≤ (N : Int) → ∀ M', IC M' v n a F μ B x.toNat rf sd A P R sp sh pi fe T' → frR M M' → K (vI 1) (GF X, M', PTF v)) : pm_Call (d + 2) 133 [vA 0, vI x] (GF X, M, PTF v) K := by
  obtain ⟨h4, h5⟩ := IC_02' h
  have t3 := h4.2.2.1
  have t2 := h4.2.1
  have bad : ¬ (0 ≤ x ∧ x ≤ (N : Int)) → pm_Run (d + 1) 133 12 [vA 0, vI x] [] (GF X, M, PTF v) K := by
    intro q
    rw [r133_12]
    refine c164 (j := 0) h hT (by omega) (fun M' k1 k2 => ?_)
    rw [push_i, r133_17 (by decide), if_pos rfl, r133_25, r133_26 (by simp)]
    exact hK0 q M' k1 k2
  rw [en133, r133_0 hx]
  by_cases q : x < 0
  · rw [if_pos q]; exact bad (by omega)
  · rw [if_neg q, r133_4 hx (by rw [t3]; omega), t3]
    by_cases q1 : x ≤ (N : Int)
    · rw [if_pos q1, r133_27, r133_32]
      obtain ⟨j, rfl⟩ := Int.eq_ofNat_of_zero_le (show 0 ≤ x by omega)
      obtain ⟨k1, k2⟩ := IC_02 (T' := T') (by omega) h (fun q hq => sa_n (by omega)) (tpI_N h4 (j := j) (by omega)) (rfI_f (T' := T') (by omega) (sa_n (by omega)) h5)
      exact hK1 (by omega) _ k1 k2
    · rw [if_neg q1]; exact bad (by omega)
theorem a152 (h : IC M v n a F μ B N rf sd A P R sp sh pi fe T) (hT : T + 1 ≤ T') {x : Int} (hx : inR x) (hK0 : x < 0 → ∀ M', IC M' v n a F μ B N (pm_up rf 5 (rf 5 + 1)) sd A P R sp sh pi fe T' → frR M M' → K (vI 0) (GF X, M', PTF v)) (hK1 : 0 ≤ x → ∀ M', IC M' v n a F μ B N rf x A P R sp sh pi fe T' → frR M M' → K (vI 1) (GF X, M', PTF v)) : pm_Call (d + 2) 152 [vA 0, vI x] (GF X, M, PTF v) K := by
  obtain ⟨h4, h5⟩ := IC_02' h
  rw [en152, r152_0 hx]
  by_cases q : 0 ≤ x
  · rw [if_pos q, r152_19, r152_24]
    obtain ⟨t1, t2, t3, t4, t5⟩ := h4
    obtain ⟨k1, k2⟩ := IC_02 (M' := pm_sa M 0 (pm_up (M 0) 12 x)) (T' := T') (sd' := x) (by omega) h (fun q hq => sa_n (by omega)) ⟨TP_f t1 (sa_n (by omega)), t2, by rw [sa_s, up_n (by omega)]; exact t3, by rw [sa_s, up_s], by omega⟩ (rfI_f (T' := T') (by omega) (sa_n (by omega)) h5)
    exact hK1 q _ k1 k2
  · rw [if_neg q, r152_4]
    refine c164 (j := 5) h hT (by omega) (fun M' k1 k2 => ?_)
    rw [push_i, r152_9 (by decide), if_pos rfl, r152_17, r152_18 (by simp)]
    exact hK0 (by omega) M' k1 k2
theorem c167 (h : IC0 M v n a F μ B N rf sd A P R sp sh pi fe T) (hK : ∀ M' v', IC M' v' n a F μ B N rf sd A P R sp sh pi fe T → frR M M' → ((∀ q, q < 60 → M' q = M q) ∧ v' 0 = v 0) → K PU (GF X, M', PTF v')) : pm_Call (d + 2) 167 [vA 0] (GF X, M, PTF v) K := by
  obtain ⟨⟨c, y1, c2, c3, c7, c8⟩, h2, ⟨h3, h3'⟩, h4, h5, ⟨h6, h6'⟩, h7, ⟨p1, p2⟩, ⟨i1, i2⟩, h11, h12⟩ := h
  have hcc : c = 9 ∨ c = 35 := y1
  have e0 : M 3 0 = μ 0 0 := by rw [← h3]; rfl
  have b0 := h3'.1
  rw [en167, r167_0 y1 c2, c23 (by rw [e0]; exact b0), push_u, r167_11 y1 (by rw [up_n (by omega)]; exact c2), c1, push_u, r167_22 y1 (by rw [up_n (by omega), up_n (by omega)]; exact c2), c126, push_u, r167_33]
  generalize hM : pm_sa (pm_sa (pm_sa M 60 _) 74 _) 91 _ = M'
  have f : ∀ q, q ≠ 60 → q ≠ 74 → q ≠ 91 → M' q = M q := fun q z1 z2 z3 => by rw [← hM, sa_n z3, sa_n z2, sa_n z1]
  have f60 : M' 60 = pm_up (pm_up (pm_up (pm_up (pm_up (M 60) 8 (min 48 (9999 - M 3 0))) 9 0) 10 (-1)) 11 (-1)) 12 (-1) := by rw [← hM, sa_n (by omega), sa_n (by omega), sa_s]
  have f74 : M' 74 = pm_up (pm_up (M 74) 11 (-1)) 16 0 := by rw [← hM, sa_n (by omega), sa_s, sa_n (by omega)]
  have f91 : M' 91 = pm_up (M 91) 6 0 := by rw [← hM, sa_s, sa_n (by omega), sa_n (by omega)]
  refine hK M' _ ⟨⟨c, y1, ?_, ?_, ?_, ?_, ?_, isC_fr (fun i hi => f _ (by omega) (by omega) (by omega)) c7, ?_⟩, h2, ⟨(mo_fr (fun i hi => f _ (by omega) (by omega) (by omega))).trans h3, h3'⟩, tpI_f (f _ (by omega) (by omega) (by omega)) (f _ (by omega) (by omega) (by omega)) h4, rfI_f (Int.le_refl _) (f _ (by omega) (by omega) (by omega)) h5, ⟨0, ?_⟩, ⟨?_, ?_, ?_⟩, ⟨?_, ?_⟩, ⟨PA_f (fun q h1 h2 => f _ (by omega) (by omega) (by omega)) p1, p2⟩, ⟨?_, i2⟩, by rw [f 31 (by omega) (by omega) (by omega)]; exact h11, fun w hw => by rw [f 33 (by omega) (by omega) (by omega)]; exact h12 w hw⟩ (fun q hq => f q (by omega) (by omega) (by omega)) ⟨fun q hq => f q (by omega) (by omega) (by omega), by rw [up_n (by omega), up_n (by omega), up_n (by omega)]⟩
  · rw [up_n (by omega), up_n (by omega), up_n (by omega)]; exact c2
  · rw [up_n (by omega), up_n (by omega), up_n (by omega)]; exact c3
  · rw [up_n (by omega), up_n (by omega), up_s]
  · rw [up_n (by omega), up_s]
  · rw [up_s]
  · unfold nmI at *
    rw [f _ (by omega) (by omega) (by omega), f _ (by omega) (by omega) (by omega)]; exact c8
  · refine ⟨?_, ?_, fun w => absurd w (Nat.lt_irrefl 0), fun t ht => absurd ht (Nat.not_lt_zero t), ⟨?_, fun _ => ⟨?_, ?_⟩, fun w => absurd rfl w⟩, by omega⟩
    · rw [f60, up_n (by omega), up_n (by omega), up_n (by omega), up_n (by omega), up_s, e0]
    · rw [f60, up_n (by omega), up_n (by omega), up_n (by omega), up_s]; rfl
    · rw [f60, up_n (by omega), up_n (by omega), up_s]; rfl
    · rw [f60, up_n (by omega), up_s]
    · rw [f60, up_s]
  · unfold stI at *
    rw [f74, up_n (by omega), up_n (by omega), f 80 (by omega) (by omega) (by omega)]; exact h6
  · exact ⟨by rw [f74, up_n (by omega), up_n (by omega)]; exact h6', Or.inl (by rw [f74, up_n (by omega), up_s])⟩
  · exact Or.inl (by rw [f74, up_s])
  · unfold rwI at *
    rw [f91, up_n (by omega), f 101 (by omega) (by omega) (by omega), f 102 (by omega) (by omega) (by omega)]; exact h7
  · exact Or.inl (by rw [f91, up_s])
  · unfold isP at *
    rw [f _ (by omega) (by omega) (by omega), f _ (by omega) (by omega) (by omega)]; exact i1
/-- a moment changed: the caches are not believed -/
theorem IC_0 (hT : T ≤ T') (h : IC M v n a F μ B N rf sd A P R sp sh pi fe T) (hf : ∀ c, isCh c → v 0 = (c : Int) → ∀ q, q ≠ 0 → q ≠ c + 20 → q ≠ c + 21 → q ≠ 58 → q ≠ 59 → (q < 3 ∨ 8 < q) → (q < 103 ∨ 224 < q) → M' q = M q) (ht : tpI M' B N sd') (hm : mo M' 3 = μ') (hw : wM n μ') (hp : paI M' n A' P') : IC0 M' v n a F μ' B N rf sd' A' P' R sp sh pi fe T' ∧ frR M M' := by
  obtain ⟨⟨c, c1, c2, c3, c4, c5, c6, c7, c8⟩, h2, ⟨h3, h3'⟩, ⟨t1, t2, t3, t4, t5⟩, h5, ⟨k, h6⟩, ⟨⟨b1, b2⟩, b3, b4⟩, h8, ⟨p1, p2⟩, ⟨i1, i2⟩, h11, h12⟩ := h
  have hcc : c = 9 ∨ c = 35 := c1
  have f := hf c c1 c2
  have g : ∀ q, ((c ≤ q ∧ q ≤ c + 19) ∨ q = 1 ∨ q = 2 ∨ q = 31 ∨ q = 33 ∨ (60 ≤ q ∧ q < 103) ∨ 224 < q) → M' q = M q := fun q hq => f q (by omega) (by omega) (by omega) (by omega) (by omega) (by omega) (by omega)
  refine ⟨⟨⟨c, c1, c2, c3, isC_fr (fun i hi => g _ (by omega)) c7, ?_⟩, h2, ⟨hm, hw⟩, ht, rfI_f hT (g 2 (by omega)) h5, ⟨?_, ?_⟩, ?_, hp, ⟨?_, i2⟩, by rw [g 31 (by omega)]; exact h11, fun w hw => by rw [g 33 (by omega)]; exact h12 w hw⟩, fun q hq => g q (by omega)⟩
  · unfold nmI at *
    rw [g _ (by omega), g _ (by omega)]; exact c8
  · unfold stI at *
    rw [g 74 (by omega), g 80 (by omega)]; exact ⟨⟨b1.1, by omega⟩, b2⟩
  · rw [g 74 (by omega)]; exact b3.1
  · have := h8.1
    unfold rwI at *
    rw [g 91 (by omega), g 101 (by omega), g 102 (by omega)]; exact this
  · unfold isP at *
    rw [g _ (by omega), g _ (by omega)]; exact i1
end ACT
