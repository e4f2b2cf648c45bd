/-! The reference's reader of formulas: operands of each sort. -/
section RFz
variable {d b w bk D : Nat} {X : Nat × (Nat → Int)} {v : Nat → Int} {M M' M2 : PH} {K : PV → PS → Prop} {B : Nat → Int} {N : Nat} {κ : KP} {e : Int × Int} {o op : Nat} {l S : List Int} {s : ST} {kn ph bg tb : Int} {bs : Nat}
theorem isS_k {y : Int} (h : isS B N y (.inr (κ, o, l)) = true) : (tok B N κ).1 = 3 ∧ (tok B N κ).2.2.2.1 = y := isS_0 h
theorem isW_k {y : Int} (h : isW B N y (.inr (κ, o, l)) = true) : (tok B N κ).1 = 1 ∧ (tok B N κ).2.2.2.2.1 = y := isW_0 h
theorem c202f (h : FL M e) (h49 : inR (M 234 49)) {kn : Int} : pm_Call (d + 3) 202 [vA 234, vI kn] (GF X, M, PTF v) K ↔ K PU (GF X, M, PTF v) := by
  have h1 := h.1
  have h2 := h.2.1
  rw [en202, r202_0 h49]
  by_cases q : M 234 49 = 7
  · rw [if_neg (by simpa using q), r202_9, c183f h, push_u, r202_18 (by omega), if_neg (by omega), r202_25]
  · rw [if_pos q, r202_18 (by omega), if_neg (by omega), r202_25]
theorem p_par (hT : TX M B N) (hA : AS M bk B N κ op l S D) (hc : CL M) (hD : D < 18) (h52 : M 234 52 = 0) (q : isS B N 40 (.inr (κ, op, l)) = true) {l2 : Int} (hK0 : ¬ op < 7 → ∀ M', FL M' (5, ((tok B N κ).2.1 : Int)) → fA bk (D + 1) M M' → K PU (GF X, M', PTF v)) (hK1 : op < 7 → ∀ M', AS M' bk B N (adv B N κ) (op + 1) l S (D + 1) → TF M' (D + 1) 2 0 1 S.length → M' 234 52 = 0 → fA bk (D + 1) M M' → pm_Run (d + 6) 206 43 [vA 234, vI tb, vI 1] [] (GF X, M', PTF v) K) : pm_Run (d + 5) 204 171 [vA 234, vI (D : Int), vI l2, PU] [] (GF X, M, PTF v) (K59 d tb K) := by
  rw [r204_171, c188 (y := 40) (o := op) (l := l) hA.1 hc rfl (by omega), push_i, r204_177 i01, if_pos q, if_neg (by omega), r204_180]
  refine c202 (d := d + 2) hT hA hc hD (isS_k q).1 (fun h7 M1 f1 g1 => ?_) (fun h7 M1 A1 T1 g1 e52 => ?_)
  · rw [push_u, r204_185]
    exact k59f (bk := bk) (D := D + 1) (by simp) f1 (fun M2 f2 g2 => hK0 h7 M2 f2 (fA_t g1 g2))
  · rw [push_u, r204_185]
    exact k59 (by simp) A1 (fun M2 A2 e2 o2 j2 g2 => hK1 h7 M2 A2 (TF_u T1 (by rw [o2 263 (by omega)]) (by rw [o2 264 (by omega)]) (by rw [o2 265 (by omega)]) (by rw [o2 267 (by omega)])) e2 (fA_t g1 (fA_d g2 (by omega))))
theorem l204t (hA : AS M bk B N κ op l S D) (hc : CL M) (q : ¬ isS B N 40 (.inr (κ, op, l)) = true) {l2 : Int} (hK1 : ∀ k : Nat, k = 27 ∨ k = 28 → isW B N (k : Int) (.inr (κ, op, l)) = true → pm_Run (d + 5) 204 207 [vA 234, vI (D : Int), vI l2, PU] [] (GF X, M, PTF v) (K59 d tb K)) (hK0 : ¬ isW B N ((27 : Nat) : Int) (.inr (κ, op, l)) = true → ¬ isW B N ((28 : Nat) : Int) (.inr (κ, op, l)) = true → pm_Run (d + 5) 204 277 [vA 234, vI (D : Int), vI l2, PU] [] (GF X, M, PTF v) (K59 d tb K)) : pm_Run (d + 5) 204 171 [vA 234, vI (D : Int), vI l2, PU] [] (GF X, M, PTF v) (K59 d tb K) := by
  have a1 := hA.1
  rw [r204_171, c188 (y := 40) (o := op) (l := l) a1 hc rfl (by omega), push_i, r204_177 i01, if_neg q, if_pos rfl, r204_187]
  refine (c189 (k := 27) (o := op) (l := l) a1 hc (by omega)).mpr ?_
  rw [push_i, r204_194 i01]
  by_cases q1 : isW B N ((27 : Nat) : Int) (.inr (κ, op, l)) = true
  · rw [if_pos q1, if_pos (by omega)]; exact hK1 27 (by simp) q1
  · rw [if_neg q1, if_neg (by simp), r204_197]
    refine (c189 (k := 28) (o := op) (l := l) a1 hc (by omega)).mpr ?_
    rw [push_i, r204_204 i01]
    by_cases q2 : isW B N ((28 : Nat) : Int) (.inr (κ, op, l)) = true
    · rw [if_pos q2, if_neg (by omega)]; exact hK1 28 (by simp) q2
    · rw [if_neg q2, if_pos rfl]; exact hK0 q1 q2
theorem p_num (hT : TX M B N) (hA : AS M bk B N κ op l S D) (hc : CL M) (hl : l.length < 1600) (q : (tok B N κ).1 = 2) {l2 : Int} (hK : ∀ M', AS M' bk B N (adv B N κ) op (l ++ [(tok B N κ).2.2.2.1]) S D → M' 234 52 = 1 → fA bk (D + 1) M M' → pm_Run (d + 6) 206 43 [vA 234, vI tb, vI 1] [] (GF X, M', PTF v) K) : pm_Run (d + 5) 204 171 [vA 234, vI (D : Int), vI l2, PU] [] (GF X, M, PTF v) (K59 d tb K) := by
  refine l204t hA hc (fun z => by have := isS_k z; omega) (fun k _ hw => by have := isW_k hw; omega) (fun _ _ => ?_)
  have hk := hA.1.2.2.1.2.2
  obtain ⟨k1, k2, k3, k4, k5, k6⟩ : (tok B N κ).1 = 2 ∧ M 234 3 = 2 ∧ M 234 12 = -1 ∧ M 234 6 = (tok B N κ).2.2.2.1 ∧ (0 ≤ M 234 6 ∧ M 234 6 ≤ 9999) ∧ M 234 5 = ((tok B N κ).2.2.2.2.2 : Int) := by
    rcases hk with h | h | h | h | h | h
    · omega
    · omega
    · exact h
    · omega
    · omega
    · omega
  have e0 : sor (tok B N κ).2.2.2.1 = 0 := by rw [sor, if_pos (by omega)]
  rw [r204_277 (by omega), if_neg (by simpa using k2), r204_285, ← e0]
  exact l204v hT hA hl (Or.inr q) (fun _ => k4) (by rw [e0]; omega) hK
theorem p_val (hT : TX M B N) (hA : AS M bk B N κ op l S D) (hc : CL M) (hl : l.length < 1600) (q : isVal B N (.inr (κ, op, l)) = true) {l2 : Int} (hK : ∀ M', AS M' bk B N (adv B N κ) op (l ++ [10000 + (tok B N κ).2.2.2.2.1]) S D → M' 234 52 = 1 → fA bk (D + 1) M M' → pm_Run (d + 6) 206 43 [vA 234, vI tb, vI 1] [] (GF X, M', PTF v) K) : pm_Run (d + 5) 204 171 [vA 234, vI (D : Int), vI l2, PU] [] (GF X, M, PTF v) (K59 d tb K) := by
  have q' : ((decide ((tok B N κ).1 = 1) && isVw (tok B N κ).2.2.2.2.1.toNat) && decide (0 ≤ (tok B N κ).2.2.2.2.1)) = true := q
  rw [Bool.and_eq_true, Bool.and_eq_true] at q'
  have k1 : (tok B N κ).1 = 1 := by simpa using q'.1.1
  have k0 : 0 ≤ (tok B N κ).2.2.2.2.1 := by simpa using q'.2
  have kv := vw_c q'.1.2
  refine l204t hA hc (fun z => by have := isS_k z; omega) (fun k hk hw => by have := isW_k hw; omega) (fun _ _ => ?_)
  refine l204k hA hc (by omega) (fun k hv hw => ?_) (fun hn => ?_)
  · have e := (isW_k hw).2
    obtain ⟨w1, w2⟩ := wsr_s hv
    rw [← w1]
    have e2 : 10000 + (tok B N κ).2.2.2.2.1 = ((10000 + k : Nat) : Int) := by have e' : (tok B N κ).2.2.2.2.1 = (k : Int) := e; omega
    rw [e2] at hK
    exact l204v hT hA hl (Or.inl k1) (fun z => by omega) w2 hK
  · refine absurd ?_ (hn (tok B N κ).2.2.2.2.1.toNat q'.1.2)
    show (decide ((tok B N κ).1 = 1) && decide ((tok B N κ).2.2.2.2.1 = (((tok B N κ).2.2.2.2.1.toNat : Nat) : Int))) = true
    rw [decide_eq_true k1, decide_eq_true (by omega)]; rfl
theorem p_else (hA : AS M bk B N κ op l S D) (hc : CL M) (q2 : (tok B N κ).1 ≠ 2) (q40 : ¬ isS B N 40 (.inr (κ, op, l)) = true) (q27 : ¬ isW B N ((27 : Nat) : Int) (.inr (κ, op, l)) = true) (q28 : ¬ isW B N ((28 : Nat) : Int) (.inr (κ, op, l)) = true) (q : ¬ isVal B N (.inr (κ, op, l)) = true) {l2 : Int} (hK : ∀ M', FL M' (1, ((tok B N κ).2.2.1 : Int)) → fA bk (D + 1) M M' → K PU (GF X, M', PTF v)) : pm_Run (d + 5) 204 171 [vA 234, vI (D : Int), vI l2, PU] [] (GF X, M, PTF v) (K59 d tb K) := by
  refine l204t hA hc q40 (fun k hk hw => ?_) (fun _ _ => ?_)
  · rcases hk with rfl | rfl
    · exact absurd hw q27
    · exact absurd hw q28
  · refine l204k hA hc q2 (fun k hv hw => absurd ?_ q) (fun hn => l204w hA hc hK)
    have e := isW_k hw
    have e1 : (tok B N κ).1 = 1 := e.1
    have e2 : (tok B N κ).2.2.2.2.1 = (k : Int) := e.2
    show ((decide ((tok B N κ).1 = 1) && isVw (tok B N κ).2.2.2.2.1.toNat) && decide (0 ≤ (tok B N κ).2.2.2.2.1)) = true
    rw [e2, Int.toNat_natCast, hv, decide_eq_true e1, decide_eq_true (by omega)]; rfl
/-- min, max -/
theorem p_two (hT : TX M B N) (hA : AS M bk B N κ op l S D) (hc : CL M) (hD : D < 18) (h52 : M 234 52 = 0) {k : Nat} (hk : k = 27 ∨ k = 28) (q : isW B N (k : Int) (.inr (κ, op, l)) = true) {l2 : Int} (hKw : ¬ isS B N 40 (.inr (adv B N κ, op, l)) = true → ∀ M', FL M' (1, ((tok B N (adv B N κ)).2.2.1 : Int)) → fA bk (D + 1) M M' → K PU (GF X, M', PTF v)) (hK0 : isS B N 40 (.inr (adv B N κ, op, l)) = true → ¬ op < 7 → ∀ M', FL M' (5, ((tok B N (adv B N κ)).2.1 : Int)) → fA bk (D + 1) M M' → K PU (GF X, M', PTF v)) (hK1 : isS B N 40 (.inr (adv B N κ, op, l)) = true → op < 7 → ∀ M', AS M' bk B N (adv B N (adv B N κ)) (op + 1) l S (D + 1) → TF M' (D + 1) 3 0 1 S.length → M' 266 (D + 1) = sor (20000 + (k : Int)) → M' 234 52 = 0 → fA bk (D + 1) M M' → pm_Run (d + 6) 206 43 [vA 234, vI tb, vI 1] [] (GF X, M', PTF v) K) : pm_Run (d + 5) 204 171 [vA 234, vI (D : Int), vI l2, PU] [] (GF X, M, PTF v) (K59 d tb K) := by
  have a1 := hA.1
  have kw := isW_k q
  have kw1 : (tok B N κ).1 = 1 := kw.1
  refine l204t hA hc (fun z => by have := isS_k z; omega) (fun _ _ _ => ?_) (fun n1 n2 => ?_)
  · rw [r204_207]
    refine (c189 (k := 27) (o := op) (l := l) a1 hc (by omega)).mpr ?_
    rw [push_i, r204_214 i01]
    -- behind the word
    have go : ∀ r : Int, r = sor (20000 + (k : Int)) → pm_Run (d + 5) 204 224 [vA 234, vI (D : Int), vI l2, PU] [vI r] (GF X, M, PTF v) (K59 d tb K) := by
      intro r hr
      rw [r204_224]
      refine t187 hT a1 (by omega) (by omega) (fun M1 o1 f1 => ?_)
      have A1 := AS_4 hA f1 o1
      have hT1 := TX_f hT f1
      have bad : ∀ M2, FL M2 (1, ((tok B N (adv B N κ)).2.2.1 : Int)) → fA bk (D + 1) M M2 → inR (M2 234 49) → ¬ isS B N 40 (.inr (adv B N κ, op, l)) = true → pm_Run (d + 5) 204 251 [vA 234, vI (D : Int), vI l2, vI r] [] (GF X, M2, PTF v) (K59 d tb K) := by
        intro M2 f2 g2 r49 hn
        have h1 := f2.1
        have h2 := f2.2.1
        rw [r204_251, c202f f2 r49, push_u, r204_256 (by omega), if_pos (by omega), r204_275]
        exact k59f (bk := bk) (D := D + 1) (by simp) f2 (fun M3 f3 g3 => hKw hn M3 f3 (fA_t g2 g3))
      rw [push_u, r204_229]
      refine c186 hT1 o1 (fun hc1 => ?_) (fun h4 M2 f2 h3 ff => ?_)
      · rw [push_u, r204_233, c188 (y := 40) (o := op) (l := l) o1 hc1 rfl (by omega), push_i, r204_239 i01]
        by_cases q40 : isS B N 40 (.inr (adv B N κ, op, l)) = true
        · rw [if_pos q40, if_pos (by omega), r204_251]
          refine c202 (d := d + 2) hT1 A1 hc1 hD (isS_k q40).1 (fun h7 M2 f2 g2 => ?_) (fun h7 M2 A2 T2 g2 e52 => ?_)
          · have h1 : M2 234 8 = 5 := f2.1
            rw [push_u, r204_256 (by omega), if_pos (by omega), r204_275]
            exact k59f (bk := bk) (D := D + 1) (by simp) f2 (fun M3 f3 g3 => hK0 q40 h7 M3 f3 (fA_t (f4_A f1) (fA_t g2 g3)))
          · have e48 := A2.2.2.2.1.1
            have ix : (M2 234 48 - 1).toNat = D + 1 := by omega
            rw [push_u, r204_256 (by rw [A2.1.1]; omega), A2.1.1, if_neg (by simp), r204_263 (by omega) (by omega), ix, r204_275]
            refine k59 (by simp) (AS_q A2 (by omega)) (fun M3 A3 e3 o3 j3 g3 => hK1 q40 h7 M3 A3 ?_ ?_ e3 (fA_t (f4_A f1) (fA_t g2 (fA_t (fA_q (by omega) (by omega)) (fA_d g3 (by omega))))))
            · exact TF_u T2 (by rw [o3 263 (by omega)]; rfl) (by rw [o3 264 (by omega)]; rfl) (by rw [o3 265 (by omega)]; rfl) (by rw [o3 267 (by omega)]; rfl)
            · rw [o3 266 (by omega), sa_s, up_s, hr]
        · rw [if_neg q40, if_neg (by simp), r204_242, c183o o1.1, push_u, o1.2.2.1.2.1]
          refine bad _ ?_ (fA_t (f4_A f1) (f4_A f4_89)) (by rw [sa_s, up_n (by omega), up_n (by omega)]; have := A1.2.2.1; omega) q40
          rw [OK_c o1 hc1]
          exact FL_89 (by omega) (by have : M1 234 12 = -1 := hc1; omega)
      · have q40 : ¬ isS B N 40 (.inr (adv B N κ, op, l)) = true := fun z => by have z' : (tok B N (adv B N κ)).1 = 3 := (isS_k z).1; omega
        rw [push_u, r204_233, en188, r188_0 (by omega), if_pos (by omega), r188_20, r188_21 (by simp), push_i, r204_239 (by omega), if_neg (by simp), r204_242, c183f f2, push_u]
        exact bad M2 f2 (fA_t (f4_A f1) (f4_A ff)) (by rw [ff.2 49 (by omega) (by omega)]; have := A1.2.2.1; omega) q40
    rcases hk with rfl | rfl
    · rw [if_pos q, if_neg (by omega), r204_217]; exact go 15 rfl
    · have n27 : ¬ isW B N ((27 : Nat) : Int) (.inr (κ, op, l)) = true := fun z => by have e1 := (isW_k z).2; have e2 := kw.2; omega
      rw [if_neg n27, if_pos rfl, r204_222]; exact go 16 rfl
  · rcases hk with rfl | rfl
    · exact absurd q n1
    · exact absurd q n2
/-- where nothing else is begun -/
theorem l204n (hA : AS M bk B N κ op l S D) (hF : TF M D kn ph bg bs) (hc : CL M) (h52 : M 234 52 = 0) (hn : (isTs kn && decide (bg = 1)) = true → ¬ isW B N ((25 : Nat) : Int) (.inr (κ, op, l)) = true ∧ ¬ isS B N 91 (.inr (κ, op, l)) = true ∧ ¬ isW B N ((26 : Nat) : Int) (.inr (κ, op, l)) = true) (hK : ∀ M' l2, AS M' bk B N κ op l S D → TF M' D kn ph 0 bs → CL M' → M' 234 = M 234 → M' 266 = M 266 → fA bk D M M' → pm_Run (d + 5) 204 171 [vA 234, vI (D : Int), vI l2, PU] [] (GF X, M', PTF v) (K59 d tb K)) : pm_Run (d + 5) 204 46 [vA 234, vI (D : Int), PU, PU] [vI (if (isTs kn && decide (bg = 1)) = true then 1 else 0)] (GF X, M, PTF v) (K59 d tb K) := by
  have d19 := hA.2.2.2.1.2
  have A1 := AS_q (q := 265) (g := pm_up (M 265) D 0) hA (by omega)
  have T1 : TF (pm_sa M 265 (pm_up (M 265) D 0)) D kn ph 0 bs := ⟨hF.1, hF.2.1, by rw [sa_s, up_s], hF.2.2.2⟩
  have g1 : fA bk D M (pm_sa M 265 (pm_up (M 265) D 0)) := fA_q (by omega) (by omega)
  by_cases q : (isTs kn && decide (bg = 1)) = true
  · obtain ⟨n1, n2, n3⟩ := hn q
    rw [if_pos q, r204_46 (by omega), if_neg (by omega), r204_51]
    refine (c189 (k := 25) (o := op) (l := l) hA.1 hc (by omega)).mpr ?_
    rw [push_i, r204_58 i01, if_neg n1, if_pos rfl, r204_110 (by omega) (by omega), Int.toNat_natCast, r204_117 (by omega), if_neg (by omega), r204_121, c188 (y := 91) (o := op) (l := l) A1.1 hc rfl (by omega), push_i, r204_127 i01, if_neg n2, if_pos rfl, r204_137 (by omega), if_neg (by omega), r204_141]
    refine (c189 (k := 26) (o := op) (l := l) A1.1 hc (by omega)).mpr ?_
    rw [push_i, r204_148 i01, if_neg n3, if_pos rfl]
    exact hK _ 1 A1 T1 hc rfl rfl g1
  · rw [if_neg q, r204_46 (by omega), if_pos rfl, r204_110 (by omega) (by omega), Int.toNat_natCast, r204_117 (by omega), if_pos rfl, r204_137 (by omega), if_pos rfl]
    exact hK _ 0 A1 T1 hc rfl rfl g1
theorem p_not (hT : TX M B N) (hA : AS M bk B N κ op l S D) (hF : TF M D kn ph bg bs) (hc : CL M) (hS : S.length < 449) (hf : (isTs kn && decide (bg = 1)) = true) (q : isW B N ((25 : Nat) : Int) (.inr (κ, op, l)) = true) (hK0 : ¬ op < 7 → ∀ M', FL M' (5, ((tok B N κ).2.1 : Int)) → fA bk (D + 1) M M' → K PU (GF X, M', PTF v)) (hK1 : op < 7 → ∀ M', AS M' bk B N (adv B N κ) (op + 1) l (S ++ [20025]) D → TF M' D kn ph bg bs → M' 234 52 = 0 → fA bk (D + 1) M M' → pm_Run (d + 6) 206 43 [vA 234, vI tb, vI 1] [] (GF X, M', PTF v) K) : pm_Run (d + 5) 204 46 [vA 234, vI (D : Int), PU, PU] [vI (if (isTs kn && decide (bg = 1)) = true then 1 else 0)] (GF X, M, PTF v) (K59 d tb K) := by
  obtain ⟨a1, a2, ⟨a3, a3'⟩, a4, a5⟩ := id hA
  have kw := isW_k q
  have kw1 : (tok B N κ).1 = 1 := kw.1
  have r12 : inR (M 234 12) := by have : M 234 12 = -1 := hc; omega
  rw [if_pos hf, r204_46 (by omega), if_neg (by omega), r204_51]
  refine (c189 (k := 25) (o := op) (l := l) hA.1 hc (by omega)).mpr ?_
  rw [push_i, r204_58 i01, if_pos q, if_neg (by omega), r204_61 (by omega)]
  by_cases h7 : op < 7
  · rw [if_pos (by omega), r204_79 (by rw [a1.1]; omega), a1.1, if_pos (by omega), r204_88, r204_98]
    have A1 : AS (pm_sa M 234 (pm_up (M 234) 49 (M 234 49 + 1))) bk B N κ (op + 1) l S D := ⟨OK_u a1 (fun i z => by rw [sa_s, up_n (by omega)]), CDR_u a2 (by rw [sa_s, up_n (by omega)]) (by rw [sa_s, up_n (by omega)]) (sa_n (by omega)) (sa_n (by omega)), ⟨by rw [sa_s, up_s, a3]; omega, by omega⟩, by rw [sa_s, up_n (by omega)]; exact a4, OPS_u a5 (by rw [sa_s, up_n (by omega)]) (sa_n (by omega))⟩
    have F1 : fA bk (D + 1) M (pm_sa M 234 (pm_up (M 234) 49 (M 234 49 + 1))) := fA_j (by omega)
    refine c200 (c := 20025) A1 hS (by unfold isOp; omega) (fun M2 A2 F2 j2 => ?_)
    have F12 := fA_t F1 F2
    rw [push_u, r204_104]
    refine t187 (TX_A hT F12) A2.1 (by omega) (by omega) (fun M3 o3 f3 => ?_)
    rw [push_u, r204_108]
    have F13 := fA_t F12 (f4_A f3)
    refine k59 (by simp) (AS_4 A2 f3 o3) (fun M4 A4 e4 o4 j4 g4 => hK1 h7 M4 A4 (TF_A hF (fA_t F13 g4) (by omega)) e4 (fA_t F13 g4))
  · have hf5 := FL_89 (M := M) (k := 5) (p := ((tok B N κ).2.1 : Int)) (by omega) r12
    have h8 : (pm_sa M 234 (pm_up (pm_up (M 234) 8 5) 9 ((tok B N κ).2.1 : Int))) 234 8 = 5 := hf5.1
    rw [if_neg (by simp; omega), r204_70, c183o a1.1, push_u, a1.2.2.1.2.1, r204_79 (by rw [h8]; omega), h8, if_neg (by omega), r204_86]
    exact k59f (bk := bk) (D := D + 1) (by simp) hf5 (fun M2 f2 g2 => hK0 h7 M2 f2 (fA_t (f4_A f4_89) g2))
theorem p_brk (hT : TX M B N) (hA : AS M bk B N κ op l S D) (hF : TF M D kn ph bg bs) (hc : CL M) (h52 : M 234 52 = 0) (hD : D < 18) (hf : (isTs kn && decide (bg = 1)) = true) (q : isS B N 91 (.inr (κ, op, l)) = true) (hK0 : ¬ op < 7 → ∀ M', FL M' (5, ((tok B N κ).2.1 : Int)) → fA bk D M M' → K PU (GF X, M', PTF v)) (hK1 : op < 7 → ∀ M', AS M' bk B N (adv B N κ) (op + 1) l S (D + 1) → TF M' (D + 1) 5 0 1 S.length → TF M' D kn ph 0 bs → M' 234 52 = 0 → fA bk D M M' → pm_Run (d + 6) 206 43 [vA 234, vI tb, vI 1] [] (GF X, M', PTF v) K) : pm_Run (d + 5) 204 46 [vA 234, vI (D : Int), PU, PU] [vI (if (isTs kn && decide (bg = 1)) = true then 1 else 0)] (GF X, M, PTF v) (K59 d tb K) := by
  have ks := isS_k q
  have ks1 : (tok B N κ).1 = 3 := ks.1
  have A1 := AS_q (q := 265) (g := pm_up (M 265) D 0) hA (by omega)
  have T1 : TF (pm_sa M 265 (pm_up (M 265) D 0)) D kn ph 0 bs := ⟨hF.1, hF.2.1, by rw [sa_s, up_s], hF.2.2.2⟩
  have g1 : fA bk D M (pm_sa M 265 (pm_up (M 265) D 0)) := fA_q (by omega) (by omega)
  have n1 : ¬ isW B N ((25 : Nat) : Int) (.inr (κ, op, l)) = true := fun z => by have z' : (tok B N κ).1 = 1 := (isW_k z).1; omega
  rw [if_pos hf, r204_46 (by omega), if_neg (by omega), r204_51]
  refine (c189 (k := 25) (o := op) (l := l) hA.1 hc (by omega)).mpr ?_
  rw [push_i, r204_58 i01, if_neg n1, if_pos rfl, r204_110 (by omega) (by omega), Int.toNat_natCast, r204_117 (by omega), if_neg (by omega), r204_121, c188 (y := 91) (o := op) (l := l) A1.1 hc rfl (by omega), push_i, r204_127 i01, if_pos q, if_neg (by omega), r204_130]
  refine c202 (d := d + 2) (TX_A hT g1) A1 hc hD ks1 (fun h7 M2 f2 g2 => ?_) (fun h7 M2 A2 T2 g2 e52 => ?_)
  · rw [push_u, r204_135]
    exact k59f (bk := bk) (D := D) (by simp) f2 (fun M3 f3 g3 => hK0 h7 M3 f3 (fA_t g1 (fA_t (fA_d g2 (by omega)) g3)))
  · rw [push_u, r204_135]
    refine k59 (by simp) A2 (fun M3 A3 e3 o3 j3 g3 => hK1 h7 M3 A3 (TF_u T2 (by rw [o3 263 (by omega)]) (by rw [o3 264 (by omega)]) (by rw [o3 265 (by omega)]) (by rw [o3 267 (by omega)])) (TF_A (TF_A T1 g2 (by omega)) g3 (by omega)) e3 (fA_t g1 (fA_d (fA_t g2 (fA_d g3 (by omega))) (by omega))))
theorem p_all (hT : TX M B N) (hA : AS M bk B N κ op l S D) (hF : TF M D kn ph bg bs) (hc : CL M) (hl : l.length < 1600) (hf : (isTs kn && decide (bg = 1)) = true) (q : isW B N ((26 : Nat) : Int) (.inr (κ, op, l)) = true) (hK : ∀ M', AS M' bk B N (adv B N κ) op (l ++ [20026]) S D → TF M' D kn 2 0 bs → M' 234 52 = 1 → fA bk D M M' → pm_Run (d + 6) 206 43 [vA 234, vI tb, vI 1] [] (GF X, M', PTF v) K) : pm_Run (d + 5) 204 46 [vA 234, vI (D : Int), PU, PU] [vI (if (isTs kn && decide (bg = 1)) = true then 1 else 0)] (GF X, M, PTF v) (K59 d tb K) := by
  have d19 := hA.2.2.2.1.2
  have kw := isW_k q
  have kw1 : (tok B N κ).1 = 1 := kw.1
  have kw2 : (tok B N κ).2.2.2.2.1 = ((26 : Nat) : Int) := kw.2
  have A1 := AS_q (q := 265) (g := pm_up (M 265) D 0) hA (by omega)
  have T1 : TF (pm_sa M 265 (pm_up (M 265) D 0)) D kn ph 0 bs := ⟨hF.1, hF.2.1, by rw [sa_s, up_s], hF.2.2.2⟩
  have g1 : fA bk D M (pm_sa M 265 (pm_up (M 265) D 0)) := fA_q (by omega) (by omega)
  have n1 : ¬ isW B N ((25 : Nat) : Int) (.inr (κ, op, l)) = true := fun z => by have z' : (tok B N κ).2.2.2.2.1 = ((25 : Nat) : Int) := (isW_k z).2; omega
  have n2 : ¬ isS B N 91 (.inr (κ, op, l)) = true := fun z => by have z' : (tok B N κ).1 = 3 := (isS_k z).1; omega
  rw [if_pos hf, r204_46 (by omega), if_neg (by omega), r204_51]
  refine (c189 (k := 25) (o := op) (l := l) hA.1 hc (by omega)).mpr ?_
  rw [push_i, r204_58 i01, if_neg n1, if_pos rfl, r204_110 (by omega) (by omega), Int.toNat_natCast, r204_117 (by omega), if_neg (by omega), r204_121, c188 (y := 91) (o := op) (l := l) A1.1 hc rfl (by omega), push_i, r204_127 i01, if_neg n2, if_pos rfl, r204_137 (by omega), if_neg (by omega), r204_141]
  refine (c189 (k := 26) (o := op) (l := l) A1.1 hc (by omega)).mpr ?_
  rw [push_i, r204_148 i01, if_pos q, if_neg (by omega), r204_151]
  obtain ⟨a1, a2, a3, a4, a5⟩ := id A1
  generalize hM1 : pm_sa M 265 (pm_up (M 265) D 0) = M1 at A1 T1 g1 a1 a2 a3 a4 a5
  have c197' : ∀ (K' : PV → PS → Prop), (∀ M', CDR M' bk (l ++ [20026]) → (∀ q, q ≠ 234 → q ≠ 259 → q ≠ 260 → M' q = M1 q) → (∀ j, j ≠ 41 → M' 234 j = M1 234 j) → (∀ k, k < 1600 * bk ∨ 1600 * bk + 1600 ≤ k → M' 259 k = M1 259 k ∧ M' 260 k = M1 260 k) → K' PU (GF X, M', PTF v)) → pm_Call (d + 5) 197 [vA 234, vI 30, vI 0] (GF X, M1, PTF v) K' := fun K' h => c197 (c := 20026) (y := 0) a2 hl (fun z => by omega) h
  refine c197' _ (fun M2 h1 h2 h3 h4 => ?_)
  have A2 : AS M2 bk B N κ op (l ++ [20026]) S D := ⟨OK_u a1 (fun j z => h3 j (by omega)), h1, by rw [h3 49 (by omega)]; exact a3, by rw [h3 48 (by omega)]; exact a4, OPS_u a5 (h3 51 (by omega)) (h2 268 (by omega) (by omega) (by omega))⟩
  have F2 : fA bk D M1 M2 := ⟨fun q z1 z2 z3 _ => h2 q z1 z2 z3, fun j z1 z2 z3 z4 z5 z6 z7 => h3 j z3, h4, fun k _ => by rw [h2 263 (by omega) (by omega) (by omega), h2 264 (by omega) (by omega) (by omega), h2 265 (by omega) (by omega) (by omega), h2 266 (by omega) (by omega) (by omega), h2 267 (by omega) (by omega) (by omega)]; exact ⟨rfl, rfl, rfl, rfl, rfl⟩⟩
  rw [push_u, r204_158 (by omega) (by omega), Int.toNat_natCast, r204_165]
  have A3 := AS_q (q := 264) (g := pm_up (M2 264) D 2) A2 (by omega)
  have T3 : TF (pm_sa M2 264 (pm_up (M2 264) D 2)) D kn 2 0 bs := ⟨by rw [sa_n (by omega), h2 263 (by omega) (by omega) (by omega)]; exact T1.1, by rw [sa_s, up_s], by rw [sa_n (by omega), h2 265 (by omega) (by omega) (by omega)]; exact T1.2.2.1, by rw [sa_n (by omega), h2 267 (by omega) (by omega) (by omega)]; exact T1.2.2.2⟩
  have F3 : fA bk D M2 (pm_sa M2 264 (pm_up (M2 264) D 2)) := fA_q (by omega) (by omega)
  have F13 := fA_t g1 (fA_t F2 F3)
  refine t187 (TX_A hT F13) A3.1 (by omega) (by omega) (fun M4 o4 f4' => ?_)
  rw [push_u, r204_169]
  refine k59 (by simp) (AS_4 A3 f4' o4) (fun M5 A5 e5 o5 j5 g5 => hK M5 A5 (TF_A (TF_4 T3 f4') g5 (by omega)) e5 (fA_t F13 (fA_t (f4_A f4') (fA_d g5 (by omega)))))
end RFz
