/-! The reference's reader of formulas: tests, what closes. -/
section RFab
variable {d b w bk D : Nat} {X : Nat × (Nat → Int)} {v : Nat → Int} {M M' M2 : PH} {K : PV → PS → Prop} {B : Nat → Int} {N : Nat} {κ : KP} {e : Int × Int} {o op : Nat} {l S S0 Q : List Int} {s : ST} {kn ph bg tb : Int} {bs : Nat}
theorem c188t (hk : TKR (M 234) B N κ) {y : Int} (hy : inR y) : ∃ r : Int, (r = 0 ∨ r = 1) ∧ (pm_Call (d + 1) 188 [vA 234, vI y] (GF X, M, PTF v) K ↔ K (vI r) (GF X, M, PTF v)) := by
  obtain ⟨-, -, hk⟩ := hk
  rw [en188]
  by_cases q : M 234 3 = 3
  · have r6 : inR (M 234 6) := by rcases hk with h | h | h | h | h | h <;> omega
    rw [r188_0 (by omega), if_neg (by simpa using q), r188_8 r6 hy]
    by_cases q2 : M 234 6 = y
    · exact ⟨1, Or.inr rfl, by rw [if_neg (by simpa using q2), r188_16, r188_21 (by simp)]⟩
    · exact ⟨0, Or.inl rfl, by rw [if_pos q2, r188_20, r188_21 (by simp)]⟩
  · have r3 : inR (M 234 3) := by rcases hk with h | h | h | h | h | h <;> omega
    exact ⟨0, Or.inl rfl, by rw [r188_0 r3, if_pos q, r188_20, r188_21 (by simp)]⟩
/-- and, or -/
theorem g_bo (hT : TX M B N) (hA : AS M bk B N κ (op + nn Q) l (S0 ++ Q.reverse) D) (hF : TF M D kn ph bg bs) (hc : CL M) (hts : isTs kn = true) (hph : ph = 1 ∨ ph = 2) {k : Nat} {lv : Int} (hk : (k = 24 ∧ lv = 2) ∨ (k = 23 ∧ lv = 1)) (q : isW B N (k : Int) (.inr (κ, o, l)) = true) (ht : top S0 bs lv) (hQ : ∀ c ∈ Q, lv ≤ rk c) (hl : l.length + Q.length ≤ 1600) (hS : S0.length < 449) (hK : ∀ M', AS M' bk B N (adv B N κ) op (l ++ Q) (S0 ++ [20000 + (k : Int)]) D → TF M' D kn 0 1 bs → M' 234 52 = 0 → fA bk D M M' → pm_Run (d + 6) 206 43 [vA 234, vI tb, vI 1] [] (GF X, M', PTF v) K) : pm_Run (d + 5) 205 31 [vA 234, vI (D : Int), vI kn, PU, PU] [vI (if isTs kn = true then 1 else 0)] (GF X, M, PTF v) (K69 d tb K) := by
  have d19 := hA.2.2.2.1.2
  have k1 := (isW_k q).1
  have k2 := (isW_k q).2
  rw [if_pos hts]
  refine l205b hA hF hc (by omega) (fun _ z => ?_) ?_
  · unfold arS at z
    rw [Bool.or_eq_true, Bool.or_eq_true, Bool.or_eq_true, Bool.or_eq_true] at z
    rcases z with z | z | z | z | z <;> (have := (isS_k z).1; omega)
  · have fin : pm_Run (d + 5) 205 309 [vA 234, vI (D : Int), vI kn, vI 1, PU] [] (GF X, M, PTF v) (K69 d tb K) := by
      rw [r205_309 (by omega) (by omega) (by rw [Int.toNat_natCast, hF.2.1]; omega), Int.toNat_natCast, hF.2.1, if_pos (by omega), r205_327 (by rw [hA.1.1]; omega), hA.1.1, if_pos (by omega), r205_336]
      refine (c189 (k := 24) (o := o) (l := l) hA.1 hc (by omega)).mpr ?_
      rw [push_i, r205_343 i01]
      -- joined and held back
      have jn : ∀ l4 : Int, (l4 = 0 ∨ l4 = 1) → (l4 = 1 ↔ k = 24) → pm_Run (d + 5) 205 356 [vA 234, vI (D : Int), vI kn, vI 1, vI l4] [vI lv, vA 234] (GF X, M, PTF v) (K69 d tb K) := by
        intro l4 h01 h24
        rw [r205_356]
        refine c199 (d := d + 3) (lv := lv) Q hA hF.2.2.2 ht hQ hl (by omega) (fun M1 A1 F1 e52 e12 => ?_)
        have T1 := TF_A hF F1 (by omega)
        have fin : ∀ c : Int, c = 20000 + (k : Int) → isOp c → pm_Run (d + 5) 205 372 [vA 234, vI (D : Int), vI kn, vI 1, vI l4] [vI (sor c), vA 234] (GF X, M1, PTF v) (K69 d tb K) := fun c hcy hop => by
          rw [r205_372]
          refine c200 A1 hS hop (fun M2 A2 F2 j2 => ?_)
          have T2 := TF_A T1 F2 (by omega)
          rw [push_u, r205_375 (by omega) (by omega), Int.toNat_natCast, r205_382 (by omega) (by omega), Int.toNat_natCast, r205_389]
          have A3 := AS_q (q := 264) (g := pm_up (M2 264) D 0) A2 (by omega)
          have F3 : fA bk D M2 (pm_sa M2 264 (pm_up (M2 264) D 0)) := fA_q (by omega) (by omega)
          generalize hM3 : pm_sa M2 264 (pm_up (M2 264) D 0) = M3 at A3 F3
          have T3 : TF M3 D kn 0 bg bs := by rw [← hM3]; exact ⟨T2.1, by rw [sa_s, up_s], T2.2.2.1, T2.2.2.2⟩
          have A4 := AS_q (q := 265) (g := pm_up (M3 265) D 1) A3 (by omega)
          have F4 : fA bk D M3 (pm_sa M3 265 (pm_up (M3 265) D 1)) := fA_q (by omega) (by omega)
          have T4 : TF (pm_sa M3 265 (pm_up (M3 265) D 1)) D kn 0 1 bs := ⟨T3.1, T3.2.1, by rw [sa_s, up_s], T3.2.2.2⟩
          have F14 : fA bk D M (pm_sa M3 265 (pm_up (M3 265) D 1)) := fA_t (fA_d (fA_t F1 F2) (by omega)) (fA_t F3 F4)
          refine t187 (TX_A hT F14) A4.1 (by omega) (by omega) (fun M5 o5 f5 => ?_)
          have A5 := AS_4 A4 f5 o5
          rw [push_u, r205_393, r205_398]
          have A6 := AS_j (j := 52) (x := 0) A5 (by omega)
          refine k69 A6 (hK _ (by rw [← hcy]; exact A6) (TF_j (TF_4 T4 f5)) (by rw [sa_s, up_s]) (fA_t F14 (fA_t (f4_A f5) (fA_j (by omega)))))
        rw [push_u, r205_359 (by omega)]
        rcases hk with ⟨rfl, rfl⟩ | ⟨rfl, rfl⟩
        · rw [if_neg (by omega), r205_365]; exact fin 20024 rfl (by unfold isOp; omega)
        · rw [if_pos (by omega), r205_370]; exact fin 20023 rfl (by unfold isOp; omega)
      rcases hk with ⟨rfl, rfl⟩ | ⟨rfl, rfl⟩
      · rw [if_pos q, if_neg (by omega), r205_351]; exact jn 1 (by simp) (by simp)
      · have n24 : ¬ isW B N ((24 : Nat) : Int) (.inr (κ, o, l)) = true := fun z => by have := (isW_k z).2; omega
        rw [if_neg n24, if_pos rfl, r205_355]; exact jn 0 (by simp) (by simp)
    rw [r205_188 (by omega), if_neg (by omega), r205_192 (by omega) (by omega) (by rw [Int.toNat_natCast, hF.2.1]; omega), Int.toNat_natCast, hF.2.1, if_pos (by omega), r205_285 (by omega), if_neg (by omega), r205_289]
    refine (c189 (k := 24) (o := o) (l := l) hA.1 hc (by omega)).mpr ?_
    rw [push_i, r205_296 i01]
    rcases hk with ⟨rfl, rfl⟩ | ⟨rfl, rfl⟩
    · rw [if_pos q, if_pos (by omega)]; exact fin
    · have n24 : ¬ isW B N ((24 : Nat) : Int) (.inr (κ, o, l)) = true := fun z => by have := (isW_k z).2; omega
      rw [if_neg n24, if_neg (by simp), r205_299]
      refine (c189 (k := 23) (o := o) (l := l) hA.1 hc (by omega)).mpr ?_
      rw [push_i, r205_306 i01, if_pos q, if_neg (by omega)]; exact fin
/-- a test without a comparison -/
theorem g_bad (hA : AS M bk B N κ op l S D) (hF : TF M D kn 0 bg bs) (hc : CL M) (hts : isTs kn = true) (har : ¬ arS B N κ op l = true) (hcm : ∀ y, y = 60 ∨ y = 62 ∨ y = 61 → ¬ isS B N y (.inr (κ, op, l)) = true) (hK : ∀ M', FL M' (1, ((tok B N κ).2.2.1 : Int)) → fA bk D M M' → K PU (GF X, M', PTF v)) : pm_Run (d + 5) 205 31 [vA 234, vI (D : Int), vI kn, PU, PU] [vI (if isTs kn = true then 1 else 0)] (GF X, M, PTF v) (K69 d tb K) := by
  have d19 := hA.2.2.2.1.2
  have a1 := hA.1
  have r12 : inR (M 234 12) := by have : M 234 12 = -1 := hc; omega
  have kn15 : kn = 1 ∨ kn = 5 := by unfold isTs at hts; simpa using hts
  have hf := FL_89 (M := M) (k := 1) (p := ((tok B N κ).2.1 : Int)) (by omega) r12
  have h8 : (pm_sa M 234 (pm_up (pm_up (M 234) 8 1) 9 ((tok B N κ).2.1 : Int))) 234 8 = 1 := hf.1
  have hk' : K PU (GF X, pm_sa M 234 (pm_up (pm_up (M 234) 8 1) 9 ((tok B N κ).2.1 : Int)), PTF v) := hK _ (by rw [OK_c a1 hc]; exact hf) (f4_A f4_89)
  rw [if_pos hts]
  refine l205b hA hF hc (by omega) (fun _ => har) ?_
  rw [r205_188 (by omega), if_neg (by omega), r205_192 (by omega) (by omega) (by rw [Int.toNat_natCast, hF.2.1]; omega), Int.toNat_natCast, hF.2.1, if_neg (by simp), r205_201, c188 (y := 60) (o := op) (l := l) a1 hc rfl (by omega), push_i, r205_207 i01, if_neg (hcm 60 (by simp)), if_neg (by simp), r205_210, c188 (y := 62) (o := op) (l := l) a1 hc rfl (by omega), push_i, r205_216 i01, if_neg (hcm 62 (by simp)), if_neg (by simp), r205_219, c188 (y := 61) (o := op) (l := l) a1 hc rfl (by omega), push_i, r205_225 i01, if_neg (hcm 61 (by simp)), if_pos rfl, r205_285 (by omega), if_neg (by omega), r205_289]
  have bo : pm_Run (d + 5) 205 309 [vA 234, vI (D : Int), vI kn, vI 1, PU] [] (GF X, M, PTF v) (K69 d tb K) := by
    rw [r205_309 (by omega) (by omega) (by rw [Int.toNat_natCast, hF.2.1]; omega), Int.toNat_natCast, hF.2.1, if_neg (by simp), r205_318, c183o a1.1, push_u, a1.2.2.1.2.1, r205_327 (by rw [h8]; omega), h8, if_neg (by omega), r205_334]
    exact k69z hk'
  refine (c189 (k := 24) (o := op) (l := l) a1 hc (by omega)).mpr ?_
  rw [push_i, r205_296 i01]
  by_cases q1 : isW B N ((24 : Nat) : Int) (.inr (κ, op, l)) = true
  · rw [if_pos q1, if_pos (by omega)]; exact bo
  · rw [if_neg q1, if_neg (by simp), r205_299]
    refine (c189 (k := 23) (o := op) (l := l) a1 hc (by omega)).mpr ?_
    rw [push_i, r205_306 i01]
    by_cases q2 : isW B N ((23 : Nat) : Int) (.inr (κ, op, l)) = true
    · rw [if_pos q2, if_neg (by omega)]; exact bo
    · rw [if_neg q2, if_pos rfl, r205_400 (by omega), if_neg (by omega), r205_404 (by omega) (by omega) (by rw [Int.toNat_natCast, hF.2.1]; omega), Int.toNat_natCast, hF.2.1, if_neg (by simp), r205_413, c183o a1.1, push_u, a1.2.2.1.2.1, r205_422 (by omega)]
      rcases kn15 with rfl | rfl
      · rw [if_neg (by omega), r205_427 (by rw [h8]; omega), h8, if_pos (by omega), r205_439]
        exact k69z hk'
      · have tk : TKR ((pm_sa M 234 (pm_up (pm_up (M 234) 8 1) 9 ((tok B N κ).2.1 : Int))) 234) B N κ := TKR_c a1.2.2.1 (fun j z => by rw [sa_s, up_n (by omega), up_n (by omega)])
        obtain ⟨r, hr, hi⟩ := c188t (d := d + 4) (X := X) (v := v) (K := fun r9 S1 => pm_Run (d + 5) 205 512 [vA 234, vI (D : Int), vI 5, vI 1, PU] (pm_push r9 []) S1 (K69 d tb K)) tk (y := 93) (by omega)
        rw [if_pos (by omega), r205_441 (by omega), if_pos (by omega), r205_496 (by omega), if_neg (by simp), r205_502, r205_509]
        refine hi.mpr ?_
        rw [push_i, r205_512 (by omega)]
        rcases hr with rfl | rfl
        · rw [if_neg (by simp), r205_515, c183f hf, push_u, r205_524 (by rw [h8]; omega), h8, if_neg (by omega), r205_531]
          exact k69z hk'
        · rw [if_pos (by omega), r205_524 (by rw [h8]; omega), h8, if_neg (by omega), r205_531]
          exact k69z hk'
/-- past the tests -/
theorem l205t (hA : AS M bk B N κ op l S D) (hF : TF M D kn ph bg bs) (hc : CL M) (hph : ph = 0 ∨ ph = 1 ∨ ph = 2) (hnt : isTs kn = true → ph ≠ 0 ∧ ¬ isW B N ((24 : Nat) : Int) (.inr (κ, op, l)) = true ∧ ¬ isW B N ((23 : Nat) : Int) (.inr (κ, op, l)) = true) (hn : ph ≠ 2 → ¬ arS B N κ op l = true) (hK : ∀ l3 : Int, pm_Run (d + 5) 205 422 [vA 234, vI (D : Int), vI kn, vI l3, PU] [] (GF X, M, PTF v) (K69 d tb K)) : pm_Run (d + 5) 205 31 [vA 234, vI (D : Int), vI kn, PU, PU] [vI (if isTs kn = true then 1 else 0)] (GF X, M, PTF v) (K69 d tb K) := by
  have d19 := hA.2.2.2.1.2
  refine l205b hA hF hc hph hn ?_
  by_cases q : isTs kn = true
  · obtain ⟨n0, n1, n2⟩ := hnt q
    rw [if_pos q, r205_188 (by omega), if_neg (by omega), r205_192 (by omega) (by omega) (by rw [Int.toNat_natCast, hF.2.1]; omega), Int.toNat_natCast, hF.2.1, if_pos n0, r205_285 (by omega), if_neg (by omega), r205_289]
    refine (c189 (k := 24) (o := op) (l := l) hA.1 hc (by omega)).mpr ?_
    rw [push_i, r205_296 i01, if_neg n1, if_neg (by simp), r205_299]
    refine (c189 (k := 23) (o := op) (l := l) hA.1 hc (by omega)).mpr ?_
    rw [push_i, r205_306 i01, if_neg n2, if_pos rfl, r205_400 (by omega), if_neg (by omega), r205_404 (by omega) (by omega) (by rw [Int.toNat_natCast, hF.2.1]; omega), Int.toNat_natCast, hF.2.1, if_pos n0]
    exact hK _
  · rw [if_neg q, r205_188 (by omega), if_pos rfl, r205_285 (by omega), if_pos rfl, r205_400 (by omega), if_pos rfl]
    exact hK _
/-- the formula is at its end -/
theorem g_end (hA : AS M bk B N κ (op + nn Q) l (S0 ++ Q.reverse) D) (hF : TF M D kn ph bg bs) (hc : CL M) (hkn : kn = 0 ∨ kn = 1) (hph : ph = 0 ∨ ph = 1 ∨ ph = 2) (hnt : kn = 1 → ph ≠ 0 ∧ ¬ isW B N ((24 : Nat) : Int) (.inr (κ, o, l)) = true ∧ ¬ isW B N ((23 : Nat) : Int) (.inr (κ, o, l)) = true) (hn : ph ≠ 2 → ¬ arS B N κ o l = true) (ht : top S0 bs 1) (hQ : ∀ c ∈ Q, 1 ≤ rk c) (hl : l.length + Q.length ≤ 1600) (hK : ∀ M', AS M' bk B N κ op (l ++ Q) S0 D → fA bk (D + 1) M M' → K PU (GF X, M', PTF v)) : pm_Run (d + 5) 205 31 [vA 234, vI (D : Int), vI kn, PU, PU] [vI (if isTs kn = true then 1 else 0)] (GF X, M, PTF v) (K69 d tb K) := by
  refine l205t hA hF hc hph (fun z => hnt (by unfold isTs at z; rcases hkn with rfl | rfl <;> simp at z ⊢)) hn (fun l3 => ?_)
  rw [r205_422 (by omega), if_neg (by omega), r205_427 (by rw [hA.1.1]; omega), hA.1.1, if_neg (by simp), r205_434]
  refine c199 (d := d + 3) (lv := 1) Q hA hF.2.2.2 ht hQ hl (by omega) (fun M1 A1 F1 e52 e12 => ?_)
  rw [push_u, r205_439]
  exact k69z (hK M1 A1 F1)
/-- a comma -/
theorem g_com (hT : TX M B N) (hA : AS M bk B N κ (op + nn Q) l (S0 ++ Q.reverse) D) (hF : TF M D 3 0 bg bs) (hc : CL M) (hn : ¬ arS B N κ o l = true) (ht : top S0 bs 1) (hQ : ∀ c ∈ Q, 1 ≤ rk c) (hl : l.length + Q.length ≤ 1600) (hK0 : ¬ isS B N 44 (.inr (κ, o, l)) = true → ∀ M', FL M' (1, ((tok B N κ).2.2.1 : Int)) → fA bk D M M' → K PU (GF X, M', PTF v)) (hK1 : isS B N 44 (.inr (κ, o, l)) = true → ∀ M', AS M' bk B N (adv B N κ) op (l ++ Q) S0 D → TF M' D 4 0 bg bs → M' 266 D = M 266 D → M' 234 52 = 0 → fA bk D M M' → pm_Run (d + 6) 206 43 [vA 234, vI tb, vI 1] [] (GF X, M', PTF v) K) : pm_Run (d + 5) 205 31 [vA 234, vI (D : Int), vI 3, PU, PU] [vI (if isTs 3 = true then 1 else 0)] (GF X, M, PTF v) (K69 d tb K) := by
  have d19 := hA.2.2.2.1.2
  have a1 := hA.1
  have r12 : inR (M 234 12) := by have : M 234 12 = -1 := hc; omega
  refine l205t hA hF hc (by omega) (fun z => absurd z (by decide)) (fun _ => hn) (fun l3 => ?_)
  rw [r205_422 (by omega), if_pos (by omega), r205_441 (by omega), if_neg (by simp), r205_446, c188 (y := 44) (o := o) (l := l) a1 hc rfl (by omega), push_i, r205_452 i01]
  by_cases q : isS B N 44 (.inr (κ, o, l)) = true
  · have k3 := (isS_k q).1
    rw [if_pos q, if_pos (by omega), r205_464 (by rw [a1.1]; omega), a1.1, if_pos (by omega), r205_473]
    refine c199 (d := d + 3) (lv := 1) Q hA hF.2.2.2 ht hQ hl (by omega) (fun M1 A1 F1 e52 e12 => ?_)
    have T1 := TF_A hF F1 (by omega)
    have A2 := AS_q (q := 263) (g := pm_up (M1 263) D 4) A1 (by omega)
    have T2 : TF (pm_sa M1 263 (pm_up (M1 263) D 4)) D 4 0 bg bs := ⟨by rw [sa_s, up_s], T1.2.1, T1.2.2.1, T1.2.2.2⟩
    have F2 : fA bk D M (pm_sa M1 263 (pm_up (M1 263) D 4)) := fA_t (fA_d F1 (by omega)) (fA_q (by omega) (by omega))
    rw [push_u, r205_478 (by omega) (by omega), Int.toNat_natCast, r205_485]
    refine t187 (TX_A hT F2) A2.1 (by omega) (by omega) (fun M3 o3 f3 => ?_)
    have A3 := AS_4 A2 f3 o3
    have A4 := AS_j (j := 52) (x := 0) A3 (by omega)
    rw [push_u, r205_489, r205_494]
    refine k69 A4 (hK1 q _ A4 (TF_j (TF_4 T2 f3)) ?_ (by rw [sa_s, up_s]) (fA_t F2 (fA_t (f4_A f3) (fA_j (by omega)))))
    rw [sa_n (by omega), f3.1 266 (by omega), sa_n (by omega)]
    exact (F1.2.2.2 D (by omega)).2.2.2.1
  · have hf := FL_89 (M := M) (k := 1) (p := ((tok B N κ).2.1 : Int)) (by omega) r12
    have h8 : (pm_sa M 234 (pm_up (pm_up (M 234) 8 1) 9 ((tok B N κ).2.1 : Int))) 234 8 = 1 := hf.1
    rw [if_neg q, if_neg (by simp), r205_455, c183o a1.1, push_u, a1.2.2.1.2.1, r205_464 (by rw [h8]; omega), h8, if_neg (by omega), r205_471]
    exact k69z (hK0 q _ (by rw [OK_c a1 hc]; exact hf) (f4_A f4_89))
/-- what closes -/
theorem fA_66 (h : fA bk (D + 1) M M') : M' 266 D = M 266 D := (h.2.2.2 D (by omega)).2.2.2.1
theorem g_cls (hT : TX M B N) (hA : AS M bk B N κ (op + 1 + nn Q) l (S0 ++ Q.reverse) (D + 1)) (hF : TF M (D + 1) kn ph bg bs) {kn' ph' bg' : Int} {bs' : Nat} (hF' : TF M D kn' ph' bg' bs') (hc : CL M) {y : Int} (hkn : (kn = 2 ∧ y = 41) ∨ (kn = 4 ∧ y = 41) ∨ (kn = 5 ∧ y = 93)) (hph : ph = 0 ∨ ph = 1 ∨ ph = 2) (hnt : kn = 5 → ph ≠ 0 ∧ ¬ isW B N ((24 : Nat) : Int) (.inr (κ, o, l)) = true ∧ ¬ isW B N ((23 : Nat) : Int) (.inr (κ, o, l)) = true) (hn : ph ≠ 2 → ¬ arS B N κ o l = true) (ht : top S0 bs 1) (hQ : ∀ c ∈ Q, 1 ≤ rk c) (hl : l.length + Q.length < 1600) (h52 : M 234 52 = 1) {c : Int} (hpc : kn = 4 → M 266 (D + 1) = sor c ∧ ¬ c < 10000) (hK0 : ¬ isS B N y (.inr (κ, o, l)) = true → ∀ M', FL M' (1, ((tok B N κ).2.2.1 : Int)) → fA bk D M M' → K PU (GF X, M', PTF v)) (hK1 : isS B N y (.inr (κ, o, l)) = true → ∀ M', AS M' bk B N (adv B N κ) op (if kn = 4 then l ++ Q ++ [c] else l ++ Q) S0 D → TF M' D kn' (if kn = 5 then 2 else ph') bg' bs' → M' 234 52 = 1 → M' 266 D = M 266 D → fA bk D M M' → pm_Run (d + 6) 206 43 [vA 234, vI tb, vI 1] [] (GF X, M', PTF v) K) : pm_Run (d + 5) 205 31 [vA 234, vI ((D + 1 : Nat) : Int), vI kn, PU, PU] [vI (if isTs kn = true then 1 else 0)] (GF X, M, PTF v) (K69 d tb K) := by
  have d19 := hA.2.2.2.1.2
  have a1 := hA.1
  have r12 : inR (M 234 12) := by have : M 234 12 = -1 := hc; omega
  refine l205t hA hF hc hph (fun z => hnt (by unfold isTs at z; rcases hkn with ⟨rfl, -⟩ | ⟨rfl, -⟩ | ⟨rfl, -⟩ <;> simp at z ⊢)) hn (fun l3 => ?_)
  rw [r205_422 (by omega), if_pos (by omega), r205_441 (by omega), if_pos (by omega), r205_496 (by omega)]
  have sg : isSg y = true ∧ 0 ≤ y ∧ y ≤ 255 := by rcases hkn with ⟨-, rfl⟩ | ⟨-, rfl⟩ | ⟨-, rfl⟩ <;> decide
  have go : pm_Run (d + 5) 205 509 [vA 234, vI ((D + 1 : Nat) : Int), vI kn, vI l3, PU] [vI y, vA 234] (GF X, M, PTF v) (K69 d tb K) := by
    rw [r205_509, c188 (y := y) (o := o) (l := l) a1 hc sg.1 sg.2, push_i, r205_512 i01]
    by_cases q : isS B N y (.inr (κ, o, l)) = true
    · have k3 := (isS_k q).1
      rw [if_pos q, if_pos (by omega), r205_524 (by rw [a1.1]; omega), a1.1, if_pos (by omega), r205_533]
      refine c199 (d := d + 3) (lv := 1) Q hA hF.2.2.2 ht hQ (by omega) (by omega) (fun M1 A1 F1 e52 e12 => ?_)
      obtain ⟨b1, b2, ⟨b3, b3'⟩, ⟨b4, b4'⟩, b5⟩ := id A1
      rw [push_u, r205_538, r205_548, sa_s, sa_sa, up_n (by omega)]
      generalize hg : pm_sa M1 234 (pm_up (pm_up (M1 234) 48 (M1 234 48 - 1)) 49 (M1 234 49 - 1)) = M2
      have m2 : ∀ j, j ≠ 48 → j ≠ 49 → M2 234 j = M1 234 j := fun j z1 z2 => by rw [← hg, sa_s, up_n z2, up_n z1]
      have m3 : ∀ q, q ≠ 234 → M2 q = M1 q := fun q z => by rw [← hg, sa_n z]
      have e48 : M2 234 48 = ((D + 1 : Nat) : Int) := by rw [← hg, sa_s, up_n (by omega), up_s, b4]; omega
      have A2 : AS M2 bk B N κ op (l ++ Q) S0 D := ⟨OK_u b1 (fun j z => m2 j (by omega) (by omega)), CDR_u b2 (m2 42 (by omega) (by omega)) (m2 41 (by omega) (by omega)) (m3 259 (by omega)) (m3 260 (by omega)), ⟨by rw [← hg, sa_s, up_s, b3]; omega, by omega⟩, ⟨e48, by omega⟩, OPS_u b5 (m2 51 (by omega) (by omega)) (m3 268 (by omega))⟩
      have F2 : fA bk (D + 2) M M2 := fA_t F1 ⟨fun q z1 _ _ _ => m3 q z1, fun j z1 z2 z3 z4 z5 z6 z7 => m2 j z4 z5, fun k _ => by rw [m3 259 (by omega), m3 260 (by omega)]; exact ⟨rfl, rfl⟩, fun k _ => by rw [m3 263 (by omega), m3 264 (by omega), m3 265 (by omega), m3 266 (by omega), m3 267 (by omega)]; exact ⟨rfl, rfl, rfl, rfl, rfl⟩⟩
      have T2' := TF_A hF' F2 (by omega)
      have s52 : M2 234 52 = 1 := (m2 52 (by omega) (by omega)).trans (e52.trans h52)
      -- behind the sign
      have fin : ∀ (M3 : PH) (l' : List Int) (p2 : Int), AS M3 bk B N κ op l' S0 D → TF M3 D kn' p2 bg' bs' → M3 234 52 = 1 → M3 266 D = M 266 D → fA bk D M M3 → l' = (if kn = 4 then l ++ Q ++ [c] else l ++ Q) → p2 = (if kn = 5 then 2 else ph') → pm_Run (d + 5) 205 591 [vA 234, vI ((D + 1 : Nat) : Int), vI kn, vI l3, PU] [] (GF X, M3, PTF v) (K69 d tb K) := by
        intro M3 l' p2 A3 T3 e3 e66 F3 hl' hp2
        rw [r205_591]
        refine t187 (TX_A hT F3) A3.1 (by omega) (by omega) (fun M4 o4 f4' => ?_)
        have A4 := AS_4 A3 f4' o4
        rw [push_u, r205_595]
        refine k69 A4 (hK1 q M4 (by rw [← hl']; exact A4) (by rw [← hp2]; exact TF_4 T3 f4') ((f4'.2 52 (by omega) (by omega)).trans e3) ((fA_66 (f4_A (bk := bk) f4')).trans e66) (fA_t F3 (f4_A f4')))
      rw [r205_558 (by omega)]
      rcases hkn with ⟨rfl, rfl⟩ | ⟨rfl, rfl⟩ | ⟨rfl, rfl⟩
      · rw [if_pos (by omega), r205_574 (by omega), if_pos (by omega)]
        exact fin M2 _ _ A2 T2' s52 (fA_66 (fA_d F2 (by omega))) (fA_d F2 (by omega)) rfl rfl
      · obtain ⟨pc, pn⟩ := hpc rfl
        have p2 : M2 266 ((D + 1 : Nat) : Int).toNat = sor c := by rw [Int.toNat_natCast, (F2.2.2.2 (D + 1) (by omega)).2.2.2.1]; exact pc
        rw [if_neg (by simp), r205_563 (by omega) (by omega), p2]
        refine c197 A2.2.1 (by rw [List.length_append]; omega) (fun z => absurd z pn) (fun M3 h1 h2 h3 h4 => ?_)
        rw [push_u, r205_574 (by omega), if_pos (by omega)]
        obtain ⟨c1, c2, c3, c4, c5⟩ := id A2
        have F3 : fA bk (D + 1) M2 M3 := ⟨fun q z1 z2 z3 _ => h2 q z1 z2 z3, fun j z1 z2 z3 z4 z5 z6 z7 => h3 j z3, h4, fun k _ => by rw [h2 263 (by omega) (by omega) (by omega), h2 264 (by omega) (by omega) (by omega), h2 265 (by omega) (by omega) (by omega), h2 266 (by omega) (by omega) (by omega), h2 267 (by omega) (by omega) (by omega)]; exact ⟨rfl, rfl, rfl, rfl, rfl⟩⟩
        exact fin M3 _ _ ⟨OK_u c1 (fun j z => h3 j (by omega)), h1, by rw [h3 49 (by omega)]; exact c3, by rw [h3 48 (by omega)]; exact c4, OPS_u c5 (h3 51 (by omega)) (h2 268 (by omega) (by omega) (by omega))⟩ (TF_A T2' F3 (by omega)) ((h3 52 (by omega)).trans s52) ((fA_66 F3).trans (fA_66 (fA_d F2 (by omega)))) (fA_t (fA_d F2 (by omega)) (fA_d F3 (by omega))) rfl rfl
      · have ix : (M2 234 48 - 1).toNat = D := by omega
        rw [if_pos (by omega), r205_574 (by omega), if_neg (by simp), r205_579 (by omega) (by omega), ix]
        exact fin _ _ 2 (AS_q A2 (by omega)) ⟨T2'.1, by rw [sa_s, up_s], T2'.2.2.1, T2'.2.2.2⟩ s52 (show M2 266 D = M 266 D from fA_66 (fA_d F2 (by omega))) (fA_t (fA_d F2 (by omega)) (fA_q (by omega) (by omega))) rfl rfl
    · have hf := FL_89 (M := M) (k := 1) (p := ((tok B N κ).2.1 : Int)) (by omega) r12
      have h8 : (pm_sa M 234 (pm_up (pm_up (M 234) 8 1) 9 ((tok B N κ).2.1 : Int))) 234 8 = 1 := hf.1
      rw [if_neg q, if_neg (by simp), r205_515, c183o a1.1, push_u, a1.2.2.1.2.1, r205_524 (by rw [h8]; omega), h8, if_neg (by omega), r205_531]
      exact k69z (hK0 q _ (by rw [OK_c a1 hc]; exact hf) (f4_A f4_89))
  rcases hkn with ⟨rfl, rfl⟩ | ⟨rfl, rfl⟩ | ⟨rfl, rfl⟩
  · rw [if_pos (by omega), r205_507]; exact go
  · rw [if_pos (by omega), r205_507]; exact go
  · rw [if_neg (by simp), r205_502]; exact go
end RFab
