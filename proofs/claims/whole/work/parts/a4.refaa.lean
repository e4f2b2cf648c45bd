/-! The reference's reader of formulas: how it goes on. -/
def K69 (d : Nat) (tb : Int) (K : PV → PS → Prop) : PV → PS → Prop := fun r s => pm_Run (d + 6) 206 69 [vA 234, vI tb, vI 1] (pm_push r []) s K
section RFaa
variable {d b w bk D : Nat} {X : Nat × (Nat → Int)} {v : Nat → Int} {M M' M2 : PH} {K : PV → PS → Prop} {B : Nat → Int} {N : Nat} {κ : KP} {e : Int × Int} {o op : Nat} {l S S0 Q : List Int} {s : ST} {kn ph bg tb : Int} {bs : Nat}
theorem k69 (h : AS M bk B N κ op l S D) (hK : pm_Run (d + 6) 206 43 [vA 234, vI tb, vI 1] [] (GF X, M, PTF v) K) : K69 d tb K (vI 1) (GF X, M, PTF v) := by
  unfold K69
  rw [push_i]; exact lh_69 h.1.1 hK
theorem k69z (hK : K PU (GF X, M, PTF v)) : K69 d tb K (vI 0) (GF X, M, PTF v) := by
  unfold K69
  rw [push_i]; exact lh_69z hK
theorem l205s (hT : TX M B N) (hA : AS M bk B N κ op l S D) (hF : TF M D kn ph bg bs) (h52 : M 234 52 = 1) (hkn : inR kn) (hph : inR ph) (hbad : (tok B N κ).1 = 4 → ∀ M', FL M' (1, ((tok B N κ).2.2.1 : Int)) → fA bk D M M' → K PU (GF X, M', PTF v)) (hgo : CL M → pm_Run (d + 5) 205 31 [vA 234, vI (D : Int), vI kn, PU, PU] [vI (if isTs kn = true then 1 else 0)] (GF X, M, PTF v) (K69 d tb K)) : pm_Run (d + 6) 206 43 [vA 234, vI tb, vI 1] [] (GF X, M, PTF v) K := by
  obtain ⟨a1, a2, a3, ⟨a4, a4'⟩, a5⟩ := id hA
  have ix : (M 234 48 - 1).toNat = D := by omega
  refine lh_g h52 ?_
  show pm_Call (d + 6) 205 [vA 234] (GF X, M, PTF v) (K69 d tb K)
  rw [en205, r205_0]
  refine c186 hT a1 (fun hc => ?_) (fun h4 M1 f1 h3 ff => ?_)
  · rw [push_u, r205_4 (by rw [a1.1]; omega), a1.1, if_pos (by omega), r205_13 (by omega) (by omega), ix, hF.1, c203 hkn, push_i, show (M 234 48 - 1) = (D : Int) by omega]
    exact hgo hc
  · have h8 := f1.1
    have h9 := f1.2.1
    rw [push_u, r205_4 (by omega), if_neg (by omega), r205_11]
    exact k69z (hbad h4 M1 f1 (f4_A ff))
def arS (B : Nat → Int) (N : Nat) (κ : KP) (op : Nat) (l : List Int) : Bool := isS B N 43 (.inr (κ, op, l)) || (isS B N 45 (.inr (κ, op, l)) || (isS B N 42 (.inr (κ, op, l)) || (isS B N 47 (.inr (κ, op, l)) || isS B N 37 (.inr (κ, op, l)))))
/-- signs that reckon -/
theorem l205a (h : OK M B N κ) (hc : CL M) {l1 l2 l3 : Int} (hK1 : arS B N κ op l = true → pm_Run (d + 5) 205 87 [vA 234, vI l1, vI l2, vI l3, PU] [] (GF X, M, PTF v) (K69 d tb K)) (hK0 : ¬ arS B N κ op l = true → pm_Run (d + 5) 205 188 [vA 234, vI l1, vI l2, vI l3, PU] [] (GF X, M, PTF v) (K69 d tb K)) : pm_Run (d + 5) 205 42 [vA 234, vI l1, vI l2, vI l3, PU] [] (GF X, M, PTF v) (K69 d tb K) := by
  rw [r205_42, c188 (y := 43) (o := op) (l := l) h hc rfl (by omega), push_i, r205_48 i01]
  by_cases q1 : isS B N 43 (.inr (κ, op, l)) = true
  · rw [if_pos q1, if_pos (by omega)]; exact hK1 (by unfold arS; rw [q1]; rfl)
  · rw [if_neg q1, if_neg (by simp), r205_51, c188 (y := 45) (o := op) (l := l) h hc rfl (by omega), push_i, r205_57 i01]
    by_cases q2 : isS B N 45 (.inr (κ, op, l)) = true
    · rw [if_pos q2, if_pos (by omega)]; exact hK1 (by unfold arS; rw [q2]; simp)
    · rw [if_neg q2, if_neg (by simp), r205_60, c188 (y := 42) (o := op) (l := l) h hc rfl (by omega), push_i, r205_66 i01]
      by_cases q3 : isS B N 42 (.inr (κ, op, l)) = true
      · rw [if_pos q3, if_pos (by omega)]; exact hK1 (by unfold arS; rw [q3]; simp)
      · rw [if_neg q3, if_neg (by simp), r205_69, c188 (y := 47) (o := op) (l := l) h hc rfl (by omega), push_i, r205_75 i01]
        by_cases q4 : isS B N 47 (.inr (κ, op, l)) = true
        · rw [if_pos q4, if_pos (by omega)]; exact hK1 (by unfold arS; rw [q4]; simp)
        · rw [if_neg q4, if_neg (by simp), r205_78, c188 (y := 37) (o := op) (l := l) h hc rfl (by omega), push_i, r205_84 i01]
          by_cases q5 : isS B N 37 (.inr (κ, op, l)) = true
          · rw [if_pos q5, if_neg (by omega)]; exact hK1 (by unfold arS; rw [q5]; simp)
          · rw [if_neg q5, if_pos rfl]
            refine hK0 (fun z => ?_)
            unfold arS at z
            rw [Bool.or_eq_true, Bool.or_eq_true, Bool.or_eq_true, Bool.or_eq_true] at z
            rcases z with z | z | z | z | z
            · exact q1 z
            · exact q2 z
            · exact q3 z
            · exact q4 z
            · exact q5 z
/-- behind joins: an operator is held back, the next sign -/
theorem l205h (hT : TX M B N) (hA : AS M bk B N κ op l S D) (h0 : (tok B N κ).1 = 3) (hS : S.length < 449) {c : Int} (hc : isOp c) {l1 l2 l3 : Int} (hK : ∀ M', AS M' bk B N (adv B N κ) op l (S ++ [c]) D → M' 234 52 = 0 → fA bk (D + 1) M M' → pm_Run (d + 6) 206 43 [vA 234, vI tb, vI 1] [] (GF X, M', PTF v) K) : pm_Run (d + 5) 205 174 [vA 234, vI l1, vI l2, vI l3, PU] [vI (sor c), vA 234] (GF X, M, PTF v) (K69 d tb K) := by
  rw [r205_174]
  refine c200 hA hS hc (fun M1 A1 F1 j1 => ?_)
  rw [push_u, r205_177]
  refine t187 (TX_A hT F1) A1.1 (by omega) (by omega) (fun M2 o2 f2 => ?_)
  have A2 := AS_4 A1 f2 o2
  rw [push_u, r205_181, r205_186]
  exact k69 (AS_j A2 (by omega)) (hK _ (AS_j A2 (by omega)) (by rw [sa_s, up_s]) (fA_t F1 (fA_t (f4_A f2) (fA_j (by omega)))))
theorem isS_u {y z : Int} (h : isS B N y (.inr (κ, o, l)) = true) (hn : y ≠ z) {o' : Nat} {l' : List Int} : ¬ isS B N z (.inr (κ, o', l')) = true := fun q => by
  have h1 := (isS_k h).2
  have h2 := (isS_k q).2
  omega
theorem isS_l {y : Int} {o' : Nat} {l' : List Int} : isS B N y (.inr (κ, o, l)) = isS B N y (.inr (κ, o', l')) := rfl
theorem isW_l {y : Int} {o' : Nat} {l' : List Int} : isW B N y (.inr (κ, o, l)) = isW B N y (.inr (κ, o', l')) := rfl
theorem g_ar (hT : TX M B N) (hA : AS M bk B N κ (op + nn Q) l (S0 ++ Q.reverse) D) (hF : TF M D kn ph bg bs) (hc : CL M) (hph : ph = 0 ∨ ph = 1) {lv y : Int} (hy : (lv = 5 ∧ (y = 43 ∨ y = 45)) ∨ (lv = 6 ∧ (y = 42 ∨ y = 47 ∨ y = 37))) (q : isS B N y (.inr (κ, o, l)) = true) (ht : top S0 bs lv) (hQ : ∀ c ∈ Q, lv ≤ rk c) (hl : l.length + Q.length ≤ 1600) (hS : S0.length < 449) {s0 : Int} (hK : ∀ M', AS M' bk B N (adv B N κ) op (l ++ Q) (S0 ++ [20000 + y]) D → TF M' D kn ph bg bs → M' 234 52 = 0 → fA bk (D + 1) M M' → pm_Run (d + 6) 206 43 [vA 234, vI tb, vI 1] [] (GF X, M', PTF v) K) : pm_Run (d + 5) 205 31 [vA 234, vI (D : Int), vI kn, PU, PU] [vI s0] (GF X, M, PTF v) (K69 d tb K) := by
  have d19 := hA.2.2.2.1.2
  have k3 := (isS_k q).1
  rw [r205_31 (by omega) (by omega) (by rw [Int.toNat_natCast, hF.2.1]; omega), Int.toNat_natCast, hF.2.1, if_neg (by omega)]
  refine l205a (op := o) (l := l) hA.1 hc (fun _ => ?_) (fun z => absurd ?_ z)
  · have jn : pm_Call (d + 5) 199 [vA 234, vI lv] (GF X, M, PTF v) (fun r s => pm_Run (d + 5) 205 115 [vA 234, vI (D : Int), vI kn, vI s0, PU] (pm_push r []) s (K69 d tb K)) := by
      refine c199 (d := d + 3) Q hA hF.2.2.2 ht hQ hl (by omega) (fun M1 A1 F1 e52 e12 => ?_)
      have hc1 : CL M1 := e12.trans hc
      have T1 := TF_A hF F1 (by omega)
      have fin : ∀ c : Int, c = 20000 + y → isOp c → pm_Run (d + 5) 205 174 [vA 234, vI (D : Int), vI kn, vI s0, PU] [vI (sor c), vA 234] (GF X, M1, PTF v) (K69 d tb K) := fun c hcy hop => by
        refine l205h (TX_A hT F1) A1 k3 hS hop (fun M2 A2 e2 F2 => ?_)
        rw [hcy] at A2
        exact hK M2 A2 (TF_A T1 F2 (by omega)) e2 (fA_t F1 F2)
      rw [push_u, r205_115, c188 (y := 43) (o := o) (l := l) A1.1 hc1 rfl (by omega), push_i, r205_122 i01]
      by_cases q1 : y = 43
      · subst q1
        rw [if_pos q, if_neg (by omega), r205_125]; exact fin 20043 rfl (by unfold isOp; omega)
      · rw [if_neg (isS_u q q1), if_pos rfl, r205_130, c188 (y := 45) (o := o) (l := l) A1.1 hc1 rfl (by omega), push_i, r205_136 i01]
        by_cases q2 : y = 45
        · subst q2
          rw [if_pos q, if_neg (by omega), r205_139]; exact fin 20045 rfl (by unfold isOp; omega)
        · rw [if_neg (isS_u q q2), if_pos rfl, r205_144, c188 (y := 42) (o := o) (l := l) A1.1 hc1 rfl (by omega), push_i, r205_150 i01]
          by_cases q3 : y = 42
          · subst q3
            rw [if_pos q, if_neg (by omega), r205_153]; exact fin 20042 rfl (by unfold isOp; omega)
          · rw [if_neg (isS_u q q3), if_pos rfl, r205_158, c188 (y := 47) (o := o) (l := l) A1.1 hc1 rfl (by omega), push_i, r205_164 i01]
            by_cases q4 : y = 47
            · subst q4
              rw [if_pos q, if_neg (by omega), r205_167]; exact fin 20047 rfl (by unfold isOp; omega)
            · have q5 : y = 37 := by omega
              subst q5
              rw [if_neg (isS_u q q4), if_pos rfl, r205_172]; exact fin 20037 rfl (by unfold isOp; omega)
    rw [r205_87, c188 (y := 43) (o := o) (l := l) hA.1 hc rfl (by omega), push_i, r205_94 i01]
    by_cases q1 : y = 43
    · have : lv = 5 := by omega
      subst q1; subst this
      rw [if_pos q, if_pos (by omega), r205_106, r205_112]; exact jn
    · rw [if_neg (isS_u q q1), if_neg (by simp), r205_97, c188 (y := 45) (o := o) (l := l) hA.1 hc rfl (by omega), push_i, r205_103 i01]
      by_cases q2 : y = 45
      · have : lv = 5 := by omega
        subst q2; subst this
        rw [if_pos q, if_neg (by omega), r205_106, r205_112]; exact jn
      · have : lv = 6 := by omega
        subst this
        rw [if_neg (isS_u q q2), if_pos rfl, r205_110, r205_112]; exact jn
  · unfold arS
    have : y = 43 ∨ y = 45 ∨ y = 42 ∨ y = 47 ∨ y = 37 := by omega
    rcases this with rfl | rfl | rfl | rfl | rfl <;> rw [q] <;> simp
/-- past the signs that reckon -/
theorem l205b (hA : AS M bk B N κ op l S D) (hF : TF M D kn ph bg bs) (hc : CL M) (hph : ph = 0 ∨ ph = 1 ∨ ph = 2) (hn : ph ≠ 2 → ¬ arS B N κ op l = true) {s0 : Int} (hK : pm_Run (d + 5) 205 188 [vA 234, vI (D : Int), vI kn, vI s0, PU] [] (GF X, M, PTF v) (K69 d tb K)) : pm_Run (d + 5) 205 31 [vA 234, vI (D : Int), vI kn, PU, PU] [vI s0] (GF X, M, PTF v) (K69 d tb K) := by
  have d19 := hA.2.2.2.1.2
  rw [r205_31 (by omega) (by omega) (by rw [Int.toNat_natCast, hF.2.1]; omega), Int.toNat_natCast, hF.2.1]
  by_cases q : ph = 2
  · rw [if_pos (by omega)]; exact hK
  · rw [if_neg (by omega)]
    exact l205a (op := op) (l := l) hA.1 hc (fun z => absurd z (hn q)) (fun _ => hK)
theorem g_cm (hT : TX M B N) (hA : AS M bk B N κ (op + nn Q) l (S0 ++ Q.reverse) D) (hF : TF M D kn 0 bg bs) (hc : CL M) (hts : isTs kn = true) {y : Int} (hy : y = 60 ∨ y = 62 ∨ y = 61) (q : isS B N y (.inr (κ, o, l)) = true) (ht : top S0 bs 5) (hQ : ∀ c ∈ Q, 5 ≤ rk c) (hl : l.length + Q.length ≤ 1600) (hS : S0.length < 449) (hK : ∀ M', AS M' bk B N (adv B N κ) op (l ++ Q) (S0 ++ [20000 + y]) D → TF M' D kn 1 bg bs → M' 234 52 = 0 → fA bk D M M' → pm_Run (d + 6) 206 43 [vA 234, vI tb, vI 1] [] (GF X, M', PTF v) K) : pm_Run (d + 5) 205 31 [vA 234, vI (D : Int), vI kn, PU, PU] [vI (if isTs kn = true then 1 else 0)] (GF X, M, PTF v) (K69 d tb K) := by
  have d19 := hA.2.2.2.1.2
  have k3 := (isS_k q).1
  rw [if_pos hts]
  refine l205b hA hF hc (by omega) (fun _ z => ?_) ?_
  · unfold arS at z
    rw [Bool.or_eq_true, Bool.or_eq_true, Bool.or_eq_true, Bool.or_eq_true] at z
    rcases z with z | z | z | z | z
    · exact isS_u q (by omega) z
    · exact isS_u q (by omega) z
    · exact isS_u q (by omega) z
    · exact isS_u q (by omega) z
    · exact isS_u q (by omega) z
  · have fin : pm_Run (d + 5) 205 228 [vA 234, vI (D : Int), vI kn, vI 1, PU] [] (GF X, M, PTF v) (K69 d tb K) := by
      rw [r205_228]
      refine c199 (d := d + 3) (lv := 5) Q hA hF.2.2.2 ht hQ hl (by omega) (fun M1 A1 F1 e52 e12 => ?_)
      have hc1 : CL M1 := e12.trans hc
      have T1 := TF_A hF F1 (by omega)
      have fin : ∀ c : Int, c = 20000 + y → isOp c → pm_Run (d + 5) 205 264 [vA 234, vI (D : Int), vI kn, vI 1, PU] [vI (sor c), vA 234] (GF X, M1, PTF v) (K69 d tb K) := fun c hcy hop => by
        rw [r205_264]
        refine c200 A1 hS hop (fun M2 A2 F2 j2 => ?_)
        have T2 := TF_A T1 F2 (by omega)
        rw [push_u, r205_267 (by omega) (by omega), Int.toNat_natCast, r205_274]
        have A3 := AS_q (q := 264) (g := pm_up (M2 264) D 1) A2 (by omega)
        have T3 : TF (pm_sa M2 264 (pm_up (M2 264) D 1)) D kn 1 bg bs := ⟨T2.1, by rw [sa_s, up_s], T2.2.2.1, T2.2.2.2⟩
        have F3 : fA bk D M2 (pm_sa M2 264 (pm_up (M2 264) D 1)) := fA_q (by omega) (by omega)
        have F13 : fA bk D M (pm_sa M2 264 (pm_up (M2 264) D 1)) := fA_t (fA_d (fA_t F1 F2) (by omega)) F3
        refine t187 (TX_A hT F13) A3.1 (by omega) (by omega) (fun M4 o4 f4' => ?_)
        have A4 := AS_4 A3 f4' o4
        rw [push_u, r205_278, r205_283]
        have A5 := AS_j (j := 52) (x := 0) A4 (by omega)
        refine k69 A5 (hK _ (by rw [← hcy]; exact A5) (TF_j (TF_4 T3 f4')) (by rw [sa_s, up_s]) (fA_t F13 (fA_t (f4_A f4') (fA_j (by omega)))))
      rw [push_u, r205_233, c188 (y := 60) (o := o) (l := l) A1.1 hc1 rfl (by omega), push_i, r205_240 i01]
      by_cases q1 : y = 60
      · subst q1
        rw [if_pos q, if_neg (by omega), r205_243]; exact fin 20060 rfl (by unfold isOp; omega)
      · rw [if_neg (isS_u q q1), if_pos rfl, r205_248, c188 (y := 62) (o := o) (l := l) A1.1 hc1 rfl (by omega), push_i, r205_254 i01]
        by_cases q2 : y = 62
        · subst q2
          rw [if_pos q, if_neg (by omega), r205_257]; exact fin 20062 rfl (by unfold isOp; omega)
        · have q3 : y = 61 := by omega
          subst q3
          rw [if_neg (isS_u q q2), if_pos rfl, r205_262]; exact fin 20061 rfl (by unfold isOp; omega)
    rw [r205_188 (by omega), if_neg (by omega), r205_192 (by omega) (by omega) (by rw [Int.toNat_natCast, hF.2.1]; omega), Int.toNat_natCast, hF.2.1, if_neg (by simp), r205_201, c188 (y := 60) (o := o) (l := l) hA.1 hc rfl (by omega), push_i, r205_207 i01]
    by_cases q1 : y = 60
    · subst q1
      rw [if_pos q, if_pos (by omega)]; exact fin
    · rw [if_neg (isS_u q q1), if_neg (by simp), r205_210, c188 (y := 62) (o := o) (l := l) hA.1 hc rfl (by omega), push_i, r205_216 i01]
      by_cases q2 : y = 62
      · subst q2
        rw [if_pos q, if_pos (by omega)]; exact fin
      · have q3 : y = 61 := by omega
        subst q3
        rw [if_neg (isS_u q q2), if_neg (by simp), r205_219, c188 (y := 61) (o := o) (l := l) hA.1 hc rfl (by omega), push_i, r205_225 i01, if_pos q, if_neg (by omega)]; exact fin
end RFaa
