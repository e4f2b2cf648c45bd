/-! The reference's reader of formulas: an operand. -/
def isTs (kn : Int) : Bool := decide (kn = 1) || decide (kn = 5)
section RFx
variable {d b w bk D : Nat} {X : Nat × (Nat → Int)} {v : Nat → Int} {M M' M2 : PH} {K : PV → PS → Prop} {B : Nat → Int} {N : Nat} {κ : KP} {e : Int × Int} {o op : Nat} {l S : List Int} {s : ST} {kn ph bg tb : Int} {bs : Nat}
theorem c203 {x : Int} (hx : inR x) : pm_Call (d + 1) 203 [vI x] (GF X, M, PTF v) K ↔ K (vI (if isTs x = true then 1 else 0)) (GF X, M, PTF v) := by
  unfold isTs
  rw [en203, r203_0 hx]
  by_cases q : x = 1
  · rw [if_pos q, r203_10, r203_15 (by simp), q]; rfl
  · rw [if_neg q, r203_5 hx]
    by_cases q2 : x = 5
    · rw [if_neg (by simpa using q2), r203_10, r203_15 (by simp), q2]; rfl
    · rw [if_pos q2, r203_14, r203_15 (by simp), decide_eq_false q, decide_eq_false q2]; rfl
/-- slots of the object beside the sign and the codes have changed -/
theorem AS_j (h : AS M bk B N κ op l S D) {j : Nat} {x : Int} (hj : j ≠ 42 ∧ j ≠ 41 ∧ j ≠ 48 ∧ j ≠ 49 ∧ j ≠ 51 ∧ (j < 2 ∨ 9 < j) ∧ j ≠ 12) : AS (pm_sa M 234 (pm_up (M 234) j x)) bk B N κ op l S D := by
  obtain ⟨a1, a2, a3, a4, a5⟩ := h
  refine ⟨OK_u a1 (fun i z => by rw [sa_s, up_n (by omega)]), CDR_u a2 (by rw [sa_s, up_n (by omega)]) (by rw [sa_s, up_n (by omega)]) (sa_n (by omega)) (sa_n (by omega)), ?_, ?_, OPS_u a5 (by rw [sa_s, up_n (by omega)]) (sa_n (by omega))⟩
  · rw [sa_s, up_n (by omega)]; exact a3
  · rw [sa_s, up_n (by omega)]; exact a4
theorem AS_q (h : AS M bk B N κ op l S D) {q : Nat} {g : Nat → Int} (hq : 263 ≤ q ∧ q ≤ 267) : AS (pm_sa M q g) bk B N κ op l S D := by
  obtain ⟨a1, a2, a3, a4, a5⟩ := h
  refine ⟨OK_u a1 (fun i z => by rw [sa_n (by omega)]), CDR_u a2 (by rw [sa_n (by omega)]) (by rw [sa_n (by omega)]) (sa_n (by omega)) (sa_n (by omega)), ?_, ?_, OPS_u a5 (by rw [sa_n (by omega)]) (sa_n (by omega))⟩
  · rw [sa_n (by omega)]; exact a3
  · rw [sa_n (by omega)]; exact a4
theorem fA_j {j : Nat} {x : Int} (hj : j = 52 ∨ j = 49 ∨ j = 48 ∨ j = 51) : fA bk D M (pm_sa M 234 (pm_up (M 234) j x)) := ⟨fun q z1 _ _ _ => sa_n z1, fun i z1 z2 z3 z4 z5 z6 z7 => by rw [sa_s, up_n (by omega)], fun _ _ => ⟨rfl, rfl⟩, fun _ _ => ⟨rfl, rfl, rfl, rfl, rfl⟩⟩
theorem fA_q {q k : Nat} {x : Int} (hq : 263 ≤ q ∧ q ≤ 267) (hk : D ≤ k) : fA bk D M (pm_sa M q (pm_up (M q) k x)) := by
  refine ⟨fun p z1 z2 z3 z4 => sa_n (by omega), fun i _ _ _ _ _ _ _ => by rw [sa_n (by omega)], fun i _ => by rw [sa_n (by omega), sa_n (by omega)]; exact ⟨rfl, rfl⟩, fun i hi => ?_⟩
  have key : ∀ p, (pm_sa M q (pm_up (M q) k x)) p i = M p i := fun p => by
    by_cases z : p = q
    · subst z; rw [sa_s, up_n (by omega)]
    · rw [sa_n z]
  exact ⟨key 263, key 264, key 265, key 266, key 267⟩
theorem TF_j (h : TF M D kn ph bg bs) {g : Nat → Int} : TF (pm_sa M 234 g) D kn ph bg bs := TF_u h rfl rfl rfl rfl
theorem TF_4 (h : TF M D kn ph bg bs) (hf : f4 M M') : TF M' D kn ph bg bs := TF_u h (by rw [hf.1 263 (by omega)]) (by rw [hf.1 264 (by omega)]) (by rw [hf.1 265 (by omega)]) (by rw [hf.1 267 (by omega)])
theorem AS_4 (h : AS M bk B N κ op l S D) (hf : f4 M M') {κ' : KP} (ho : OK M' B N κ') : AS M' bk B N κ' op l S D := by
  obtain ⟨a1, a2, a3, a4, a5⟩ := h
  refine ⟨ho, CDR_f a2 hf, ?_, ?_, OPS_u a5 (hf.2 51 (by omega) (by omega)) (hf.1 268 (by omega))⟩
  · rw [hf.2 49 (by omega) (by omega)]; exact a3
  · rw [hf.2 48 (by omega) (by omega)]; exact a4
/-- one more operator -/
theorem c200 (h : AS M bk B N κ op l S D) (hS : S.length < 449) {c : Int} (hc : isOp c) (hK : ∀ M', AS M' bk B N κ op l (S ++ [c]) D → fA bk (D + 1) M M' → (∀ j, j ≠ 51 → M' 234 j = M 234 j) → K PU (GF X, M', PTF v)) : pm_Call (d + 1) 200 [vA 234, vI (sor c)] (GF X, M, PTF v) K := by
  obtain ⟨a1, a2, a3, a4, ⟨a5, a6, a7⟩⟩ := h
  rw [en200, r200_0 (by omega) (by omega), r200_10, a5, Int.toNat_natCast, sa_n (a := 268) (b := 234) (by omega)]
  have ms : ∀ j, j ≠ 51 → (pm_sa (pm_sa M 268 (pm_up (M 268) S.length (sor c))) 234 (pm_up (M 234) 51 (M 234 51 + 1))) 234 j = M 234 j := fun j z => by rw [sa_s, up_n z]
  refine hK _ ⟨OK_u a1 (fun j z => ms j (by omega)), CDR_u a2 (ms 42 (by omega)) (ms 41 (by omega)) rfl rfl, ?_, ?_, ⟨?_, by rw [List.length_append]; simp; omega, fun i hi => ?_⟩⟩ ⟨fun q z1 z2 z3 z4 => by rw [sa_n z1, sa_n (by omega)], fun j z1 z2 z3 z4 z5 z6 z7 => ms j z6, fun _ _ => ⟨rfl, rfl⟩, fun _ _ => ⟨rfl, rfl, rfl, rfl, rfl⟩⟩ ms
  · rw [ms 49 (by omega)]; exact a3
  · rw [ms 48 (by omega)]; exact a4
  · rw [sa_s, up_s, a5, List.length_append]; simp
  · rw [sa_n (a := 234) (b := 268) (by omega), sa_s]
    rw [List.length_append] at hi
    by_cases q : i < S.length
    · rw [up_n (by omega), List.getElem_append_left q]; exact a7 i q
    · have : i = S.length := by simp at hi; omega
      subst this
      rw [up_s]; simp; exact hc
/-- one more frame -/
theorem c201 (h : AS M bk B N κ op l S D) (hD : D < 18) {kn : Int} (hK : ∀ M', AS M' bk B N κ op l S (D + 1) → TF M' (D + 1) kn 0 1 S.length → fA bk (D + 1) M M' → (∀ j, j ≠ 48 → M' 234 j = M 234 j) → K PU (GF X, M', PTF v)) : pm_Call (d + 1) 201 [vA 234, vI kn] (GF X, M, PTF v) K := by
  have e48 := h.2.2.2.1.1
  have e51 := h.2.2.2.2.1
  have ix : (M 234 48).toNat = D + 1 := by omega
  rw [en201, r201_0 (by omega) (by omega), ix]
  have A1 := AS_q (q := 263) (g := pm_up (M 263) (D + 1) kn) h (by omega)
  have F1 : fA bk (D + 1) M (pm_sa M 263 (pm_up (M 263) (D + 1) kn)) := fA_q (by omega) (by omega)
  generalize hM1 : pm_sa M 263 (pm_up (M 263) (D + 1) kn) = M1 at A1 F1
  have s1 : M1 234 = M 234 := by rw [← hM1]; rfl
  have v1 : M1 263 (D + 1) = kn := by rw [← hM1, sa_s, up_s]
  rw [r201_10 (by rw [s1]; omega) (by rw [s1]; omega), s1, ix]
  have A2 := AS_q (q := 264) (g := pm_up (M1 264) (D + 1) 0) A1 (by omega)
  have F2 : fA bk (D + 1) M1 (pm_sa M1 264 (pm_up (M1 264) (D + 1) 0)) := fA_q (by omega) (by omega)
  generalize hM2 : pm_sa M1 264 (pm_up (M1 264) (D + 1) 0) = M2 at A2 F2
  have s2 : M2 234 = M 234 := by rw [← hM2]; exact s1
  have v2 : M2 263 (D + 1) = kn ∧ M2 264 (D + 1) = 0 := by rw [← hM2, sa_s, up_s]; exact ⟨v1, rfl⟩
  rw [r201_20 (by rw [s2]; omega) (by rw [s2]; omega), s2, ix]
  have A3 := AS_q (q := 265) (g := pm_up (M2 265) (D + 1) 1) A2 (by omega)
  have F3 : fA bk (D + 1) M2 (pm_sa M2 265 (pm_up (M2 265) (D + 1) 1)) := fA_q (by omega) (by omega)
  generalize hM3 : pm_sa M2 265 (pm_up (M2 265) (D + 1) 1) = M3 at A3 F3
  have s3 : M3 234 = M 234 := by rw [← hM3]; exact s2
  have v3 : M3 263 (D + 1) = kn ∧ M3 264 (D + 1) = 0 ∧ M3 265 (D + 1) = 1 := by rw [← hM3, sa_s, up_s]; exact ⟨v2.1, v2.2, rfl⟩
  rw [r201_30 (by rw [s3]; omega) (by rw [s3]; omega), s3, ix, e51]
  have A4 := AS_q (q := 267) (g := pm_up (M3 267) (D + 1) (S.length : Int)) A3 (by omega)
  have F4 : fA bk (D + 1) M3 (pm_sa M3 267 (pm_up (M3 267) (D + 1) (S.length : Int))) := fA_q (by omega) (by omega)
  generalize hM4 : pm_sa M3 267 (pm_up (M3 267) (D + 1) (S.length : Int)) = M4 at A4 F4
  have s4 : M4 234 = M 234 := by rw [← hM4]; exact s3
  have v4 : TF M4 (D + 1) kn 0 1 S.length := by
    rw [← hM4]
    refine ⟨v3.1, v3.2.1, v3.2.2, ?_⟩
    rw [sa_s, up_s]
  rw [r201_43, s4]
  have F5 : fA bk (D + 1) M4 (pm_sa M4 234 (pm_up (M4 234) 48 (M 234 48 + 1))) := fA_j (by omega)
  rw [s4] at F5
  obtain ⟨a1, a2, a3, a4, a5⟩ := A4
  refine hK _ ⟨OK_u a1 (fun i z => by rw [sa_s, up_n (by omega), s4]), CDR_u a2 (by rw [sa_s, up_n (by omega), s4]) (by rw [sa_s, up_n (by omega), s4]) (sa_n (by omega)) (sa_n (by omega)), ?_, ⟨by rw [sa_s, up_s, e48]; omega, by omega⟩, OPS_u a5 (by rw [sa_s, up_n (by omega), s4]) (sa_n (by omega))⟩ (TF_j v4) (fA_t F1 (fA_t F2 (fA_t F3 (fA_t F4 F5)))) (fun j z => by rw [sa_s, up_n z])
  rw [sa_s, up_n (by omega), ← s4]; exact a3
/-- something is opened -/
theorem c202 (hT : TX M B N) (h : AS M bk B N κ op l S D) (hc : CL M) (hD : D < 18) (hk : (tok B N κ).1 = 3) {kn : Int} (hK0 : ¬ op < 7 → ∀ M', FL M' (5, ((tok B N κ).2.1 : Int)) → fA bk (D + 1) M M' → K PU (GF X, M', PTF v)) (hK1 : op < 7 → ∀ M', AS M' bk B N (adv B N κ) (op + 1) l S (D + 1) → TF M' (D + 1) kn 0 1 S.length → fA bk (D + 1) M M' → M' 234 52 = M 234 52 → K PU (GF X, M', PTF v)) : pm_Call (d + 3) 202 [vA 234, vI kn] (GF X, M, PTF v) K := by
  obtain ⟨a1, a2, ⟨a3, a3'⟩, a4, a5⟩ := id h
  have r12 : inR (M 234 12) := by have : M 234 12 = -1 := hc; omega
  rw [en202, r202_0 (by omega)]
  by_cases q : op < 7
  · rw [if_pos (by omega), r202_18 (by rw [a1.1]; omega), a1.1, if_pos (by omega), r202_26, r202_36]
    have ok1 : OK (pm_sa M 234 (pm_up (M 234) 49 (M 234 49 + 1))) B N κ := OK_u a1 (fun i z => by rw [sa_s, up_n (by omega)])
    have A1 : AS (pm_sa M 234 (pm_up (M 234) 49 (M 234 49 + 1))) bk B N κ (op + 1) l S D := ⟨ok1, CDR_u a2 (by rw [sa_s, up_n (by omega)]) (by rw [sa_s, up_n (by omega)]) (sa_n (by omega)) (sa_n (by omega)), ⟨by rw [sa_s, up_s, a3]; omega, by omega⟩, by rw [sa_s, up_n (by omega)]; exact a4, OPS_u a5 (by rw [sa_s, up_n (by omega)]) (sa_n (by omega))⟩
    have F1 : fA bk (D + 1) M (pm_sa M 234 (pm_up (M 234) 49 (M 234 49 + 1))) := fA_j (by omega)
    refine t187 (TX_A hT F1) ok1 (by omega) (by omega) (fun M1 o1 f1 => ?_)
    have A2 := AS_4 A1 f1 o1
    rw [push_u, r202_40]
    refine c201 A2 hD (fun M2 A3 T3 F3 G3 => ?_)
    rw [push_u, r202_45]
    refine hK1 q M2 A3 T3 (fA_t F1 (fA_t (f4_A f1) F3)) ?_
    rw [G3 52 (by omega), f1.2 52 (by omega) (by omega), sa_s, up_n (by omega)]
  · have hf := FL_89 (M := M) (k := 5) (p := ((tok B N κ).2.1 : Int)) (by omega) r12
    have h8 : (pm_sa M 234 (pm_up (pm_up (M 234) 8 5) 9 ((tok B N κ).2.1 : Int))) 234 8 = 5 := hf.1
    rw [if_neg (by simp; omega), r202_9, c183o a1.1, push_u, a1.2.2.1.2.1, r202_18 (by rw [h8]; omega), h8, if_neg (by omega), r202_25]
    exact hK0 q _ hf (f4_A f4_89)
/-- the loop: an operand is wanted -/
theorem lh_o (h52 : M 234 52 = 0) (h : pm_Call d 204 [vA 234] (GF X, M, PTF v) (fun r s => pm_Run d 206 59 [vA 234, vI tb, vI 1] (pm_push r [vA 234]) s K)) : pm_Run d 206 43 [vA 234, vI tb, vI 1] [] (GF X, M, PTF v) K := by
  rw [r206_43 (by omega), if_neg (by omega), r206_47 (by omega), h52, if_neg (by simp), r206_54]; exact h
theorem lh_g (h52 : M 234 52 = 1) (h : pm_Call d 205 [vA 234] (GF X, M, PTF v) (fun r s => pm_Run d 206 69 [vA 234, vI tb, vI 1] (pm_push r []) s K)) : pm_Run d 206 43 [vA 234, vI tb, vI 1] [] (GF X, M, PTF v) K := by
  rw [r206_43 (by omega), if_neg (by omega), r206_47 (by omega), h52, if_pos (by omega), r206_65]; exact h
/-- behind an operand -/
theorem lh_59 {r : Int} (hr : r = 0 ∨ r = 1) (h8 : M 234 8 = 0) (h : pm_Run d 206 43 [vA 234, vI tb, vI 1] [] (GF X, pm_sa M 234 (pm_up (M 234) 52 r), PTF v) K) : pm_Run d 206 59 [vA 234, vI tb, vI 1] [vI r, vA 234] (GF X, M, PTF v) K := by
  rw [r206_59 hr, r206_70 (by omega), if_neg (by omega), r206_74 (by rw [sa_s, up_n (by omega)]; omega), sa_s, up_n (by omega), h8, if_neg (by simp), r206_81, r206_86]; exact h
theorem lh_59f {r : Int} (hr : r = 0 ∨ r = 1) (h : FL M e) (hK : K PU (GF X, pm_sa M 234 (pm_up (M 234) 52 r), PTF v)) : pm_Run d 206 59 [vA 234, vI tb, vI 1] [vI r, vA 234] (GF X, M, PTF v) K := by
  have h1 := h.1
  have h2 := h.2.1
  rw [r206_59 hr, r206_70 (by omega), if_neg (by omega), r206_74 (by rw [sa_s, up_n (by omega)]; omega), sa_s, up_n (by omega), if_pos (by omega), r206_85, r206_86, r206_43 (by omega), if_pos rfl, r206_90]; exact hK
theorem lh_69 (h8 : M 234 8 = 0) (h : pm_Run d 206 43 [vA 234, vI tb, vI 1] [] (GF X, M, PTF v) K) : pm_Run d 206 69 [vA 234, vI tb, vI 1] [vI 1] (GF X, M, PTF v) K := by
  rw [r206_69, r206_70 (by omega), if_neg (by omega), r206_74 (by omega), h8, if_neg (by simp), r206_81, r206_86]; exact h
theorem lh_69z (h : K PU (GF X, M, PTF v)) : pm_Run d 206 69 [vA 234, vI tb, vI 1] [vI 0] (GF X, M, PTF v) K := by
  rw [r206_69, r206_70 (by omega), if_pos rfl, r206_85, r206_86, r206_43 (by omega), if_pos rfl, r206_90]; exact h
end RFx
