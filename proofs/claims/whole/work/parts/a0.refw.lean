/-! The reference's reader of formulas: codes, operators, frames. -/
def rk (c : Int) : Int := if c = 20023 then 1 else if c = 20024 then 2 else if c = 20025 then 3 else if c = 20060 ∨ c = 20062 ∨ c = 20061 then 4 else if c = 20043 ∨ c = 20045 then 5 else 6
def isOp (c : Int) : Prop := c = 20023 ∨ c = 20024 ∨ c = 20025 ∨ c = 20060 ∨ c = 20062 ∨ c = 20061 ∨ c = 20043 ∨ c = 20045 ∨ c = 20042 ∨ c = 20047 ∨ c = 20037
def fA (bk D : Nat) (M M' : PH) : Prop := (∀ q, q ≠ 234 → q ≠ 259 → q ≠ 260 → q < 263 ∨ 268 < q → M' q = M q) ∧ (∀ j, j < 3 ∨ 9 < j → j ≠ 12 → j ≠ 41 → j ≠ 48 → j ≠ 49 → j ≠ 51 → j ≠ 52 → M' 234 j = M 234 j) ∧ (∀ k, k < 1600 * bk ∨ 1600 * bk + 1600 ≤ k → M' 259 k = M 259 k ∧ M' 260 k = M 260 k) ∧ ∀ k, k < D → M' 263 k = M 263 k ∧ M' 264 k = M 264 k ∧ M' 265 k = M 265 k ∧ M' 266 k = M 266 k ∧ M' 267 k = M 267 k
/-- the frame D: kind, phase, whether it begins, base -/
def TF (M : PH) (D : Nat) (kn ph bg : Int) (bs : Nat) : Prop := M 263 D = kn ∧ M 264 D = ph ∧ M 265 D = bg ∧ M 267 D = (bs : Int)
def OPS (M : PH) (S : List Int) : Prop := M 234 51 = (S.length : Int) ∧ S.length < 450 ∧ ∀ i (h : i < S.length), M 268 i = sor S[i] ∧ isOp S[i]
def AS (M : PH) (bk : Nat) (B : Nat → Int) (N : Nat) (κ : KP) (op : Nat) (l S : List Int) (D : Nat) : Prop := OK M B N κ ∧ CDR M bk l ∧ (M 234 49 = (op : Int) ∧ op ≤ 7) ∧ (M 234 48 = ((D + 1 : Nat) : Int) ∧ D < 19) ∧ OPS M S
def nn (Q : List Int) : Nat := Q.countP (fun c => decide (c = 20025))
theorem sor_o {c : Int} (h : isOp c) : inR (sor c) ∧ (sor c = 22 ↔ c = 20025) ∧ ¬ c < 10000 := by
  rcases h with rfl | rfl | rfl | rfl | rfl | rfl | rfl | rfl | rfl | rfl | rfl <;> decide +kernel
section RFw
variable {d b w bk D : Nat} {X : Nat × (Nat → Int)} {v : Nat → Int} {M M' M2 : PH} {K : PV → PS → Prop} {B : Nat → Int} {N : Nat} {κ : KP} {e : Int × Int} {o op : Nat} {l S : List Int} {s : ST} {kn ph bg : Int} {bs : Nat}
theorem fA_r : fA bk D M M := ⟨fun _ _ _ _ _ => rfl, fun _ _ _ _ _ _ _ _ => rfl, fun _ _ => ⟨rfl, rfl⟩, fun _ _ => ⟨rfl, rfl, rfl, rfl, rfl⟩⟩
theorem fA_t (h : fA bk D M M') (h2 : fA bk D M' M2) : fA bk D M M2 := by
  refine ⟨fun q z1 z2 z3 z4 => (h2.1 q z1 z2 z3 z4).trans (h.1 q z1 z2 z3 z4), fun j z1 z2 z3 z4 z5 z6 z7 => (h2.2.1 j z1 z2 z3 z4 z5 z6 z7).trans (h.2.1 j z1 z2 z3 z4 z5 z6 z7), fun k z => ⟨(h2.2.2.1 k z).1.trans (h.2.2.1 k z).1, (h2.2.2.1 k z).2.trans (h.2.2.1 k z).2⟩, fun k z => ?_⟩
  obtain ⟨a1, a2, a3, a4, a5⟩ := h.2.2.2 k z
  obtain ⟨b1, b2, b3, b4, b5⟩ := h2.2.2.2 k z
  exact ⟨b1.trans a1, b2.trans a2, b3.trans a3, b4.trans a4, b5.trans a5⟩
theorem fA_d {D' : Nat} (h : fA bk D M M') (hd : D' ≤ D) : fA bk D' M M' := ⟨h.1, h.2.1, h.2.2.1, fun k z => h.2.2.2 k (by omega)⟩
theorem f4_A (h : f4 M M') : fA bk D M M' := by
  refine ⟨fun q z1 _ _ _ => h.1 q z1, fun j z1 z2 _ _ _ _ _ => h.2 j z1 z2, fun k _ => ?_, fun k _ => ?_⟩
  · rw [h.1 259 (by omega), h.1 260 (by omega)]; exact ⟨rfl, rfl⟩
  · rw [h.1 263 (by omega), h.1 264 (by omega), h.1 265 (by omega), h.1 266 (by omega), h.1 267 (by omega)]; exact ⟨rfl, rfl, rfl, rfl, rfl⟩
theorem TX_A (hT : TX M B N) (h : fA bk D M M') : TX M' B N := ⟨hT.1, hT.2.1, fun k hk => by rw [h.1 235 (by omega) (by omega) (by omega) (by omega)]; exact hT.2.2 k hk⟩
theorem TKR_c {g g' : Nat → Int} (h : TKR g B N κ) (e : ∀ j, (2 ≤ j ∧ j ≤ 7) ∨ j = 12 → g' j = g j) : TKR g' B N κ := by
  unfold TKR at *
  rw [e 2 (by omega), e 3 (by omega), e 4 (by omega), e 5 (by omega), e 6 (by omega), e 7 (by omega), e 12 (by omega)]; exact h
theorem OK_u (h : OK M B N κ) (e : ∀ j, (2 ≤ j ∧ j ≤ 9) ∨ j = 12 → M' 234 j = M 234 j) : OK M' B N κ := by
  obtain ⟨h1, h2, h3, h4, h5⟩ := h
  exact ⟨(e 8 (by omega)).trans h1, (e 9 (by omega)).trans h2, TKR_c h3 (fun j z => e j (by omega)), h4, h5⟩
theorem FL_u (h : FL M e) (e1 : ∀ j, j = 8 ∨ j = 9 ∨ j = 12 → M' 234 j = M 234 j) : FL M' e := by
  unfold FL at *
  rw [e1 8 (by omega), e1 9 (by omega), e1 12 (by omega)]; exact h
theorem CDR_u (h : CDR M bk l) (e1 : M' 234 42 = M 234 42) (e2 : M' 234 41 = M 234 41) (e3 : M' 259 = M 259) (e4 : M' 260 = M 260) : CDR M' bk l := by
  unfold CDR cdR at *
  rw [e1, e2, e3, e4]; exact h
theorem OPS_u (h : OPS M S) (e1 : M' 234 51 = M 234 51) (e2 : M' 268 = M 268) : OPS M' S := by
  unfold OPS at *
  rw [e1, e2]; exact h
theorem TF_u (h : TF M D kn ph bg bs) (e1 : M' 263 D = M 263 D) (e2 : M' 264 D = M 264 D) (e3 : M' 265 D = M 265 D) (e4 : M' 267 D = M 267 D) : TF M' D kn ph bg bs := by
  unfold TF at *
  rw [e1, e2, e3, e4]; exact h
theorem TF_A {D' : Nat} (h : TF M D kn ph bg bs) (hf : fA bk D' M M') (hd : D < D') : TF M' D kn ph bg bs := by
  obtain ⟨a1, a2, a3, a4, a5⟩ := hf.2.2.2 D hd
  exact TF_u h a1 a2 a3 a5
theorem c197 (hC : CDR M bk l) (hl : l.length < 1600) {c y : Int} (hy : c < 10000 → y = c) (hK : ∀ M', CDR M' bk (l ++ [c]) → (∀ q, q ≠ 234 → q ≠ 259 → q ≠ 260 → M' q = M q) → (∀ j, j ≠ 41 → M' 234 j = M 234 j) → (∀ k, k < 1600 * bk ∨ 1600 * bk + 1600 ≤ k → M' 259 k = M 259 k ∧ M' 260 k = M 260 k) → K PU (GF X, M', PTF v)) : pm_Call (d + 1) 197 [vA 234, vI (sor c), vI y] (GF X, M, PTF v) K := by
  obtain ⟨h1, h2, h3, h4, h5⟩ := hC
  have ix : (1600 * M 234 42 + M 234 41).toNat = 1600 * bk + l.length := by omega
  rw [en197, r197_0 (by omega) (by omega), r197_19 (by rw [sa_n (by omega)]; omega) (by rw [sa_n (by omega)]; omega), r197_38]
  rw [sa_n (a := 259) (b := 234) (by omega), sa_n (a := 259) (b := 260) (by omega), ix, sa_n (a := 260) (b := 234) (by omega), sa_n (a := 259) (b := 234) (by omega)]
  refine hK _ ⟨?_, h2, ?_, by rw [List.length_append]; simp; omega, fun i hi => ?_⟩ (fun q z1 z2 z3 => by rw [sa_n z1, sa_n z3, sa_n z2]) (fun j z => by rw [sa_s, up_n z]) (fun k z => ?_)
  · rw [sa_s, up_n (by omega)]; exact h1
  · rw [sa_s, up_s, h3, List.length_append]; simp
  · rw [List.length_append] at hi
    unfold cdR
    rw [sa_n (a := 234) (b := 259) (by omega), sa_n (a := 260) (b := 259) (by omega), sa_s, sa_n (a := 234) (b := 260) (by omega), sa_s]
    by_cases q : i < l.length
    · rw [up_n (by omega), up_n (by omega), List.getElem_append_left q]; exact h5 i q
    · have : i = l.length := by simp at hi; omega
      subst this
      rw [up_s, up_s]
      simp
      exact hy
  · rw [sa_n (a := 234) (b := 259) (by omega), sa_n (a := 260) (b := 259) (by omega), sa_s, sa_n (a := 234) (b := 260) (by omega), sa_s, up_n (by omega), up_n (by omega)]; exact ⟨rfl, rfl⟩
theorem c198 {c : Int} (h : isOp c) : pm_Call (d + 1) 198 [vI (sor c)] (GF X, M, PTF v) K ↔ K (vI (rk c)) (GF X, M, PTF v) := by
  rw [en198]
  rcases h with rfl | rfl | rfl | rfl | rfl | rfl | rfl | rfl | rfl | rfl | rfl
  · rw [show sor 20023 = 21 from rfl, r198_0 (by omega), if_neg (by simp), r198_6, r198_70]; exact Iff.rfl
  · rw [show sor 20024 = 20 from rfl, r198_0 (by omega), if_pos (by omega), r198_10 (by omega), if_neg (by simp), r198_16, r198_70]; exact Iff.rfl
  · rw [show sor 20025 = 22 from rfl, r198_0 (by omega), if_pos (by omega), r198_10 (by omega), if_pos (by omega), r198_20 (by omega), if_neg (by simp), r198_26, r198_70]; exact Iff.rfl
  · rw [show sor 20060 = 17 from rfl, r198_0 (by omega), if_pos (by omega), r198_10 (by omega), if_pos (by omega), r198_20 (by omega), if_pos (by omega), r198_30 (by omega), if_pos rfl, r198_48, r198_70]; exact Iff.rfl
  · rw [show sor 20062 = 18 from rfl, r198_0 (by omega), if_pos (by omega), r198_10 (by omega), if_pos (by omega), r198_20 (by omega), if_pos (by omega), r198_30 (by omega), if_neg (by omega), r198_36 (by omega), if_pos rfl, r198_48, r198_70]; exact Iff.rfl
  · rw [show sor 20061 = 19 from rfl, r198_0 (by omega), if_pos (by omega), r198_10 (by omega), if_pos (by omega), r198_20 (by omega), if_pos (by omega), r198_30 (by omega), if_neg (by omega), r198_36 (by omega), if_neg (by omega), r198_42 (by omega), if_neg (by simp), r198_48, r198_70]; exact Iff.rfl
  · rw [show sor 20043 = 10 from rfl, r198_0 (by omega), if_pos (by omega), r198_10 (by omega), if_pos (by omega), r198_20 (by omega), if_pos (by omega), r198_30 (by omega), if_neg (by omega), r198_36 (by omega), if_neg (by omega), r198_42 (by omega), if_pos (by omega), r198_52 (by omega), if_pos rfl, r198_64, r198_70]; exact Iff.rfl
  · rw [show sor 20045 = 11 from rfl, r198_0 (by omega), if_pos (by omega), r198_10 (by omega), if_pos (by omega), r198_20 (by omega), if_pos (by omega), r198_30 (by omega), if_neg (by omega), r198_36 (by omega), if_neg (by omega), r198_42 (by omega), if_pos (by omega), r198_52 (by omega), if_neg (by omega), r198_58 (by omega), if_neg (by simp), r198_64, r198_70]; exact Iff.rfl
  · rw [show sor 20042 = 12 from rfl, r198_0 (by omega), if_pos (by omega), r198_10 (by omega), if_pos (by omega), r198_20 (by omega), if_pos (by omega), r198_30 (by omega), if_neg (by omega), r198_36 (by omega), if_neg (by omega), r198_42 (by omega), if_pos (by omega), r198_52 (by omega), if_neg (by omega), r198_58 (by omega), if_pos (by omega), r198_68, r198_70]; exact Iff.rfl
  · rw [show sor 20047 = 13 from rfl, r198_0 (by omega), if_pos (by omega), r198_10 (by omega), if_pos (by omega), r198_20 (by omega), if_pos (by omega), r198_30 (by omega), if_neg (by omega), r198_36 (by omega), if_neg (by omega), r198_42 (by omega), if_pos (by omega), r198_52 (by omega), if_neg (by omega), r198_58 (by omega), if_pos (by omega), r198_68, r198_70]; exact Iff.rfl
  · rw [show sor 20037 = 14 from rfl, r198_0 (by omega), if_pos (by omega), r198_10 (by omega), if_pos (by omega), r198_20 (by omega), if_pos (by omega), r198_30 (by omega), if_neg (by omega), r198_36 (by omega), if_neg (by omega), r198_42 (by omega), if_pos (by omega), r198_52 (by omega), if_neg (by omega), r198_58 (by omega), if_pos (by omega), r198_68, r198_70]; exact Iff.rfl
/-- what joins meets at the end: the base, or an operator of less rank -/
def top (S : List Int) (bs : Nat) (lv : Int) : Prop := bs ≤ S.length ∧ (S.length = bs ∨ ∃ h : 0 < S.length, rk (S[S.length - 1]'(by omega)) < lv)
theorem c199 {lv : Int} : ∀ (Q : List Int) {l S0 : List Int} {op : Nat} {M : PH}, AS M bk B N κ (op + nn Q) l (S0 ++ Q.reverse) D → M 267 D = (bs : Int) → top S0 bs lv → (∀ c ∈ Q, lv ≤ rk c) → l.length + Q.length ≤ 1600 → 1 ≤ lv ∧ lv ≤ 6 → (∀ M', AS M' bk B N κ op (l ++ Q) S0 D → fA bk (D + 1) M M' → M' 234 52 = M 234 52 → M' 234 12 = M 234 12 → K PU (GF X, M', PTF v)) → pm_Call (d + 2) 199 [vA 234, vI lv] (GF X, M, PTF v) K := by
  suffices h : ∀ (Q : List Int) {l S0 : List Int} {op : Nat} {M : PH}, AS M bk B N κ (op + nn Q) l (S0 ++ Q.reverse) D → M 267 D = (bs : Int) → top S0 bs lv → (∀ c ∈ Q, lv ≤ rk c) → l.length + Q.length ≤ 1600 → 1 ≤ lv ∧ lv ≤ 6 → (∀ M', AS M' bk B N κ op (l ++ Q) S0 D → fA bk (D + 1) M M' → M' 234 52 = M 234 52 → M' 234 12 = M 234 12 → K PU (GF X, M', PTF v)) → pm_Run (d + 1) 199 0 [vA 234, vI lv] [] (GF X, M, PTF v) K from
    fun Q l S0 op M h1 h2 h3 h4 h5 h6 h7 => by rw [en199]; exact h Q h1 h2 h3 h4 h5 h6 h7
  intro Q
  induction Q with
  | nil =>
    intro l S0 op M hA hb ht _ _ hlv hK
    rw [List.reverse_nil, List.append_nil] at hA
    obtain ⟨a1, a2, a3, ⟨a4, a4'⟩, ⟨a5, a6, a7⟩⟩ := id hA
    have e0 : (M 234 48 - 1).toNat = D := by omega
    obtain ⟨t1, t2⟩ := ht
    rw [r199_0 (by omega) (by omega) (by omega) (by rw [e0, hb]; omega), e0, hb, a5]
    by_cases q : S0.length = bs
    · rw [if_pos (by omega), r199_87]
      exact hK M (by rw [List.append_nil]; exact hA) fA_r rfl rfl
    · obtain ⟨h0, hr⟩ := t2.resolve_left q
      have hs := a7 (S0.length - 1) (by omega)
      have rb : -1 ≤ rk (S0[S0.length - 1]'(by omega)) := by unfold rk; split <;> (try split) <;> (try split) <;> (try split) <;> (try split) <;> omega
      rw [if_neg (by omega), r199_18 (by omega) (by omega), a5, show ((S0.length : Int) - 1).toNat = S0.length - 1 by omega, hs.1, c198 hs.2, push_i, r199_32 (by omega) (by omega), if_pos hr, r199_87]
      exact hK M (by rw [List.append_nil]; exact hA) fA_r rfl rfl
  | cons c Q ih =>
    intro l S0 op M hA hb ht hr hlen hlv hK
    rw [List.reverse_cons, ← List.append_assoc] at hA
    obtain ⟨a1, a2, ⟨a3, a3'⟩, ⟨a4, a4'⟩, ⟨a5, a6, a7⟩⟩ := id hA
    have e0 : (M 234 48 - 1).toNat = D := by omega
    have hl1 : ((S0 ++ Q.reverse) ++ [c]).length = (S0 ++ Q.reverse).length + 1 := by simp <;> omega
    have hl2 : (S0 ++ Q.reverse).length = S0.length + Q.length := by simp
    have hc := a7 (S0 ++ Q.reverse).length (by omega)
    rw [List.getElem_append_right (Nat.le_refl _)] at hc
    simp only [Nat.sub_self, List.getElem_cons_zero] at hc
    have hrc := hr c List.mem_cons_self
    have hso := sor_o hc.2
    rw [List.length_cons] at hlen
    have rb : rk c ≤ 6 := by unfold rk; split <;> (try split) <;> (try split) <;> (try split) <;> (try split) <;> omega
    obtain ⟨t1, t2⟩ := id ht
    rw [r199_0 (by omega) (by omega) (by omega) (by rw [e0, hb]; omega), e0, hb, a5, if_neg (by omega), r199_18 (by omega) (by omega), a5, show ((((S0 ++ Q.reverse) ++ [c]).length : Int) - 1).toNat = (S0 ++ Q.reverse).length by omega, hc.1, c198 hc.2, push_i, r199_32 (by omega) (by omega), if_neg (by omega), r199_36, a5]
    have e51 : (pm_sa M 234 (pm_up (M 234) 51 ((((S0 ++ Q.reverse) ++ [c]).length : Int) - 1))) 234 51 = ((S0 ++ Q.reverse).length : Int) := by rw [sa_s, up_s]; omega
    rw [r199_46 (by rw [e51]; omega) (by rw [e51]; omega), e51, Int.toNat_natCast, sa_n (a := 234) (b := 268) (by omega), hc.1]
    refine c197 (c := c) (l := l) (CDR_u a2 (by rw [sa_s, up_n (by omega)]) (by rw [sa_s, up_n (by omega)]) (sa_n (by omega)) (sa_n (by omega))) (by omega) (fun z => absurd z hso.2.2) (fun M1 g1 g2 g3 g4 => ?_)
    have m51 : M1 234 51 = ((S0 ++ Q.reverse).length : Int) := by rw [g3 51 (by omega)]; exact e51
    have m268 : M1 268 = M 268 := by rw [g2 268 (by omega) (by omega) (by omega), sa_n (by omega)]
    have ms : ∀ j, j ≠ 41 → j ≠ 51 → M1 234 j = M 234 j := fun j z1 z2 => by rw [g3 j z1, sa_s, up_n z2]
    have mf : ∀ q, q ≠ 234 → q ≠ 259 → q ≠ 260 → M1 q = M q := fun q z1 z2 z3 => by rw [g2 q z1 z2 z3, sa_n z1]
    have mg : ∀ k, k < 1600 * bk ∨ 1600 * bk + 1600 ≤ k → M1 259 k = M 259 k ∧ M1 260 k = M 260 k := fun k z => by
      obtain ⟨x1, x2⟩ := g4 k z
      rw [x1, x2, sa_n (by omega), sa_n (by omega)]; exact ⟨rfl, rfl⟩
    have ops1 : OPS M1 (S0 ++ Q.reverse) := ⟨m51, by omega, fun i hi => by
      have := a7 i (by omega)
      rw [List.getElem_append_left hi] at this
      rw [m268]; exact this⟩
    have f1 : fA bk (D + 1) M M1 := ⟨fun q z1 z2 z3 _ => mf q z1 z2 z3, fun j z1 z2 z3 z4 z5 z6 z7 => ms j z3 z6, mg, fun k _ => by rw [mf 263 (by omega) (by omega) (by omega), mf 264 (by omega) (by omega) (by omega), mf 265 (by omega) (by omega) (by omega), mf 266 (by omega) (by omega) (by omega), mf 267 (by omega) (by omega) (by omega)]; exact ⟨rfl, rfl, rfl, rfl, rfl⟩⟩
    have ok1 : OK M1 B N κ := OK_u a1 (fun j z => ms j (by omega) (by omega))
    have b1 : M1 267 D = (bs : Int) := by rw [mf 267 (by omega) (by omega) (by omega)]; exact hb
    rw [push_u, r199_60 (by rw [m51]; omega) (by rw [m51]; omega) (by rw [m51, Int.toNat_natCast, m268, hc.1]; exact hso.1), m51, Int.toNat_natCast, m268, hc.1]
    have en : nn (c :: Q) = nn Q + (if c = 20025 then 1 else 0) := by unfold nn; rw [List.countP_cons]; simp
    by_cases q : c = 20025
    · rw [if_pos q] at en
      rw [if_neg (by simpa using hso.2.1.mpr q), r199_74]
      have m49 : M1 234 49 = ((op + nn (c :: Q) : Nat) : Int) := (ms 49 (by omega) (by omega)).trans a3
      refine ih (l := l ++ [c]) (S0 := S0) (op := op) ⟨OK_u ok1 (fun j z => by rw [sa_s, up_n (by omega)]), CDR_u g1 (by rw [sa_s, up_n (by omega)]) (by rw [sa_s, up_n (by omega)]) (sa_n (by omega)) (sa_n (by omega)), ⟨by rw [sa_s, up_s, m49]; omega, by omega⟩, ⟨by rw [sa_s, up_n (by omega)]; exact (ms 48 (by omega) (by omega)).trans a4, a4'⟩, OPS_u ops1 (by rw [sa_s, up_n (by omega)]) (sa_n (by omega))⟩ (by rw [sa_n (by omega)]; exact b1) ht (fun x hx => hr x (List.mem_cons_of_mem _ hx)) (by rw [List.length_append]; simp; omega) hlv (fun M2 h1 h2 h3 h4 => ?_)
      rw [List.append_assoc] at h1
      refine hK M2 h1 (fA_t f1 (fA_t ⟨fun q z1 _ _ _ => sa_n z1, fun j z1 z2 z3 z4 z5 z6 z7 => by rw [sa_s, up_n z5], fun _ _ => ⟨rfl, rfl⟩, fun _ _ => ⟨rfl, rfl, rfl, rfl, rfl⟩⟩ h2)) (h3.trans ?_) (h4.trans ?_)
      · rw [sa_s, up_n (by omega)]; exact ms 52 (by omega) (by omega)
      · rw [sa_s, up_n (by omega)]; exact ms 12 (by omega) (by omega)
    · rw [if_neg q, Nat.add_zero] at en
      rw [if_pos (fun z => q (hso.2.1.mp z))]
      refine ih (l := l ++ [c]) (S0 := S0) (op := op) ⟨ok1, g1, ⟨by rw [ms 49 (by omega) (by omega), a3, en], by omega⟩, ⟨(ms 48 (by omega) (by omega)).trans a4, a4'⟩, ops1⟩ b1 ht (fun x hx => hr x (List.mem_cons_of_mem _ hx)) (by rw [List.length_append]; simp; omega) hlv (fun M2 h1 h2 h3 h4 => ?_)
      rw [List.append_assoc] at h1
      exact hK M2 h1 (fA_t f1 h2) (h3.trans (ms 52 (by omega) (by omega))) (h4.trans (ms 12 (by omega) (by omega)))
end RFw
