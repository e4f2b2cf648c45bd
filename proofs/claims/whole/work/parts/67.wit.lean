/-! Where bidding rests; who paid. -/
section CB4
variable {d c b : Nat} {X : Nat × (Nat → Int)} {v : Nat → Int} {M M' : PH} {K : PV → PS → Prop} {n : Nat → Nat} {a μ : PH} {F : Nat → List Int}
theorem c4 (hc : isCh c) (hv : v 3 = (c : Int)) (hC : isC M c n a F) (hwC : wC n a F) (hμ : mo M 3 = μ) (hw : wM n μ) {T : Int} (hI : BI M n a F μ T) (hT : T < 800000000) (hK : ∀ M' : PH, frW c M M' → BI M' n a F μ (T + 96) → M' 74 16 = (rst n a F 12 1 μ).1 → mo M' 85 = (rst n a F 12 1 μ).2 → K PU (GF X, M', PTF v)) : pm_Call (d + 6) 4 [vA 74] (GF X, M, PTF v) K := by
  obtain ⟨ht, hws, hr⟩ := hI
  obtain ⟨hn0, hn1, hn2, -, -, hn5, -, hn00⟩ := hwC.1
  have hcc := ch60 hc
  have hcc' : c = 9 ∨ c = 35 := hc
  have hrb := rst_b (n := n) (a := a) (F := F) (k := 12) (r := 1) (μ := μ) (by omega) (by omega)
  have mono : ∀ (M' : PH) (t t' : Int), t ≤ t' → stI M' t → stI M' t' := fun M' t t' h1 h2 => ⟨⟨h2.1.1, by have := h2.1.2; omega⟩, h2.2⟩
  -- what stays
  have fin : ∀ M' : PH, frW c M M' → M' 84 = M 84 → (∀ j, j ≠ 9 → j ≠ 10 → j ≠ 16 → M' 74 j = M 74 j) → stI M' (T + 96) → M' 74 16 = (rst n a F 12 1 μ).1 → mo M' 85 = (rst n a F 12 1 μ).2 → K PU (GF X, M', PTF v) := by
    intro M' f1 f2 f3 f4 f5 f6
    refine hK M' f1 ⟨f4, ?_, Or.inr ⟨f5, f6⟩⟩ f5 f6
    obtain ⟨w1, w2⟩ := hws
    unfold wsI wok at *
    rw [f3 11 (by omega) (by omega) (by omega), f3 12 (by omega) (by omega) (by omega), f3 13 (by omega) (by omega) (by omega), f2]
    exact ⟨w1, w2⟩
  rw [en4]
  rcases hr with h16 | ⟨h16, h85⟩
  · rw [r4_0 (by rw [h16]; omega), h16, if_pos (by omega), r4_8, c56 mo85 mo3 (by omega), push_u, r4_19, r4_25]
    have g1 : frW c M (pm_sa (mcp M 85 3) 74 (pm_up (mcp M 85 3 74) 16 13)) := fun q z1 z2 z3 => by rw [sa_n (by omega), mcp_n (by omega)]
    have main : ∀ k r : Nat, r + k = 13 → 1 ≤ r → ∀ (M' : PH) (ν : PH), frW c M M' → M' 84 = M 84 → (∀ j, j ≠ 9 → j ≠ 10 → j ≠ 16 → M' 74 j = M 74 j) → stI M' (T + 8 * ((r : Int) - 1)) → M' 74 16 = 13 → mo M' 85 = ν → wM n ν → rst n a F 12 1 μ = rst n a F k r ν → ∀ l2 l3 : PV, pm_Run (d + 5) 4 27 [vA 74, vI (r : Int), l2, l3] [] (GF X, M', PTF v) K := by
      intro k
      induction k with
      | zero =>
        intro r hr h1r M' ν f1 f2 f3 f4 f5 f6 f7 f8 l2 l3
        rw [r4_27 (by omega), if_pos (by omega), r4_86]
        exact fin M' f1 f2 f3 (mono _ _ _ (by omega) f4) (by rw [f8]; exact f5) (by rw [f8]; exact f6)
      | succ k ih =>
        intro r hr h1r M' ν f1 f2 f3 f4 f5 f6 f7 f8 l2 l3
        rw [r4_27 (by omega), if_neg (by omega), r4_33 (by rw [f5]; omega), f5, if_neg (by omega), r4_42]
        refine loopI (n 2) (fun j (M2 : PH) => frW c M M2 ∧ M2 84 = M 84 ∧ (∀ j, j ≠ 9 → j ≠ 10 → j ≠ 16 → M2 74 j = M 74 j) ∧ stI M2 (T + 8 * ((r : Int) - 1) + j) ∧ M2 74 16 = 13 ∧ mo M2 85 = (rnd n a F ν j).1 ∧ wM n (rnd n a F ν j).1) (fun j M2 => pm_Run (d + 5) 4 46 [vA 74, vI (r : Int), vI (if (rnd n a F ν j).2 = true then 1 else 0), vI (j : Int)] [] (GF X, M2, PTF v) K) (fun j M2 hj hI ih2 => ?_) (fun M2 hI => ?_) M' ⟨f1, f2, f3, mono _ _ _ (by omega) f4, f5, f6, f7⟩
        · obtain ⟨i1, i2, i3, i4, i5, i6, i7⟩ := hI
          have hC2 := frW_C hc i1 hC
          rw [r4_46 hc hv (by omega) (by rw [hC2.1 2 (by omega)]; omega), hC2.1 2 (by omega), if_neg (by omega), r4_57]
          refine c5 hc hv hC2 hwC i6 i7 i4 (by omega) hj (fun M3 g1 g2 g3 g4 g5 => ?_)
          rw [push_i, r4_63, or01]
          exact ih2 M3 ⟨frW_t i1 g1, g2.trans i2, fun j z1 z2 z3 => by rw [g3 j z1 z2]; exact i3 j z1 z2 z3, mono _ _ _ (by omega) g4, by rw [g3 16 (by omega) (by omega)]; exact i5, g5, wM_tks i7 hj⟩
        · obtain ⟨i1, i2, i3, i4, i5, i6, i7⟩ := hI
          have hC2 := frW_C hc i1 hC
          rw [r4_46 hc hv (by omega) (by rw [hC2.1 2 (by omega)]; omega), hC2.1 2 (by omega), if_pos (by omega), r4_71 (by have := if01 (x := (rnd n a F ν (n 2)).2); omega)]
          by_cases q : (rnd n a F ν (n 2)).2 = true
          · rw [if_pos q, if_pos (by omega), r4_80]
            exact ih (r + 1) (by omega) (by omega) M2 _ i1 i2 i3 (mono _ _ _ (by omega) i4) i5 i6 i7 (by rw [f8, rst, if_pos q]) _ _
          · have e : rst n a F 12 1 μ = ((r : Int), (rnd n a F ν (n 2)).1) := by rw [f8, rst, if_neg q]
            rw [if_neg q, if_neg (by simp), r4_75, r4_80]
            have F1 := fin (pm_sa M2 74 (pm_up (M2 74) 16 (r : Int))) (fun q z1 z2 z3 => by rw [sa_n (by omega)]; exact i1 q z1 z2 z3) (by rw [sa_n (by omega)]; exact i2) (fun j z1 z2 z3 => by rw [sa_s, up_n z3]; exact i3 j z1 z2 z3) (by
              have := mono M2 _ (T + 96) (by omega) i4
              unfold stI at this ⊢
              rw [sa_s, up_n (by omega), sa_n (by omega)]; exact this) (by rw [sa_s, up_s, e]) (by rw [mo_n (by omega), i6, e])
            by_cases q2 : r = 12
            · rw [r4_27 (by omega), if_pos (by omega), r4_86]; exact F1
            · rw [r4_27 (by omega), if_neg (by omega), r4_33 (by rw [sa_s, up_s]; omega), sa_s, up_s, if_pos (by omega), r4_86]; exact F1
    have e74 : mcp M 85 3 74 = M 74 := mcp_n (by omega)
    refine main 12 1 (by omega) (by omega) _ μ g1 (by rw [sa_n (by omega), mcp_n (by omega)]) (fun j z1 z2 z3 => by rw [sa_s, up_n z3, e74]) ?_ (by rw [sa_s, up_s]) (by rw [mo_n (by omega), mcp_s, hμ]) hw rfl PU PU
    have := mono M T (T + 8 * (((1 : Nat) : Int) - 1)) (by omega) ht
    unfold stI at this ⊢
    rw [sa_s, up_n (by omega), e74, sa_n (by omega), mcp_n (by omega)]
    exact this
  · rw [r4_0 (by rw [h16]; omega), h16, if_neg (by omega), r4_7]
    exact fin M frW_r rfl (fun _ _ _ _ => rfl) (mono _ _ _ (by omega) ht) h16 h85
end CB4
/-- those outside a set bid nothing -/
def msk (μ : PH) (N set : Nat) : PH := pm_sa μ 4 (fun k => if k / 3 < N ∧ set.testBit (k / 3) = false then 0 else μ 4 k)
def xpl (n : Nat → Nat) (F : Nat → List Int) (μ : PH) (R : Nat) (sp sh : Nat → Int) (set : Nat) : Bool := al (fun k => decide (hts n F (msk μ (n 2) set) (sp k).toNat = sh k)) R
/-- how many of the first sets, who is in all, in some of them -/
def jd (e : Nat → Bool) (E : Nat) : Nat → Nat × Nat × Nat
  | 0 => (0, E, 0)
  | s + 1 => if e s then ((jd e E s).1 + 1, (jd e E s).2.1 &&& s, (jd e E s).2.2 ||| s) else jd e E s
theorem jd_b {e : Nat → Bool} {E : Nat} (hE : E < 256) : ∀ {s : Nat}, s ≤ 256 → (jd e E s).1 ≤ s ∧ (jd e E s).2.1 < 256 ∧ (jd e E s).2.2 < 256
  | 0, _ => ⟨by simp [jd], by simpa [jd] using hE, by simp [jd]⟩
  | s + 1, hs => by
    obtain ⟨h1, h2, h3⟩ := jd_b (e := e) hE (s := s) (by omega)
    rw [jd]
    split
    · refine ⟨by show (jd e E s).1 + 1 ≤ s + 1; omega, ?_, ?_⟩
      · show (jd e E s).2.1 &&& s < 256
        exact Nat.lt_of_le_of_lt Nat.and_le_left h2
      · show (jd e E s).2.2 ||| s < 2 ^ 8
        exact Nat.or_lt_two_pow h3 (by omega)
    · exact ⟨by omega, h2, h3⟩
def jok (M : PH) (n : Nat → Nat) (F : Nat → List Int) (μ : PH) (R : Nat) (sp sh : Nat → Int) : Prop := M 91 8 = ((jd (xpl n F μ R sp sh) (2 ^ n 2 - 1) (2 ^ n 2)).1 : Int) ∧ M 91 9 = (if (jd (xpl n F μ R sp sh) (2 ^ n 2 - 1) (2 ^ n 2)).1 = 0 then 0 else ((jd (xpl n F μ R sp sh) (2 ^ n 2 - 1) (2 ^ n 2)).2.1 : Int)) ∧ M 91 10 = ((jd (xpl n F μ R sp sh) (2 ^ n 2 - 1) (2 ^ n 2)).2.2 : Int)
def rwI (M : PH) (n : Nat → Nat) (R : Nat) (sp sh : Nat → Int) : Prop := R ≤ 20 ∧ M 91 7 = (R : Int) ∧ ∀ k, k < R → M 101 k = sp k ∧ M 102 k = sh k ∧ 0 ≤ sp k ∧ sp k < n 0 ∧ inR (sh k)
def WI (M : PH) (n : Nat → Nat) (F : Nat → List Int) (μ : PH) (R : Nat) (sp sh : Nat → Int) : Prop := rwI M n R sp sh ∧ (M 91 6 = 0 ∨ (M 91 6 = 1 ∧ jok M n F μ R sp sh))
def frX (c : Nat) (M M' : PH) : Prop := ∀ q, q ≠ c + 20 → q ≠ c + 21 → (q < 93 ∨ 100 < q) → M' q = M q
theorem mo95 : isMo 95 := by simp [isMo, MOL]
theorem ti92 : isTi 92 := by simp [isTi]
section CWI
variable {d c b : Nat} {X : Nat × (Nat → Int)} {v : Nat → Int} {M M' : PH} {K : PV → PS → Prop} {n : Nat → Nat} {a μ : PH} {F : Nat → List Int}
theorem wM_msk (hw : wM n μ) {N set : Nat} : wM n (msk μ N set) := by
  obtain ⟨h0, h1, h2, h3, h4, h5, h6, h7⟩ := hw
  have e : ∀ i, i ≠ 4 → msk μ N set i = μ i := fun i hi => by rw [msk, sa_n hi]
  refine ⟨by rw [e 0 (by omega)]; exact h0, by rw [e 1 (by omega)]; exact h1, by rw [e 2 (by omega)]; exact h2, by rw [e 3 (by omega)]; exact h3, fun k hk => ?_, by rw [e 1 (by omega), e 2 (by omega)]; exact h5, by rw [e 3 (by omega)]; exact h6, fun j l hl hj => ?_⟩
  · rw [e 5 (by omega), msk, sa_s]
    have := h4 k hk
    by_cases q : k / 3 < N ∧ set.testBit (k / 3) = false
    · rw [if_pos q]; omega
    · rw [if_neg q]; exact this
  · rw [e 5 (by omega), msk, sa_s]
    have := h7 j l hl hj
    by_cases q : (j * 3 + l) / 3 < N ∧ set.testBit ((j * 3 + l) / 3) = false
    · rw [if_pos q]; exact ⟨rfl, this.2⟩
    · rw [if_neg q]; exact this
theorem c130 (hc : isCh c) (hv : v 4 = (c : Int)) (hC : isC M c n a F) (hwC : wC n a F) (hμ : mo M 3 = μ) (hw : wM n μ) {R : Nat} {sp sh : Nat → Int} (hI : rwI M n R sp sh) {set : Nat} (hs : set < 256) (hK : ∀ M' : PH, frX c M M' → K (vI (if xpl n F μ R sp sh set = true then 1 else 0)) (GF X, M', PTF v)) : pm_Call (d + 5) 130 [vA 91, vI (set : Int)] (GF X, M, PTF v) K := by
  obtain ⟨hR, h7, hrw⟩ := hI
  obtain ⟨hn0, hn1, hn2, -, -, hn5, -, hn00⟩ := hwC.1
  have hcc := ch60 hc
  have hcc' : c = 9 ∨ c = 35 := hc
  rw [en130, r130_0, c56 mo95 mo3 (by omega), push_u, r130_11]
  have hm0 : mo (mcp M 95 3) 95 = μ := by rw [mcp_s, hμ]
  -- what is set to 0
  refine loopI (n 2) (fun j (M' : PH) => (∀ q, (q < 95 ∨ 100 < q) → M' q = M q) ∧ (∀ i k, i ≠ 4 → mo M' 95 i k = μ i k) ∧ (∀ k, k < 24 → M' 99 k = if k / 3 < j ∧ set.testBit (k / 3) = false then 0 else μ 4 k)) (fun j M' => ∀ l3 : PV, pm_Run (d + 4) 130 13 [vA 91, vI (set : Int), vI (j : Int), l3] [] (GF X, M', PTF v) K) (fun j M' hj hI ih l3 => ?_) (fun M' hI l3 => ?_) _ ⟨fun q hq => mcp_n (by omega), fun i k _ => by rw [hm0], fun k hk => by rw [if_neg (by omega), ← hm0]; exact mo_4 (b := 95) hk⟩ PU
  · obtain ⟨i1, i2, i3⟩ := hI
    have hC' : isC M' c n a F := isC_fr (fun i hi => i1 _ (by omega)) hC
    rw [r130_13 hc hv (by omega) (by rw [hC'.1 2 (by omega)]; omega), hC'.1 2 (by omega), if_neg (by omega), r130_24]
    have hbit := bi_bit (a := set) (k := j) (by omega) (by omega)
    by_cases q : set.testBit j = true
    · -- nothing changes
      have : pm_Run (d + 4) 130 65 [vA 91, vI (set : Int), vI (j : Int), vI 0] [] (GF X, M', PTF v) K := by
        rw [r130_65]
        refine ih M' ⟨i1, i2, fun k hk => ?_⟩ _
        rw [i3 k hk]
        by_cases z : k / 3 = j
        · rw [if_neg (by omega), if_neg (by rw [z, q]; simp)]
        · by_cases z2 : k / 3 < j ∧ set.testBit (k / 3) = false
          · rw [if_pos z2, if_pos ⟨by omega, z2.2⟩]
          · rw [if_neg z2, if_neg (fun z3 => z2 ⟨by omega, z3.2⟩)]
      rw [r130_26 hc hv (by omega) (by rw [hC'.1 1 (by omega)]; omega), hC'.1 1 (by omega)]
      by_cases z : (n 1 : Int) ≤ 0
      · rw [if_pos z]; exact this
      · rw [if_neg z, r130_37 bi_and, hbit, if_pos q, if_pos (by omega)]; exact this
    · have q' : set.testBit j = false := by simpa using q
      refine loopI (n 1) (fun i (M2 : PH) => (∀ q, (q < 95 ∨ 100 < q) → M2 q = M q) ∧ (∀ i k, i ≠ 4 → mo M2 95 i k = μ i k) ∧ (∀ k, k < 24 → M2 99 k = if (k / 3 < j ∧ set.testBit (k / 3) = false) ∨ (k / 3 = j ∧ k % 3 < i) then 0 else μ 4 k)) (fun i M2 => pm_Run (d + 4) 130 26 [vA 91, vI (set : Int), vI (j : Int), vI (i : Int)] [] (GF X, M2, PTF v) K) (fun i M2 hi hI2 ih2 => ?_) (fun M2 hI2 => ?_) M' ⟨i1, i2, fun k hk => ?_⟩
      · obtain ⟨k1, k2, k3⟩ := hI2
        have hC2 : isC M2 c n a F := isC_fr (fun i hi => k1 _ (by omega)) hC
        rw [r130_26 hc hv (by omega) (by rw [hC2.1 1 (by omega)]; omega), hC2.1 1 (by omega), if_neg (by omega), r130_37 bi_and, hbit, if_neg q, if_neg (by simp), r130_45, c55, push_i, r130_57 (by omega) (by omega), r130_59, show ((j : Int) * 3 + (i : Int)).toNat = j * 3 + i by omega]
        refine ih2 _ ⟨fun q hq => by rw [sa_n (by omega)]; exact k1 q hq, fun i' k' hi' => ?_, fun k hk => ?_⟩
        · rw [← k2 i' k' hi']
          by_cases z : k' < len i'
          · rw [mo, mo, if_pos z, if_pos z, sa_n (by omega)]
          · rw [mo, mo, if_neg z, if_neg z]
        · rw [sa_s]
          by_cases z : k = j * 3 + i
          · rw [up_e z, if_pos (by omega)]
          · rw [up_n z, k3 k hk]
            by_cases z2 : (k / 3 < j ∧ set.testBit (k / 3) = false) ∨ (k / 3 = j ∧ k % 3 < i)
            · rw [if_pos z2, if_pos (by rcases z2 with h | h; exact Or.inl h; exact Or.inr ⟨h.1, by omega⟩)]
            · rw [if_neg z2, if_neg (fun z3 => z2 (by rcases z3 with h | h; exact Or.inl h; exact Or.inr ⟨h.1, by omega⟩))]
      · obtain ⟨k1, k2, k3⟩ := hI2
        have hC2 : isC M2 c n a F := isC_fr (fun i hi => k1 _ (by omega)) hC
        rw [r130_26 hc hv (by omega) (by rw [hC2.1 1 (by omega)]; omega), hC2.1 1 (by omega), if_pos (by omega), r130_65]
        refine ih M2 ⟨k1, k2, fun k hk => ?_⟩ _
        rw [k3 k hk]
        by_cases z : k / 3 = j
        · rw [if_pos (show k / 3 < j + 1 ∧ set.testBit (k / 3) = false from ⟨by omega, by rw [z]; exact q'⟩)]
          by_cases z2 : k % 3 < n 1
          · rw [if_pos (Or.inr ⟨z, z2⟩)]
          · rw [if_neg (by omega)]
            have := (hw.2.2.2.2.2.2.2 (k / 3) (k % 3) (by omega) (Or.inr (by omega))).1
            rw [show k / 3 * 3 + k % 3 = k by omega] at this
            exact this
        · by_cases z2 : k / 3 < j ∧ set.testBit (k / 3) = false
          · rw [if_pos (Or.inl z2), if_pos ⟨by omega, z2.2⟩]
          · rw [if_neg (fun z3 => by rcases z3 with h | h; exact z2 h; exact z h.1), if_neg (fun z3 => z2 ⟨by omega, z3.2⟩)]
      · rw [i3 k hk]
        by_cases z2 : k / 3 < j ∧ set.testBit (k / 3) = false
        · rw [if_pos z2, if_pos (Or.inl z2)]
        · rw [if_neg z2, if_neg (fun z3 => by rcases z3 with h | h; exact z2 h; omega)]
  · obtain ⟨i1, i2, i3⟩ := hI
    have hC' : isC M' c n a F := isC_fr (fun i hi => i1 _ (by omega)) hC
    have em : mo M' 95 = msk μ (n 2) set := by
      funext i k
      by_cases z : i = 4
      · subst z
        rw [msk, sa_s]
        by_cases hk : k < 24
        · rw [← mo_4 (M := M') (b := 95) hk]; exact i3 k hk
        · rw [mo, if_neg (show ¬ k < len 4 from hk), ← hμ, mo, if_neg (show ¬ k < len 4 from hk)]; simp
      · rw [i2 i k z, msk, sa_n z]
    rw [r130_13 hc hv (by omega) (by rw [hC'.1 2 (by omega)]; omega), hC'.1 2 (by omega), if_pos (by omega), r130_71 hc hv]
    refine c113 hc ti92 mo95 hC' hwC em (wM_msk hw) (fun M2 g1 g2 g3 => ?_)
    have f2 : ∀ q, q ≠ c + 20 → q ≠ c + 21 → (q < 93 ∨ 100 < q) → M2 q = M q := fun q z1 z2 z3 => by rw [g1 q z1 z2 (by omega) (by omega)]; exact i1 q (by omega)
    have e7 : M2 91 7 = (R : Int) := by rw [f2 91 (by omega) (by omega) (by omega)]; exact h7
    rw [push_u, r130_86]
    have main : ∀ k j, j + k = R → al (fun k => decide (hts n F (msk μ (n 2) set) (sp k).toNat = sh k)) j = true → pm_Run (d + 4) 130 88 [vA 91, vI (set : Int), vI (j : Int), l3] [] (GF X, M2, PTF v) K := by
      intro k
      induction k with
      | zero =>
        intro j hj hal
        have := hK M2 f2
        rw [show R = j by omega] at this
        rw [xpl, hal, if_pos rfl] at this
        rw [r130_88 (by omega) (by rw [e7]; omega), e7, if_pos (by omega), r130_127]
        exact this
      | succ k ih =>
        intro j hj hal
        obtain ⟨r1, r2, r3, r4, r5⟩ := hrw j (by omega)
        have e101 : M2 101 ((j : Int)).toNat = (((sp j).toNat : Nat) : Int) := by rw [Int.toNat_natCast, f2 101 (by omega) (by omega) (by omega), r1]; omega
        have e102 : M2 102 ((j : Int)).toNat = sh j := by rw [Int.toNat_natCast, f2 102 (by omega) (by omega) (by omega), r2]
        have e94 : M2 94 (sp j).toNat = hts n F (msk μ (n 2) set) (sp j).toNat := g3 _ (by omega)
        have hb := hts_b (μ := msk μ (n 2) set) (p := (sp j).toNat) hwC
        rw [r130_88 (by omega) (by rw [e7]; omega), e7, if_neg (by omega), r130_96 (by omega) (by omega) (by rw [e101]; omega) (by rw [e101]; omega) (by rw [e101, Int.toNat_natCast, e94]; omega) (by rw [e102]; exact r5), e101, e102, Int.toNat_natCast, e94]
        by_cases q : hts n F (msk μ (n 2) set) (sp j).toNat = sh j
        · rw [if_pos q, r130_121]
          exact ih (j + 1) (by omega) (by rw [al, hal]; simp [q])
        · rw [if_neg q, r130_119]
          have hf : ∀ i, al (fun k => decide (hts n F (msk μ (n 2) set) (sp k).toNat = sh k)) (j + 1 + i) = false := by
            intro i
            induction i with
            | zero => rw [Nat.add_zero, al, hal]; simp [q]
            | succ i ih3 => rw [← Nat.add_assoc, al, ih3]; rfl
          have := hK M2 f2
          rw [xpl, show R = j + 1 + k by omega, hf k, if_neg (by decide)] at this
          exact this
    exact main R 0 (by omega) rfl
theorem c129 (hc : isCh c) (hv : v 4 = (c : Int)) (hC : isC M c n a F) (hwC : wC n a F) (hμ : mo M 3 = μ) (hw : wM n μ) {R : Nat} {sp sh : Nat → Int} (hI : WI M n F μ R sp sh) (hK : ∀ M' : PH, (∀ q, q ≠ 91 → q ≠ c + 20 → q ≠ c + 21 → (q < 93 ∨ 100 < q) → M' q = M q) → WI M' n F μ R sp sh → jok M' n F μ R sp sh → K PU (GF X, M', PTF v)) : pm_Call (d + 6) 129 [vA 91] (GF X, M, PTF v) K := by
  obtain ⟨hr, hj⟩ := hI
  obtain ⟨hn0, hn1, hn2, -, -, hn5, -, hn00⟩ := hwC.1
  have hcc := ch60 hc
  have hcc' : c = 9 ∨ c = 35 := hc
  rw [en129]
  rcases hj with h6 | ⟨h6, hj⟩
  · have hp8 : 2 ^ n 2 ≤ 256 := Nat.pow_le_pow_right (n := 2) (by omega) hn2
    have hpp := Nat.two_pow_pos (n 2)
    have e2 : ∀ f, (pm_sa M 91 f) c 2 = (n 2 : Int) := fun f => by rw [sa_n (by omega)]; exact hC.1 2 (by omega)
    have s6 : pm_shl 1 (n 2 : Int) - 1 = ((2 ^ n 2 - 1 : Nat) : Int) := by rw [shl1 (by omega)]; omega
    rw [r129_0 (by rw [h6]; omega), h6, if_pos rfl, r129_8, r129_13, r129_18, r129_23 hc hv]
    simp only [sa_s, sa_sa, e2, s6]
    rw [r129_40]
    refine loopI (2 ^ n 2) (fun s (M' : PH) => (∀ q, q ≠ 91 → q ≠ c + 20 → q ≠ c + 21 → (q < 93 ∨ 100 < q) → M' q = M q) ∧ M' 91 6 = 1 ∧ M' 91 7 = (R : Int) ∧ M' 91 8 = ((jd (xpl n F μ R sp sh) (2 ^ n 2 - 1) s).1 : Int) ∧ M' 91 9 = ((jd (xpl n F μ R sp sh) (2 ^ n 2 - 1) s).2.1 : Int) ∧ M' 91 10 = ((jd (xpl n F μ R sp sh) (2 ^ n 2 - 1) s).2.2 : Int)) (fun s M' => pm_Run (d + 5) 129 42 [vA 91, vI ((2 ^ n 2 - 1 : Nat) : Int), vI (s : Int)] [] (GF X, M', PTF v) K) (fun s M' hs hI ih => ?_) (fun M' hI => ?_) _ ⟨fun q z1 z2 z3 z4 => sa_n z1, by rw [sa_s, up_n (by omega), up_n (by omega), up_n (by omega), up_s], by rw [sa_s, up_n (by omega), up_n (by omega), up_n (by omega), up_n (by omega)]; exact hr.2.1, by rw [sa_s, up_n (by omega), up_n (by omega), up_s]; rfl, by rw [sa_s, up_s]; rfl, by rw [sa_s, up_n (by omega), up_s]; rfl⟩
    · obtain ⟨i1, i6, i7, i8, i9, i10⟩ := hI
      have hb := jd_b (e := xpl n F μ R sp sh) (E := 2 ^ n 2 - 1) (by omega) (s := s) (by omega)
      have hC' : isC M' c n a F := isC_fr (fun i hi => i1 _ (by omega) (by omega) (by omega) (by omega)) hC
      have em : mo M' 3 = μ := (mo_fr (fun i hi => i1 _ (by omega) (by omega) (by omega) (by omega))).trans hμ
      have hrw' : rwI M' n R sp sh := ⟨hr.1, i7, fun k hk => by rw [i1 101 (by omega) (by omega) (by omega) (by omega), i1 102 (by omega) (by omega) (by omega) (by omega)]; exact hr.2.2 k hk⟩
      rw [r129_42 (by omega) (by omega), if_neg (by omega), r129_47]
      refine c130 hc hv hC' hwC em hw hrw' (by omega) (fun M2 g1 => ?_)
      have m91 : M2 91 = M' 91 := g1 91 (by omega) (by omega) (by omega)
      have f1 : ∀ q, q ≠ 91 → q ≠ c + 20 → q ≠ c + 21 → (q < 93 ∨ 100 < q) → M2 q = M q := fun q z1 z2 z3 z4 => by rw [g1 q z2 z3 z4]; exact i1 q z1 z2 z3 z4
      rw [push_i, r129_52 (by have := if01 (x := xpl n F μ R sp sh s); omega)]
      by_cases q : xpl n F μ R sp sh s = true
      · rw [if_pos q, if_neg (by omega), r129_55, r129_65, r129_75, r129_85]
        simp only [sa_s, sa_sa]
        have ej : jd (xpl n F μ R sp sh) (2 ^ n 2 - 1) (s + 1) = ((jd (xpl n F μ R sp sh) (2 ^ n 2 - 1) s).1 + 1, (jd (xpl n F μ R sp sh) (2 ^ n 2 - 1) s).2.1 &&& s, (jd (xpl n F μ R sp sh) (2 ^ n 2 - 1) s).2.2 ||| s) := by rw [jd, if_pos q]
        refine ih _ ⟨fun q z1 z2 z3 z4 => by rw [sa_n z1]; exact f1 q z1 z2 z3 z4, by rw [sa_s, up_n (by omega), up_n (by omega), up_n (by omega), m91]; exact i6, by rw [sa_s, up_n (by omega), up_n (by omega), up_n (by omega), m91]; exact i7, ?_, ?_, ?_⟩
        · rw [sa_s, up_n (by omega), up_n (by omega), up_s, m91, i8, ej]; show _ = (((jd (xpl n F μ R sp sh) (2 ^ n 2 - 1) s).1 + 1 : Nat) : Int); omega
        · rw [sa_s, up_n (by omega), up_s, up_n (by omega), m91, i9, ej]; exact pm_andN (by omega) (by omega)
        · rw [sa_s, up_s, up_n (by omega), up_n (by omega), m91, i10, ej]; exact pm_orN (by omega) (by omega)
      · rw [if_neg q, if_pos rfl, r129_85]
        have ej : jd (xpl n F μ R sp sh) (2 ^ n 2 - 1) (s + 1) = jd (xpl n F μ R sp sh) (2 ^ n 2 - 1) s := by rw [jd, if_neg q]
        exact ih M2 ⟨f1, by rw [m91]; exact i6, by rw [m91]; exact i7, by rw [m91, ej]; exact i8, by rw [m91, ej]; exact i9, by rw [m91, ej]; exact i10⟩
    · obtain ⟨i1, i6, i7, i8, i9, i10⟩ := hI
      have hb := jd_b (e := xpl n F μ R sp sh) (E := 2 ^ n 2 - 1) (by omega) (s := 2 ^ n 2) (by omega)
      have hrw' : ∀ M' : PH, M' 91 7 = (R : Int) → M' 101 = M 101 → M' 102 = M 102 → rwI M' n R sp sh := fun M' z1 z2 z3 => ⟨hr.1, z1, fun k hk => by rw [z2, z3]; exact hr.2.2 k hk⟩
      rw [r129_42 (by omega) (by omega), if_pos (by omega), r129_91 (by rw [i8]; omega), i8]
      by_cases q : (jd (xpl n F μ R sp sh) (2 ^ n 2 - 1) (2 ^ n 2)).1 = 0
      · rw [if_neg (by omega), r129_98, r129_103]
        have hok : jok (pm_sa M' 91 (pm_up (M' 91) 9 0)) n F μ R sp sh := ⟨by rw [sa_s, up_n (by omega)]; exact i8, by rw [sa_s, up_s, if_pos q], by rw [sa_s, up_n (by omega)]; exact i10⟩
        exact hK _ (fun q z1 z2 z3 z4 => by rw [sa_n z1]; exact i1 q z1 z2 z3 z4) ⟨hrw' _ (by rw [sa_s, up_n (by omega)]; exact i7) (by rw [sa_n (by omega)]; exact i1 101 (by omega) (by omega) (by omega) (by omega)) (by rw [sa_n (by omega)]; exact i1 102 (by omega) (by omega) (by omega) (by omega)), Or.inr ⟨by rw [sa_s, up_n (by omega)]; exact i6, hok⟩⟩ hok
      · rw [if_pos (by omega), r129_103]
        have hok : jok M' n F μ R sp sh := ⟨i8, by rw [i9, if_neg q], i10⟩
        exact hK _ i1 ⟨hrw' _ i7 (i1 101 (by omega) (by omega) (by omega) (by omega)) (i1 102 (by omega) (by omega) (by omega) (by omega)), Or.inr ⟨i6, hok⟩⟩ hok
  · rw [r129_0 (by rw [h6]; omega), h6, if_neg (by omega), r129_7]
    exact hK M (fun _ _ _ _ _ => rfl) ⟨hr, Or.inr ⟨h6, hj⟩⟩ hj
end CWI
