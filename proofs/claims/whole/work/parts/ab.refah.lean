/-! The reference's reader of statements: names. -/
def wd (q : Nat) : Nat := if q = 238 ∨ q = 239 ∨ q = 240 ∨ q = 261 then 3 else if q = 242 ∨ q = 243 ∨ q = 244 ∨ q = 262 then 8 else if q = 245 then 24 else if q = 247 ∨ q = 248 ∨ q = 249 then 16 else if q = 251 ∨ q = 252 then 6 else if q = 259 ∨ q = 260 then 1600 else 1
/-- a reading touches its own half only -/
def fB (bk : Nat) (M M' : PH) : Prop := (∀ q, q ≠ 234 → q < 236 ∨ 268 < q → M' q = M q) ∧ (∀ j, j < 3 ∨ 9 < j → j ≠ 12 → j ≠ 41 → j ≠ 48 → j ≠ 49 → j ≠ 51 → j ≠ 52 → M' 234 j = M 234 j) ∧ ∀ q, 236 ≤ q → q ≤ 262 → ∀ k, k < wd q * bk ∨ wd q * bk + wd q ≤ k → M' q k = M q k
def NB (M : PH) (bk : Nat) (n : Nat → Nat) (a : PH) : Prop := (M 234 42 = (bk : Int) ∧ bk < 2) ∧ (M 237 bk = (n 1 : Int) ∧ n 1 ≤ 3) ∧ (M 241 bk = (n 2 : Int) ∧ n 2 ≤ 8) ∧ RN M bk n a
def sKl (B : Nat → Int) (N : Nat) (fit : Bool) (s : ST) : ST := if isNm B N s = true then (if fit = true then s else sG B N 3 s) else sW B N s
section RFah
variable {d b w bk D : Nat} {X : Nat × (Nat → Int)} {v : Nat → Int} {M M' M2 : PH} {K : PV → PS → Prop} {B : Nat → Int} {N : Nat} {κ : KP} {e : Int × Int} {o op : Nat} {l S S0 Q : List Int} {s : ST} {n : Nat → Nat} {a : PH}
theorem fB_r : fB bk M M := ⟨fun _ _ _ => rfl, fun _ _ _ _ _ _ _ _ => rfl, fun _ _ _ _ _ => rfl⟩
theorem fB_t (h : fB bk M M') (h2 : fB bk M' M2) : fB bk M M2 := ⟨fun q z1 z2 => (h2.1 q z1 z2).trans (h.1 q z1 z2), fun j z1 z2 z3 z4 z5 z6 z7 => (h2.2.1 j z1 z2 z3 z4 z5 z6 z7).trans (h.2.1 j z1 z2 z3 z4 z5 z6 z7), fun q z1 z2 k z3 => (h2.2.2 q z1 z2 k z3).trans (h.2.2 q z1 z2 k z3)⟩
theorem fB_A (h : fA bk D M M') : fB bk M M' := by
  refine ⟨fun q z1 z2 => h.1 q z1 (by omega) (by omega) (by omega), h.2.1, fun q z1 z2 k z3 => ?_⟩
  by_cases q1 : q = 259
  · subst q1
    have z3 : k < 1600 * bk ∨ 1600 * bk + 1600 ≤ k := z3
    exact (h.2.2.1 k z3).1
  · by_cases q2 : q = 260
    · subst q2
      have z3 : k < 1600 * bk ∨ 1600 * bk + 1600 ≤ k := z3
      exact (h.2.2.1 k z3).2
    · rw [h.1 q (by omega) q1 q2 (by omega)]
theorem fB_4 (h : f4 M M') : fB bk M M' := fB_A (f4_A (D := 0) h)
theorem fB_q {q k : Nat} {x : Int} (hq : 236 ≤ q ∧ q ≤ 262) (hk : wd q * bk ≤ k ∧ k < wd q * bk + wd q) : fB bk M (pm_sa M q (pm_up (M q) k x)) := by
  refine ⟨fun r z1 z2 => sa_n (by omega), fun j _ _ _ _ _ _ _ => by rw [sa_n (by omega)], fun r z1 z2 j z3 => ?_⟩
  by_cases e : r = q
  · subst e
    rw [sa_s, up_n (by omega)]
  · rw [sa_n e]
theorem TX_B (hT : TX M B N) (h : fB bk M M') : TX M' B N := ⟨hT.1, hT.2.1, fun k hk => by rw [h.1 235 (by omega) (by omega)]; exact hT.2.2 k hk⟩
theorem NB_4 (h : NB M bk n a) (hf : f4 M M') : NB M' bk n a := by
  unfold NB RN at *
  rw [hf.2 42 (by omega) (by omega), hf.1 237 (by omega), hf.1 241 (by omega), hf.1 261 (by omega), hf.1 262 (by omega)]; exact h
/-- room, and the word behind -/
theorem c207 (hT : TX M B N) (h : OK M B N κ) (hc : CL M) (hk : (tok B N κ).1 = 1) {f : Int} (hf : f = 0 ∨ f = 1) (hK1 : f = 0 → ∀ M', OK M' B N (adv B N κ) → f4 M M' → K (vI 1) (GF X, M', PTF v)) (hK0 : f = 1 → ∀ M', FL M' (6, ((tok B N κ).2.1 : Int)) → f4 M M' → K (vI 0) (GF X, M', PTF v)) : pm_Call (d + 3) 207 [vA 234, vI f] (GF X, M, PTF v) K := by
  have r12 : inR (M 234 12) := by have : M 234 12 = -1 := hc; omega
  have h8 := h.1
  rw [en207, r207_0 (by omega), if_neg (by omega), r207_7 (by omega)]
  rcases hf with q | q
  · rw [if_pos q, r207_21 (by omega), if_neg (by omega), r207_28]
    refine t187 hT h (by omega) (by omega) (fun M1 h1 g1 => ?_)
    have h18 := h1.1
    rw [push_u, r207_32 (by omega), if_neg (by omega), r207_39, r207_44 (by omega)]
    exact hK1 q M1 h1 g1
  · have hfl := FL_89 (M := M) (k := 6) (p := ((tok B N κ).2.1 : Int)) (by omega) r12
    have f8 : (pm_sa M 234 (pm_up (pm_up (M 234) 8 6) 9 ((tok B N κ).2.1 : Int))) 234 8 = 6 := hfl.1
    rw [if_neg (by omega), r207_11, c183o h.1, push_u, h.2.2.1.2.1, r207_21 (by rw [f8]; omega), if_pos (by rw [f8]; omega), r207_32 (by rw [f8]; omega), if_pos (by rw [f8]; omega), r207_43, r207_44 (by omega)]
    exact hK0 q _ hfl f4_89
theorem c192 (h : NB M bk n a) {k : Int} (hk : k = 0 ∨ k = 1) : pm_Call (d + 1) 192 [vA 234, vI (bk : Int), vI k] (GF X, M, PTF v) K ↔ K (vI (if k = 0 then (n 1 : Int) else (n 2 : Int))) (GF X, M, PTF v) := by
  have hb := h.1.2
  rw [en192, r192_0 (by omega)]
  rcases hk with rfl | rfl
  · rw [if_neg (by simp), r192_4 (by omega) (by omega), Int.toNat_natCast, h.2.1.1, r192_19, if_pos rfl]
  · rw [if_pos (by simp), r192_13 (by omega) (by omega), Int.toNat_natCast, h.2.2.1.1, r192_19, if_neg (by simp)]
theorem c193 (h : NB M bk n a) {k : Int} (hk : k = 0 ∨ k = 1) {i : Nat} (hi : i < if k = 0 then n 1 else n 2) : pm_Call (d + 1) 193 [vA 234, vI (bk : Int), vI k, vI (i : Int)] (GF X, M, PTF v) K ↔ K (vL (bwk (a (if k = 0 then 7 else 8) i).toNat 6 : Nat)) (GF X, M, PTF v) := by
  have hb := h.1.2
  have b1 := h.2.1.2
  have b2 := h.2.2.1.2
  rw [en193, r193_0 (by omega)]
  rcases hk with rfl | rfl
  · rw [if_pos rfl] at hi
    rw [if_neg (by simp), r193_4 (by omega) (by omega), show ((3 * (bk : Int)) + (i : Int)).toNat = 3 * bk + i by omega, (h.2.2.2.1 i hi).1, r193_28, if_pos rfl]
  · rw [if_neg (by simp)] at hi
    rw [if_pos (by simp), r193_17 (by omega) (by omega), show ((8 * (bk : Int)) + (i : Int)).toNat = 8 * bk + i by omega, (h.2.2.2.2 i hi).1, r193_28, if_neg (by simp)]
theorem l194 (h : NB M bk n a) {k : Int} (hk : k = 0 ∨ k = 1) {x : Int} (hx : nmOk x) : ∀ (r i : Nat), (i + r = if k = 0 then n 1 else n 2) → (pm_Run (d + 1) 194 3 [vA 234, vI k, vL (bwk x.toNat 6 : Nat), PU, vI (i : Int)] [] (GF X, M, PTF v) K ↔ K (vI (fi (fun j => decide (a (if k = 0 then 7 else 8) j = x)) r i)) (GF X, M, PTF v))
  | 0, i, hi => by
    have b1 := h.2.1.2
    have b2 := h.2.2.1.2
    rw [r194_3, h.1.1, c192 h hk, push_i]
    have e : (if k = 0 then (n 1 : Int) else (n 2 : Int)) = (i : Int) := by split at hi <;> rename_i z <;> simp only [z, if_true, if_false] <;> omega
    rw [e, r194_14 (by split at hi <;> omega) (by split at hi <;> omega), if_pos (by omega), r194_42]; rfl
  | r + 1, i, hi => by
    have b1 := h.2.1.2
    have b2 := h.2.2.1.2
    have lw := bw_l (x := x.toNat)
    have lw2 := bw_l (x := (a (if k = 0 then 7 else 8) i).toNat)
    have e : (if k = 0 then (n 1 : Int) else (n 2 : Int)) = ((i + (r + 1) : Nat) : Int) := by split at hi <;> rename_i z <;> simp only [z, if_true, if_false] <;> omega
    have ib : i + (r + 1) ≤ 8 := by split at hi <;> omega
    have ny : nmOk (a (if k = 0 then 7 else 8) i) := by
      rcases hk with rfl | rfl
      · exact (h.2.2.2.1 i (by simp at hi; omega)).2
      · exact (h.2.2.2.2 i (by simp at hi; omega)).2
    rw [r194_3, h.1.1, c192 h hk, push_i, e, r194_14 (by omega) (by omega), if_neg (by omega), r194_17, h.1.1, c193 h hk (by omega), push_l, r194_28 (by omega) (by omega) cm_r, fi]
    by_cases q : a (if k = 0 then 7 else 8) i = x
    · rw [if_neg (fun z => z (cm_e.mpr (by rw [q]))), if_pos (by simpa using q), r194_33]
    · rw [if_pos (fun z => q (nm_inj ny hx (by have := cm_e.mp z; exact Int.ofNat.inj this))), if_neg (by simpa using q), r194_36, show (i : Int) + 1 = ((i + 1 : Nat) : Int) by omega]
      exact l194 h hk hx r (i + 1) (by omega)
def nix (n : Nat → Nat) (a : PH) (k x : Int) : Int := if k = 0 then mn n a x else hn n a x
/-- the place of a name -/
theorem c194 (h : NB M bk n a) {k : Int} (hk : k = 0 ∨ k = 1) {x : Int} (hx : nmOk x) : pm_Call (d + 2) 194 [vA 234, vI k, vL (bwk x.toNat 6 : Nat)] (GF X, M, PTF v) K ↔ K (vI (nix n a k x)) (GF X, M, PTF v) := by
  rw [en194, r194_0]
  have e := l194 (d := d) (X := X) (v := v) (K := K) h hk hx (if k = 0 then n 1 else n 2) 0 (by omega)
  rw [show ((0 : Nat) : Int) = 0 from rfl] at e
  rw [e]
  rcases hk with rfl | rfl <;> rfl
theorem nix_b (h : NB M bk n a) {k x : Int} (hk : k = 0 ∨ k = 1) : nix n a k x = -1 ∨ (0 ≤ nix n a k x ∧ nix n a k x < if k = 0 then (n 1 : Int) else (n 2 : Int)) := by
  rcases hk with rfl | rfl
  · have := fi_b (p := fun j => decide (a 7 j = x)) (k := n 1) (i := 0)
    show fi _ _ _ = -1 ∨ (0 ≤ fi _ _ _ ∧ fi _ _ _ < _)
    rw [if_pos rfl]; omega
  · have := fi_b (p := fun j => decide (a 8 j = x)) (k := n 2) (i := 0)
    show fi _ _ _ = -1 ∨ (0 ≤ fi _ _ _ ∧ fi _ _ _ < _)
    rw [if_neg (by simp)]; omega
end RFah
