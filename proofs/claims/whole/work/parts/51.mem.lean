/-! Memory words; the Moment's methods. -/
theorem push_i {x : Int} {l : List PV} : pm_push (vI x) l = vI x :: l := rfl
theorem push_l {x : Int} {l : List PV} : pm_push (vL x) l = vL x :: l := rfl
theorem push_a {n : Nat} {l : List PV} : pm_push (vA n) l = vA n :: l := rfl
theorem push_u {l : List PV} : pm_push PU l = l := rfl
theorem sa_s {M : PH} {a : Nat} {f : Nat → Int} : pm_sa M a f a = f := by simp [pm_sa]
theorem sa_n {M : PH} {a b : Nat} {f : Nat → Int} (h : b ≠ a) : pm_sa M a f b = M b := by simp [pm_sa, h]
theorem sa_sa {M : PH} {a : Nat} {f g : Nat → Int} : pm_sa (pm_sa M a f) a g = pm_sa M a g := by
  funext b
  by_cases h : b = a
  · subst h; rw [sa_s, sa_s]
  · rw [sa_n h, sa_n h, sa_n h]
theorem sa_id {M : PH} {a : Nat} {f : Nat → Int} (h : f = M a) : pm_sa M a f = M := by
  funext b
  by_cases e : b = a
  · subst e; rw [sa_s, h]
  · rw [sa_n e]
theorem up_s {f : Nat → Int} {k : Nat} {x : Int} : pm_up f k x k = x := by simp [pm_up]
theorem up_n {f : Nat → Int} {k j : Nat} {x : Int} (h : j ≠ k) : pm_up f k x j = f j := by simp [pm_up, h]
theorem up_e {f : Nat → Int} {k j : Nat} {x : Int} (h : j = k) : pm_up f k x j = x := by simp [pm_up, h]
/-- the first n are x -/
def fl (f : Nat → Int) (n : Nat) (x : Int) : Nat → Int := fun k => if k < n then x else f k
theorem fl_0 {f : Nat → Int} {x : Int} : fl f 0 x = f := by funext k; simp [fl]
theorem fl_s {f : Nat → Int} {n : Nat} {x : Int} : pm_up (fl f n x) n x = fl f (n + 1) x := by
  funext k
  by_cases h : k = n
  · subst h; simp [pm_up, fl]
  · by_cases h2 : k < n
    · have h3 : k < n + 1 := by omega
      simp [pm_up, fl, h, h2, h3]
    · have h3 : ¬ k < n + 1 := by omega
      simp [pm_up, fl, h, h2, h3]
/-- the first n are g's -/
def cpn (g f : Nat → Int) (n : Nat) : Nat → Int := fun k => if k < n then g k else f k
theorem cpn_e (g f : Nat → Int) (n : Nat) : pm_cp g f 0 0 n = cpn g f n := by
  funext k
  simp [pm_cp, cpn]
/-- a loop, one after the other -/
theorem loopI {α : Type} (n : Nat) (I : Nat → α → Prop) (Q : Nat → α → Prop) (step : ∀ j s, j < n → I j s → (∀ s', I (j + 1) s' → Q (j + 1) s') → Q j s) (last : ∀ s, I n s → Q n s) : ∀ s, I 0 s → Q 0 s := by
  have key : ∀ k j, j + k = n → ∀ s, I j s → Q j s := by
    intro k
    induction k with
    | zero => intro j hj s hs; rw [Nat.add_zero] at hj; rw [hj] at hs ⊢; exact last s hs
    | succ k ih => exact fun j hj s hs => step j s (by omega) hs (fun s' h' => ih (j + 1) (by omega) s' h')
  exact key n 0 (by omega)
def len (i : Nat) : Nat := match i with
  | 0 => 1
  | 1 => 3
  | 2 => 3
  | 3 => 8
  | 4 => 24
  | 5 => 24
  | _ => 0
/-- a moment, as it lies in the cells from b -/
def mo (M : PH) (b : Nat) : PH := fun i k => if k < len i then M (b + i) k else 0
theorem mo_0 {M : PH} {b : Nat} : mo M b 0 0 = M b 0 := rfl
theorem mo_i {M : PH} {b i k : Nat} (h : k < len i) : M (b + i) k = mo M b i k := by simp [mo, h]
theorem mo_1 {M : PH} {b k : Nat} (h : k < 3) : M (b + 1) k = mo M b 1 k := mo_i h
theorem mo_2 {M : PH} {b k : Nat} (h : k < 3) : M (b + 2) k = mo M b 2 k := mo_i h
theorem mo_3 {M : PH} {b k : Nat} (h : k < 8) : M (b + 3) k = mo M b 3 k := mo_i h
theorem mo_4 {M : PH} {b k : Nat} (h : k < 24) : M (b + 4) k = mo M b 4 k := mo_i h
theorem mo_5 {M : PH} {b k : Nat} (h : k < 24) : M (b + 5) k = mo M b 5 k := mo_i h
theorem len_0 {i k : Nat} (h : k < len i) : i < 6 := by
  match i, h with
  | 0, _ => omega
  | 1, _ => omega
  | 2, _ => omega
  | 3, _ => omega
  | 4, _ => omega
  | 5, _ => omega
  | n + 6, h => exact absurd h (Nat.not_lt_zero k)
theorem mo_fr {M M' : PH} {b : Nat} (h : ∀ i, i < 6 → M' (b + i) = M (b + i)) : mo M' b = mo M b := by
  funext i k
  by_cases hk : k < len i
  · simp only [mo, hk, if_true]; rw [h i (len_0 hk)]
  · simp only [mo, hk, if_false]
/-- one number of a moment changed -/
def ups (μ : PH) (i k : Nat) (x : Int) : PH := pm_sa μ i (pm_up (μ i) k x)
theorem mo_up {M : PH} {b i k : Nat} {x : Int} (h : k < len i) : mo (pm_sa M (b + i) (pm_up (M (b + i)) k x)) b = ups (mo M b) i k x := by
  funext j l
  by_cases hj : j = i
  · subst hj
    by_cases hl : l = k
    · subst hl
      simp [mo, ups, pm_sa, pm_up, h]
    · simp [mo, ups, pm_sa, pm_up, hl]
  · have hj' : b + j ≠ b + i := by omega
    simp [mo, ups, pm_sa, hj]
theorem mo_n {M : PH} {b a : Nat} {f : Nat → Int} (h : a < b ∨ b + 5 < a) : mo (pm_sa M a f) b = mo M b := mo_fr (fun i hi => sa_n (by omega))
/-- the moment from b2 copied to b -/
def mcp (M : PH) (b b2 : Nat) : PH := fun a k => if b ≤ a ∧ a ≤ b + 5 ∧ k < len (a - b) then M (b2 + (a - b)) k else M a k
theorem mcp_n {M : PH} {b b2 a : Nat} (h : a < b ∨ b + 5 < a) : mcp M b b2 a = M a := by
  funext k
  have h' : ¬ (b ≤ a ∧ a ≤ b + 5 ∧ k < len (a - b)) := by omega
  simp only [mcp, if_neg h']
theorem mcp_s {M : PH} {b b2 : Nat} : mo (mcp M b b2) b = mo M b2 := by
  funext i k
  by_cases hk : k < len i
  · have := len_0 hk
    have h' : b ≤ b + i ∧ b + i ≤ b + 5 ∧ k < len (b + i - b) := ⟨by omega, by omega, by rw [Nat.add_sub_cancel_left]; exact hk⟩
    simp only [mo, hk, if_true, mcp]
    rw [if_pos h', Nat.add_sub_cancel_left]
  · simp only [mo, hk, if_false]
set_option maxRecDepth 10000 in
theorem mo_apart : ∀ b ∈ MOL, ∀ b2 ∈ MOL, b = b2 ∨ b + 5 < b2 ∨ b2 + 5 < b := by decide +kernel
/-- all numbers of a moment 0 -/
def mcl (M : PH) (b : Nat) : PH := fun a k => if b ≤ a ∧ a ≤ b + 5 ∧ k < len (a - b) then 0 else M a k
theorem mcl_n {M : PH} {b a : Nat} (h : a < b ∨ b + 5 < a) : mcl M b a = M a := by
  funext k
  have h' : ¬ (b ≤ a ∧ a ≤ b + 5 ∧ k < len (a - b)) := by omega
  simp only [mcl, if_neg h']
theorem mcl_s {M : PH} {b : Nat} : mo (mcl M b) b = fun _ _ => 0 := by
  funext i k
  by_cases hk : k < len i
  · have := len_0 hk
    have h' : b ≤ b + i ∧ b + i ≤ b + 5 ∧ k < len (b + i - b) := ⟨by omega, by omega, by rw [Nat.add_sub_cancel_left]; exact hk⟩
    simp only [mo, hk, if_true, mcl]
    rw [if_pos h']
  · simp only [mo, hk, if_false]
theorem six {b a : Nat} : a = b ∨ a = b + 1 ∨ a = b + 2 ∨ a = b + 3 ∨ a = b + 4 ∨ a = b + 5 ∨ (a < b ∨ b + 5 < a) := by omega
section CMO
variable {d b b2 r nr : Nat} {X : Nat × (Nat → Int)} {v : Nat → Int} {M : PH} {K : PV → PS → Prop}
theorem c307 {x : Int} (hr : r < 283 ∧ SHF r = (100, nr)) : pm_Call (d + 1) 307 [vA r, vI x] (GF X, M, PTF v) K ↔ K PU (GF X, pm_sa M r (fl (M r) nr x), PTF v) := by
  have hn := shf_le hr
  rw [en307, r307_0 hr]
  have key := loopN (fun j => pm_Run d 307 5 [vA r, vI x, vI (j : Int), vI (nr : Int)] [] (GF X, pm_sa M r (fl (M r) j x), PTF v) K) nr (fun j hj => by
    rw [r307_5 (nr := nr) (by omega) (by omega), if_neg (by omega), r307_10 hr (by omega) (by omega), r307_14 (nr := nr), sa_s, sa_sa, Int.toNat_natCast, fl_s]
    exact Iff.rfl)
  rw [fl_0, sa_id rfl] at key
  refine key.trans ?_
  rw [r307_5 (nr := nr) (by omega) (by omega), if_pos (by omega), r307_20 (nr := nr)]
theorem c55 {x y : Int} : pm_Call (d + 1) 55 [vI x, vI y] (GF X, M, PTF v) K ↔ K (vI (x * 3 + y)) (GF X, M, PTF v) := by
  rw [en55, r55_0]
theorem c65 (hr : r < 283 ∧ SHF r = (100, nr)) : pm_Call (d + 1) 65 [vA r] (GF X, M, PTF v) K ↔ K (vI (sm (M r) nr)) (GF X, M, PTF v) := by
  have hn := shf_le hr
  rw [en65, r65_0 (nr := nr)]
  refine (loopN (fun j => pm_Run d 65 4 [vA r, vI (sm (M r) j), vI (j : Int)] [] (GF X, M, PTF v) K) nr (fun j hj => ?_)).trans ?_
  · rw [r65_4 hr (by omega) (by omega), if_neg (by omega), r65_10 hr (by omega) (by omega), Int.toNat_natCast]
    exact Iff.rfl
  · rw [r65_4 hr (by omega) (by omega), if_pos (by omega), r65_22 (nr := nr)]
theorem c58 {m : Nat} (hb : isMo b) (hm : m < 3) : pm_Call (d + 1) 58 [vA b, vI (m : Int)] (GF X, M, PTF v) K ↔ K (vI (sm (fun h => M (b + 4) (h * 3 + m)) 8)) (GF X, M, PTF v) := by
  rw [en58, r58_0]
  refine (loopN (fun j => pm_Run d 58 4 [vA b, vI (m : Int), vI (sm (fun h => M (b + 4) (h * 3 + m)) j), vI (j : Int)] [] (GF X, M, PTF v) K) 8 (fun j hj => ?_)).trans ?_
  · rw [r58_4 (by omega), if_neg (by omega), r58_10 hb (by omega) (by omega), show ((j : Int) * 3 + (m : Int)).toNat = j * 3 + m by omega]
    exact Iff.rfl
  · rw [r58_4 (by omega), if_pos (by omega), r58_29]
theorem c59 {m : Nat} (hb : isMo b) (hm : m < 3) : pm_Call (d + 1) 59 [vA b, vI (m : Int)] (GF X, M, PTF v) K ↔ K (vI (sm (fun h => M (b + 5) (h * 3 + m)) 8)) (GF X, M, PTF v) := by
  rw [en59, r59_0]
  refine (loopN (fun j => pm_Run d 59 4 [vA b, vI (m : Int), vI (sm (fun h => M (b + 5) (h * 3 + m)) j), vI (j : Int)] [] (GF X, M, PTF v) K) 8 (fun j hj => ?_)).trans ?_
  · rw [r59_4 (by omega), if_neg (by omega), r59_10 hb (by omega) (by omega), show ((j : Int) * 3 + (m : Int)).toNat = j * 3 + m by omega]
    exact Iff.rfl
  · rw [r59_4 (by omega), if_pos (by omega), r59_29]
theorem c60 {h : Nat} (hb : isMo b) (hm : h < 8) : pm_Call (d + 1) 60 [vA b, vI (h : Int)] (GF X, M, PTF v) K ↔ K (vI (sm (fun m => M (b + 4) (h * 3 + m)) 3)) (GF X, M, PTF v) := by
  rw [en60, r60_0]
  refine (loopN (fun j => pm_Run d 60 4 [vA b, vI (h : Int), vI (sm (fun m => M (b + 4) (h * 3 + m)) j), vI (j : Int)] [] (GF X, M, PTF v) K) 3 (fun j hj => ?_)).trans ?_
  · rw [r60_4 (by omega), if_neg (by omega), r60_9 hb (by omega) (by omega), show ((h : Int) * 3 + (j : Int)).toNat = h * 3 + j by omega]
    exact Iff.rfl
  · rw [r60_4 (by omega), if_pos (by omega), r60_28]
theorem c61 {h : Nat} (hb : isMo b) (hm : h < 8) : pm_Call (d + 1) 61 [vA b, vI (h : Int)] (GF X, M, PTF v) K ↔ K (vI (sm (fun m => M (b + 5) (h * 3 + m)) 3)) (GF X, M, PTF v) := by
  rw [en61, r61_0]
  refine (loopN (fun j => pm_Run d 61 4 [vA b, vI (h : Int), vI (sm (fun m => M (b + 5) (h * 3 + m)) j), vI (j : Int)] [] (GF X, M, PTF v) K) 3 (fun j hj => ?_)).trans ?_
  · rw [r61_4 (by omega), if_neg (by omega), r61_9 hb (by omega) (by omega), show ((h : Int) * 3 + (j : Int)).toNat = h * 3 + j by omega]
    exact Iff.rfl
  · rw [r61_4 (by omega), if_pos (by omega), r61_28]
theorem c62 (hb : isMo b) : pm_Call (d + 2) 62 [vA b] (GF X, M, PTF v) K ↔ K (vI (sm (M (b + 4)) 24)) (GF X, M, PTF v) := by
  rw [en62, r62_0 hb, c65 (mos4 hb), push_i, r62_7]
theorem c63 (hb : isMo b) : pm_Call (d + 2) 63 [vA b] (GF X, M, PTF v) K ↔ K (vI (sm (M (b + 3)) 8)) (GF X, M, PTF v) := by
  rw [en63, r63_0 hb, c65 (mos3 hb), push_i, r63_7]
theorem c64 (hb : isMo b) : pm_Call (d + 2) 64 [vA b] (GF X, M, PTF v) K ↔ K (vI (sm (M (b + 5)) 24)) (GF X, M, PTF v) := by
  rw [en64, r64_0 hb, c65 (mos5 hb), push_i, r64_7]
theorem c57 (hb : isMo b) : pm_Call (d + 2) 57 [vA b] (GF X, M, PTF v) K ↔ K PU (GF X, mcl M b, PTF v) := by
  rw [en57, r57_0 hb, r57_5 hb, c307 (mos1 hb), push_u, r57_13 hb, c307 (mos2 hb), push_u, r57_21 hb, c307 (mos3 hb), push_u, r57_29 hb, c307 (mos4 hb), push_u, r57_37 hb, c307 (mos5 hb), push_u, r57_45]
  refine iff_of_eq (congrArg (fun Z => K PU (GF X, Z, PTF v)) ?_)
  funext a k
  rcases six (b := b) (a := a) with h | h | h | h | h | h | h
  case inr.inr.inr.inr.inr.inr => rw [mcl_n h]; simp (disch := first | assumption | omega) only [sa_n]
  all_goals subst h
  all_goals simp (disch := first | assumption | omega) only [sa_s, sa_n]
  all_goals simp [mcl, fl, len, pm_up, Nat.add_sub_cancel_left, Nat.lt_one_iff]
theorem c56 (hb : isMo b) (hb2 : isMo b2) (hn : b ≠ b2) : pm_Call (d + 1) 56 [vA b, vA b2] (GF X, M, PTF v) K ↔ K PU (GF X, mcp M b b2, PTF v) := by
  have ha := mo_apart b hb b2 hb2
  rw [en56, r56_0 hb hb2, r56_8 hb hb2 (by omega), r56_26 hb hb2 (by omega), r56_44 hb hb2 (by omega), r56_62 hb hb2 (by omega), r56_80 hb hb2 (by omega)]
  refine iff_of_eq (congrArg (fun Z => K PU (GF X, Z, PTF v)) ?_)
  funext a k
  rcases six (b := b) (a := a) with h | h | h | h | h | h | h
  case inr.inr.inr.inr.inr.inr => rw [mcp_n h]; simp (disch := first | assumption | omega) only [sa_n]
  all_goals subst h
  all_goals simp (disch := first | assumption | omega) only [sa_s, sa_n]
  all_goals simp [mcp, pm_cp, len, pm_up, Nat.add_sub_cancel_left, Nat.lt_one_iff]
  by_cases hk : k = 0 <;> simp [hk]
end CMO
