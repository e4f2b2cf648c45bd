/-! Memory words; the Moment's methods. -/
theorem sa_s {M : PH} {a : Nat} {f : Nat → Int} : pm_sa M a f a = f := by simp [pm_sa]
theorem sa_n {M : PH} {a b : Nat} {f : Nat → Int} (h : b ≠ a) : pm_sa M a f b = M b := by simp [pm_sa, h]
theorem sa_sa {M : PH} {a : Nat} {f g : Nat → Int} : pm_sa (pm_sa M a f) a g = pm_sa M a g := by
  funext b
  by_cases h : b = a
  · subst h; rw [sa_s, sa_s]
  · rw [sa_n h, sa_n h, sa_n h]
theorem sa_id {M : PH} {a : Nat} {f : Nat → Int} (h : f = M a) : pm_sa M a f = M := by
  funext b
  by_cases e : b = a
  · subst e; rw [sa_s, h]
  · rw [sa_n e]
theorem up_s {f : Nat → Int} {k : Nat} {x : Int} : pm_up f k x k = x := by simp [pm_up]
theorem up_n {f : Nat → Int} {k j : Nat} {x : Int} (h : j ≠ k) : pm_up f k x j = f j := by simp [pm_up, h]
/-- the first n are x -/
def fl (f : Nat → Int) (n : Nat) (x : Int) : Nat → Int := fun k => if k < n then x else f k
theorem fl_0 {f : Nat → Int} {x : Int} : fl f 0 x = f := by funext k; simp [fl]
theorem fl_s {f : Nat → Int} {n : Nat} {x : Int} : pm_up (fl f n x) n x = fl f (n + 1) x := by
  funext k
  by_cases h : k = n
  · subst h; simp [pm_up, fl]
  · by_cases h2 : k < n
    · have h3 : k < n + 1 := by omega
      simp [pm_up, fl, h, h2, h3]
    · have h3 : ¬ k < n + 1 := by omega
      simp [pm_up, fl, h, h2, h3]
/-- the first n are g's -/
def cp (g f : Nat → Int) (n : Nat) : Nat → Int := fun k => if k < n then g k else f k
theorem cp_e (g f : Nat → Int) (n : Nat) : pm_cp g f 0 0 n = cp g f n := by
  funext k
  simp [pm_cp, cp]
section CMO
variable {d b b2 r nr : Nat} {X : Nat × (Nat → Int)} {v : Nat → Int} {M : PH} {K : PV → PS → Prop}
theorem c307 {x : Int} (hr : r < 283 ∧ SHF r = (100, nr)) : pm_Call (d + 1) 307 [vA r, vI x] (GF X, M, PTF v) K ↔ K PU (GF X, pm_sa M r (fl (M r) nr x), PTF v) := by
  have hn := shf_le hr
  rw [en307, r307_0 hr]
  have key := loopN (fun j => pm_Run d 307 5 [vA r, vI x, vI (j : Int), vI (nr : Int)] [] (GF X, pm_sa M r (fl (M r) j x), PTF v) K) nr (fun j hj => by
    rw [r307_5 (by omega) (by omega), if_neg (by omega), r307_10 hr (by omega) (by omega), sa_s, sa_sa, Int.toNat_natCast, fl_s]
    exact Iff.rfl)
  rw [fl_0, sa_id rfl] at key
  refine key.trans ?_
  rw [r307_5 (by omega) (by omega), if_pos (by omega), r307_20]
theorem c55 {x y : Int} : pm_Call (d + 1) 55 [vI x, vI y] (GF X, M, PTF v) K ↔ K (vI (x * 3 + y)) (GF X, M, PTF v) := by
  rw [en55, r55_0]
theorem c65 (hr : r < 283 ∧ SHF r = (100, nr)) : pm_Call (d + 1) 65 [vA r] (GF X, M, PTF v) K ↔ K (vI (sm (M r) nr)) (GF X, M, PTF v) := by
  have hn := shf_le hr
  rw [en65, r65_0]
  refine (loopN (fun j => pm_Run d 65 4 [vA r, vI (sm (M r) j), vI (j : Int)] [] (GF X, M, PTF v) K) nr (fun j hj => ?_)).trans ?_
  · rw [r65_4 hr (by omega) (by omega), if_neg (by omega), r65_10 hr (by omega) (by omega), Int.toNat_natCast]
    exact Iff.rfl
  · rw [r65_4 hr (by omega) (by omega), if_pos (by omega), r65_22]
theorem c58 {m : Nat} (hb : isMo b) (hm : m < 3) : pm_Call (d + 1) 58 [vA b, vI (m : Int)] (GF X, M, PTF v) K ↔ K (vI (sm (fun h => M (b + 4) (h * 3 + m)) 8)) (GF X, M, PTF v) := by
  rw [en58, r58_0]
  refine (loopN (fun j => pm_Run d 58 4 [vA b, vI (m : Int), vI (sm (fun h => M (b + 4) (h * 3 + m)) j), vI (j : Int)] [] (GF X, M, PTF v) K) 8 (fun j hj => ?_)).trans ?_
  · rw [r58_4 (by omega), if_neg (by omega), r58_10 hb (by omega) (by omega), show ((j : Int) * 3 + (m : Int)).toNat = j * 3 + m by omega]
    exact Iff.rfl
  · rw [r58_4 (by omega), if_pos (by omega), r58_29]
end CMO
