section CMO
variable {d b m : Nat} {X : Nat × (Nat → Int)} {v : Nat → Int} {M : PH} {K : PV → PS → Prop}
theorem c58 (hb : isMo b) (hm : m < 3) : pm_Call (d + 1) 58 [.inr (.inr (.inl (b : Int))), .inl (m : Int)] (GF X, M, PTF v) K ↔ K (.inl (sm (fun h => M (b + 4) (3 * h + m)) 8)) (GF X, M, PTF v) := by
  obtain ⟨f0, f1, f2, f3, f4, f5, -⟩ := mo_f b hb
  obtain ⟨p1, p2, p3, p4, p5⟩ := moP (v := v) hb
  rw [en58, b58_0]
  refine (loopN (fun j => pm_Run d 58 4 [.inr (.inr (.inl (b : Int))), .inl (m : Int), .inl (sm (fun h => M (b + 4) (3 * h + m)) j), .inl (j : Int)] [] (GF X, M, PTF v) K) 8 (fun j hj => ?_)).trans ?_
  · rw [b58_4, if_neg (by rw [pm_sgN (by omega), pm_sgid (by omega) (by omega)]; omega), b58_10 (ob_i f0) (by rw [Int.toNat_natCast, p4]; exact ar_i f4 (by omega) (by omega) (by omega))]
    rw [Int.toNat_natCast, p4, Int.toNat_natCast, pm_ixN (n := 3 * j + m) (by omega) (by omega)]
    exact Iff.rfl
  · rw [b58_4, if_pos (by decide), b58_29]
end CMO
