/-! The law: the calls of both sides, one after the other. -/
section LAW1
variable {d : Nat} {X : Nat × (Nat → Int)} {v : Nat → Int} {M : PH} {K : PV → PS → Prop} {T : Int} {i : Int}
theorem pm_sg_i {x : Int} (h : inR x) : pm_sg x = x := pm_sgid h.1 h.2
theorem and31 {x : Int} : pm_and x 31 = x % 32 := by
  have e : pm_and x 31 = ((x % 4294967296).toNat &&& 31 : Nat) := by
    rw [pm_and, bi_t, Int32.toBitVec_and, show (Int32.ofInt 31).toBitVec = BitVec.ofNat 32 31 from bi_o (a := 31)]
    have e2 : (Int32.ofInt x).toBitVec = BitVec.ofNat 32 (x % 4294967296).toNat := by
      show BitVec.ofInt 32 x = _
      apply BitVec.eq_of_toNat_eq
      rw [BitVec.toNat_ofInt, BitVec.toNat_ofNat]
      omega
    rw [e2, ← BitVec.ofNat_and, bi_v]
    have := Nat.and_le_right (n := (x % 4294967296).toNat) (m := 31)
    omega
  rw [e, show (31 : Nat) = 2 ^ 5 - 1 from rfl, Nat.and_two_pow_sub_one_eq_mod]
  omega
theorem lw_31 (x : Int) : ∃ j : Nat, j < 32 ∧ pm_sg (pm_and x 31) = (j : Int) := ⟨(x % 32).toNat, by omega, by rw [and31, pm_sgid (by omega) (by omega)]; omega⟩
theorem lw_o0 : pm_ob (GF X) ((0 : Nat) : Int) 11 := ob_i ⟨by decide, rfl⟩
theorem lw_o2 : pm_ob (GF X) ((234 : Nat) : Int) 12 := ob_i ⟨by decide, rfl⟩
theorem lw_g {L : Nat} (h0 : 0 ≤ i) (h6 : i + 6 ≤ L) (hL : L ≤ 3072) (k : Int) (hk : 0 ≤ k) (hk2 : k ≤ 5) : 0 ≤ pm_sg (i + k) ∧ pm_sg (i + k) < L := by
  rw [pm_sg_i (by unfold inR; omega)]
  omega
theorem lc_feed (h : CP M v T) (hT9 : T < 800000000) (hX : ∀ j, inR ((GF X).2.2.2.2 j)) (h0 : 0 ≤ i) (h6 : i + 6 ≤ X.1) (hL : X.1 ≤ 3072) (hN : ∀ M' v', CP M' v' (T + 100) → pm_Run (d + 60) 308 1122 [.inr (.inr (.inl (-2))), vA 0, vA 234, vI i] [] (GF X, M', PTF v') K) : pm_Run (d + 60) 308 176 [.inr (.inr (.inl (-2))), vA 0, vA 234, vI i] [] (GF X, M, PTF v) K := by
  refine (b308_176 (lw_g h0 h6 hL 1 (by omega) (by omega)).1 (lw_g h0 h6 hL 1 (by omega) (by omega)).2 (lw_g h0 h6 hL 2 (by omega) (by omega)).1 (lw_g h0 h6 hL 2 (by omega) (by omega)).2 (lw_g h0 h6 hL 3 (by omega) (by omega)).1 (lw_g h0 h6 hL 3 (by omega) (by omega)).2 (lw_g h0 h6 hL 4 (by omega) (by omega)).1 (lw_g h0 h6 hL 4 (by omega) (by omega)).2 (lw_g h0 h6 hL 5 (by omega) (by omega)).1 (lw_g h0 h6 hL 5 (by omega) (by omega)).2 lw_o0).mpr ?_
  refine p_feed h (K := fun r r' S => pm_Run (d + 60) 308 234 [.inr (.inr (.inl (-2))), vA 0, vA 234, vI i] (pm_push r' (pm_push r [])) S K)  (fun M' v' y hc => ?_) (fun y M1 v1 hq => ?_)
  · exact b308_234.mpr (by rw [if_pos rfl]; exact hN M' v' hc)
  · exact (b308_205 (lw_g h0 h6 hL 1 (by omega) (by omega)).1 (lw_g h0 h6 hL 1 (by omega) (by omega)).2 (lw_g h0 h6 hL 2 (by omega) (by omega)).1 (lw_g h0 h6 hL 2 (by omega) (by omega)).2 (lw_g h0 h6 hL 3 (by omega) (by omega)).1 (lw_g h0 h6 hL 3 (by omega) (by omega)).2 (lw_g h0 h6 hL 4 (by omega) (by omega)).1 (lw_g h0 h6 hL 4 (by omega) (by omega)).2 (lw_g h0 h6 hL 5 (by omega) (by omega)).1 (lw_g h0 h6 hL 5 (by omega) (by omega)).2 lw_o2).mpr hq
theorem lc_end (h : CP M v T) (hT9 : T < 800000000) (hX : ∀ j, inR ((GF X).2.2.2.2 j)) (h0 : 0 ≤ i) (h6 : i + 6 ≤ X.1) (hL : X.1 ≤ 3072) (hN : ∀ M' v', CP M' v' (T + 100) → pm_Run (d + 60) 308 1122 [.inr (.inr (.inl (-2))), vA 0, vA 234, vI i] [] (GF X, M', PTF v') K) : pm_Run (d + 60) 308 239 [.inr (.inr (.inl (-2))), vA 0, vA 234, vI i] [] (GF X, M, PTF v) K := by
  refine (b308_239 (lw_g h0 h6 hL 1 (by omega) (by omega)).1 (lw_g h0 h6 hL 1 (by omega) (by omega)).2 lw_o0).mpr ?_
  refine p_end h (K := fun r r' S => pm_Run (d + 60) 308 257 [.inr (.inr (.inl (-2))), vA 0, vA 234, vI i] (pm_push r' (pm_push r [])) S K) (hX _) (fun M' v' y hc => ?_) (fun y M1 v1 hq => ?_)
  · exact b308_257.mpr (by rw [if_pos rfl]; exact hN M' v' hc)
  · exact (b308_248 (lw_g h0 h6 hL 1 (by omega) (by omega)).1 (lw_g h0 h6 hL 1 (by omega) (by omega)).2 lw_o2).mpr hq
theorem lc_sea (h : CP M v T) (hT9 : T < 800000000) (hX : ∀ j, inR ((GF X).2.2.2.2 j)) (h0 : 0 ≤ i) (h6 : i + 6 ≤ X.1) (hL : X.1 ≤ 3072) (hN : ∀ M' v', CP M' v' (T + 100) → pm_Run (d + 60) 308 1122 [.inr (.inr (.inl (-2))), vA 0, vA 234, vI i] [] (GF X, M', PTF v') K) : pm_Run (d + 60) 308 262 [.inr (.inr (.inl (-2))), vA 0, vA 234, vI i] [] (GF X, M, PTF v) K := by
  refine (b308_262  lw_o0).mpr ?_
  refine p_sea h (K := fun r r' S => pm_Run (d + 60) 308 270 [.inr (.inr (.inl (-2))), vA 0, vA 234, vI i] (pm_push r' (pm_push r [])) S K)  (fun M' v' y hc => ?_) (fun y M1 v1 hq => ?_)
  · exact b308_270.mpr (by rw [if_pos rfl]; exact hN M' v' hc)
  · exact (b308_266  lw_o2).mpr hq
theorem lc_fault (h : CP M v T) (hT9 : T < 800000000) (hX : ∀ j, inR ((GF X).2.2.2.2 j)) (h0 : 0 ≤ i) (h6 : i + 6 ≤ X.1) (hL : X.1 ≤ 3072) (hN : ∀ M' v', CP M' v' (T + 100) → pm_Run (d + 60) 308 1122 [.inr (.inr (.inl (-2))), vA 0, vA 234, vI i] [] (GF X, M', PTF v') K) : pm_Run (d + 60) 308 275 [.inr (.inr (.inl (-2))), vA 0, vA 234, vI i] [] (GF X, M, PTF v) K := by
  refine (b308_275 (lw_g h0 h6 hL 1 (by omega) (by omega)).1 (lw_g h0 h6 hL 1 (by omega) (by omega)).2 lw_o0).mpr ?_
  refine p_fault h (K := fun r r' S => pm_Run (d + 60) 308 293 [.inr (.inr (.inl (-2))), vA 0, vA 234, vI i] (pm_push r' (pm_push r [])) S K) (hX _) (fun M' v' y hc => ?_) (fun y M1 v1 hq => ?_)
  · exact b308_293.mpr (by rw [if_pos rfl]; exact hN M' v' hc)
  · exact (b308_284 (lw_g h0 h6 hL 1 (by omega) (by omega)).1 (lw_g h0 h6 hL 1 (by omega) (by omega)).2 lw_o2).mpr hq
theorem lc_has (h : CP M v T) (hT9 : T < 800000000) (hX : ∀ j, inR ((GF X).2.2.2.2 j)) (h0 : 0 ≤ i) (h6 : i + 6 ≤ X.1) (hL : X.1 ≤ 3072) (hN : ∀ M' v', CP M' v' (T + 100) → pm_Run (d + 60) 308 1122 [.inr (.inr (.inl (-2))), vA 0, vA 234, vI i] [] (GF X, M', PTF v') K) : pm_Run (d + 60) 308 298 [.inr (.inr (.inl (-2))), vA 0, vA 234, vI i] [] (GF X, M, PTF v) K := by
  refine (b308_298 (lw_g h0 h6 hL 1 (by omega) (by omega)).1 (lw_g h0 h6 hL 1 (by omega) (by omega)).2 lw_o0).mpr ?_
  refine p_has h (K := fun r r' S => pm_Run (d + 60) 308 316 [.inr (.inr (.inl (-2))), vA 0, vA 234, vI i] (pm_push r' (pm_push r [])) S K) (hX _) (fun M' v' y hc => ?_) (fun y M1 v1 hq => ?_)
  · exact b308_316.mpr (by rw [if_pos rfl]; exact hN M' v' hc)
  · exact (b308_307 (lw_g h0 h6 hL 1 (by omega) (by omega)).1 (lw_g h0 h6 hL 1 (by omega) (by omega)).2 lw_o2).mpr hq
theorem lc_letter (h : CP M v T) (hT9 : T < 800000000) (hX : ∀ j, inR ((GF X).2.2.2.2 j)) (h0 : 0 ≤ i) (h6 : i + 6 ≤ X.1) (hL : X.1 ≤ 3072) (hN : ∀ M' v', CP M' v' (T + 100) → pm_Run (d + 60) 308 1122 [.inr (.inr (.inl (-2))), vA 0, vA 234, vI i] [] (GF X, M', PTF v') K) : pm_Run (d + 60) 308 321 [.inr (.inr (.inl (-2))), vA 0, vA 234, vI i] [] (GF X, M, PTF v) K := by
  refine (b308_321 (lw_g h0 h6 hL 1 (by omega) (by omega)).1 (lw_g h0 h6 hL 1 (by omega) (by omega)).2 (lw_g h0 h6 hL 2 (by omega) (by omega)).1 (lw_g h0 h6 hL 2 (by omega) (by omega)).2 (lw_g h0 h6 hL 3 (by omega) (by omega)).1 (lw_g h0 h6 hL 3 (by omega) (by omega)).2 lw_o0).mpr ?_
  refine p_letter h (K := fun r r' S => pm_Run (d + 60) 308 359 [.inr (.inr (.inl (-2))), vA 0, vA 234, vI i] (pm_push r' (pm_push r [])) S K) (hX _) (hX _) (hX _) (fun M' v' y hc => ?_) (fun y M1 v1 hq => ?_)
  · exact b308_359.mpr (by rw [if_pos rfl]; exact hN M' v' hc)
  · exact (b308_340 (lw_g h0 h6 hL 1 (by omega) (by omega)).1 (lw_g h0 h6 hL 1 (by omega) (by omega)).2 (lw_g h0 h6 hL 2 (by omega) (by omega)).1 (lw_g h0 h6 hL 2 (by omega) (by omega)).2 (lw_g h0 h6 hL 3 (by omega) (by omega)).1 (lw_g h0 h6 hL 3 (by omega) (by omega)).2 lw_o2).mpr hq
theorem lc_moon (h : CP M v T) (hT9 : T < 800000000) (hX : ∀ j, inR ((GF X).2.2.2.2 j)) (h0 : 0 ≤ i) (h6 : i + 6 ≤ X.1) (hL : X.1 ≤ 3072) (hN : ∀ M' v', CP M' v' (T + 100) → pm_Run (d + 60) 308 1122 [.inr (.inr (.inl (-2))), vA 0, vA 234, vI i] [] (GF X, M', PTF v') K) : pm_Run (d + 60) 308 364 [.inr (.inr (.inl (-2))), vA 0, vA 234, vI i] [] (GF X, M, PTF v) K := by
  refine (b308_364 (lw_g h0 h6 hL 1 (by omega) (by omega)).1 (lw_g h0 h6 hL 1 (by omega) (by omega)).2 (lw_g h0 h6 hL 2 (by omega) (by omega)).1 (lw_g h0 h6 hL 2 (by omega) (by omega)).2 lw_o0).mpr ?_
  refine p_moon h (K := fun r r' S => pm_Run (d + 60) 308 392 [.inr (.inr (.inl (-2))), vA 0, vA 234, vI i] (pm_push r' (pm_push r [])) S K) (hX _) (hX _) (fun M' v' y hc => ?_) (fun y M1 v1 hq => ?_)
  · exact b308_392.mpr (by rw [if_pos rfl]; exact hN M' v' hc)
  · exact (b308_378 (lw_g h0 h6 hL 1 (by omega) (by omega)).1 (lw_g h0 h6 hL 1 (by omega) (by omega)).2 (lw_g h0 h6 hL 2 (by omega) (by omega)).1 (lw_g h0 h6 hL 2 (by omega) (by omega)).2 lw_o2).mpr hq
theorem lc_harbor (h : CP M v T) (hT9 : T < 800000000) (hX : ∀ j, inR ((GF X).2.2.2.2 j)) (h0 : 0 ≤ i) (h6 : i + 6 ≤ X.1) (hL : X.1 ≤ 3072) (hN : ∀ M' v', CP M' v' (T + 100) → pm_Run (d + 60) 308 1122 [.inr (.inr (.inl (-2))), vA 0, vA 234, vI i] [] (GF X, M', PTF v') K) : pm_Run (d + 60) 308 397 [.inr (.inr (.inl (-2))), vA 0, vA 234, vI i] [] (GF X, M, PTF v) K := by
  refine (b308_397 (lw_g h0 h6 hL 1 (by omega) (by omega)).1 (lw_g h0 h6 hL 1 (by omega) (by omega)).2 (lw_g h0 h6 hL 2 (by omega) (by omega)).1 (lw_g h0 h6 hL 2 (by omega) (by omega)).2 lw_o0).mpr ?_
  refine p_harbor h (K := fun r r' S => pm_Run (d + 60) 308 425 [.inr (.inr (.inl (-2))), vA 0, vA 234, vI i] (pm_push r' (pm_push r [])) S K) (hX _) (hX _) (fun M' v' y hc => ?_) (fun y M1 v1 hq => ?_)
  · exact b308_425.mpr (by rw [if_pos rfl]; exact hN M' v' hc)
  · exact (b308_411 (lw_g h0 h6 hL 1 (by omega) (by omega)).1 (lw_g h0 h6 hL 1 (by omega) (by omega)).2 (lw_g h0 h6 hL 2 (by omega) (by omega)).1 (lw_g h0 h6 hL 2 (by omega) (by omega)).2 lw_o2).mpr hq
theorem lc_bids (h : CP M v T) (hT9 : T < 800000000) (hX : ∀ j, inR ((GF X).2.2.2.2 j)) (h0 : 0 ≤ i) (h6 : i + 6 ≤ X.1) (hL : X.1 ≤ 3072) (hN : ∀ M' v', CP M' v' (T + 100) → pm_Run (d + 60) 308 1122 [.inr (.inr (.inl (-2))), vA 0, vA 234, vI i] [] (GF X, M', PTF v') K) : pm_Run (d + 60) 308 430 [.inr (.inr (.inl (-2))), vA 0, vA 234, vI i] [] (GF X, M, PTF v) K := by
  refine (b308_430 (lw_g h0 h6 hL 1 (by omega) (by omega)).1 (lw_g h0 h6 hL 1 (by omega) (by omega)).2 (lw_g h0 h6 hL 2 (by omega) (by omega)).1 (lw_g h0 h6 hL 2 (by omega) (by omega)).2 (lw_g h0 h6 hL 3 (by omega) (by omega)).1 (lw_g h0 h6 hL 3 (by omega) (by omega)).2 lw_o0).mpr ?_
  refine p_bids h (K := fun r r' S => pm_Run (d + 60) 308 468 [.inr (.inr (.inl (-2))), vA 0, vA 234, vI i] (pm_push r' (pm_push r [])) S K) (hX _) (hX _) (hX _) (fun M' v' y hc => ?_) (fun y M1 v1 hq => ?_)
  · exact b308_468.mpr (by rw [if_pos rfl]; exact hN M' v' hc)
  · exact (b308_449 (lw_g h0 h6 hL 1 (by omega) (by omega)).1 (lw_g h0 h6 hL 1 (by omega) (by omega)).2 (lw_g h0 h6 hL 2 (by omega) (by omega)).1 (lw_g h0 h6 hL 2 (by omega) (by omega)).2 (lw_g h0 h6 hL 3 (by omega) (by omega)).1 (lw_g h0 h6 hL 3 (by omega) (by omega)).2 lw_o2).mpr hq
theorem lc_pull (h : CP M v T) (hT9 : T < 800000000) (hX : ∀ j, inR ((GF X).2.2.2.2 j)) (h0 : 0 ≤ i) (h6 : i + 6 ≤ X.1) (hL : X.1 ≤ 3072) (hN : ∀ M' v', CP M' v' (T + 100) → pm_Run (d + 60) 308 1122 [.inr (.inr (.inl (-2))), vA 0, vA 234, vI i] [] (GF X, M', PTF v') K) : pm_Run (d + 60) 308 473 [.inr (.inr (.inl (-2))), vA 0, vA 234, vI i] [] (GF X, M, PTF v) K := by
  refine (b308_473 (lw_g h0 h6 hL 1 (by omega) (by omega)).1 (lw_g h0 h6 hL 1 (by omega) (by omega)).2 (lw_g h0 h6 hL 2 (by omega) (by omega)).1 (lw_g h0 h6 hL 2 (by omega) (by omega)).2 lw_o0).mpr ?_
  refine p_pull h (K := fun r r' S => pm_Run (d + 60) 308 501 [.inr (.inr (.inl (-2))), vA 0, vA 234, vI i] (pm_push r' (pm_push r [])) S K) (hX _) (hX _) (fun M' v' y hc => ?_) (fun y M1 v1 hq => ?_)
  · exact b308_501.mpr (by rw [if_pos rfl]; exact hN M' v' hc)
  · exact (b308_487 (lw_g h0 h6 hL 1 (by omega) (by omega)).1 (lw_g h0 h6 hL 1 (by omega) (by omega)).2 (lw_g h0 h6 hL 2 (by omega) (by omega)).1 (lw_g h0 h6 hL 2 (by omega) (by omega)).2 lw_o2).mpr hq
theorem lc_height (h : CP M v T) (hT9 : T < 800000000) (hX : ∀ j, inR ((GF X).2.2.2.2 j)) (h0 : 0 ≤ i) (h6 : i + 6 ≤ X.1) (hL : X.1 ≤ 3072) (hN : ∀ M' v', CP M' v' (T + 100) → pm_Run (d + 60) 308 1122 [.inr (.inr (.inl (-2))), vA 0, vA 234, vI i] [] (GF X, M', PTF v') K) : pm_Run (d + 60) 308 506 [.inr (.inr (.inl (-2))), vA 0, vA 234, vI i] [] (GF X, M, PTF v) K := by
  refine (b308_506 (lw_g h0 h6 hL 1 (by omega) (by omega)).1 (lw_g h0 h6 hL 1 (by omega) (by omega)).2 (lw_g h0 h6 hL 2 (by omega) (by omega)).1 (lw_g h0 h6 hL 2 (by omega) (by omega)).2 lw_o0).mpr ?_
  refine p_height h (K := fun r r' S => pm_Run (d + 60) 308 534 [.inr (.inr (.inl (-2))), vA 0, vA 234, vI i] (pm_push r' (pm_push r [])) S K) (hX _) (hX _) (fun M' v' y hc => ?_) (fun y M1 v1 hq => ?_)
  · exact b308_534.mpr (by rw [if_pos rfl]; exact hN M' v' hc)
  · exact (b308_520 (lw_g h0 h6 hL 1 (by omega) (by omega)).1 (lw_g h0 h6 hL 1 (by omega) (by omega)).2 (lw_g h0 h6 hL 2 (by omega) (by omega)).1 (lw_g h0 h6 hL 2 (by omega) (by omega)).2 lw_o2).mpr hq
theorem lc_ahead (h : CP M v T) (hT9 : T < 800000000) (hX : ∀ j, inR ((GF X).2.2.2.2 j)) (h0 : 0 ≤ i) (h6 : i + 6 ≤ X.1) (hL : X.1 ≤ 3072) (hN : ∀ M' v', CP M' v' (T + 100) → pm_Run (d + 60) 308 1122 [.inr (.inr (.inl (-2))), vA 0, vA 234, vI i] [] (GF X, M', PTF v') K) : pm_Run (d + 60) 308 539 [.inr (.inr (.inl (-2))), vA 0, vA 234, vI i] [] (GF X, M, PTF v) K := by
  refine (b308_539 (lw_g h0 h6 hL 1 (by omega) (by omega)).1 (lw_g h0 h6 hL 1 (by omega) (by omega)).2 (lw_g h0 h6 hL 2 (by omega) (by omega)).1 (lw_g h0 h6 hL 2 (by omega) (by omega)).2 (lw_g h0 h6 hL 3 (by omega) (by omega)).1 (lw_g h0 h6 hL 3 (by omega) (by omega)).2 lw_o0).mpr ?_
  refine p_ahead h (K := fun r r' S => pm_Run (d + 60) 308 577 [.inr (.inr (.inl (-2))), vA 0, vA 234, vI i] (pm_push r' (pm_push r [])) S K) (hX _) (hX _) (hX _) (fun M' v' y hc => ?_) (fun y M1 v1 hq => ?_)
  · exact b308_577.mpr (by rw [if_pos rfl]; exact hN M' v' hc)
  · exact (b308_558 (lw_g h0 h6 hL 1 (by omega) (by omega)).1 (lw_g h0 h6 hL 1 (by omega) (by omega)).2 (lw_g h0 h6 hL 2 (by omega) (by omega)).1 (lw_g h0 h6 hL 2 (by omega) (by omega)).2 (lw_g h0 h6 hL 3 (by omega) (by omega)).1 (lw_g h0 h6 hL 3 (by omega) (by omega)).2 lw_o2).mpr hq
theorem lc_broken (h : CP M v T) (hT9 : T < 800000000) (hX : ∀ j, inR ((GF X).2.2.2.2 j)) (h0 : 0 ≤ i) (h6 : i + 6 ≤ X.1) (hL : X.1 ≤ 3072) (hN : ∀ M' v', CP M' v' (T + 100) → pm_Run (d + 60) 308 1122 [.inr (.inr (.inl (-2))), vA 0, vA 234, vI i] [] (GF X, M', PTF v') K) : pm_Run (d + 60) 308 582 [.inr (.inr (.inl (-2))), vA 0, vA 234, vI i] [] (GF X, M, PTF v) K := by
  refine (b308_582 (lw_g h0 h6 hL 1 (by omega) (by omega)).1 (lw_g h0 h6 hL 1 (by omega) (by omega)).2 lw_o0).mpr ?_
  refine p_broken h (K := fun r r' S => pm_Run (d + 60) 308 600 [.inr (.inr (.inl (-2))), vA 0, vA 234, vI i] (pm_push r' (pm_push r [])) S K) (hX _) (fun M' v' y hc => ?_) (fun y M1 v1 hq => ?_)
  · exact b308_600.mpr (by rw [if_pos rfl]; exact hN M' v' hc)
  · exact (b308_591 (lw_g h0 h6 hL 1 (by omega) (by omega)).1 (lw_g h0 h6 hL 1 (by omega) (by omega)).2 lw_o2).mpr hq
theorem lc_stranded (h : CP M v T) (hT9 : T < 800000000) (hX : ∀ j, inR ((GF X).2.2.2.2 j)) (h0 : 0 ≤ i) (h6 : i + 6 ≤ X.1) (hL : X.1 ≤ 3072) (hN : ∀ M' v', CP M' v' (T + 100) → pm_Run (d + 60) 308 1122 [.inr (.inr (.inl (-2))), vA 0, vA 234, vI i] [] (GF X, M', PTF v') K) : pm_Run (d + 60) 308 605 [.inr (.inr (.inl (-2))), vA 0, vA 234, vI i] [] (GF X, M, PTF v) K := by
  refine (b308_605 (lw_g h0 h6 hL 1 (by omega) (by omega)).1 (lw_g h0 h6 hL 1 (by omega) (by omega)).2 (lw_g h0 h6 hL 2 (by omega) (by omega)).1 (lw_g h0 h6 hL 2 (by omega) (by omega)).2 lw_o0).mpr ?_
  refine p_stranded h (K := fun r r' S => pm_Run (d + 60) 308 633 [.inr (.inr (.inl (-2))), vA 0, vA 234, vI i] (pm_push r' (pm_push r [])) S K) (hX _) (hX _) (fun M' v' y hc => ?_) (fun y M1 v1 hq => ?_)
  · exact b308_633.mpr (by rw [if_pos rfl]; exact hN M' v' hc)
  · exact (b308_619 (lw_g h0 h6 hL 1 (by omega) (by omega)).1 (lw_g h0 h6 hL 1 (by omega) (by omega)).2 (lw_g h0 h6 hL 2 (by omega) (by omega)).1 (lw_g h0 h6 hL 2 (by omega) (by omega)).2 lw_o2).mpr hq
theorem lc_bid (h : CP M v T) (hT9 : T < 800000000) (hX : ∀ j, inR ((GF X).2.2.2.2 j)) (h0 : 0 ≤ i) (h6 : i + 6 ≤ X.1) (hL : X.1 ≤ 3072) (hN : ∀ M' v', CP M' v' (T + 100) → pm_Run (d + 60) 308 1122 [.inr (.inr (.inl (-2))), vA 0, vA 234, vI i] [] (GF X, M', PTF v') K) : pm_Run (d + 60) 308 638 [.inr (.inr (.inl (-2))), vA 0, vA 234, vI i] [] (GF X, M, PTF v) K := by
  refine (b308_638 (lw_g h0 h6 hL 1 (by omega) (by omega)).1 (lw_g h0 h6 hL 1 (by omega) (by omega)).2 (lw_g h0 h6 hL 2 (by omega) (by omega)).1 (lw_g h0 h6 hL 2 (by omega) (by omega)).2 (lw_g h0 h6 hL 3 (by omega) (by omega)).1 (lw_g h0 h6 hL 3 (by omega) (by omega)).2 lw_o0).mpr ?_
  refine p_bid h (K := fun r r' S => pm_Run (d + 60) 308 676 [.inr (.inr (.inl (-2))), vA 0, vA 234, vI i] (pm_push r' (pm_push r [])) S K) (hX _) (hX _) (hX _) (fun M' v' y hc => ?_) (fun y M1 v1 hq => ?_)
  · exact b308_676.mpr (by rw [if_pos rfl]; exact hN M' v' hc)
  · exact (b308_657 (lw_g h0 h6 hL 1 (by omega) (by omega)).1 (lw_g h0 h6 hL 1 (by omega) (by omega)).2 (lw_g h0 h6 hL 2 (by omega) (by omega)).1 (lw_g h0 h6 hL 2 (by omega) (by omega)).2 (lw_g h0 h6 hL 3 (by omega) (by omega)).1 (lw_g h0 h6 hL 3 (by omega) (by omega)).2 lw_o2).mpr hq
theorem lc_give (h : CP M v T) (hT9 : T < 800000000) (hX : ∀ j, inR ((GF X).2.2.2.2 j)) (h0 : 0 ≤ i) (h6 : i + 6 ≤ X.1) (hL : X.1 ≤ 3072) (hN : ∀ M' v', CP M' v' (T + 100) → pm_Run (d + 60) 308 1122 [.inr (.inr (.inl (-2))), vA 0, vA 234, vI i] [] (GF X, M', PTF v') K) : pm_Run (d + 60) 308 681 [.inr (.inr (.inl (-2))), vA 0, vA 234, vI i] [] (GF X, M, PTF v) K := by
  refine (b308_681 (lw_g h0 h6 hL 1 (by omega) (by omega)).1 (lw_g h0 h6 hL 1 (by omega) (by omega)).2 (lw_g h0 h6 hL 2 (by omega) (by omega)).1 (lw_g h0 h6 hL 2 (by omega) (by omega)).2 (lw_g h0 h6 hL 3 (by omega) (by omega)).1 (lw_g h0 h6 hL 3 (by omega) (by omega)).2 lw_o0).mpr ?_
  refine p_give h (K := fun r r' S => pm_Run (d + 60) 308 719 [.inr (.inr (.inl (-2))), vA 0, vA 234, vI i] (pm_push r' (pm_push r [])) S K) (hX _) (hX _) (hX _) (fun M' v' y hc => ?_) (fun y M1 v1 hq => ?_)
  · exact b308_719.mpr (by rw [if_pos rfl]; exact hN M' v' hc)
  · exact (b308_700 (lw_g h0 h6 hL 1 (by omega) (by omega)).1 (lw_g h0 h6 hL 1 (by omega) (by omega)).2 (lw_g h0 h6 hL 2 (by omega) (by omega)).1 (lw_g h0 h6 hL 2 (by omega) (by omega)).2 (lw_g h0 h6 hL 3 (by omega) (by omega)).1 (lw_g h0 h6 hL 3 (by omega) (by omega)).2 lw_o2).mpr hq
theorem lc_soothe (h : CP M v T) (hT9 : T < 800000000) (hX : ∀ j, inR ((GF X).2.2.2.2 j)) (h0 : 0 ≤ i) (h6 : i + 6 ≤ X.1) (hL : X.1 ≤ 3072) (hN : ∀ M' v', CP M' v' (T + 100) → pm_Run (d + 60) 308 1122 [.inr (.inr (.inl (-2))), vA 0, vA 234, vI i] [] (GF X, M', PTF v') K) : pm_Run (d + 60) 308 724 [.inr (.inr (.inl (-2))), vA 0, vA 234, vI i] [] (GF X, M, PTF v) K := by
  refine (b308_724 (lw_g h0 h6 hL 1 (by omega) (by omega)).1 (lw_g h0 h6 hL 1 (by omega) (by omega)).2 (lw_g h0 h6 hL 2 (by omega) (by omega)).1 (lw_g h0 h6 hL 2 (by omega) (by omega)).2 lw_o0).mpr ?_
  refine p_soothe h (K := fun r r' S => pm_Run (d + 60) 308 752 [.inr (.inr (.inl (-2))), vA 0, vA 234, vI i] (pm_push r' (pm_push r [])) S K) (hX _) (hX _) (fun M' v' y hc => ?_) (fun y M1 v1 hq => ?_)
  · exact b308_752.mpr (by rw [if_pos rfl]; exact hN M' v' hc)
  · exact (b308_738 (lw_g h0 h6 hL 1 (by omega) (by omega)).1 (lw_g h0 h6 hL 1 (by omega) (by omega)).2 (lw_g h0 h6 hL 2 (by omega) (by omega)).1 (lw_g h0 h6 hL 2 (by omega) (by omega)).2 lw_o2).mpr hq
theorem lc_hours (h : CP M v T) (hT9 : T < 800000000) (hX : ∀ j, inR ((GF X).2.2.2.2 j)) (h0 : 0 ≤ i) (h6 : i + 6 ≤ X.1) (hL : X.1 ≤ 3072) (hN : ∀ M' v', CP M' v' (T + 100) → pm_Run (d + 60) 308 1122 [.inr (.inr (.inl (-2))), vA 0, vA 234, vI i] [] (GF X, M', PTF v') K) : pm_Run (d + 60) 308 757 [.inr (.inr (.inl (-2))), vA 0, vA 234, vI i] [] (GF X, M, PTF v) K := by
  refine (b308_757 (lw_g h0 h6 hL 1 (by omega) (by omega)).1 (lw_g h0 h6 hL 1 (by omega) (by omega)).2 lw_o0).mpr ?_
  refine p_hours h (K := fun r r' S => pm_Run (d + 60) 308 775 [.inr (.inr (.inl (-2))), vA 0, vA 234, vI i] (pm_push r' (pm_push r [])) S K) (hX _) (fun M' v' y hc => ?_) (fun y M1 v1 hq => ?_)
  · exact b308_775.mpr (by rw [if_pos rfl]; exact hN M' v' hc)
  · exact (b308_766 (lw_g h0 h6 hL 1 (by omega) (by omega)).1 (lw_g h0 h6 hL 1 (by omega) (by omega)).2 lw_o2).mpr hq
theorem lc_storms (h : CP M v T) (hT9 : T < 800000000) (hX : ∀ j, inR ((GF X).2.2.2.2 j)) (h0 : 0 ≤ i) (h6 : i + 6 ≤ X.1) (hL : X.1 ≤ 3072) (hN : ∀ M' v', CP M' v' (T + 100) → pm_Run (d + 60) 308 1122 [.inr (.inr (.inl (-2))), vA 0, vA 234, vI i] [] (GF X, M', PTF v') K) : pm_Run (d + 60) 308 780 [.inr (.inr (.inl (-2))), vA 0, vA 234, vI i] [] (GF X, M, PTF v) K := by
  refine (b308_780 (lw_g h0 h6 hL 1 (by omega) (by omega)).1 (lw_g h0 h6 hL 1 (by omega) (by omega)).2 lw_o0).mpr ?_
  refine p_storms h (K := fun r r' S => pm_Run (d + 60) 308 798 [.inr (.inr (.inl (-2))), vA 0, vA 234, vI i] (pm_push r' (pm_push r [])) S K) (hX _) (fun M' v' y hc => ?_) (fun y M1 v1 hq => ?_)
  · exact b308_798.mpr (by rw [if_pos rfl]; exact hN M' v' hc)
  · exact (b308_789 (lw_g h0 h6 hL 1 (by omega) (by omega)).1 (lw_g h0 h6 hL 1 (by omega) (by omega)).2 lw_o2).mpr hq
theorem lc_undo (h : CP M v T) (hT9 : T < 800000000) (hX : ∀ j, inR ((GF X).2.2.2.2 j)) (h0 : 0 ≤ i) (h6 : i + 6 ≤ X.1) (hL : X.1 ≤ 3072) (hN : ∀ M' v', CP M' v' (T + 100) → pm_Run (d + 60) 308 1122 [.inr (.inr (.inl (-2))), vA 0, vA 234, vI i] [] (GF X, M', PTF v') K) : pm_Run (d + 60) 308 803 [.inr (.inr (.inl (-2))), vA 0, vA 234, vI i] [] (GF X, M, PTF v) K := by
  refine (b308_803  lw_o0).mpr ?_
  refine p_undo h (K := fun r r' S => pm_Run (d + 60) 308 811 [.inr (.inr (.inl (-2))), vA 0, vA 234, vI i] (pm_push r' (pm_push r [])) S K)  (fun M' v' y hc => ?_) (fun y M1 v1 hq => ?_)
  · exact b308_811.mpr (by rw [if_pos rfl]; exact hN M' v' hc)
  · exact (b308_807  lw_o2).mpr hq
theorem lc_seed (h : CP M v T) (hT9 : T < 800000000) (hX : ∀ j, inR ((GF X).2.2.2.2 j)) (h0 : 0 ≤ i) (h6 : i + 6 ≤ X.1) (hL : X.1 ≤ 3072) (hN : ∀ M' v', CP M' v' (T + 100) → pm_Run (d + 60) 308 1122 [.inr (.inr (.inl (-2))), vA 0, vA 234, vI i] [] (GF X, M', PTF v') K) : pm_Run (d + 60) 308 816 [.inr (.inr (.inl (-2))), vA 0, vA 234, vI i] [] (GF X, M, PTF v) K := by
  refine (b308_816 (lw_g h0 h6 hL 1 (by omega) (by omega)).1 (lw_g h0 h6 hL 1 (by omega) (by omega)).2 lw_o0).mpr ?_
  refine p_seed h (K := fun r r' S => pm_Run (d + 60) 308 834 [.inr (.inr (.inl (-2))), vA 0, vA 234, vI i] (pm_push r' (pm_push r [])) S K) (hX _) (fun M' v' y hc => ?_) (fun y M1 v1 hq => ?_)
  · exact b308_834.mpr (by rw [if_pos rfl]; exact hN M' v' hc)
  · exact (b308_825 (lw_g h0 h6 hL 1 (by omega) (by omega)).1 (lw_g h0 h6 hL 1 (by omega) (by omega)).2 lw_o2).mpr hq
theorem lc_wished (h : CP M v T) (hT9 : T < 800000000) (hX : ∀ j, inR ((GF X).2.2.2.2 j)) (h0 : 0 ≤ i) (h6 : i + 6 ≤ X.1) (hL : X.1 ≤ 3072) (hN : ∀ M' v', CP M' v' (T + 100) → pm_Run (d + 60) 308 1122 [.inr (.inr (.inl (-2))), vA 0, vA 234, vI i] [] (GF X, M', PTF v') K) : pm_Run (d + 60) 308 839 [.inr (.inr (.inl (-2))), vA 0, vA 234, vI i] [] (GF X, M, PTF v) K := by
  refine (b308_839 (lw_g h0 h6 hL 1 (by omega) (by omega)).1 (lw_g h0 h6 hL 1 (by omega) (by omega)).2 (lw_g h0 h6 hL 2 (by omega) (by omega)).1 (lw_g h0 h6 hL 2 (by omega) (by omega)).2 (lw_g h0 h6 hL 3 (by omega) (by omega)).1 (lw_g h0 h6 hL 3 (by omega) (by omega)).2 lw_o0).mpr ?_
  refine p_wished h (K := fun r r' S => pm_Run (d + 60) 308 877 [.inr (.inr (.inl (-2))), vA 0, vA 234, vI i] (pm_push r' (pm_push r [])) S K) hT9 (hX _) (hX _) (hX _) (fun M' v' y hc => ?_) (fun y M1 v1 hq => ?_)
  · exact b308_877.mpr (by rw [if_pos rfl]; exact hN M' v' hc)
  · exact (b308_858 (lw_g h0 h6 hL 1 (by omega) (by omega)).1 (lw_g h0 h6 hL 1 (by omega) (by omega)).2 (lw_g h0 h6 hL 2 (by omega) (by omega)).1 (lw_g h0 h6 hL 2 (by omega) (by omega)).2 (lw_g h0 h6 hL 3 (by omega) (by omega)).1 (lw_g h0 h6 hL 3 (by omega) (by omega)).2 lw_o2).mpr hq
theorem lc_rest (h : CP M v T) (hT9 : T < 800000000) (hX : ∀ j, inR ((GF X).2.2.2.2 j)) (h0 : 0 ≤ i) (h6 : i + 6 ≤ X.1) (hL : X.1 ≤ 3072) (hN : ∀ M' v', CP M' v' (T + 100) → pm_Run (d + 60) 308 1122 [.inr (.inr (.inl (-2))), vA 0, vA 234, vI i] [] (GF X, M', PTF v') K) : pm_Run (d + 60) 308 882 [.inr (.inr (.inl (-2))), vA 0, vA 234, vI i] [] (GF X, M, PTF v) K := by
  refine (b308_882 (lw_g h0 h6 hL 1 (by omega) (by omega)).1 (lw_g h0 h6 hL 1 (by omega) (by omega)).2 lw_o0).mpr ?_
  refine p_rest h (K := fun r r' S => pm_Run (d + 60) 308 900 [.inr (.inr (.inl (-2))), vA 0, vA 234, vI i] (pm_push r' (pm_push r [])) S K) hT9 (hX _) (fun M' v' y hc => ?_) (fun y M1 v1 hq => ?_)
  · exact b308_900.mpr (by rw [if_pos rfl]; exact hN M' v' hc)
  · exact (b308_891 (lw_g h0 h6 hL 1 (by omega) (by omega)).1 (lw_g h0 h6 hL 1 (by omega) (by omega)).2 lw_o2).mpr hq
theorem lc_across (h : CP M v T) (hT9 : T < 800000000) (hX : ∀ j, inR ((GF X).2.2.2.2 j)) (h0 : 0 ≤ i) (h6 : i + 6 ≤ X.1) (hL : X.1 ≤ 3072) (hN : ∀ M' v', CP M' v' (T + 100) → pm_Run (d + 60) 308 1122 [.inr (.inr (.inl (-2))), vA 0, vA 234, vI i] [] (GF X, M', PTF v') K) : pm_Run (d + 60) 308 905 [.inr (.inr (.inl (-2))), vA 0, vA 234, vI i] [] (GF X, M, PTF v) K := by
  refine (b308_905 (lw_g h0 h6 hL 1 (by omega) (by omega)).1 (lw_g h0 h6 hL 1 (by omega) (by omega)).2 (lw_g h0 h6 hL 2 (by omega) (by omega)).1 (lw_g h0 h6 hL 2 (by omega) (by omega)).2 (lw_g h0 h6 hL 3 (by omega) (by omega)).1 (lw_g h0 h6 hL 3 (by omega) (by omega)).2 lw_o0).mpr ?_
  refine p_across h (K := fun r r' S => pm_Run (d + 60) 308 943 [.inr (.inr (.inl (-2))), vA 0, vA 234, vI i] (pm_push r' (pm_push r [])) S K) (hX _) (hX _) (hX _) (fun M' v' y hc => ?_) (fun y M1 v1 hq => ?_)
  · exact b308_943.mpr (by rw [if_pos rfl]; exact hN M' v' hc)
  · exact (b308_924 (lw_g h0 h6 hL 1 (by omega) (by omega)).1 (lw_g h0 h6 hL 1 (by omega) (by omega)).2 (lw_g h0 h6 hL 2 (by omega) (by omega)).1 (lw_g h0 h6 hL 2 (by omega) (by omega)).2 (lw_g h0 h6 hL 3 (by omega) (by omega)).1 (lw_g h0 h6 hL 3 (by omega) (by omega)).2 lw_o2).mpr hq
theorem lc_latest (h : CP M v T) (hT9 : T < 800000000) (hX : ∀ j, inR ((GF X).2.2.2.2 j)) (h0 : 0 ≤ i) (h6 : i + 6 ≤ X.1) (hL : X.1 ≤ 3072) (hN : ∀ M' v', CP M' v' (T + 100) → pm_Run (d + 60) 308 1122 [.inr (.inr (.inl (-2))), vA 0, vA 234, vI i] [] (GF X, M', PTF v') K) : pm_Run (d + 60) 308 948 [.inr (.inr (.inl (-2))), vA 0, vA 234, vI i] [] (GF X, M, PTF v) K := by
  refine (b308_948 (lw_g h0 h6 hL 1 (by omega) (by omega)).1 (lw_g h0 h6 hL 1 (by omega) (by omega)).2 (lw_g h0 h6 hL 2 (by omega) (by omega)).1 (lw_g h0 h6 hL 2 (by omega) (by omega)).2 (lw_g h0 h6 hL 3 (by omega) (by omega)).1 (lw_g h0 h6 hL 3 (by omega) (by omega)).2 lw_o0).mpr ?_
  refine p_latest h (K := fun r r' S => pm_Run (d + 60) 308 986 [.inr (.inr (.inl (-2))), vA 0, vA 234, vI i] (pm_push r' (pm_push r [])) S K) (hX _) (hX _) (hX _) (fun M' v' y hc => ?_) (fun y M1 v1 hq => ?_)
  · exact b308_986.mpr (by rw [if_pos rfl]; exact hN M' v' hc)
  · exact (b308_967 (lw_g h0 h6 hL 1 (by omega) (by omega)).1 (lw_g h0 h6 hL 1 (by omega) (by omega)).2 (lw_g h0 h6 hL 2 (by omega) (by omega)).1 (lw_g h0 h6 hL 2 (by omega) (by omega)).2 (lw_g h0 h6 hL 3 (by omega) (by omega)).1 (lw_g h0 h6 hL 3 (by omega) (by omega)).2 lw_o2).mpr hq
theorem lc_meet (h : CP M v T) (hT9 : T < 800000000) (hX : ∀ j, inR ((GF X).2.2.2.2 j)) (h0 : 0 ≤ i) (h6 : i + 6 ≤ X.1) (hL : X.1 ≤ 3072) (hN : ∀ M' v', CP M' v' (T + 100) → pm_Run (d + 60) 308 1122 [.inr (.inr (.inl (-2))), vA 0, vA 234, vI i] [] (GF X, M', PTF v') K) : pm_Run (d + 60) 308 991 [.inr (.inr (.inl (-2))), vA 0, vA 234, vI i] [] (GF X, M, PTF v) K := by
  refine (b308_991 (lw_g h0 h6 hL 1 (by omega) (by omega)).1 (lw_g h0 h6 hL 1 (by omega) (by omega)).2 lw_o0).mpr ?_
  refine p_meet h (K := fun r r' S => pm_Run (d + 60) 308 1009 [.inr (.inr (.inl (-2))), vA 0, vA 234, vI i] (pm_push r' (pm_push r [])) S K) (hX _) (fun M' v' y hc => ?_) (fun y M1 v1 hq => ?_)
  · exact b308_1009.mpr (by rw [if_pos rfl]; exact hN M' v' hc)
  · exact (b308_1000 (lw_g h0 h6 hL 1 (by omega) (by omega)).1 (lw_g h0 h6 hL 1 (by omega) (by omega)).2 lw_o2).mpr hq
theorem lc_see (h : CP M v T) (hT9 : T < 800000000) (hX : ∀ j, inR ((GF X).2.2.2.2 j)) (h0 : 0 ≤ i) (h6 : i + 6 ≤ X.1) (hL : X.1 ≤ 3072) (hN : ∀ M' v', CP M' v' (T + 100) → pm_Run (d + 60) 308 1122 [.inr (.inr (.inl (-2))), vA 0, vA 234, vI i] [] (GF X, M', PTF v') K) : pm_Run (d + 60) 308 1014 [.inr (.inr (.inl (-2))), vA 0, vA 234, vI i] [] (GF X, M, PTF v) K := by
  refine (b308_1014  lw_o0).mpr ?_
  refine p_see h (K := fun r r' S => pm_Run (d + 60) 308 1022 [.inr (.inr (.inl (-2))), vA 0, vA 234, vI i] (pm_push r' (pm_push r [])) S K)  (fun M' v' y hc => ?_) (fun y M1 v1 hq => ?_)
  · exact b308_1022.mpr (by rw [if_pos rfl]; exact hN M' v' hc)
  · exact (b308_1018  lw_o2).mpr hq
theorem lc_payers (h : CP M v T) (hT9 : T < 800000000) (hX : ∀ j, inR ((GF X).2.2.2.2 j)) (h0 : 0 ≤ i) (h6 : i + 6 ≤ X.1) (hL : X.1 ≤ 3072) (hN : ∀ M' v', CP M' v' (T + 100) → pm_Run (d + 60) 308 1122 [.inr (.inr (.inl (-2))), vA 0, vA 234, vI i] [] (GF X, M', PTF v') K) : pm_Run (d + 60) 308 1027 [.inr (.inr (.inl (-2))), vA 0, vA 234, vI i] [] (GF X, M, PTF v) K := by
  refine (b308_1027 (lw_g h0 h6 hL 1 (by omega) (by omega)).1 (lw_g h0 h6 hL 1 (by omega) (by omega)).2 lw_o0).mpr ?_
  refine p_payers h (K := fun r r' S => pm_Run (d + 60) 308 1045 [.inr (.inr (.inl (-2))), vA 0, vA 234, vI i] (pm_push r' (pm_push r [])) S K) (hX _) (fun M' v' y hc => ?_) (fun y M1 v1 hq => ?_)
  · exact b308_1045.mpr (by rw [if_pos rfl]; exact hN M' v' hc)
  · exact (b308_1036 (lw_g h0 h6 hL 1 (by omega) (by omega)).1 (lw_g h0 h6 hL 1 (by omega) (by omega)).2 lw_o2).mpr hq
theorem lc_image (h : CP M v T) (hT9 : T < 800000000) (hX : ∀ j, inR ((GF X).2.2.2.2 j)) (h0 : 0 ≤ i) (h6 : i + 6 ≤ X.1) (hL : X.1 ≤ 3072) (hN : ∀ M' v', CP M' v' (T + 100) → pm_Run (d + 60) 308 1122 [.inr (.inr (.inl (-2))), vA 0, vA 234, vI i] [] (GF X, M', PTF v') K) : pm_Run (d + 60) 308 1050 [.inr (.inr (.inl (-2))), vA 0, vA 234, vI i] [] (GF X, M, PTF v) K := by
  refine (b308_1050  lw_o0).mpr ?_
  refine p_image h (K := fun r r' S => pm_Run (d + 60) 308 1058 [.inr (.inr (.inl (-2))), vA 0, vA 234, vI i] (pm_push r' (pm_push r [])) S K)  (fun M' v' y hc => ?_) (fun y M1 v1 hq => ?_)
  · exact b308_1058.mpr (by rw [if_pos rfl]; exact hN M' v' hc)
  · exact (b308_1054  lw_o2).mpr hq
theorem lc_octet (h : CP M v T) (hT9 : T < 800000000) (hX : ∀ j, inR ((GF X).2.2.2.2 j)) (h0 : 0 ≤ i) (h6 : i + 6 ≤ X.1) (hL : X.1 ≤ 3072) (hN : ∀ M' v', CP M' v' (T + 100) → pm_Run (d + 60) 308 1122 [.inr (.inr (.inl (-2))), vA 0, vA 234, vI i] [] (GF X, M', PTF v') K) : pm_Run (d + 60) 308 1063 [.inr (.inr (.inl (-2))), vA 0, vA 234, vI i] [] (GF X, M, PTF v) K := by
  refine (b308_1063 (lw_g h0 h6 hL 1 (by omega) (by omega)).1 (lw_g h0 h6 hL 1 (by omega) (by omega)).2 lw_o0).mpr ?_
  refine p_octet h (K := fun r r' S => pm_Run (d + 60) 308 1081 [.inr (.inr (.inl (-2))), vA 0, vA 234, vI i] (pm_push r' (pm_push r [])) S K) (hX _) (fun M' v' y hc => ?_) (fun y M1 v1 hq => ?_)
  · exact b308_1081.mpr (by rw [if_pos rfl]; exact hN M' v' hc)
  · exact (b308_1072 (lw_g h0 h6 hL 1 (by omega) (by omega)).1 (lw_g h0 h6 hL 1 (by omega) (by omega)).2 lw_o2).mpr hq
theorem lc_on (h : CP M v T) (hT9 : T < 800000000) (hX : ∀ j, inR ((GF X).2.2.2.2 j)) (h0 : 0 ≤ i) (h6 : i + 6 ≤ X.1) (hL : X.1 ≤ 3072) (hN : ∀ M' v', CP M' v' (T + 100) → pm_Run (d + 60) 308 1122 [.inr (.inr (.inl (-2))), vA 0, vA 234, vI i] [] (GF X, M', PTF v') K) : pm_Run (d + 60) 308 1086 [.inr (.inr (.inl (-2))), vA 0, vA 234, vI i] [] (GF X, M, PTF v) K := by
  refine (b308_1086  lw_o0).mpr ?_
  refine p_on h (K := fun r r' S => pm_Run (d + 60) 308 1094 [.inr (.inr (.inl (-2))), vA 0, vA 234, vI i] (pm_push r' (pm_push r [])) S K)  (fun M' v' y hc => ?_) (fun y M1 v1 hq => ?_)
  · exact b308_1094.mpr (by rw [if_pos rfl]; exact hN M' v' hc)
  · exact (b308_1090  lw_o2).mpr hq
theorem lc_status (h : CP M v T) (hT9 : T < 800000000) (hX : ∀ j, inR ((GF X).2.2.2.2 j)) (h0 : 0 ≤ i) (h6 : i + 6 ≤ X.1) (hL : X.1 ≤ 3072) (hN : ∀ M' v', CP M' v' (T + 100) → pm_Run (d + 60) 308 1122 [.inr (.inr (.inl (-2))), vA 0, vA 234, vI i] [] (GF X, M', PTF v') K) : pm_Run (d + 60) 308 1099 [.inr (.inr (.inl (-2))), vA 0, vA 234, vI i] [] (GF X, M, PTF v) K := by
  refine (b308_1099 (lw_g h0 h6 hL 1 (by omega) (by omega)).1 (lw_g h0 h6 hL 1 (by omega) (by omega)).2 lw_o0).mpr ?_
  refine p_status h (K := fun r r' S => pm_Run (d + 60) 308 1117 [.inr (.inr (.inl (-2))), vA 0, vA 234, vI i] (pm_push r' (pm_push r [])) S K) (hX _) (fun M' v' y hc => ?_) (fun y M1 v1 hq => ?_)
  · exact b308_1117.mpr (by rw [if_pos rfl]; exact hN M' v' hc)
  · exact (b308_1108 (lw_g h0 h6 hL 1 (by omega) (by omega)).1 (lw_g h0 h6 hL 1 (by omega) (by omega)).2 lw_o2).mpr hq
end LAW1
section LAW2
variable {d : Nat} {X : Nat × (Nat → Int)} {K : PV → PS → Prop}
theorem lw_loop (hX : ∀ j, inR ((GF X).2.2.2.2 j)) (hL : X.1 ≤ 3072) (hK : ∀ M' v', K (vI 1) (GF X, M', PTF v')) : ∀ (k : Nat) (i : Int) (M : PH) (v : Nat → Int) (T : Int), CP M v T → T + 100 * k ≤ 700000000 → 0 ≤ i → i ≤ 4000 → (X.1 : Int) < i + 6 * k → pm_Run (d + 60) 308 18 [.inr (.inr (.inl (-2))), vA 0, vA 234, vI i] [] (GF X, M, PTF v) K := by
  intro k
  induction k with
  | zero =>
    intro i M v T h hT h0 h1 h2
    have e1 : pm_sg i = i := pm_sg_i (by unfold inR; omega)
    have e2 : pm_sg (((GF X).2.2.2.1 : Int) - 6) = (X.1 : Int) - 6 := pm_sg_i (show inR ((X.1 : Int) - 6) by unfold inR; omega)
    refine b308_18.mpr ?_
    rw [e1, e2, if_pos (by omega)]
    exact b308_1128.mpr (hK M v)
  | succ k ih =>
    intro i M v T h hT h0 h1 h2
    have e1 : pm_sg i = i := pm_sg_i (by unfold inR; omega)
    have e2 : pm_sg (((GF X).2.2.2.1 : Int) - 6) = (X.1 : Int) - 6 := pm_sg_i (show inR ((X.1 : Int) - 6) by unfold inR; omega)
    refine b308_18.mpr ?_
    rw [e1, e2]
    by_cases c : (X.1 : Int) - 6 < i
    · rw [if_pos c]
      exact b308_1128.mpr (hK M v)
    · rw [if_neg c]
      have g := lw_g (L := X.1) h0 (by omega) hL 0 (by omega) (by omega)
      rw [Int.add_zero] at g
      refine (b308_27 g.1 g.2).mpr ?_
      obtain ⟨j, hj, ej⟩ := lw_31 ((GF X).2.2.2.2 (pm_sg i).toNat)
      rw [ej]
      have hT9 : T < 800000000 := by omega
      have h6 : i + 6 ≤ X.1 := by omega
      have hN : ∀ M' v', CP M' v' (T + 100) → pm_Run (d + 60) 308 1122 [.inr (.inr (.inl (-2))), vA 0, vA 234, vI i] [] (GF X, M', PTF v') K := fun M' v' hc => b308_1122.mpr (ih (i + 6) M' v' (T + 100) hc (by omega) (by omega) (by omega) (by omega))
      match j, hj with
      | 0, _ => exact (lc_feed h hT9 hX h0 h6 hL hN : pm_Run (d + 60) 308 176 [.inr (.inr (.inl (-2))), vA 0, vA 234, vI i] [] (GF X, M, PTF v) K)
      | 1, _ => exact (lc_end h hT9 hX h0 h6 hL hN : pm_Run (d + 60) 308 239 [.inr (.inr (.inl (-2))), vA 0, vA 234, vI i] [] (GF X, M, PTF v) K)
      | 2, _ => exact (lc_sea h hT9 hX h0 h6 hL hN : pm_Run (d + 60) 308 262 [.inr (.inr (.inl (-2))), vA 0, vA 234, vI i] [] (GF X, M, PTF v) K)
      | 3, _ => exact (lc_fault h hT9 hX h0 h6 hL hN : pm_Run (d + 60) 308 275 [.inr (.inr (.inl (-2))), vA 0, vA 234, vI i] [] (GF X, M, PTF v) K)
      | 4, _ => exact (lc_has h hT9 hX h0 h6 hL hN : pm_Run (d + 60) 308 298 [.inr (.inr (.inl (-2))), vA 0, vA 234, vI i] [] (GF X, M, PTF v) K)
      | 5, _ => exact (lc_letter h hT9 hX h0 h6 hL hN : pm_Run (d + 60) 308 321 [.inr (.inr (.inl (-2))), vA 0, vA 234, vI i] [] (GF X, M, PTF v) K)
      | 6, _ => exact (lc_moon h hT9 hX h0 h6 hL hN : pm_Run (d + 60) 308 364 [.inr (.inr (.inl (-2))), vA 0, vA 234, vI i] [] (GF X, M, PTF v) K)
      | 7, _ => exact (lc_harbor h hT9 hX h0 h6 hL hN : pm_Run (d + 60) 308 397 [.inr (.inr (.inl (-2))), vA 0, vA 234, vI i] [] (GF X, M, PTF v) K)
      | 8, _ => exact (lc_bids h hT9 hX h0 h6 hL hN : pm_Run (d + 60) 308 430 [.inr (.inr (.inl (-2))), vA 0, vA 234, vI i] [] (GF X, M, PTF v) K)
      | 9, _ => exact (lc_pull h hT9 hX h0 h6 hL hN : pm_Run (d + 60) 308 473 [.inr (.inr (.inl (-2))), vA 0, vA 234, vI i] [] (GF X, M, PTF v) K)
      | 10, _ => exact (lc_height h hT9 hX h0 h6 hL hN : pm_Run (d + 60) 308 506 [.inr (.inr (.inl (-2))), vA 0, vA 234, vI i] [] (GF X, M, PTF v) K)
      | 11, _ => exact (lc_ahead h hT9 hX h0 h6 hL hN : pm_Run (d + 60) 308 539 [.inr (.inr (.inl (-2))), vA 0, vA 234, vI i] [] (GF X, M, PTF v) K)
      | 12, _ => exact (lc_broken h hT9 hX h0 h6 hL hN : pm_Run (d + 60) 308 582 [.inr (.inr (.inl (-2))), vA 0, vA 234, vI i] [] (GF X, M, PTF v) K)
      | 13, _ => exact (lc_stranded h hT9 hX h0 h6 hL hN : pm_Run (d + 60) 308 605 [.inr (.inr (.inl (-2))), vA 0, vA 234, vI i] [] (GF X, M, PTF v) K)
      | 14, _ => exact (lc_bid h hT9 hX h0 h6 hL hN : pm_Run (d + 60) 308 638 [.inr (.inr (.inl (-2))), vA 0, vA 234, vI i] [] (GF X, M, PTF v) K)
      | 15, _ => exact (lc_give h hT9 hX h0 h6 hL hN : pm_Run (d + 60) 308 681 [.inr (.inr (.inl (-2))), vA 0, vA 234, vI i] [] (GF X, M, PTF v) K)
      | 16, _ => exact (lc_soothe h hT9 hX h0 h6 hL hN : pm_Run (d + 60) 308 724 [.inr (.inr (.inl (-2))), vA 0, vA 234, vI i] [] (GF X, M, PTF v) K)
      | 17, _ => exact (lc_hours h hT9 hX h0 h6 hL hN : pm_Run (d + 60) 308 757 [.inr (.inr (.inl (-2))), vA 0, vA 234, vI i] [] (GF X, M, PTF v) K)
      | 18, _ => exact (lc_storms h hT9 hX h0 h6 hL hN : pm_Run (d + 60) 308 780 [.inr (.inr (.inl (-2))), vA 0, vA 234, vI i] [] (GF X, M, PTF v) K)
      | 19, _ => exact (lc_undo h hT9 hX h0 h6 hL hN : pm_Run (d + 60) 308 803 [.inr (.inr (.inl (-2))), vA 0, vA 234, vI i] [] (GF X, M, PTF v) K)
      | 20, _ => exact (lc_seed h hT9 hX h0 h6 hL hN : pm_Run (d + 60) 308 816 [.inr (.inr (.inl (-2))), vA 0, vA 234, vI i] [] (GF X, M, PTF v) K)
      | 21, _ => exact (lc_wished h hT9 hX h0 h6 hL hN : pm_Run (d + 60) 308 839 [.inr (.inr (.inl (-2))), vA 0, vA 234, vI i] [] (GF X, M, PTF v) K)
      | 22, _ => exact (lc_rest h hT9 hX h0 h6 hL hN : pm_Run (d + 60) 308 882 [.inr (.inr (.inl (-2))), vA 0, vA 234, vI i] [] (GF X, M, PTF v) K)
      | 23, _ => exact (lc_across h hT9 hX h0 h6 hL hN : pm_Run (d + 60) 308 905 [.inr (.inr (.inl (-2))), vA 0, vA 234, vI i] [] (GF X, M, PTF v) K)
      | 24, _ => exact (lc_latest h hT9 hX h0 h6 hL hN : pm_Run (d + 60) 308 948 [.inr (.inr (.inl (-2))), vA 0, vA 234, vI i] [] (GF X, M, PTF v) K)
      | 25, _ => exact (lc_meet h hT9 hX h0 h6 hL hN : pm_Run (d + 60) 308 991 [.inr (.inr (.inl (-2))), vA 0, vA 234, vI i] [] (GF X, M, PTF v) K)
      | 26, _ => exact (lc_see h hT9 hX h0 h6 hL hN : pm_Run (d + 60) 308 1014 [.inr (.inr (.inl (-2))), vA 0, vA 234, vI i] [] (GF X, M, PTF v) K)
      | 27, _ => exact (lc_payers h hT9 hX h0 h6 hL hN : pm_Run (d + 60) 308 1027 [.inr (.inr (.inl (-2))), vA 0, vA 234, vI i] [] (GF X, M, PTF v) K)
      | 28, _ => exact (lc_image h hT9 hX h0 h6 hL hN : pm_Run (d + 60) 308 1050 [.inr (.inr (.inl (-2))), vA 0, vA 234, vI i] [] (GF X, M, PTF v) K)
      | 29, _ => exact (lc_octet h hT9 hX h0 h6 hL hN : pm_Run (d + 60) 308 1063 [.inr (.inr (.inl (-2))), vA 0, vA 234, vI i] [] (GF X, M, PTF v) K)
      | 30, _ => exact (lc_on h hT9 hX h0 h6 hL hN : pm_Run (d + 60) 308 1086 [.inr (.inr (.inl (-2))), vA 0, vA 234, vI i] [] (GF X, M, PTF v) K)
      | 31, _ => exact (lc_status h hT9 hX h0 h6 hL hN : pm_Run (d + 60) 308 1099 [.inr (.inr (.inl (-2))), vA 0, vA 234, vI i] [] (GF X, M, PTF v) K)
      | n + 32, z => exact absurd z (by omega)
end LAW2
