/-! The reference: heights; an hour goes by. -/
section RF9
variable {d b w : Nat} {X : Nat × (Nat → Int)} {v : Nat → Int} {M M' M2 : PH} {K : PV → PS → Prop} {n : Nat → Nat} {a μ : PH} {F : Nat → List Int}
theorem l255a (hS : RS M b n a F) (hM : RM M n w μ) (hw : wN n μ) {p : Nat} (hp : p < n 0) {l2 : Int} (hK : ∀ M', fk M M' → pm_Run (d + 5) 255 56 [vA 234, vI (w : Int), vI l2, vI (p : Int), vI (sm (fun m => pls n F μ m p) (n 1)), vI (n 1 : Int)] [] (GF X, M', PTF v) K) : pm_Run (d + 5) 255 23 [vA 234, vI (w : Int), vI l2, vI (p : Int), vI 0, vI 0] [] (GF X, M, PTF v) K := by
  have hn := hS.2.2.1
  have main : ∀ k j, j + k = n 1 → ∀ Mx, fk M Mx → pm_Run (d + 5) 255 23 [vA 234, vI (w : Int), vI l2, vI (p : Int), vI (sm (fun m => pls n F μ m p) j), vI (j : Int)] [] (GF X, Mx, PTF v) K := by
    intro k
    induction k with
    | zero =>
      intro j hj Mx fx
      have hSx := RS_w (w := 0) (fh_w (fk_h fx)) hS
      obtain ⟨⟨hb, e13⟩, ⟨-, e1, -⟩, -⟩ := hSx.1
      have en : Mx 237 (Mx 234 13).toNat = (n 1 : Int) := by rw [e13, Int.toNat_natCast, e1]
      rw [r255_23 (by omega) (by omega) (by omega) (by rw [en]; omega), en, if_pos (by omega), show j = n 1 by omega]
      exact hK Mx fx
    | succ k ih =>
      intro j hj Mx fx
      have hSx := RS_w (w := 0) (fh_w (fk_h fx)) hS
      obtain ⟨⟨hb, e13⟩, ⟨-, e1, -⟩, -⟩ := hSx.1
      have en : Mx 237 (Mx 234 13).toNat = (n 1 : Int) := by rw [e13, Int.toNat_natCast, e1]
      rw [r255_23 (by omega) (by omega) (by omega) (by rw [en]; omega), en, if_neg (by omega), r255_37]
      refine c251 hSx (RM_h (fk_h fx) hM) hw (by omega) hp (fun My fy => ?_)
      rw [push_i, r255_47]
      exact ih (j + 1) (by omega) My (fk_t fx fy)
  exact main (n 1) 0 (by omega) M fk_r
theorem l255b (hS : RS M b n a F) (hM : RM M n w μ) (hw : wN n μ) (hK : ∀ M' l4 l5, fh M M' → (∀ p, p < n 0 → M' 277 p = (n 5 : Int) + sm (fun m => pls n F μ m p) (n 1)) → pm_Run (d + 5) 255 85 [vA 234, vI (w : Int), vI (sm (fun p => sm (fun m => pls n F μ m p) (n 1)) (n 0)), vI (n 0 : Int), l4, l5] [] (GF X, M', PTF v) K) : pm_Run (d + 5) 255 4 [vA 234, vI (w : Int), vI 0, vI 0, PU, PU] [] (GF X, M, PTF v) K := by
  have hn := hS.2.2.1
  have main : ∀ k j, j + k = n 0 → ∀ Mx l4 l5, fh M Mx → (∀ p, p < j → Mx 277 p = (n 5 : Int) + sm (fun m => pls n F μ m p) (n 1)) → pm_Run (d + 5) 255 4 [vA 234, vI (w : Int), vI (sm (fun p => sm (fun m => pls n F μ m p) (n 1)) j), vI (j : Int), l4, l5] [] (GF X, Mx, PTF v) K := by
    intro k
    induction k with
    | zero =>
      intro j hj Mx l4 l5 fx hx
      have hSx := RS_w (w := 0) (fh_w fx) hS
      obtain ⟨⟨hb, e13⟩, ⟨e0, -⟩, -⟩ := hSx.1
      have en : Mx 236 (Mx 234 13).toNat = (n 0 : Int) := by rw [e13, Int.toNat_natCast, e0]
      rw [r255_4 (by omega) (by omega) (by omega) (by rw [en]; omega), en, if_pos (by omega), show j = n 0 by omega]
      exact hK Mx l4 l5 fx (fun p hp => hx p (by omega))
    | succ k ih =>
      intro j hj Mx l4 l5 fx hx
      have hSx := RS_w (w := 0) (fh_w fx) hS
      obtain ⟨⟨hb, e13⟩, ⟨e0, -⟩, -⟩ := hSx.1
      have en : Mx 236 (Mx 234 13).toNat = (n 0 : Int) := by rw [e13, Int.toNat_natCast, e0]
      rw [r255_4 (by omega) (by omega) (by omega) (by rw [en]; omega), en, if_neg (by omega), r255_17]
      refine l255a hSx (RM_h fx hM) hw (by omega) (fun My fy => ?_)
      have hSy := RS_w (w := 0) (fh_w (fk_h fy)) hSx
      obtain ⟨⟨-, e13y⟩, ⟨-, -, -, -, -, e5, -⟩, -⟩ := hSy.1
      have en5 : My 257 (My 234 13).toNat = (n 5 : Int) := by rw [e13y, Int.toNat_natCast, e5]
      rw [r255_56 (by omega) (by omega) (by omega) (by omega), r255_74, en5, Int.toNat_natCast]
      refine ih (j + 1) (by omega) _ _ _ (fh_t (fh_t fx (fk_h fy)) ⟨fun q z1 z2 z3 => by rw [sa_n z3], fun _ _ => rfl⟩) (fun p hp => ?_)
      rw [sa_s]
      by_cases q : p = j
      · subst q; rw [up_s]
      · rw [up_n q, fy.1 277 (by omega) (by omega)]; exact hx p (by omega)
  exact main (n 0) 0 (by omega) M PU PU fh_r (fun p hp => by omega)
theorem c255 (hS : RS M b n a F) (hM : RM M n w μ) (hw : wN n μ) (h0 : 0 < n 0) (hK : ∀ M', fh M M' → (∀ p, p < n 0 → M' 277 p = hts n F μ p) → K PU (GF X, M', PTF v)) : pm_Call (d + 6) 255 [vA 234, vI (w : Int)] (GF X, M, PTF v) K := by
  have hn := hS.2.2.1
  rw [en255, r255_0]
  refine l255b hS hM hw (fun M1 l4 l5 f1 h1 => ?_)
  have hS1 := RS_w (w := 0) (fh_w f1) hS
  obtain ⟨⟨hb, e13⟩, ⟨e0, -⟩, -⟩ := hS1.1
  have en : M1 236 (M1 234 13).toNat = (n 0 : Int) := by rw [e13, Int.toNat_natCast, e0]
  have tb := tot_b (n := n) (pp := pls n F μ) (by omega) (by omega) (fun m p _ _ => pl_b)
  have ex : sm (fun p => sm (fun m => pls n F μ m p) (n 1)) (n 0) = sm (fun m => sm (pls n F μ m) (n 0)) (n 1) := sm_x
  rw [ex, r255_85 (by omega) (by omega) (by omega) (by rw [en]; omega), en, c246 (by omega) (by omega), if_neg (by omega), push_l, r255_100 (by omega) (by omega), en]
  generalize hT : sm (fun m => sm (pls n F μ m) (n 0)) (n 1) = T
  rw [hT] at tb
  have fd := fd_le (a := T) (b := (n 0 : Int)) (n := 10000) (by omega)
  have fm : T - T.fdiv (n 0) * (n 0 : Int) = T.fmod (n 0) := by rw [Int.fmod_def, Int.mul_comm]
  have fm1 := Int.fmod_nonneg_of_pos T (show (0 : Int) < (n 0 : Int) by omega)
  have fm2 := Int.fmod_lt_of_pos T (show (0 : Int) < (n 0 : Int) by omega)
  have main : ∀ k j, j + k = n 0 → ∀ Mx, fh M Mx → (∀ p, p < j → Mx 277 p = hts n F μ p) → (∀ p, j ≤ p → p < n 0 → Mx 277 p = (n 5 : Int) + sm (fun m => pls n F μ m p) (n 1)) → pm_Run (d + 5) 255 120 [vA 234, vI (w : Int), vI T, vI (T.fdiv (n 0)), vI (T - T.fdiv (n 0) * (n 0 : Int)), vI (j : Int)] [] (GF X, Mx, PTF v) K := by
    intro k
    induction k with
    | zero =>
      intro j hj Mx fx hx _
      have hSx := RS_w (w := 0) (fh_w fx) hS
      obtain ⟨⟨hb, e13⟩, ⟨e0, -⟩, -⟩ := hSx.1
      have en : Mx 236 (Mx 234 13).toNat = (n 0 : Int) := by rw [e13, Int.toNat_natCast, e0]
      rw [r255_120 (by omega) (by omega) (by omega) (by rw [en]; omega), en, if_pos (by omega), r255_164]
      exact hK Mx fx (fun p hp => hx p (by omega))
    | succ k ih =>
      intro j hj Mx fx hx hy
      have hSx := RS_w (w := 0) (fh_w fx) hS
      obtain ⟨⟨hb, e13⟩, ⟨e0, -⟩, -⟩ := hSx.1
      have en : Mx 236 (Mx 234 13).toNat = (n 0 : Int) := by rw [e13, Int.toNat_natCast, e0]
      rw [r255_120 (by omega) (by omega) (by omega) (by rw [en]; omega), en, if_neg (by omega), r255_134 (by omega) (by omega) (by omega) (by omega), Int.toNat_natCast, hy j (by omega) (by omega)]
      have st : ∀ x, hts n F μ j = (n 5 : Int) + sm (fun m => pls n F μ m j) (n 1) - (T.fdiv (n 0) + x) → pm_Run (d + 5) 255 155 [vA 234, vI (w : Int), vI T, vI (T.fdiv (n 0)), vI (T - T.fdiv (n 0) * (n 0 : Int)), vI (j : Int)] [vI x, vI (T.fdiv (n 0)), vI ((n 5 : Int) + sm (fun m => pls n F μ m j) (n 1)), vI (j : Int), vA 277] (GF X, Mx, PTF v) K := by
        intro x hx2
        rw [r255_155 (by omega) (by omega), r255_158, Int.toNat_natCast, ← hx2]
        refine ih (j + 1) (by omega) _ (fh_t fx ⟨fun q z1 z2 z3 => by rw [sa_n z3], fun _ _ => rfl⟩) (fun p hp => ?_) (fun p hp hp2 => ?_)
        · rw [sa_s]
          by_cases q : p = j
          · subst q; rw [up_s]
          · rw [up_n q]; exact hx p (by omega)
        · rw [sa_s, up_n (by omega)]; exact hy p (by omega) hp2
      have eh : hts n F μ j = (n 5 : Int) + sm (fun m => pls n F μ m j) (n 1) - T.fdiv (n 0) - (if (j : Int) < T - T.fdiv (n 0) * (n 0 : Int) then 1 else 0) := by rw [hts, hg, hT]
      by_cases q : (j : Int) < T - T.fdiv (n 0) * (n 0 : Int)
      · rw [if_neg (by omega), r255_150]
        exact st 1 (by rw [eh, if_pos q]; omega)
      · rw [if_pos (by omega), r255_154]
        exact st 0 (by rw [eh, if_neg q]; omega)
  exact main (n 0) 0 (by omega) M1 f1 (fun p hp => by omega) (fun p _ hp => h1 p hp)
theorem RM_0 (hM : RM M n w μ) {x : Int} : RM (pm_sa M 270 (pm_up (M 270) w x)) n w (ups μ 0 0 x) := by
  obtain ⟨m0, m1, m2, m3, m4⟩ := hM
  refine ⟨m0, by rw [sa_s, up_s, ups_s], fun m hm => ?_, fun h hh => ?_, fun h m hh hm => ?_⟩
  · rw [sa_n (by omega), sa_n (by omega), ups_i (by omega), ups_i (by omega)]; exact m2 m hm
  · rw [sa_n (by omega), ups_i (by omega)]; exact m3 h hh
  · rw [sa_n (by omega), sa_n (by omega), ups_i (by omega), ups_i (by omega)]; exact m4 h m hh hm
theorem RM_1 (hM : RM M n w μ) {k : Nat} {x : Int} : RM (pm_sa M 271 (pm_up (M 271) (3 * w + k) x)) n w (ups μ 1 k x) := by
  obtain ⟨m0, m1, m2, m3, m4⟩ := hM
  refine ⟨m0, by rw [sa_n (by omega), ups_i (by omega)]; exact m1, fun m hm => ?_, fun h hh => ?_, fun h m hh hm => ?_⟩
  · rw [sa_s, sa_n (by omega), ups_i (i := 1) (j := 2) (by omega)]
    by_cases q : m = k
    · subst q; rw [up_s, ups_s]; exact ⟨rfl, (m2 m hm).2⟩
    · rw [up_n (by omega), ups_n (by omega)]; exact m2 m hm
  · rw [sa_n (by omega), ups_i (by omega)]; exact m3 h hh
  · rw [sa_n (by omega), sa_n (by omega), ups_i (by omega), ups_i (by omega)]; exact m4 h m hh hm
theorem RM_2 (hM : RM M n w μ) {k : Nat} {x : Int} : RM (pm_sa M 272 (pm_up (M 272) (3 * w + k) x)) n w (ups μ 2 k x) := by
  obtain ⟨m0, m1, m2, m3, m4⟩ := hM
  refine ⟨m0, by rw [sa_n (by omega), ups_i (by omega)]; exact m1, fun m hm => ?_, fun h hh => ?_, fun h m hh hm => ?_⟩
  · rw [sa_n (by omega), sa_s, ups_i (i := 2) (j := 1) (by omega)]
    by_cases q : m = k
    · subst q; rw [up_s, ups_s]; exact ⟨(m2 m hm).1, rfl⟩
    · rw [up_n (by omega), ups_n (by omega)]; exact m2 m hm
  · rw [sa_n (by omega), ups_i (by omega)]; exact m3 h hh
  · rw [sa_n (by omega), sa_n (by omega), ups_i (by omega), ups_i (by omega)]; exact m4 h m hh hm
theorem RM_3 (hM : RM M n w μ) {k : Nat} {x : Int} : RM (pm_sa M 273 (pm_up (M 273) (8 * w + k) x)) n w (ups μ 3 k x) := by
  obtain ⟨m0, m1, m2, m3, m4⟩ := hM
  refine ⟨m0, by rw [sa_n (by omega), ups_i (by omega)]; exact m1, fun m hm => ?_, fun h hh => ?_, fun h m hh hm => ?_⟩
  · rw [sa_n (by omega), sa_n (by omega), ups_i (by omega), ups_i (by omega)]; exact m2 m hm
  · rw [sa_s]
    by_cases q : h = k
    · subst q; rw [up_s, ups_s]
    · rw [up_n (by omega), ups_n (by omega)]; exact m3 h hh
  · rw [sa_n (by omega), sa_n (by omega), ups_i (by omega), ups_i (by omega)]; exact m4 h m hh hm
theorem RM_4 (hM : RM M n w μ) (h3 : n 1 ≤ 3) {k o : Nat} (ho : o < 3) {x : Int} : RM (pm_sa M 274 (pm_up (M 274) (24 * w + 3 * k + o) x)) n w (ups μ 4 (k * 3 + o) x) := by
  obtain ⟨m0, m1, m2, m3, m4⟩ := hM
  refine ⟨m0, by rw [sa_n (by omega), ups_i (by omega)]; exact m1, fun m hm => ?_, fun h hh => ?_, fun h m hh hm => ?_⟩
  · rw [sa_n (by omega), sa_n (by omega), ups_i (by omega), ups_i (by omega)]; exact m2 m hm
  · rw [sa_n (by omega), ups_i (by omega)]; exact m3 h hh
  · rw [sa_s, sa_n (by omega), ups_i (i := 4) (j := 5) (by omega)]
    by_cases q : h = k ∧ m = o
    · obtain ⟨rfl, rfl⟩ := q; rw [up_s, ups_s]; exact ⟨rfl, (m4 h m hh hm).2⟩
    · rw [up_n (by omega), ups_n (by omega)]; exact m4 h m hh hm
theorem RM_5 (hM : RM M n w μ) (h3 : n 1 ≤ 3) {k o : Nat} (ho : o < 3) {x : Int} : RM (pm_sa M 275 (pm_up (M 275) (24 * w + 3 * k + o) x)) n w (ups μ 5 (k * 3 + o) x) := by
  obtain ⟨m0, m1, m2, m3, m4⟩ := hM
  refine ⟨m0, by rw [sa_n (by omega), ups_i (by omega)]; exact m1, fun m hm => ?_, fun h hh => ?_, fun h m hh hm => ?_⟩
  · rw [sa_n (by omega), sa_n (by omega), ups_i (by omega), ups_i (by omega)]; exact m2 m hm
  · rw [sa_n (by omega), ups_i (by omega)]; exact m3 h hh
  · rw [sa_n (by omega), sa_s, ups_i (i := 5) (j := 4) (by omega)]
    by_cases q : h = k ∧ m = o
    · obtain ⟨rfl, rfl⟩ := q; rw [up_s, ups_s]; exact ⟨(m4 h m hh hm).1, rfl⟩
    · rw [up_n (by omega), ups_n (by omega)]; exact m4 h m hh hm
theorem fw_0 {x : Int} : fw w M (pm_sa M 270 (pm_up (M 270) w x)) := by
  refine ⟨fun q z1 z2 => by rw [sa_n (by omega)], fun j z => rfl, fun k z => by rw [sa_s, up_n z], fun k z => ⟨rfl, rfl⟩, fun k z => rfl, fun k z => ⟨rfl, rfl⟩⟩
theorem fw_1 {o : Nat} (ho : o < 3) {x : Int} : fw w M (pm_sa M 271 (pm_up (M 271) (3 * w + o) x)) := by
  refine ⟨fun q z1 z2 => by rw [sa_n (by omega)], fun j z => rfl, fun k z => rfl, fun k z => ⟨by rw [sa_s, up_n (by omega)], rfl⟩, fun k z => rfl, fun k z => ⟨rfl, rfl⟩⟩
theorem fw_2 {o : Nat} (ho : o < 3) {x : Int} : fw w M (pm_sa M 272 (pm_up (M 272) (3 * w + o) x)) := by
  refine ⟨fun q z1 z2 => by rw [sa_n (by omega)], fun j z => rfl, fun k z => rfl, fun k z => ⟨rfl, by rw [sa_s, up_n (by omega)]⟩, fun k z => rfl, fun k z => ⟨rfl, rfl⟩⟩
theorem fw_3 {o : Nat} (ho : o < 8) {x : Int} : fw w M (pm_sa M 273 (pm_up (M 273) (8 * w + o) x)) := by
  refine ⟨fun q z1 z2 => by rw [sa_n (by omega)], fun j z => rfl, fun k z => rfl, fun k z => ⟨rfl, rfl⟩, fun k z => by rw [sa_s, up_n (by omega)], fun k z => ⟨rfl, rfl⟩⟩
theorem fw_4 {h o : Nat} (hh : h < 8) (ho : o < 3) {x : Int} : fw w M (pm_sa M 274 (pm_up (M 274) (24 * w + 3 * h + o) x)) := by
  refine ⟨fun q z1 z2 => by rw [sa_n (by omega)], fun j z => rfl, fun k z => rfl, fun k z => ⟨rfl, rfl⟩, fun k z => rfl, fun k z => ⟨by rw [sa_s, up_n (by omega)], rfl⟩⟩
theorem fw_5 {h o : Nat} (hh : h < 8) (ho : o < 3) {x : Int} : fw w M (pm_sa M 275 (pm_up (M 275) (24 * w + 3 * h + o) x)) := by
  refine ⟨fun q z1 z2 => by rw [sa_n (by omega)], fun j z => rfl, fun k z => rfl, fun k z => ⟨rfl, rfl⟩, fun k z => rfl, fun k z => ⟨rfl, by rw [sa_s, up_n (by omega)]⟩⟩
end RF9
