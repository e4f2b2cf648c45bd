/-! Constructors of both sides. -/
section NEW5
variable {d m p q : Nat} {ls st : List PV} {G : PG} {M T : PH} {K : PV → PS → Prop} {S : PS} {a b ci kd k idx n : Nat} {c : Int} {lm lt : List Int}
def CTb (b m ci dep : Nat) (kl : List (Nat × Nat)) (Rm Rt : List (Nat × List Int)) : Prop := ∀ (d : Nat) (G : PG) (M T : PH) (K : PV → PS → Prop), FR G M T → G.1 = b + 1 → (G.2.2.1 b).1 = ci → M b = pz [] → T b = rl [] → K PU (alL G kl, asM M Rm, asT T Rt) → pm_Call (d + dep) m [vA b] (G, M, T) K
theorem sf_R {f g : Nat → Int} {x : Nat} (h : OC G M T a ci) (hc : pm_fe m p = some (.putfield idx, 3) ∧ pm_fr (pm_cl m) idx = some (ci, k) ∧ k < pm_nf ci ∧ pm_may m ci k ∧ pm_tag (pm_ft ci k) = 2) : pm_Run d m p ls (vA x :: vA a :: st) (G, pm_sa M a f, pm_sa T a g) K ↔ pm_Run d m (p + 3) ls st (G, pm_sa M a f, pm_sa T a (pm_up g k (x : Int))) K := by
  refine (px_put2 hc).trans ((and_iff_right ⟨OC_ob h, Int.natCast_nonneg _⟩).trans ?_)
  rw [Int.toNat_natCast, sa_2, show pm_sa T a g a = g from if_pos rfl]
theorem sf_arr {f g : Nat → Int} {t : ArrayType} {n1 : Nat} (h : OC G M T a ci) (hn : G.1 = n1) (hc : pm_fe m p = some (.aload_n 0, 1) ∧ isPu m (p + 1) (n : Int) q = true ∧ pm_fe m q = some (.newarray t, 2) ∧ kdA t = some kd ∧ n ≤ 100000) (hp : pm_fe m (q + 2) = some (.putfield idx, 3) ∧ pm_fr (pm_cl m) idx = some (ci, k) ∧ k < pm_nf ci ∧ pm_may m ci k ∧ pm_tag (pm_ft ci k) = 2) (kk : pm_Run d m (q + 5) (vA a :: ls) [] (alL G [(kd, n)], pm_sa M a f, pm_sa T a (pm_up g k (n1 : Int))) K) : pm_Run d m p (vA a :: ls) [] (G, pm_sa M a f, pm_sa T a g) K := by
  obtain ⟨h1, h2, h3, h4, h5⟩ := hc
  subst hn
  refine (px_go h1 rfl).mpr ?_
  refine (px_pu h2).mpr ?_
  refine (px_nwA h3 h4 h5 (FR_st (FR_sm h.1 h.2.1) h.2.1)).mpr ?_
  exact (sf_R (G := alL G [(kd, n)]) (OC_al h) hp).mpr kk
theorem sf_int {f g : Nat → Int} (h : OC G M T a ci) (hc : pm_fe m p = some (.aload_n 0, 1) ∧ isPu m (p + 1) c q = true) (hp : pm_fe m q = some (.putfield idx, 3) ∧ pm_fr (pm_cl m) idx = some (ci, k) ∧ k < pm_nf ci ∧ pm_may m ci k ∧ (pm_tag (pm_ft ci k) = 0 ∨ (pm_tag (pm_ft ci k) = 3 ∧ (c = 0 ∨ c = 1)))) (kk : pm_Run d m (q + 3) (vA a :: ls) [] (G, pm_sa M a (pm_up f k c), pm_sa T a g) K) : pm_Run d m p (vA a :: ls) [] (G, pm_sa M a f, pm_sa T a g) K := by
  obtain ⟨h1, h2⟩ := hc
  obtain ⟨p1, p2, p3, p4, p5⟩ := hp
  refine (px_go h1 rfl).mpr ?_
  refine (px_pu h2).mpr ?_
  have e : pm_sa (pm_sa M a f) (a : Int).toNat (pm_up (pm_sa M a f (a : Int).toNat) k c) = pm_sa M a (pm_up f k c) := by
    rw [Int.toNat_natCast, sa_2, show pm_sa M a f a = f from if_pos rfl]
  rcases p5 with p5 | ⟨p5, p6⟩
  · refine (px_put0 ⟨p1, p2, p3, p4, p5⟩).mpr ⟨OC_ob h, ?_⟩
    rw [e]; exact kk
  · refine (px_put3 ⟨p1, p2, p3, p4, p5⟩).mpr ⟨⟨OC_ob h, p6⟩, ?_⟩
    rw [e]; exact kk
theorem sf_lng {f g : Nat → Int} {z : Fin 2} (h : OC G M T a ci) (hc : pm_fe m p = some (.aload_n 0, 1) ∧ pm_fe m (p + 1) = some (.lconst z, 1)) (hp : pm_fe m (p + 2) = some (.putfield idx, 3) ∧ pm_fr (pm_cl m) idx = some (ci, k) ∧ k < pm_nf ci ∧ pm_may m ci k ∧ pm_tag (pm_ft ci k) = 1) (kk : pm_Run d m (p + 5) (vA a :: ls) [] (G, pm_sa M a (pm_up f k ((z : Nat) : Int)), pm_sa T a g) K) : pm_Run d m p (vA a :: ls) [] (G, pm_sa M a f, pm_sa T a g) K := by
  refine (px_go hc.1 rfl).mpr ?_
  refine (px_go hc.2 rfl).mpr ?_
  refine (px_put1 hp).mpr ⟨OC_ob h, ?_⟩
  rw [Int.toNat_natCast, sa_2, show pm_sa M a f a = f from if_pos rfl]
  exact kk
theorem sf_ast {f g : Nat → Int} {q2 y : Nat} {x : Int} (h : OC G M T a ci) (hy : g k = (y : Int)) (hyG : y < G.1) (hya : y ≠ a) (hkd : G.2.2.1 y = (100, n)) (hn : 0 < n ∧ n ≤ 100000) (hMy : M y = pz []) (hg : pm_fe m p = some (.aload_n 0, 1) ∧ (pm_fe m (p + 1) = some (.getfield idx, 3) ∧ pm_fr (pm_cl m) idx = some (ci, k) ∧ k < pm_nf ci ∧ pm_tag (pm_ft ci k) = 2)) (hc : isPu m (p + 4) 0 q = true ∧ isPu m q x q2 = true ∧ pm_fe m q2 = some (.iastore, 1)) (kk : OC G (pm_sa M y (pz [x])) T a ci → pm_Run d m (q2 + 1) (vA a :: ls) [] (G, pm_sa (pm_sa M y (pz [x])) a f, pm_sa T a g) K) : pm_Run d m p (vA a :: ls) [] (G, pm_sa M a f, pm_sa T a g) K := by
  refine (px_go hg.1 rfl).mpr ?_
  refine (px_get2 hg.2).mpr ⟨OC_ob h, ?_⟩
  rw [show pm_sa T a g (a : Int).toNat k = (y : Int) from by rw [Int.toNat_natCast]; exact (congrFun (if_pos rfl) k).trans hy]
  refine (px_pu hc.1).mpr ?_
  refine (px_pu hc.2.1).mpr ?_
  refine (px_iastore hc.2.2).mpr ⟨ar_mk (j := 0) hyG hkd hn.1 hn.2, ?_⟩
  have e : pm_sa (pm_sa M a f) y (pm_up (pm_sa M a f y) 0 x) = pm_sa (pm_sa M y (pz [x])) a f := by
    rw [show pm_sa M a f y = pz [0] from (if_neg hya).trans (hMy.trans (pz_rep 1).symm), pz_set (by decide), sa_cm (fun z => hya z.symm)]
    rfl
  rw [Int.toNat_natCast, show (pm_sg 0).toNat = 0 from by decide, e]
  exact kk ⟨FR_sm h.1 hyG, h.2.1, h.2.2⟩
theorem alL_kd : ∀ (l : List (Nat × Nat)) (G : PG) (i : Nat) (x : Nat × Nat), l[i]? = some x → (alL G l).2.2.1 (G.1 + i) = x
  | [], _, _, _, h => by cases h
  | y :: r, G, 0, x, h => by
    cases h
    show (alL (alG G y.1 y.2) r).2.2.1 G.1 = y
    rw [alL_k r _ _ (Nat.lt_succ_self _)]
    exact kd_new
  | y :: r, G, i + 1, x, h => by
    have := alL_kd r (alG G y.1 y.2) i x h
    rw [show (alG G y.1 y.2).1 + i = G.1 + (i + 1) from by show G.1 + 1 + i = _; omega] at this
    exact this
theorem fx76 {f g : Nat → Int} (h1 : ∀ k, k < 76 → f k = g k) (h2 : ∀ k, 76 ≤ k → f k = g k) : f = g := funext fun k => if z : k < 76 then h1 k z else h2 k (by omega)
theorem g76 {l : List Int} {k : Nat} (hk : 76 ≤ k) (hl : l.length ≤ 76) : pz l k = pz [] k := by
  show l.getD k 0 = 0
  rw [List.getD_eq_getElem?_getD, List.getElem?_eq_none (by omega)]
  rfl
theorem h76 {l : List Int} {k : Nat} (hk : 76 ≤ k) (hl : l.length ≤ 76) : rl l k = rl [] k := by
  show l.getD k (-1) = -1
  rw [List.getD_eq_getElem?_getD, List.getElem?_eq_none (by omega)]
  rfl
end NEW5
def kl131 : List (Nat × Nat) := [(101, 1600)] ++ [(100, 6)] ++ ((5, 6) :: [(100, 3), (100, 3), (100, 8), (100, 24), (100, 24)]) ++ ((1, 18) :: [(100, 3), (100, 3), (100, 8), (100, 8), (100, 8), (100, 16), (100, 16), (100, 16), (5, 6), (100, 3), (100, 3), (100, 8), (100, 24), (100, 24), (3, 7), (100, 1600), (100, 8), (100, 8), (100, 8), (100, 29), (100, 64)]) ++ ((6, 5) :: [(4, 9), (100, 29), (101, 0), (1, 18), (100, 3), (100, 3), (100, 8), (100, 8), (100, 8), (100, 16), (100, 16), (100, 16), (5, 6), (100, 3), (100, 3), (100, 8), (100, 24), (100, 24), (3, 7), (100, 1600), (100, 8), (100, 8), (100, 8), (100, 29), (100, 64)]) ++ ((9, 2) :: [(100, 72), (100, 24)]) ++ ((2, 13) :: [(9, 2), (100, 72), (100, 24), (5, 6), (100, 3), (100, 3), (100, 8), (100, 24), (100, 24), (100, 72), (100, 1176), (100, 392), (100, 392)]) ++ ((0, 17) :: [(9, 2), (100, 72), (100, 24), (100, 693), (100, 693), (100, 693), (100, 3), (100, 3), (100, 3), (100, 3), (5, 6), (100, 3), (100, 3), (100, 8), (100, 24), (100, 24)]) ++ ((10, 11) :: [(9, 2), (100, 72), (100, 24), (5, 6), (100, 3), (100, 3), (100, 8), (100, 24), (100, 24), (100, 20), (100, 20)]) ++ ((7, 3) :: kl99) ++ ((8, 6) :: [(101, 97), (5, 6), (100, 3), (100, 3), (100, 8), (100, 24), (100, 24), (101, 0)])
def lm131 : List (Nat × List Int) := shM 3 [(0, [0, 0, 0, 0, 0, 0])] ++ shM 9 [(9, [0, 0, 0, 0, 0, 0]), (15, [0, 0, 0, 0, 0, 0, 0]), (0, [0, 0, 0, 0, 0, 20, 50, 0, 0, 0, 0, 0, 0, 0, 0, 0, 0, 0])] ++ shM 31 [(2, KEYS), (1, [0, 0, 0, 0, 0, 0, 0, 0, 0]), (13, [0, 0, 0, 0, 0, 0]), (19, [0, 0, 0, 0, 0, 0, 0]), (4, [0, 0, 0, 0, 0, 20, 50, 0, 0, 0, 0, 0, 0, 0, 0, 0, 0, 0]), (0, [0, 0, 0, 0, -1])] ++ shM 57 [(0, [0, 0])] ++ shM 60 [(1, [0, 0]), (4, [0, 0, 0, 0, 0, 0]), (0, [0, 0, 0, 0, 0, 0, 0, 0, 48, 0, -1, -1, -1])] ++ shM 74 [(1, [0, 0]), (11, [0, 0, 0, 0, 0, 0]), (0, [0, 0, 0, 0, 0, 0, 0, 0, 0, 0, 0, -1, 0, -1, 0, 0, 0])] ++ shM 91 [(1, [0, 0]), (4, [0, 0, 0, 0, 0, 0]), (0, [0, 0, 0, 0, 0, 0, 0, 0, 0, 0, 0])] ++ shM 103 rm99 ++ shM 225 [(2, [0, 0, 0, 0, 0, 0]), (0, [0, 0, 0, 0, 0, 0])] ++ [(0, [0, 0, 0, 0, 0, 0, 0, 0, 0, 0, 0, 0, 1])]
def lt131 : List (Nat × List Int) := shT 3 [(0, [-1, 1, 2, 3, 4, 5])] ++ shT 9 [(9, [-1, 10, 11, 12, 13, 14]), (15, [16, 17, 18, 19, 20, 21, -1]), (0, [-1, -1, -1, -1, -1, -1, -1, -1, 1, 2, 3, 4, 5, 6, 7, 8, 9, 15])] ++ shT 31 [(1, [2, 3, -1, -1, -1, -1, -1, -1, -1]), (13, [-1, 14, 15, 16, 17, 18]), (19, [20, 21, 22, 23, 24, 25, -1]), (4, [-1, -1, -1, -1, -1, -1, -1, -1, 5, 6, 7, 8, 9, 10, 11, 12, 13, 19]), (0, [1, 4, -1, -1, -1])] ++ shT 57 [(0, [1, 2])] ++ (shT 60 [(1, [2, 3]), (4, [-1, 5, 6, 7, 8, 9])] ++ [(60, [61, 64, 70, 71, 72, 73, 3, 9, -1, -1, -1, -1, -1])]) ++ (shT 74 [(1, [2, 3]), (11, [-1, 12, 13, 14, 15, 16])] ++ [(74, [75, 78, 79, 80, 81, 82, 83, 3, 9, -1, -1, -1, -1, -1, 84, 85, -1])]) ++ (shT 91 [(1, [2, 3]), (4, [-1, 5, 6, 7, 8, 9])] ++ [(91, [92, 95, 101, 102, 3, 9, -1, -1, -1, -1, -1])]) ++ shT 103 rt99 ++ shT 225 [(2, [-1, 3, 4, 5, 6, 7]), (0, [1, 2, -1, 8, -1, -1])] ++ [(0, [1, 2, 3, 9, 31, 57, 60, 74, 91, 103, 225, -1, -1])]
set_option maxRecDepth 20000 in
theorem t131 : CTb 0 131 11 4 kl131 lm131 lt131 := by
  intro d G M T K hF hG hk hM hT kk
  obtain ⟨g1, g2⟩ := G
  have eg : g1 = 1 := hG
  subst eg
  have h0 : OC (1, g2) M T 0 11 := ⟨hF, Nat.lt_succ_self 0, hk⟩
  suffices hs : pm_Run (d + 3) 131 0 [vA 0] [] ((1, g2), pm_sa M 0 (pz [0, 0, 0, 0, 0, 0, 0, 0, 0, 0, 0, 0, 0]), pm_sa T 0 (rl [-1, -1, -1, -1, -1, -1, -1, -1, -1, -1, -1, -1, -1])) K by
    rw [show pm_sa M 0 (pz [0, 0, 0, 0, 0, 0, 0, 0, 0, 0, 0, 0, 0]) = M from sa_0 (hM.trans (pz_rep 13).symm), show pm_sa T 0 (rl [-1, -1, -1, -1, -1, -1, -1, -1, -1, -1, -1, -1, -1]) = T from sa_0 (hT.trans (pl_rep 13).symm)] at hs
    exact (en131 (d := d + 3)).mpr hs
  refine st_ini (idx := 1) (by decide +kernel) ?_
  refine st_arr (p := 4) (q := 8) (n := 1600) (kd := 101) (t := .byte) (idx := 9) (k := 0) h0 (by decide +kernel) (by decide +kernel) (Nat.le_of_ble_eq_true rfl) ?_
  have h1 := OC_al (kd := 101) (n := 1600) h0
  refine st_arr (p := 13) (q := 16) (n := 6) (kd := 100) (t := .int) (idx := 13) (k := 1) h1 (by decide +kernel) (by decide +kernel) (Nat.le_of_ble_eq_true rfl) ?_
  have h2 := OC_al (kd := 100) (n := 6) h1
  refine st_new (p := 21) (idx1 := 17) (idx2 := 19) (nest := 1) (n := 6) (idx := 20) (k := 2) t54 (by decide) (by omega) h2 (by decide +kernel) (by decide +kernel) (Nat.le_of_ble_eq_true rfl) (fun h3 => ?_)
  refine st_new (p := 32) (idx1 := 24) (idx2 := 26) (nest := 1) (n := 18) (idx := 27) (k := 3) t12 (by decide) (by omega) h3 (by decide +kernel) (by decide +kernel) (Nat.le_of_ble_eq_true rfl) (fun h4 => ?_)
  refine st_new (p := 43) (idx1 := 31) (idx2 := 33) (nest := 1) (n := 5) (idx := 34) (k := 4) t66 (by decide) (by omega) h4 (by decide +kernel) (by decide +kernel) (Nat.le_of_ble_eq_true rfl) (fun h5 => ?_)
  refine st_new (p := 54) (idx1 := 38) (idx2 := 40) (nest := 1) (n := 2) (idx := 41) (k := 5) t112 (by decide) (by omega) h5 (by decide +kernel) (by decide +kernel) (Nat.le_of_ble_eq_true rfl) (fun h6 => ?_)
  refine st_new2 (p := 65) (idx1 := 45) (idx2 := 47) (nest := 0) (n := 13) (idx := 50) (k := 6) (g1 := 27) (g2 := 20) (k1 := 3) (k2 := 2) (x1 := 9) (x2 := 3) t22 (by decide) (by omega) h6 rfl rfl (by decide +kernel) (by decide +kernel) (by decide +kernel) (Nat.le_of_ble_eq_true rfl) (fun h7 => ?_)
  refine st_new2 (p := 84) (idx1 := 54) (idx2 := 56) (nest := 0) (n := 17) (idx := 57) (k := 7) (g1 := 27) (g2 := 20) (k1 := 3) (k2 := 2) (x1 := 9) (x2 := 3) t0 (by decide) (by omega) h7 rfl rfl (by decide +kernel) (by decide +kernel) (by decide +kernel) (Nat.le_of_ble_eq_true rfl) (fun h8 => ?_)
  refine st_new2 (p := 103) (idx1 := 61) (idx2 := 63) (nest := 0) (n := 11) (idx := 64) (k := 8) (g1 := 27) (g2 := 20) (k1 := 3) (k2 := 2) (x1 := 9) (x2 := 3) t125 (by decide) (by omega) h8 rfl rfl (by decide +kernel) (by decide +kernel) (by decide +kernel) (Nat.le_of_ble_eq_true rfl) (fun h9 => ?_)
  refine st_new (p := 122) (idx1 := 68) (idx2 := 70) (nest := 0) (n := 3) (idx := 71) (k := 9) t99 (by decide) (by omega) h9 (by decide +kernel) (by decide +kernel) (Nat.le_of_ble_eq_true rfl) (fun h10 => ?_)
  refine st_new (p := 133) (idx1 := 75) (idx2 := 77) (nest := 1) (n := 6) (idx := 78) (k := 10) t103 (by decide) (by omega) h10 (by decide +kernel) (by decide +kernel) (Nat.le_of_ble_eq_true rfl) (fun h11 => ?_)
  refine st_int (p := 144) (q := 146) (c := 1) (idx := 82) (k := 12) h11 (by decide +kernel) (by decide +kernel) (Nat.le_of_ble_eq_true rfl) ?_
  refine (px_rv (by decide +kernel)).mpr ?_
  refine cast (congrArg (K PU) (Prod.ext ?_ (Prod.ext ?_ ?_))) kk
  · unfold kl131
    simp only [alL_app]
  · unfold lm131
    simp only [asM_app]
    rfl
  · unfold lt131
    simp only [asT_app]
    rfl
def kl178 : List (Nat × Nat) := [(100, 1800)] ++ [(100, 2)] ++ [(100, 2)] ++ [(100, 6)] ++ [(100, 6)] ++ [(100, 6)] ++ [(100, 2)] ++ [(100, 16)] ++ [(100, 16)] ++ [(100, 16)] ++ [(100, 48)] ++ [(100, 2)] ++ [(100, 32)] ++ [(100, 32)] ++ [(100, 32)] ++ [(100, 2)] ++ [(100, 12)] ++ [(100, 12)] ++ [(100, 2)] ++ [(100, 2)] ++ [(100, 2)] ++ [(100, 2)] ++ [(100, 2)] ++ [(100, 2)] ++ [(100, 3200)] ++ [(100, 3200)] ++ [(103, 6)] ++ [(103, 16)] ++ [(100, 20)] ++ [(100, 20)] ++ [(102, 20)] ++ [(100, 20)] ++ [(100, 20)] ++ [(100, 500)] ++ [(100, 6)] ++ [(100, 22)] ++ [(100, 66)] ++ [(100, 66)] ++ [(100, 176)] ++ [(100, 528)] ++ [(100, 528)] ++ [(103, 500)] ++ [(100, 24)] ++ [(100, 3)] ++ [(100, 1176)] ++ [(100, 20)] ++ [(100, 20)] ++ [(100, 110)]
def lm178 : List (Nat × List Int) := [(253, [-1])] ++ [(255, [-1])] ++ [(257, [20])] ++ [(258, [50])] ++ [(234, ([0, 0, 0, 0, 0, 0, 0, 0, 0, -1, 0, -1, -1, 0, 0, 0, 0, 0, 0, 0, 0, 0, 0, 0, 0, 0, 0, 0, 0, 0, 0, 0, 0, 0, 0, 0, 0, 0] ++ [0, 0, 0, 0, 1, 0, 0, 0, 0, 0, 0, 0, 0, 0, 0, 0, 0, 0, 0, 0, 0, 0, 0, 0, 1, 0, 0, -1, -1, 0, 0, 0, 0, 0, 0, 0, 0, 0]))]
def lt178 : List (Nat × List Int) := [(234, ([235, -1, -1, -1, -1, -1, -1, -1, -1, -1, -1, -1, -1, -1, 236, 237, 238, 239, 240, 241, 242, 243, 244, 245, 246, 247, 248, 249, 250, 251, 252, 253, 254, 255, 256, 257, 258, 259] ++ [260, 261, 262, -1, -1, 263, 264, 265, 266, 267, -1, -1, 268, -1, -1, 269, 270, 271, 272, 273, 274, 275, -1, -1, -1, 276, -1, -1, -1, -1, 277, 278, 279, -1, 280, 281, 282, -1]))]
set_option maxRecDepth 20000 in
theorem t178 : CTb 234 178 12 1 kl178 lm178 lt178 := by
  intro d G M T K hF hG hk hM hT kk
  obtain ⟨g1, g2⟩ := G
  have eg : g1 = 235 := hG
  subst eg
  have h0 : OC (235, g2) M T 234 12 := ⟨hF, Nat.lt_succ_self 234, hk⟩
  suffices hs : pm_Run (d + 0) 178 0 [vA 234] [] ((235, g2), pm_sa M 234 (pz []), pm_sa T 234 (rl [])) K by
    rw [show pm_sa M 234 (pz []) = M from sa_0 hM, show pm_sa T 234 (rl []) = T from sa_0 hT] at hs
    exact (en178 (d := d + 0)).mpr hs
  refine st_ini (idx := 1) (by decide +kernel) ?_
  refine sf_arr (p := 4) (q := 8) (n := 1800) (kd := 100) (t := .int) (idx := 7) (k := 0) (n1 := 235) h0 (by simp only [alL_1, List.length_cons, List.length_nil]) (by decide +kernel) (by decide +kernel) ?_
  have h1 := OC_al (kd := 100) (n := 1800) h0
  refine sf_int (p := 13) (q := 15) (c := 0) (idx := 13) (k := 1) h1 (by decide +kernel) (by decide +kernel) ?_
  refine sf_int (p := 18) (q := 20) (c := 0) (idx := 17) (k := 2) h1 (by decide +kernel) (by decide +kernel) ?_
  refine sf_int (p := 23) (q := 25) (c := 0) (idx := 20) (k := 3) h1 (by decide +kernel) (by decide +kernel) ?_
  refine sf_int (p := 28) (q := 30) (c := 0) (idx := 23) (k := 4) h1 (by decide +kernel) (by decide +kernel) ?_
  refine sf_int (p := 33) (q := 35) (c := 0) (idx := 26) (k := 5) h1 (by decide +kernel) (by decide +kernel) ?_
  refine sf_int (p := 38) (q := 40) (c := 0) (idx := 29) (k := 6) h1 (by decide +kernel) (by decide +kernel) ?_
  refine sf_lng (p := 43) (z := 0) (idx := 32) (k := 7) h1 (by decide +kernel) (by decide +kernel) ?_
  refine sf_int (p := 48) (q := 50) (c := 0) (idx := 36) (k := 8) h1 (by decide +kernel) (by decide +kernel) ?_
  refine sf_int (p := 53) (q := 55) (c := -1) (idx := 39) (k := 9) h1 (by decide +kernel) (by decide +kernel) ?_
  refine sf_int (p := 58) (q := 60) (c := 0) (idx := 42) (k := 10) h1 (by decide +kernel) (by decide +kernel) ?_
  refine sf_int (p := 63) (q := 65) (c := -1) (idx := 45) (k := 11) h1 (by decide +kernel) (by decide +kernel) ?_
  refine sf_int (p := 68) (q := 70) (c := -1) (idx := 48) (k := 12) h1 (by decide +kernel) (by decide +kernel) ?_
  refine sf_int (p := 73) (q := 75) (c := 0) (idx := 51) (k := 13) h1 (by decide +kernel) (by decide +kernel) ?_
  refine sf_arr (p := 78) (q := 80) (n := 2) (kd := 100) (t := .int) (idx := 54) (k := 14) (n1 := 236) h1 (by simp only [alL_1, List.length_cons, List.length_nil]) (by decide +kernel) (by decide +kernel) ?_
  have h2 := OC_al (kd := 100) (n := 2) h1
  refine sf_arr (p := 85) (q := 87) (n := 2) (kd := 100) (t := .int) (idx := 57) (k := 15) (n1 := 237) h2 (by simp only [alL_1, List.length_cons, List.length_nil]) (by decide +kernel) (by decide +kernel) ?_
  have h3 := OC_al (kd := 100) (n := 2) h2
  refine sf_arr (p := 92) (q := 95) (n := 6) (kd := 100) (t := .int) (idx := 60) (k := 16) (n1 := 238) h3 (by simp only [alL_1, List.length_cons, List.length_nil]) (by decide +kernel) (by decide +kernel) ?_
  have h4 := OC_al (kd := 100) (n := 6) h3
  refine sf_arr (p := 100) (q := 103) (n := 6) (kd := 100) (t := .int) (idx := 63) (k := 17) (n1 := 239) h4 (by simp only [alL_1, List.length_cons, List.length_nil]) (by decide +kernel) (by decide +kernel) ?_
  have h5 := OC_al (kd := 100) (n := 6) h4
  refine sf_arr (p := 108) (q := 111) (n := 6) (kd := 100) (t := .int) (idx := 66) (k := 18) (n1 := 240) h5 (by simp only [alL_1, List.length_cons, List.length_nil]) (by decide +kernel) (by decide +kernel) ?_
  have h6 := OC_al (kd := 100) (n := 6) h5
  refine sf_arr (p := 116) (q := 118) (n := 2) (kd := 100) (t := .int) (idx := 69) (k := 19) (n1 := 241) h6 (by simp only [alL_1, List.length_cons, List.length_nil]) (by decide +kernel) (by decide +kernel) ?_
  have h7 := OC_al (kd := 100) (n := 2) h6
  refine sf_arr (p := 123) (q := 126) (n := 16) (kd := 100) (t := .int) (idx := 72) (k := 20) (n1 := 242) h7 (by simp only [alL_1, List.length_cons, List.length_nil]) (by decide +kernel) (by decide +kernel) ?_
  have h8 := OC_al (kd := 100) (n := 16) h7
  refine sf_arr (p := 131) (q := 134) (n := 16) (kd := 100) (t := .int) (idx := 75) (k := 21) (n1 := 243) h8 (by simp only [alL_1, List.length_cons, List.length_nil]) (by decide +kernel) (by decide +kernel) ?_
  have h9 := OC_al (kd := 100) (n := 16) h8
  refine sf_arr (p := 139) (q := 142) (n := 16) (kd := 100) (t := .int) (idx := 78) (k := 22) (n1 := 244) h9 (by simp only [alL_1, List.length_cons, List.length_nil]) (by decide +kernel) (by decide +kernel) ?_
  have h10 := OC_al (kd := 100) (n := 16) h9
  refine sf_arr (p := 147) (q := 150) (n := 48) (kd := 100) (t := .int) (idx := 81) (k := 23) (n1 := 245) h10 (by simp only [alL_1, List.length_cons, List.length_nil]) (by decide +kernel) (by decide +kernel) ?_
  have h11 := OC_al (kd := 100) (n := 48) h10
  refine sf_arr (p := 155) (q := 157) (n := 2) (kd := 100) (t := .int) (idx := 84) (k := 24) (n1 := 246) h11 (by simp only [alL_1, List.length_cons, List.length_nil]) (by decide +kernel) (by decide +kernel) ?_
  have h12 := OC_al (kd := 100) (n := 2) h11
  refine sf_arr (p := 162) (q := 165) (n := 32) (kd := 100) (t := .int) (idx := 87) (k := 25) (n1 := 247) h12 (by simp only [alL_1, List.length_cons, List.length_nil]) (by decide +kernel) (by decide +kernel) ?_
  have h13 := OC_al (kd := 100) (n := 32) h12
  refine sf_arr (p := 170) (q := 173) (n := 32) (kd := 100) (t := .int) (idx := 90) (k := 26) (n1 := 248) h13 (by simp only [alL_1, List.length_cons, List.length_nil]) (by decide +kernel) (by decide +kernel) ?_
  have h14 := OC_al (kd := 100) (n := 32) h13
  refine sf_arr (p := 178) (q := 181) (n := 32) (kd := 100) (t := .int) (idx := 93) (k := 27) (n1 := 249) h14 (by simp only [alL_1, List.length_cons, List.length_nil]) (by decide +kernel) (by decide +kernel) ?_
  have h15 := OC_al (kd := 100) (n := 32) h14
  refine sf_arr (p := 186) (q := 188) (n := 2) (kd := 100) (t := .int) (idx := 96) (k := 28) (n1 := 250) h15 (by simp only [alL_1, List.length_cons, List.length_nil]) (by decide +kernel) (by decide +kernel) ?_
  have h16 := OC_al (kd := 100) (n := 2) h15
  refine sf_arr (p := 193) (q := 196) (n := 12) (kd := 100) (t := .int) (idx := 99) (k := 29) (n1 := 251) h16 (by simp only [alL_1, List.length_cons, List.length_nil]) (by decide +kernel) (by decide +kernel) ?_
  have h17 := OC_al (kd := 100) (n := 12) h16
  refine sf_arr (p := 201) (q := 204) (n := 12) (kd := 100) (t := .int) (idx := 102) (k := 30) (n1 := 252) h17 (by simp only [alL_1, List.length_cons, List.length_nil]) (by decide +kernel) (by decide +kernel) ?_
  have h18 := OC_al (kd := 100) (n := 12) h17
  refine sf_arr (p := 209) (q := 211) (n := 2) (kd := 100) (t := .int) (idx := 105) (k := 31) (n1 := 253) h18 (by simp only [alL_1, List.length_cons, List.length_nil]) (by decide +kernel) (by decide +kernel) ?_
  have h19 := OC_al (kd := 100) (n := 2) h18
  refine sf_arr (p := 216) (q := 218) (n := 2) (kd := 100) (t := .int) (idx := 108) (k := 32) (n1 := 254) h19 (by simp only [alL_1, List.length_cons, List.length_nil]) (by decide +kernel) (by decide +kernel) ?_
  have h20 := OC_al (kd := 100) (n := 2) h19
  refine sf_arr (p := 223) (q := 225) (n := 2) (kd := 100) (t := .int) (idx := 111) (k := 33) (n1 := 255) h20 (by simp only [alL_1, List.length_cons, List.length_nil]) (by decide +kernel) (by decide +kernel) ?_
  have h21 := OC_al (kd := 100) (n := 2) h20
  refine sf_arr (p := 230) (q := 232) (n := 2) (kd := 100) (t := .int) (idx := 114) (k := 34) (n1 := 256) h21 (by simp only [alL_1, List.length_cons, List.length_nil]) (by decide +kernel) (by decide +kernel) ?_
  have h22 := OC_al (kd := 100) (n := 2) h21
  refine sf_arr (p := 237) (q := 239) (n := 2) (kd := 100) (t := .int) (idx := 117) (k := 35) (n1 := 257) h22 (by simp only [alL_1, List.length_cons, List.length_nil]) (by decide +kernel) (by decide +kernel) ?_
  have h23 := OC_al (kd := 100) (n := 2) h22
  refine sf_arr (p := 244) (q := 246) (n := 2) (kd := 100) (t := .int) (idx := 120) (k := 36) (n1 := 258) h23 (by simp only [alL_1, List.length_cons, List.length_nil]) (by decide +kernel) (by decide +kernel) ?_
  have h24 := OC_al (kd := 100) (n := 2) h23
  refine sf_arr (p := 251) (q := 255) (n := 3200) (kd := 100) (t := .int) (idx := 123) (k := 37) (n1 := 259) h24 (by simp only [alL_1, List.length_cons, List.length_nil]) (by decide +kernel) (by decide +kernel) ?_
  have h25 := OC_al (kd := 100) (n := 3200) h24
  refine sf_arr (p := 260) (q := 264) (n := 3200) (kd := 100) (t := .int) (idx := 126) (k := 38) (n1 := 260) h25 (by simp only [alL_1, List.length_cons, List.length_nil]) (by decide +kernel) (by decide +kernel) ?_
  have h26 := OC_al (kd := 100) (n := 3200) h25
  refine sf_arr (p := 269) (q := 272) (n := 6) (kd := 103) (t := .long) (idx := 129) (k := 39) (n1 := 261) h26 (by simp only [alL_1, List.length_cons, List.length_nil]) (by decide +kernel) (by decide +kernel) ?_
  have h27 := OC_al (kd := 103) (n := 6) h26
  refine sf_arr (p := 277) (q := 280) (n := 16) (kd := 103) (t := .long) (idx := 133) (k := 40) (n1 := 262) h27 (by simp only [alL_1, List.length_cons, List.length_nil]) (by decide +kernel) (by decide +kernel) ?_
  have h28 := OC_al (kd := 103) (n := 16) h27
  refine sf_int (p := 285) (q := 287) (c := 0) (idx := 136) (k := 41) h28 (by decide +kernel) (by decide +kernel) ?_
  refine sf_int (p := 290) (q := 292) (c := 1) (idx := 139) (k := 42) h28 (by decide +kernel) (by decide +kernel) ?_
  refine sf_arr (p := 295) (q := 298) (n := 20) (kd := 100) (t := .int) (idx := 142) (k := 43) (n1 := 263) h28 (by simp only [alL_1, List.length_cons, List.length_nil]) (by decide +kernel) (by decide +kernel) ?_
  have h29 := OC_al (kd := 100) (n := 20) h28
  refine sf_arr (p := 303) (q := 306) (n := 20) (kd := 100) (t := .int) (idx := 145) (k := 44) (n1 := 264) h29 (by simp only [alL_1, List.length_cons, List.length_nil]) (by decide +kernel) (by decide +kernel) ?_
  have h30 := OC_al (kd := 100) (n := 20) h29
  refine sf_arr (p := 311) (q := 314) (n := 20) (kd := 102) (t := .boolean) (idx := 148) (k := 45) (n1 := 265) h30 (by simp only [alL_1, List.length_cons, List.length_nil]) (by decide +kernel) (by decide +kernel) ?_
  have h31 := OC_al (kd := 102) (n := 20) h30
  refine sf_arr (p := 319) (q := 322) (n := 20) (kd := 100) (t := .int) (idx := 152) (k := 46) (n1 := 266) h31 (by simp only [alL_1, List.length_cons, List.length_nil]) (by decide +kernel) (by decide +kernel) ?_
  have h32 := OC_al (kd := 100) (n := 20) h31
  refine sf_arr (p := 327) (q := 330) (n := 20) (kd := 100) (t := .int) (idx := 155) (k := 47) (n1 := 267) h32 (by simp only [alL_1, List.length_cons, List.length_nil]) (by decide +kernel) (by decide +kernel) ?_
  have h33 := OC_al (kd := 100) (n := 20) h32
  refine sf_int (p := 335) (q := 337) (c := 0) (idx := 158) (k := 48) h33 (by decide +kernel) (by decide +kernel) ?_
  refine sf_int (p := 340) (q := 342) (c := 0) (idx := 161) (k := 49) h33 (by decide +kernel) (by decide +kernel) ?_
  refine sf_arr (p := 345) (q := 349) (n := 500) (kd := 100) (t := .int) (idx := 164) (k := 50) (n1 := 268) h33 (by simp only [alL_1, List.length_cons, List.length_nil]) (by decide +kernel) (by decide +kernel) ?_
  have h34 := OC_al (kd := 100) (n := 500) h33
  refine sf_int (p := 354) (q := 356) (c := 0) (idx := 167) (k := 51) h34 (by decide +kernel) (by decide +kernel) ?_
  refine sf_int (p := 359) (q := 361) (c := 0) (idx := 170) (k := 52) h34 (by decide +kernel) (by decide +kernel) ?_
  refine sf_arr (p := 364) (q := 367) (n := 6) (kd := 100) (t := .int) (idx := 174) (k := 53) (n1 := 269) h34 (by simp only [alL_1, List.length_cons, List.length_nil]) (by decide +kernel) (by decide +kernel) ?_
  have h35 := OC_al (kd := 100) (n := 6) h34
  refine sf_arr (p := 372) (q := 375) (n := 22) (kd := 100) (t := .int) (idx := 177) (k := 54) (n1 := 270) h35 (by simp only [alL_1, List.length_cons, List.length_nil]) (by decide +kernel) (by decide +kernel) ?_
  have h36 := OC_al (kd := 100) (n := 22) h35
  refine sf_arr (p := 380) (q := 383) (n := 66) (kd := 100) (t := .int) (idx := 180) (k := 55) (n1 := 271) h36 (by simp only [alL_1, List.length_cons, List.length_nil]) (by decide +kernel) (by decide +kernel) ?_
  have h37 := OC_al (kd := 100) (n := 66) h36
  refine sf_arr (p := 388) (q := 391) (n := 66) (kd := 100) (t := .int) (idx := 183) (k := 56) (n1 := 272) h37 (by simp only [alL_1, List.length_cons, List.length_nil]) (by decide +kernel) (by decide +kernel) ?_
  have h38 := OC_al (kd := 100) (n := 66) h37
  refine sf_arr (p := 396) (q := 400) (n := 176) (kd := 100) (t := .int) (idx := 186) (k := 57) (n1 := 273) h38 (by simp only [alL_1, List.length_cons, List.length_nil]) (by decide +kernel) (by decide +kernel) ?_
  have h39 := OC_al (kd := 100) (n := 176) h38
  refine sf_arr (p := 405) (q := 409) (n := 528) (kd := 100) (t := .int) (idx := 189) (k := 58) (n1 := 274) h39 (by simp only [alL_1, List.length_cons, List.length_nil]) (by decide +kernel) (by decide +kernel) ?_
  have h40 := OC_al (kd := 100) (n := 528) h39
  refine sf_arr (p := 414) (q := 418) (n := 528) (kd := 100) (t := .int) (idx := 192) (k := 59) (n1 := 275) h40 (by simp only [alL_1, List.length_cons, List.length_nil]) (by decide +kernel) (by decide +kernel) ?_
  have h41 := OC_al (kd := 100) (n := 528) h40
  refine sf_int (p := 423) (q := 425) (c := 0) (idx := 195) (k := 60) h41 (by decide +kernel) (by decide +kernel) ?_
  refine sf_int (p := 428) (q := 430) (c := 0) (idx := 198) (k := 61) h41 (by decide +kernel) (by decide +kernel) ?_
  refine sf_lng (p := 433) (z := 1) (idx := 201) (k := 62) h41 (by decide +kernel) (by decide +kernel) ?_
  refine sf_arr (p := 438) (q := 442) (n := 500) (kd := 103) (t := .long) (idx := 204) (k := 63) (n1 := 276) h41 (by simp only [alL_1, List.length_cons, List.length_nil]) (by decide +kernel) (by decide +kernel) ?_
  have h42 := OC_al (kd := 103) (n := 500) h41
  refine sf_int (p := 447) (q := 449) (c := 0) (idx := 207) (k := 64) h42 (by decide +kernel) (by decide +kernel) ?_
  refine sf_int (p := 452) (q := 454) (c := -1) (idx := 210) (k := 65) h42 (by decide +kernel) (by decide +kernel) ?_
  refine sf_int (p := 457) (q := 459) (c := -1) (idx := 213) (k := 66) h42 (by decide +kernel) (by decide +kernel) ?_
  refine sf_int (p := 462) (q := 464) (c := 0) (idx := 216) (k := 67) h42 (by decide +kernel) (by decide +kernel) ?_
  refine sf_arr (p := 467) (q := 470) (n := 24) (kd := 100) (t := .int) (idx := 219) (k := 68) (n1 := 277) h42 (by simp only [alL_1, List.length_cons, List.length_nil]) (by decide +kernel) (by decide +kernel) ?_
  have h43 := OC_al (kd := 100) (n := 24) h42
  refine sf_arr (p := 475) (q := 477) (n := 3) (kd := 100) (t := .int) (idx := 222) (k := 69) (n1 := 278) h43 (by simp only [alL_1, List.length_cons, List.length_nil]) (by decide +kernel) (by decide +kernel) ?_
  have h44 := OC_al (kd := 100) (n := 3) h43
  refine sf_arr (p := 482) (q := 486) (n := 1176) (kd := 100) (t := .int) (idx := 225) (k := 70) (n1 := 279) h44 (by simp only [alL_1, List.length_cons, List.length_nil]) (by decide +kernel) (by decide +kernel) ?_
  have h45 := OC_al (kd := 100) (n := 1176) h44
  refine sf_int (p := 491) (q := 493) (c := 0) (idx := 228) (k := 71) h45 (by decide +kernel) (by decide +kernel) ?_
  refine sf_arr (p := 496) (q := 499) (n := 20) (kd := 100) (t := .int) (idx := 231) (k := 72) (n1 := 280) h45 (by simp only [alL_1, List.length_cons, List.length_nil]) (by decide +kernel) (by decide +kernel) ?_
  have h46 := OC_al (kd := 100) (n := 20) h45
  refine sf_arr (p := 504) (q := 507) (n := 20) (kd := 100) (t := .int) (idx := 234) (k := 73) (n1 := 281) h46 (by simp only [alL_1, List.length_cons, List.length_nil]) (by decide +kernel) (by decide +kernel) ?_
  have h47 := OC_al (kd := 100) (n := 20) h46
  refine sf_arr (p := 512) (q := 515) (n := 110) (kd := 100) (t := .int) (idx := 237) (k := 74) (n1 := 282) h47 (by simp only [alL_1, List.length_cons, List.length_nil]) (by decide +kernel) (by decide +kernel) ?_
  have h48 := OC_al (kd := 100) (n := 110) h47
  refine sf_int (p := 520) (q := 522) (c := 0) (idx := 240) (k := 75) h48 (by decide +kernel) (by decide +kernel) ?_
  refine sf_ast (p := 525) (q := 530) (q2 := 531) (idx := 105) (k := 31) (x := -1) (y := 253) (n := 2) h48 (by decide +kernel) (by simp only [alL_1, List.length_cons, List.length_nil]; decide) (by decide) (by simp only [← alL_app, List.cons_append, List.nil_append]; exact alL_kd _ (235, g2) 18 _ rfl) (by decide) (hF 253 (Nat.le_of_ble_eq_true rfl)).1 (by decide +kernel) (by decide +kernel) (fun h49 => ?_)
  refine sf_ast (p := 532) (q := 537) (q2 := 538) (idx := 111) (k := 33) (x := -1) (y := 255) (n := 2) h49 (by decide +kernel) (by simp only [alL_1, List.length_cons, List.length_nil]; decide) (by decide) (by simp only [← alL_app, List.cons_append, List.nil_append]; exact alL_kd _ (235, g2) 20 _ rfl) (by decide) ((if_neg (by decide)).trans (hF 255 (Nat.le_of_ble_eq_true rfl)).1) (by decide +kernel) (by decide +kernel) (fun h50 => ?_)
  refine sf_ast (p := 539) (q := 544) (q2 := 546) (idx := 117) (k := 35) (x := 20) (y := 257) (n := 2) h50 (by decide +kernel) (by simp only [alL_1, List.length_cons, List.length_nil]; decide) (by decide) (by simp only [← alL_app, List.cons_append, List.nil_append]; exact alL_kd _ (235, g2) 22 _ rfl) (by decide) ((if_neg (by decide)).trans ((if_neg (by decide)).trans (hF 257 (Nat.le_of_ble_eq_true rfl)).1)) (by decide +kernel) (by decide +kernel) (fun h51 => ?_)
  refine sf_ast (p := 547) (q := 552) (q2 := 554) (idx := 120) (k := 36) (x := 50) (y := 258) (n := 2) h51 (by decide +kernel) (by simp only [alL_1, List.length_cons, List.length_nil]; decide) (by decide) (by simp only [← alL_app, List.cons_append, List.nil_append]; exact alL_kd _ (235, g2) 23 _ rfl) (by decide) ((if_neg (by decide)).trans ((if_neg (by decide)).trans ((if_neg (by decide)).trans (hF 258 (Nat.le_of_ble_eq_true rfl)).1))) (by decide +kernel) (by decide +kernel) (fun h52 => ?_)
  refine (px_rv (by decide +kernel)).mpr ?_
  refine cast (congrArg (K PU) (Prod.ext ?_ (Prod.ext ?_ ?_))) kk
  · unfold kl178
    simp only [alL_app]
  · unfold lm178
    simp only [asM_app]
    refine congrArg (pm_sa _ 234) (fx76 (by decide +kernel) (fun k hk => ?_))
    simp only [pm_up]
    repeat rw [if_neg (by omega)]
    exact g76 hk (by decide)
  · unfold lt178
    simp only [asT_app]
    refine congrArg (pm_sa _ 234) (fx76 (by decide +kernel) (fun k hk => ?_))
    simp only [pm_up]
    repeat rw [if_neg (by omega)]
    exact h76 hk (by decide)
