/-! Constructors of the parts, on. -/
section NEW4
variable {d m p q : Nat} {ls st : List PV} {G : PG} {M T : PH} {K : PV → PS → Prop} {S : PS} {a b ci kd k idx n : Nat} {c : Int} {lm lt : List Int}
theorem kd_new : (alG G kd n).2.2.1 G.1 = (kd, n) := if_pos rfl
theorem kd_old (h : q < G.1) : (alG G kd n).2.2.1 q = G.2.2.1 q := if_neg (by omega)
theorem ar_mk {j : Nat} (h1 : a < G.1) (h2 : G.2.2.1 a = (kd, n)) (hj : j < n) (hn : n ≤ 100000) : pm_ar G (a : Int) kd (j : Int) := by
  unfold pm_ar
  rw [Int.toNat_natCast, h2, pm_sgN (by omega)]
  exact ⟨⟨Int.natCast_nonneg _, h1, rfl⟩, Int.natCast_nonneg _, by omega⟩
theorem st_anew {idx0 : Nat} (h : OC G M T a ci) (hc : pm_fe m p = some (.aload_n 0, 1) ∧ isPu m (p + 1) (n : Int) q = true ∧ (pm_fe m q = some (.anewarray idx0, 3) ∧ pm_nr (pm_cl m) idx0 = some 5) ∧ n ≤ 100000) (hp : pm_fe m (q + 3) = some (.putfield idx, 3) ∧ pm_fr (pm_cl m) idx = some (ci, k) ∧ k < pm_nf ci ∧ pm_may m ci k ∧ pm_tag (pm_ft ci k) = 2) (hk : k < lt.length) (kk : pm_Run d m (q + 6) (vA a :: ls) [] (alL G [(104, n)], pm_sa M a (pz lm), pm_sa T a (rl (lt.set k ((G.1 : Nat) : Int)))) K) : pm_Run d m p (vA a :: ls) [] (G, pm_sa M a (pz lm), pm_sa T a (rl lt)) K := by
  obtain ⟨h1, h2, h3, h5⟩ := hc
  refine (px_go h1 rfl).mpr ?_
  refine (px_pu h2).mpr ?_
  have e1 : pm_sg (n : Int) = n := pm_sgN (by omega)
  refine (px_newr h3).mpr ⟨by rw [e1]; omega, ?_⟩
  rw [e1, Int.toNat_natCast, al_id (FR_st (FR_sm h.1 h.2.1) h.2.1)]
  exact (st_pR (G := alL G [(104, n)]) (OC_al h) hp hk).mpr kk
def OP (G : PG) (M T : PH) (a : Nat) : Prop := OC G M T a 7 ∧ a + 1 < G.1 ∧ G.2.2.1 (a + 1) = (104, 20)
set_option maxRecDepth 8000 in
theorem st_past {i : Nat} {la : List Int} (hi : i < 20) (h : OP G M T a) (hla : la.length = 20) (hlt : rl lt 0 = ((a + 1 : Nat) : Int)) (kk : OP (alL G [(5, 6), (100, 3), (100, 3), (100, 8), (100, 24), (100, 24)]) (asM M (shM G.1 [(0, [0, 0, 0, 0, 0, 0])])) (asT T (shT G.1 [(0, [-1, 1, 2, 3, 4, 5])])) a → pm_Run (d + 1) 99 15 [vA a, vI ((i + 1 : Nat) : Int)] [] (alL G [(5, 6), (100, 3), (100, 3), (100, 8), (100, 24), (100, 24)], pm_sa (asM M (shM G.1 [(0, [0, 0, 0, 0, 0, 0])])) a (pz lm), pm_sa (pm_sa (asT T (shT G.1 [(0, [-1, 1, 2, 3, 4, 5])])) (a + 1) (rl (la.set i ((G.1 : Nat) : Int)))) a (rl lt)) K) : pm_Run (d + 1) 99 15 [vA a, vI (i : Int)] [] (G, pm_sa M a (pz lm), pm_sa (pm_sa T (a + 1) (rl la)) a (rl lt)) K := by
  obtain ⟨h, ha1, hA⟩ := h
  have ha := h.2.1
  have hF := FR_st (f := rl lt) (FR_st (f := rl la) (FR_sm (f := pz lm) h.1 h.2.1) ha1) h.2.1
  have km : kOK G.1 (G.1 + 6) (shM G.1 [(0, [0, 0, 0, 0, 0, 0])]) := kOK_M (by decide)
  have kt : kOK G.1 (G.1 + 6) (shT G.1 [(0, [-1, 1, 2, 3, 4, 5])]) := kOK_T (by decide)
  have hO := OC_as (kl := [(5, 6), (100, 3), (100, 3), (100, 8), (100, 24), (100, 24)]) h km kt
  have hP : OP (alL G [(5, 6), (100, 3), (100, 3), (100, 8), (100, 24), (100, 24)]) (asM M (shM G.1 [(0, [0, 0, 0, 0, 0, 0])])) (asT T (shT G.1 [(0, [-1, 1, 2, 3, 4, 5])])) a := ⟨hO, by rw [alL_1]; omega, by rw [alL_k _ _ _ ha1]; exact hA⟩
  have e1 : pm_sg (i : Int) = i := pm_sgN (by omega)
  refine b99_15.mpr ?_
  rw [show pm_sg 20 = 20 from by decide, e1, if_neg (by omega)]
  refine (px_go (by decide +kernel : pm_fe 99 21 = some (.aload_n 0, 1)) rfl).mpr ?_
  refine (px_get2 (idx := 11) (ci := 7) (k := 0) (by decide +kernel)).mpr ⟨OC_ob h, ?_⟩
  rw [show pm_sa (pm_sa T (a + 1) (rl la)) a (rl lt) (a : Int).toNat 0 = ((a + 1 : Nat) : Int) from by rw [Int.toNat_natCast]; exact (congrFun (if_pos rfl) 0).trans hlt]
  refine (px_go (by decide +kernel : pm_fe 99 25 = some (.iload_n 1, 1)) rfl).mpr ?_
  refine (px_nwO (idx := 9) (ci := 5) (n := 6) (by decide +kernel) hF).mpr ?_
  refine (px_go (by decide +kernel : pm_fe 99 29 = some (.dup, 1)) rfl).mpr ?_
  refine (px_i0 (idx := 17) (m' := 54) (nest := 1) (by decide +kernel)).mpr ⟨⟨Int.natCast_nonneg _, Nat.le_of_ble_eq_true rfl⟩, ?_⟩
  refine t54 d _ _ _ G.1 _ (FR_al hF) rfl (by rw [kd_new]) (hF _ (Nat.le_refl _)).1 (hF _ (Nat.le_refl _)).2 ?_
  rw [asM_c _ _ _ (fun x hx => by have := km x hx; omega), asT_c _ _ _ (fun x hx => by have := kt x hx; omega), asT_c _ _ _ (fun x hx => by have := kt x hx; omega)]
  refine (b99_33 (G := alL G [(5, 6), (100, 3), (100, 3), (100, 8), (100, 24), (100, 24)]) (s0 := (G.1 : Int)) (s1 := (i : Int)) (s2 := ((a + 1 : Nat) : Int)) (ar_mk hP.2.1 hP.2.2 hi (by omega)) ⟨Int.natCast_nonneg _, by rw [Int.toNat_natCast, alL_1]; exact Nat.lt_add_of_pos_right (by decide), by rw [Int.toNat_natCast]; exact congrArg Prod.fst ((alL_k [(100, 3), (100, 3), (100, 8), (100, 24), (100, 24)] (alG G 5 6) G.1 (Nat.lt_succ_self _)).trans kd_new)⟩).mpr ?_
  rw [Int.toNat_natCast, e1, Int.toNat_natCast, sa_cm (show a ≠ a + 1 by omega), sa_2, show pm_sa (pm_sa (asT T (shT G.1 [(0, [-1, 1, 2, 3, 4, 5])])) (a + 1) (rl la)) a (rl lt) (a + 1) = rl la from (if_neg (by omega)).trans (if_pos rfl), pl_set (by omega)]
  exact kk hP
def mk6 : List (Nat × Nat) := [(5, 6), (100, 3), (100, 3), (100, 8), (100, 24), (100, 24)]
def pkl : Nat → List (Nat × Nat)
  | 0 => []
  | i + 1 => pkl i ++ mk6
def pmM (n : Nat) : Nat → List (Nat × List Int)
  | 0 => []
  | i + 1 => pmM n i ++ shM (n + 6 * i) [(0, [0, 0, 0, 0, 0, 0])]
def pmT (n : Nat) : Nat → List (Nat × List Int)
  | 0 => []
  | i + 1 => pmT n i ++ shT (n + 6 * i) [(0, [-1, 1, 2, 3, 4, 5])]
def pla (n : Nat) : Nat → List Int
  | 0 => List.replicate 20 (-1)
  | i + 1 => (pla n i).set i ((n + 6 * i : Nat) : Int)
theorem pkl_l : ∀ i, (pkl i).length = 6 * i
  | 0 => rfl
  | i + 1 => by
    show (pkl i ++ mk6).length = _
    rw [List.length_append, pkl_l i]
    show 6 * i + 6 = _
    omega
theorem pla_l (n : Nat) : ∀ i, (pla n i).length = 20
  | 0 => rfl
  | i + 1 => by
    show ((pla n i).set i _).length = 20
    rw [List.length_set]; exact pla_l n i
theorem l99 {n : Nat} (hn : G.1 = n) (hlt : rl lt 0 = ((a + 1 : Nat) : Int)) (hK : K PU (alL G (pkl 20), pm_sa (asM M (pmM n 20)) a (pz lm), pm_sa (pm_sa (asT T (pmT n 20)) (a + 1) (rl (pla n 20))) a (rl lt))) : ∀ (k i : Nat), i + k = 20 → OP (alL G (pkl i)) (asM M (pmM n i)) (asT T (pmT n i)) a → pm_Run (d + 1) 99 15 [vA a, vI (i : Int)] [] (alL G (pkl i), pm_sa (asM M (pmM n i)) a (pz lm), pm_sa (pm_sa (asT T (pmT n i)) (a + 1) (rl (pla n i))) a (rl lt)) K := by
  intro k
  induction k with
  | zero =>
    intro i hi h
    obtain rfl : i = 20 := by omega
    refine b99_15.mpr ?_
    rw [if_pos (by decide)]
    exact b99_40.mpr hK
  | succ k ih =>
    intro i hi h
    have e1 : (alL G (pkl i)).1 = n + 6 * i := by rw [alL_1, pkl_l, hn]
    refine st_past (by omega) h (pla_l _ i) hlt (fun h2 => ?_)
    have e2 : alL (alL G (pkl i)) [(5, 6), (100, 3), (100, 3), (100, 8), (100, 24), (100, 24)] = alL G (pkl (i + 1)) := (alL_app (pkl i) mk6 G).symm
    have e3 : asM (asM M (pmM n i)) (shM (alL G (pkl i)).1 [(0, [0, 0, 0, 0, 0, 0])]) = asM M (pmM n (i + 1)) := by rw [e1]; exact (asM_app _ _ _).symm
    have e4 : asT (asT T (pmT n i)) (shT (alL G (pkl i)).1 [(0, [-1, 1, 2, 3, 4, 5])]) = asT T (pmT n (i + 1)) := by rw [e1]; exact (asT_app _ _ _).symm
    have e5 : (pla n i).set i (((alL G (pkl i)).1 : Nat) : Int) = pla n (i + 1) := by rw [e1]; rfl
    rw [e2, e3, e4] at h2 ⊢
    rw [e5]
    exact ih (i + 1) (by omega) h2
theorem alL_cons {x : Nat × Nat} {r : List (Nat × Nat)} : alL G (x :: r) = alL (alL G [x]) r := rfl
theorem shM_app (b : Nat) (X Y : List (Nat × List Int)) : shM b (X ++ Y) = shM b X ++ shM b Y := List.map_append
theorem shT_app (b : Nat) (X Y : List (Nat × List Int)) : shT b (X ++ Y) = shT b X ++ shT b Y := List.map_append
theorem shM_sh (b k : Nat) (R : List (Nat × List Int)) : shM b (shM k R) = shM (b + k) R := by
  unfold shM
  rw [List.map_map]
  exact List.map_congr_left (fun x _ => by show (b + (k + x.1), x.2) = _; rw [Nat.add_assoc])
theorem shT_sh (b k : Nat) (R : List (Nat × List Int)) : shT b (shT k R) = shT (b + k) R := by
  unfold shT
  rw [List.map_map]
  refine List.map_congr_left (fun x _ => ?_)
  show (b + (k + x.1), (x.2.map (fun r => if r < 0 then -1 else ((k + r.toNat : Nat) : Int))).map (fun r => if r < 0 then -1 else ((b + r.toNat : Nat) : Int))) = _
  rw [List.map_map, Nat.add_assoc]
  refine Prod.ext rfl (List.map_congr_left (fun r _ => ?_))
  show (if (if r < 0 then -1 else ((k + r.toNat : Nat) : Int)) < 0 then -1 else ((b + (if r < 0 then (-1 : Int) else ((k + r.toNat : Nat) : Int)).toNat : Nat) : Int)) = if r < 0 then -1 else ((b + k + r.toNat : Nat) : Int)
  by_cases q : r < 0
  · rw [if_pos q, if_pos q, if_pos (by decide)]
  · rw [if_neg q, if_neg q, if_neg (by omega), Int.toNat_natCast]
    omega
theorem pmM_sh (b n : Nat) : ∀ i, shM b (pmM n i) = pmM (b + n) i
  | 0 => rfl
  | i + 1 => by
    show shM b (pmM n i ++ shM (n + 6 * i) _) = pmM (b + n) i ++ shM (b + n + 6 * i) _
    rw [shM_app, pmM_sh b n i, shM_sh, Nat.add_assoc]
theorem pmT_sh (b n : Nat) : ∀ i, shT b (pmT n i) = pmT (b + n) i
  | 0 => rfl
  | i + 1 => by
    show shT b (pmT n i ++ shT (n + 6 * i) _) = pmT (b + n) i ++ shT (b + n + 6 * i) _
    rw [shT_app, pmT_sh b n i, shT_sh, Nat.add_assoc]
theorem pla_sh (b n : Nat) : ∀ i, (pla n i).map (fun r => if r < 0 then -1 else ((b + r.toNat : Nat) : Int)) = pla (b + n) i
  | 0 => by
    show (List.replicate 20 (-1 : Int)).map _ = List.replicate 20 (-1)
    rw [List.map_replicate]
    rfl
  | i + 1 => by
    show ((pla n i).set i ((n + 6 * i : Nat) : Int)).map _ = (pla (b + n) i).set i ((b + n + 6 * i : Nat) : Int)
    rw [List.map_set, pla_sh b n i, if_neg (by omega), Int.toNat_natCast, Nat.add_assoc]
def kl99 : List (Nat × Nat) := (104, 20) :: pkl 20
def rm99 : List (Nat × List Int) := pmM 2 20 ++ [(0, [0, 0, 0])]
def rt99 : List (Nat × List Int) := pmT 2 20 ++ [(1, pla 2 20), (0, [1, -1, -1])]
set_option maxRecDepth 8000 in
theorem t99 : CT 99 7 2 kl99 rm99 rt99 := by
  intro d G M T b K hF hG hk hM hT kk
  obtain ⟨g1, g2⟩ := G
  have eg : g1 = b + 1 := hG
  subst eg
  have h0 : OC (b + 1, g2) M T b 7 := ⟨hF, Nat.lt_succ_self b, hk⟩
  suffices hs : pm_Run (d + 1) 99 0 [vA b, PU] [] ((b + 1, g2), pm_sa M b (pz [0, 0, 0]), pm_sa T b (rl [-1, -1, -1])) K by
    rw [show pm_sa M b (pz [0, 0, 0]) = M from sa_0 (hM.trans (pz_rep 3).symm), show pm_sa T b (rl [-1, -1, -1]) = T from sa_0 (hT.trans (pl_rep 3).symm)] at hs
    exact (en99 (d := d + 1)).mpr hs
  refine st_ini (idx := 3) (by decide +kernel) ?_
  refine st_anew (p := 4) (q := 7) (n := 20) (idx0 := 9) (idx := 11) (k := 0) h0 (by decide +kernel) (by decide +kernel) (Nat.le_of_ble_eq_true rfl) ?_
  have o0 : OP (alL (b + 1, g2) [(104, 20)]) M T b := ⟨OC_al h0, Nat.lt_succ_self _, kd_new⟩
  refine (px_go (by decide +kernel : pm_fe 99 13 = some (.iconst 0, 1)) rfl).mpr ?_
  refine (px_go (by decide +kernel : pm_fe 99 14 = some (.istore_n 1, 1)) rfl).mpr ?_
  have eT0 : pm_sa T (b + 1) (rl (List.replicate 20 (-1))) = T := sa_0 ((hF (b + 1) (Nat.le_refl _)).2.trans (pl_rep 20).symm)
  suffices hs : pm_Run (d + 1) 99 15 [vA b, vI ((0 : Nat) : Int)] [] (alL (b + 1, g2) [(104, 20)], pm_sa M b (pz [0, 0, 0]), pm_sa (pm_sa T (b + 1) (rl (List.replicate 20 (-1)))) b (rl [((b + 1 : Nat) : Int), -1, -1])) K by
    rw [eT0] at hs
    exact hs
  have eM : asM M (shM b rm99) = pm_sa (asM M (pmM (b + 2) 20)) b (pz [0, 0, 0]) := by
    rw [rm99, shM_app, pmM_sh, asM_app]
    rfl
  have eT : asT T (shT b rt99) = pm_sa (pm_sa (asT T (pmT (b + 2) 20)) (b + 1) (rl (pla (b + 2) 20))) b (rl [((b + 1 : Nat) : Int), -1, -1]) := by
    rw [rt99, shT_app, pmT_sh, asT_app, ← pla_sh b 2]
    rfl
  rw [eM, eT, kl99, alL_cons] at kk
  exact l99 (G := alL (b + 1, g2) [(104, 20)]) (n := b + 2) rfl rfl kk 20 0 rfl o0
end NEW4
set_option maxRecDepth 8000 in
theorem t48 : CT 48 4 1 [(100, 29), (101, 0)] [(1, KEYS), (0, [0, 0, 0, 0, 0, 0, 0, 0, 0])] [(0, [1, 2, -1, -1, -1, -1, -1, -1, -1])] := by
  intro d G M T b K hF hG hk hM hT kk
  obtain ⟨g1, g2⟩ := G
  have eg : g1 = b + 1 := hG
  subst eg
  have h0 : OC (b + 1, g2) M T b 4 := ⟨hF, Nat.lt_succ_self b, hk⟩
  suffices hs : pm_Run d 48 0 [vA b, PU, PU, PU, PU] [] ((b + 1, g2), pm_sa M b (pz [0, 0, 0, 0, 0, 0, 0, 0, 0]), pm_sa T b (rl [-1, -1, -1, -1, -1, -1, -1, -1, -1])) K by
    rw [show pm_sa M b (pz [0, 0, 0, 0, 0, 0, 0, 0, 0]) = M from sa_0 (hM.trans (pz_rep 9).symm), show pm_sa T b (rl [-1, -1, -1, -1, -1, -1, -1, -1, -1]) = T from sa_0 (hT.trans (pl_rep 9).symm)] at hs
    exact (en48 (d := d)).mpr hs
  refine st_ini (idx := 3) (by decide +kernel) ?_
  refine st_arr (p := 4) (q := 7) (n := 29) (kd := 100) (t := .int) (idx := 9) (k := 0) h0 (by decide +kernel) (by decide +kernel) (Nat.le_of_ble_eq_true rfl) ?_
  have h1 := OC_al (kd := 100) (n := 29) h0
  refine st_arr (p := 12) (q := 14) (n := 0) (kd := 101) (t := .byte) (idx := 15) (k := 1) h1 (by decide +kernel) (by decide +kernel) (Nat.le_of_ble_eq_true rfl) ?_
  have h2 := OC_al (kd := 101) (n := 0) h1
  refine (px_go (by decide +kernel : pm_fe 48 19 = some (.iconst 0, 1)) rfl).mpr ?_
  refine (px_go (by decide +kernel : pm_fe 48 20 = some (.istore_n 1, 1)) rfl).mpr ?_
  refine (px_go (by decide +kernel : pm_fe 48 21 = some (.iconst 0, 1)) rfl).mpr ?_
  refine (px_go (by decide +kernel : pm_fe 48 22 = some (.istore_n 2, 1)) rfl).mpr ?_
  refine (px_go (by decide +kernel : pm_fe 48 23 = some (.iconst 0, 1)) rfl).mpr ?_
  refine (px_go (by decide +kernel : pm_fe 48 24 = some (.istore_n 3, 1)) rfl).mpr ?_
  have hl := l48 (d := d) (b := b) (M := pm_sa M b (pz [0, 0, 0, 0, 0, 0, 0, 0, 0])) (T := pm_sa T b (rl [((b + 1 : Nat) : Int), ((b + 2 : Nat) : Int), -1, -1, -1, -1, -1, -1, -1])) (K := K) (OC_ob h2) (congrFun (if_pos rfl) 0) (fun w hw => ar_mk (a := b + 1) (n := 29) (Nat.le_of_lt (Nat.lt_succ_self _)) ((kd_old (Nat.lt_succ_self _)).trans kd_new) hw (by omega)) (by rw [sa_cm (by omega)]; exact kk) 147 0 PU rfl
  have e0 : pm_sa (pm_sa M b (pz [0, 0, 0, 0, 0, 0, 0, 0, 0])) (b + 1) (pz (kfj 0).2.2) = pm_sa M b (pz [0, 0, 0, 0, 0, 0, 0, 0, 0]) := sa_0 (((if_neg (by omega)).trans (hF (b + 1) (Nat.le_refl _)).1).trans (pz_rep 29).symm)
  rw [e0] at hl
  exact hl
set_option maxRecDepth 8000 in
theorem t66 : CT 66 6 3 [(4, 9), (100, 29), (101, 0), (1, 18), (100, 3), (100, 3), (100, 8), (100, 8), (100, 8), (100, 16), (100, 16), (100, 16), (5, 6), (100, 3), (100, 3), (100, 8), (100, 24), (100, 24), (3, 7), (100, 1600), (100, 8), (100, 8), (100, 8), (100, 29), (100, 64)] [(2, KEYS), (1, [0, 0, 0, 0, 0, 0, 0, 0, 0]), (13, [0, 0, 0, 0, 0, 0]), (19, [0, 0, 0, 0, 0, 0, 0]), (4, [0, 0, 0, 0, 0, 20, 50, 0, 0, 0, 0, 0, 0, 0, 0, 0, 0, 0]), (0, [0, 0, 0, 0, -1])] [(1, [2, 3, -1, -1, -1, -1, -1, -1, -1]), (13, [-1, 14, 15, 16, 17, 18]), (19, [20, 21, 22, 23, 24, 25, -1]), (4, [-1, -1, -1, -1, -1, -1, -1, -1, 5, 6, 7, 8, 9, 10, 11, 12, 13, 19]), (0, [1, 4, -1, -1, -1])] := by
  intro d G M T b K hF hG hk hM hT kk
  obtain ⟨g1, g2⟩ := G
  have eg : g1 = b + 1 := hG
  subst eg
  have h0 : OC (b + 1, g2) M T b 6 := ⟨hF, Nat.lt_succ_self b, hk⟩
  suffices hs : pm_Run (d + 2) 66 0 [vA b] [] ((b + 1, g2), pm_sa M b (pz [0, 0, 0, 0, 0]), pm_sa T b (rl [-1, -1, -1, -1, -1])) K by
    rw [show pm_sa M b (pz [0, 0, 0, 0, 0]) = M from sa_0 (hM.trans (pz_rep 5).symm), show pm_sa T b (rl [-1, -1, -1, -1, -1]) = T from sa_0 (hT.trans (pl_rep 5).symm)] at hs
    exact (en66 (d := d + 2)).mpr hs
  refine st_ini (idx := 3) (by decide +kernel) ?_
  refine st_new (p := 4) (idx1 := 9) (idx2 := 11) (nest := 0) (n := 9) (idx := 12) (k := 0) t48 (by decide) (by omega) h0 (by decide +kernel) (by decide +kernel) (Nat.le_of_ble_eq_true rfl) (fun h1 => ?_)
  refine st_new (p := 15) (idx1 := 18) (idx2 := 20) (nest := 1) (n := 18) (idx := 21) (k := 1) t12 (by decide) (by omega) h1 (by decide +kernel) (by decide +kernel) (Nat.le_of_ble_eq_true rfl) (fun h2 => ?_)
  refine st_int (p := 26) (q := 28) (c := -1) (idx := 25) (k := 4) h2 (by decide +kernel) (by decide +kernel) (Nat.le_of_ble_eq_true rfl) ?_
  refine (px_rv (by decide +kernel)).mpr ?_
  refine cast (congrArg (K PU) (Prod.ext ?_ (Prod.ext ?_ ?_))) kk
  · simp only [← alL_app, List.cons_append, List.nil_append]
  · rfl
  · rfl
set_option maxRecDepth 8000 in
theorem t103 : CT 103 8 2 [(101, 97), (5, 6), (100, 3), (100, 3), (100, 8), (100, 24), (100, 24), (101, 0)] [(2, [0, 0, 0, 0, 0, 0]), (0, [0, 0, 0, 0, 0, 0])] [(2, [-1, 3, 4, 5, 6, 7]), (0, [1, 2, -1, 8, -1, -1])] := by
  intro d G M T b K hF hG hk hM hT kk
  obtain ⟨g1, g2⟩ := G
  have eg : g1 = b + 1 := hG
  subst eg
  have h0 : OC (b + 1, g2) M T b 8 := ⟨hF, Nat.lt_succ_self b, hk⟩
  suffices hs : pm_Run (d + 1) 103 0 [vA b] [] ((b + 1, g2), pm_sa M b (pz [0, 0, 0, 0, 0, 0]), pm_sa T b (rl [-1, -1, -1, -1, -1, -1])) K by
    rw [show pm_sa M b (pz [0, 0, 0, 0, 0, 0]) = M from sa_0 (hM.trans (pz_rep 6).symm), show pm_sa T b (rl [-1, -1, -1, -1, -1, -1]) = T from sa_0 (hT.trans (pl_rep 6).symm)] at hs
    exact (en103 (d := d + 1)).mpr hs
  refine st_ini (idx := 3) (by decide +kernel) ?_
  refine st_arr (p := 4) (q := 7) (n := 97) (kd := 101) (t := .byte) (idx := 11) (k := 0) h0 (by decide +kernel) (by decide +kernel) (Nat.le_of_ble_eq_true rfl) ?_
  have h1 := OC_al (kd := 101) (n := 97) h0
  refine st_new (p := 12) (idx1 := 15) (idx2 := 17) (nest := 1) (n := 6) (idx := 18) (k := 1) t54 (by decide) (by omega) h1 (by decide +kernel) (by decide +kernel) (Nat.le_of_ble_eq_true rfl) (fun h2 => ?_)
  refine st_arr (p := 23) (q := 25) (n := 0) (kd := 101) (t := .byte) (idx := 22) (k := 3) h2 (by decide +kernel) (by decide +kernel) (Nat.le_of_ble_eq_true rfl) ?_
  have h3 := OC_al (kd := 101) (n := 0) h2
  refine (px_rv (by decide +kernel)).mpr ?_
  refine cast (congrArg (K PU) (Prod.ext ?_ (Prod.ext ?_ ?_))) kk
  · simp only [← alL_app, List.cons_append, List.nil_append]
  · rfl
  · rfl
set_option maxRecDepth 8000 in
theorem t22 : CT2 22 2 2 [(9, 2), (100, 72), (100, 24), (5, 6), (100, 3), (100, 3), (100, 8), (100, 24), (100, 24), (100, 72), (100, 1176), (100, 392), (100, 392)] [(1, [0, 0]), (4, [0, 0, 0, 0, 0, 0]), (0, [0, 0, 0, 0, 0, 0, 0, 0, 48, 0, -1, -1, -1])] [(1, [2, 3]), (4, [-1, 5, 6, 7, 8, 9])] (fun b x1 x2 => [((b + 1 : Nat) : Int), ((b + 4 : Nat) : Int), ((b + 10 : Nat) : Int), ((b + 11 : Nat) : Int), ((b + 12 : Nat) : Int), ((b + 13 : Nat) : Int), (x2 : Int), (x1 : Int), -1, -1, -1, -1, -1]) := by
  intro d G M T b x1 x2 K hF hG hk hM hT kk
  obtain ⟨g1, g2⟩ := G
  have eg : g1 = b + 1 := hG
  subst eg
  have h0 : OC (b + 1, g2) M T b 2 := ⟨hF, Nat.lt_succ_self b, hk⟩
  suffices hs : pm_Run (d + 1) 22 0 [vA b, vA x1, vA x2] [] ((b + 1, g2), pm_sa M b (pz [0, 0, 0, 0, 0, 0, 0, 0, 0, 0, 0, 0, 0]), pm_sa T b (rl [-1, -1, -1, -1, -1, -1, -1, -1, -1, -1, -1, -1, -1])) K by
    rw [show pm_sa M b (pz [0, 0, 0, 0, 0, 0, 0, 0, 0, 0, 0, 0, 0]) = M from sa_0 (hM.trans (pz_rep 13).symm), show pm_sa T b (rl [-1, -1, -1, -1, -1, -1, -1, -1, -1, -1, -1, -1, -1]) = T from sa_0 (hT.trans (pl_rep 13).symm)] at hs
    exact (en22 (d := d + 1)).mpr hs
  refine st_ini (idx := 3) (by decide +kernel) ?_
  refine st_new (p := 4) (idx1 := 9) (idx2 := 11) (nest := 1) (n := 2) (idx := 12) (k := 0) t112 (by decide) (by omega) h0 (by decide +kernel) (by decide +kernel) (Nat.le_of_ble_eq_true rfl) (fun h1 => ?_)
  refine st_new (p := 15) (idx1 := 18) (idx2 := 20) (nest := 1) (n := 6) (idx := 21) (k := 1) t54 (by decide) (by omega) h1 (by decide +kernel) (by decide +kernel) (Nat.le_of_ble_eq_true rfl) (fun h2 => ?_)
  refine st_arr (p := 26) (q := 29) (n := 72) (kd := 100) (t := .int) (idx := 25) (k := 2) h2 (by decide +kernel) (by decide +kernel) (Nat.le_of_ble_eq_true rfl) ?_
  have h3 := OC_al (kd := 100) (n := 72) h2
  refine st_arr (p := 34) (q := 38) (n := 1176) (kd := 100) (t := .int) (idx := 29) (k := 3) h3 (by decide +kernel) (by decide +kernel) (Nat.le_of_ble_eq_true rfl) ?_
  have h4 := OC_al (kd := 100) (n := 1176) h3
  refine st_arr (p := 43) (q := 47) (n := 392) (kd := 100) (t := .int) (idx := 32) (k := 4) h4 (by decide +kernel) (by decide +kernel) (Nat.le_of_ble_eq_true rfl) ?_
  have h5 := OC_al (kd := 100) (n := 392) h4
  refine st_arr (p := 52) (q := 56) (n := 392) (kd := 100) (t := .int) (idx := 35) (k := 5) h5 (by decide +kernel) (by decide +kernel) (Nat.le_of_ble_eq_true rfl) ?_
  have h6 := OC_al (kd := 100) (n := 392) h5
  refine st_int (p := 61) (q := 64) (c := 48) (idx := 38) (k := 8) h6 (by decide +kernel) (by decide +kernel) (Nat.le_of_ble_eq_true rfl) ?_
  refine st_int (p := 67) (q := 69) (c := -1) (idx := 42) (k := 10) h6 (by decide +kernel) (by decide +kernel) (Nat.le_of_ble_eq_true rfl) ?_
  refine st_int (p := 72) (q := 74) (c := -1) (idx := 45) (k := 11) h6 (by decide +kernel) (by decide +kernel) (Nat.le_of_ble_eq_true rfl) ?_
  refine st_int (p := 77) (q := 79) (c := -1) (idx := 48) (k := 12) h6 (by decide +kernel) (by decide +kernel) (Nat.le_of_ble_eq_true rfl) ?_
  refine st_loc (p := 82) (j := 1) (idx := 51) (k := 7) h6 rfl (by decide +kernel) (by decide +kernel) (Nat.le_of_ble_eq_true rfl) ?_
  refine st_loc (p := 87) (j := 2) (idx := 55) (k := 6) h6 rfl (by decide +kernel) (by decide +kernel) (Nat.le_of_ble_eq_true rfl) ?_
  refine (px_rv (by decide +kernel)).mpr ?_
  refine cast (congrArg (K PU) (Prod.ext ?_ (Prod.ext ?_ ?_))) kk
  · simp only [← alL_app, List.cons_append, List.nil_append]
  · rfl
  · rfl
set_option maxRecDepth 8000 in
theorem t0 : CT2 0 0 2 [(9, 2), (100, 72), (100, 24), (100, 693), (100, 693), (100, 693), (100, 3), (100, 3), (100, 3), (100, 3), (5, 6), (100, 3), (100, 3), (100, 8), (100, 24), (100, 24)] [(1, [0, 0]), (11, [0, 0, 0, 0, 0, 0]), (0, [0, 0, 0, 0, 0, 0, 0, 0, 0, 0, 0, -1, 0, -1, 0, 0, 0])] [(1, [2, 3]), (11, [-1, 12, 13, 14, 15, 16])] (fun b x1 x2 => [((b + 1 : Nat) : Int), ((b + 4 : Nat) : Int), ((b + 5 : Nat) : Int), ((b + 6 : Nat) : Int), ((b + 7 : Nat) : Int), ((b + 8 : Nat) : Int), ((b + 9 : Nat) : Int), (x2 : Int), (x1 : Int), -1, -1, -1, -1, -1, ((b + 10 : Nat) : Int), ((b + 11 : Nat) : Int), -1]) := by
  intro d G M T b x1 x2 K hF hG hk hM hT kk
  obtain ⟨g1, g2⟩ := G
  have eg : g1 = b + 1 := hG
  subst eg
  have h0 : OC (b + 1, g2) M T b 0 := ⟨hF, Nat.lt_succ_self b, hk⟩
  suffices hs : pm_Run (d + 1) 0 0 [vA b, vA x1, vA x2] [] ((b + 1, g2), pm_sa M b (pz [0, 0, 0, 0, 0, 0, 0, 0, 0, 0, 0, 0, 0, 0, 0, 0, 0]), pm_sa T b (rl [-1, -1, -1, -1, -1, -1, -1, -1, -1, -1, -1, -1, -1, -1, -1, -1, -1])) K by
    rw [show pm_sa M b (pz [0, 0, 0, 0, 0, 0, 0, 0, 0, 0, 0, 0, 0, 0, 0, 0, 0]) = M from sa_0 (hM.trans (pz_rep 17).symm), show pm_sa T b (rl [-1, -1, -1, -1, -1, -1, -1, -1, -1, -1, -1, -1, -1, -1, -1, -1, -1]) = T from sa_0 (hT.trans (pl_rep 17).symm)] at hs
    exact (en0 (d := d + 1)).mpr hs
  refine st_ini (idx := 5) (by decide +kernel) ?_
  refine st_new (p := 4) (idx1 := 11) (idx2 := 13) (nest := 1) (n := 2) (idx := 14) (k := 0) t112 (by decide) (by omega) h0 (by decide +kernel) (by decide +kernel) (Nat.le_of_ble_eq_true rfl) (fun h1 => ?_)
  refine st_arr (p := 15) (q := 19) (n := 693) (kd := 100) (t := .int) (idx := 18) (k := 1) h1 (by decide +kernel) (by decide +kernel) (Nat.le_of_ble_eq_true rfl) ?_
  have h2 := OC_al (kd := 100) (n := 693) h1
  refine st_arr (p := 24) (q := 28) (n := 693) (kd := 100) (t := .int) (idx := 22) (k := 2) h2 (by decide +kernel) (by decide +kernel) (Nat.le_of_ble_eq_true rfl) ?_
  have h3 := OC_al (kd := 100) (n := 693) h2
  refine st_arr (p := 33) (q := 37) (n := 693) (kd := 100) (t := .int) (idx := 25) (k := 3) h3 (by decide +kernel) (by decide +kernel) (Nat.le_of_ble_eq_true rfl) ?_
  have h4 := OC_al (kd := 100) (n := 693) h3
  refine st_arr (p := 42) (q := 44) (n := 3) (kd := 100) (t := .int) (idx := 28) (k := 4) h4 (by decide +kernel) (by decide +kernel) (Nat.le_of_ble_eq_true rfl) ?_
  have h5 := OC_al (kd := 100) (n := 3) h4
  refine st_arr (p := 49) (q := 51) (n := 3) (kd := 100) (t := .int) (idx := 31) (k := 5) h5 (by decide +kernel) (by decide +kernel) (Nat.le_of_ble_eq_true rfl) ?_
  have h6 := OC_al (kd := 100) (n := 3) h5
  refine st_arr (p := 56) (q := 58) (n := 3) (kd := 100) (t := .int) (idx := 34) (k := 6) h6 (by decide +kernel) (by decide +kernel) (Nat.le_of_ble_eq_true rfl) ?_
  have h7 := OC_al (kd := 100) (n := 3) h6
  refine st_int (p := 63) (q := 65) (c := -1) (idx := 37) (k := 11) h7 (by decide +kernel) (by decide +kernel) (Nat.le_of_ble_eq_true rfl) ?_
  refine st_int (p := 68) (q := 70) (c := -1) (idx := 41) (k := 13) h7 (by decide +kernel) (by decide +kernel) (Nat.le_of_ble_eq_true rfl) ?_
  refine st_arr (p := 73) (q := 75) (n := 3) (kd := 100) (t := .int) (idx := 44) (k := 14) h7 (by decide +kernel) (by decide +kernel) (Nat.le_of_ble_eq_true rfl) ?_
  have h8 := OC_al (kd := 100) (n := 3) h7
  refine st_new (p := 80) (idx1 := 47) (idx2 := 49) (nest := 1) (n := 6) (idx := 50) (k := 15) t54 (by decide) (by omega) h8 (by decide +kernel) (by decide +kernel) (Nat.le_of_ble_eq_true rfl) (fun h9 => ?_)
  refine st_loc (p := 91) (j := 1) (idx := 54) (k := 8) h9 rfl (by decide +kernel) (by decide +kernel) (Nat.le_of_ble_eq_true rfl) ?_
  refine st_loc (p := 96) (j := 2) (idx := 58) (k := 7) h9 rfl (by decide +kernel) (by decide +kernel) (Nat.le_of_ble_eq_true rfl) ?_
  refine (px_rv (by decide +kernel)).mpr ?_
  refine cast (congrArg (K PU) (Prod.ext ?_ (Prod.ext ?_ ?_))) kk
  · simp only [← alL_app, List.cons_append, List.nil_append]
  · rfl
  · rfl
set_option maxRecDepth 8000 in
theorem t125 : CT2 125 10 2 [(9, 2), (100, 72), (100, 24), (5, 6), (100, 3), (100, 3), (100, 8), (100, 24), (100, 24), (100, 20), (100, 20)] [(1, [0, 0]), (4, [0, 0, 0, 0, 0, 0]), (0, [0, 0, 0, 0, 0, 0, 0, 0, 0, 0, 0])] [(1, [2, 3]), (4, [-1, 5, 6, 7, 8, 9])] (fun b x1 x2 => [((b + 1 : Nat) : Int), ((b + 4 : Nat) : Int), ((b + 10 : Nat) : Int), ((b + 11 : Nat) : Int), (x2 : Int), (x1 : Int), -1, -1, -1, -1, -1]) := by
  intro d G M T b x1 x2 K hF hG hk hM hT kk
  obtain ⟨g1, g2⟩ := G
  have eg : g1 = b + 1 := hG
  subst eg
  have h0 : OC (b + 1, g2) M T b 10 := ⟨hF, Nat.lt_succ_self b, hk⟩
  suffices hs : pm_Run (d + 1) 125 0 [vA b, vA x1, vA x2] [] ((b + 1, g2), pm_sa M b (pz [0, 0, 0, 0, 0, 0, 0, 0, 0, 0, 0]), pm_sa T b (rl [-1, -1, -1, -1, -1, -1, -1, -1, -1, -1, -1])) K by
    rw [show pm_sa M b (pz [0, 0, 0, 0, 0, 0, 0, 0, 0, 0, 0]) = M from sa_0 (hM.trans (pz_rep 11).symm), show pm_sa T b (rl [-1, -1, -1, -1, -1, -1, -1, -1, -1, -1, -1]) = T from sa_0 (hT.trans (pl_rep 11).symm)] at hs
    exact (en125 (d := d + 1)).mpr hs
  refine st_ini (idx := 3) (by decide +kernel) ?_
  refine st_new (p := 4) (idx1 := 9) (idx2 := 11) (nest := 1) (n := 2) (idx := 12) (k := 0) t112 (by decide) (by omega) h0 (by decide +kernel) (by decide +kernel) (Nat.le_of_ble_eq_true rfl) (fun h1 => ?_)
  refine st_new (p := 15) (idx1 := 18) (idx2 := 20) (nest := 1) (n := 6) (idx := 21) (k := 1) t54 (by decide) (by omega) h1 (by decide +kernel) (by decide +kernel) (Nat.le_of_ble_eq_true rfl) (fun h2 => ?_)
  refine st_arr (p := 26) (q := 29) (n := 20) (kd := 100) (t := .int) (idx := 25) (k := 2) h2 (by decide +kernel) (by decide +kernel) (Nat.le_of_ble_eq_true rfl) ?_
  have h3 := OC_al (kd := 100) (n := 20) h2
  refine st_arr (p := 34) (q := 37) (n := 20) (kd := 100) (t := .int) (idx := 29) (k := 3) h3 (by decide +kernel) (by decide +kernel) (Nat.le_of_ble_eq_true rfl) ?_
  have h4 := OC_al (kd := 100) (n := 20) h3
  refine st_loc (p := 42) (j := 1) (idx := 32) (k := 5) h4 rfl (by decide +kernel) (by decide +kernel) (Nat.le_of_ble_eq_true rfl) ?_
  refine st_loc (p := 47) (j := 2) (idx := 36) (k := 4) h4 rfl (by decide +kernel) (by decide +kernel) (Nat.le_of_ble_eq_true rfl) ?_
  refine (px_rv (by decide +kernel)).mpr ?_
  refine cast (congrArg (K PU) (Prod.ext ?_ (Prod.ext ?_ ?_))) kk
  · simp only [← alL_app, List.cons_append, List.nil_append]
  · rfl
  · rfl
