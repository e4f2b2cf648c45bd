/-! Constructors of the parts. -/
set_option maxRecDepth 4000 in
theorem t54 : CT 54 5 1 [(100, 3), (100, 3), (100, 8), (100, 24), (100, 24)] [(0, [0, 0, 0, 0, 0, 0])] [(0, [-1, 1, 2, 3, 4, 5])] := by
  intro d G M T b K hF hG hk hM hT kk
  obtain ⟨g1, g2⟩ := G
  have eg : g1 = b + 1 := hG
  subst eg
  have h0 : OC (b + 1, g2) M T b 5 := ⟨hF, Nat.lt_succ_self b, hk⟩
  suffices hs : pm_Run (d + 0) 54 0 [vA b] [] ((b + 1, g2), pm_sa M b (pz [0, 0, 0, 0, 0, 0]), pm_sa T b (rl [-1, -1, -1, -1, -1, -1])) K by
    rw [show pm_sa M b (pz [0, 0, 0, 0, 0, 0]) = M from sa_0 (hM.trans (pz_rep 6).symm), show pm_sa T b (rl [-1, -1, -1, -1, -1, -1]) = T from sa_0 (hT.trans (pl_rep 6).symm)] at hs
    exact (en54 (d := d + 0)).mpr hs
  refine st_ini (idx := 3) (by decide +kernel) ?_
  refine st_arr (p := 4) (q := 6) (n := 3) (kd := 100) (t := .int) (idx := 9) (k := 1) h0 (by decide +kernel) (by decide +kernel) (Nat.le_of_ble_eq_true rfl) ?_
  have h1 := OC_al (kd := 100) (n := 3) h0
  refine st_arr (p := 11) (q := 13) (n := 3) (kd := 100) (t := .int) (idx := 15) (k := 2) h1 (by decide +kernel) (by decide +kernel) (Nat.le_of_ble_eq_true rfl) ?_
  have h2 := OC_al (kd := 100) (n := 3) h1
  refine st_arr (p := 18) (q := 21) (n := 8) (kd := 100) (t := .int) (idx := 18) (k := 3) h2 (by decide +kernel) (by decide +kernel) (Nat.le_of_ble_eq_true rfl) ?_
  have h3 := OC_al (kd := 100) (n := 8) h2
  refine st_arr (p := 26) (q := 29) (n := 24) (kd := 100) (t := .int) (idx := 21) (k := 4) h3 (by decide +kernel) (by decide +kernel) (Nat.le_of_ble_eq_true rfl) ?_
  have h4 := OC_al (kd := 100) (n := 24) h3
  refine st_arr (p := 34) (q := 37) (n := 24) (kd := 100) (t := .int) (idx := 24) (k := 5) h4 (by decide +kernel) (by decide +kernel) (Nat.le_of_ble_eq_true rfl) ?_
  have h5 := OC_al (kd := 100) (n := 24) h4
  refine (px_rv (by decide +kernel)).mpr ?_
  refine cast (congrArg (K PU) (Prod.ext ?_ (Prod.ext ?_ ?_))) kk
  · simp only [← alL_app, List.cons_append, List.nil_append]
  · rfl
  · rfl
set_option maxRecDepth 4000 in
theorem t39 : CT 39 3 1 [(100, 1600), (100, 8), (100, 8), (100, 8), (100, 29), (100, 64)] [(0, [0, 0, 0, 0, 0, 0, 0])] [(0, [1, 2, 3, 4, 5, 6, -1])] := by
  intro d G M T b K hF hG hk hM hT kk
  obtain ⟨g1, g2⟩ := G
  have eg : g1 = b + 1 := hG
  subst eg
  have h0 : OC (b + 1, g2) M T b 3 := ⟨hF, Nat.lt_succ_self b, hk⟩
  suffices hs : pm_Run (d + 0) 39 0 [vA b] [] ((b + 1, g2), pm_sa M b (pz [0, 0, 0, 0, 0, 0, 0]), pm_sa T b (rl [-1, -1, -1, -1, -1, -1, -1])) K by
    rw [show pm_sa M b (pz [0, 0, 0, 0, 0, 0, 0]) = M from sa_0 (hM.trans (pz_rep 7).symm), show pm_sa T b (rl [-1, -1, -1, -1, -1, -1, -1]) = T from sa_0 (hT.trans (pl_rep 7).symm)] at hs
    exact (en39 (d := d + 0)).mpr hs
  refine st_ini (idx := 5) (by decide +kernel) ?_
  refine st_arr (p := 4) (q := 8) (n := 1600) (kd := 100) (t := .int) (idx := 11) (k := 0) h0 (by decide +kernel) (by decide +kernel) (Nat.le_of_ble_eq_true rfl) ?_
  have h1 := OC_al (kd := 100) (n := 1600) h0
  refine st_arr (p := 13) (q := 16) (n := 8) (kd := 100) (t := .int) (idx := 15) (k := 1) h1 (by decide +kernel) (by decide +kernel) (Nat.le_of_ble_eq_true rfl) ?_
  have h2 := OC_al (kd := 100) (n := 8) h1
  refine st_arr (p := 21) (q := 24) (n := 8) (kd := 100) (t := .int) (idx := 18) (k := 2) h2 (by decide +kernel) (by decide +kernel) (Nat.le_of_ble_eq_true rfl) ?_
  have h3 := OC_al (kd := 100) (n := 8) h2
  refine st_arr (p := 29) (q := 32) (n := 8) (kd := 100) (t := .int) (idx := 21) (k := 3) h3 (by decide +kernel) (by decide +kernel) (Nat.le_of_ble_eq_true rfl) ?_
  have h4 := OC_al (kd := 100) (n := 8) h3
  refine st_arr (p := 37) (q := 40) (n := 29) (kd := 100) (t := .int) (idx := 24) (k := 4) h4 (by decide +kernel) (by decide +kernel) (Nat.le_of_ble_eq_true rfl) ?_
  have h5 := OC_al (kd := 100) (n := 29) h4
  refine st_arr (p := 45) (q := 48) (n := 64) (kd := 100) (t := .int) (idx := 27) (k := 5) h5 (by decide +kernel) (by decide +kernel) (Nat.le_of_ble_eq_true rfl) ?_
  have h6 := OC_al (kd := 100) (n := 64) h5
  refine (px_rv (by decide +kernel)).mpr ?_
  refine cast (congrArg (K PU) (Prod.ext ?_ (Prod.ext ?_ ?_))) kk
  · simp only [← alL_app, List.cons_append, List.nil_append]
  · rfl
  · rfl
set_option maxRecDepth 4000 in
theorem t12 : CT 12 1 2 [(100, 3), (100, 3), (100, 8), (100, 8), (100, 8), (100, 16), (100, 16), (100, 16), (5, 6), (100, 3), (100, 3), (100, 8), (100, 24), (100, 24), (3, 7), (100, 1600), (100, 8), (100, 8), (100, 8), (100, 29), (100, 64)] [(9, [0, 0, 0, 0, 0, 0]), (15, [0, 0, 0, 0, 0, 0, 0]), (0, [0, 0, 0, 0, 0, 20, 50, 0, 0, 0, 0, 0, 0, 0, 0, 0, 0, 0])] [(9, [-1, 10, 11, 12, 13, 14]), (15, [16, 17, 18, 19, 20, 21, -1]), (0, [-1, -1, -1, -1, -1, -1, -1, -1, 1, 2, 3, 4, 5, 6, 7, 8, 9, 15])] := by
  intro d G M T b K hF hG hk hM hT kk
  obtain ⟨g1, g2⟩ := G
  have eg : g1 = b + 1 := hG
  subst eg
  have h0 : OC (b + 1, g2) M T b 1 := ⟨hF, Nat.lt_succ_self b, hk⟩
  suffices hs : pm_Run (d + 1) 12 0 [vA b] [] ((b + 1, g2), pm_sa M b (pz [0, 0, 0, 0, 0, 0, 0, 0, 0, 0, 0, 0, 0, 0, 0, 0, 0, 0]), pm_sa T b (rl [-1, -1, -1, -1, -1, -1, -1, -1, -1, -1, -1, -1, -1, -1, -1, -1, -1, -1])) K by
    rw [show pm_sa M b (pz [0, 0, 0, 0, 0, 0, 0, 0, 0, 0, 0, 0, 0, 0, 0, 0, 0, 0]) = M from sa_0 (hM.trans (pz_rep 18).symm), show pm_sa T b (rl [-1, -1, -1, -1, -1, -1, -1, -1, -1, -1, -1, -1, -1, -1, -1, -1, -1, -1]) = T from sa_0 (hT.trans (pl_rep 18).symm)] at hs
    exact (en12 (d := d + 1)).mpr hs
  refine st_ini (idx := 3) (by decide +kernel) ?_
  refine st_int (p := 4) (q := 7) (c := 20) (idx := 9) (k := 5) h0 (by decide +kernel) (by decide +kernel) (Nat.le_of_ble_eq_true rfl) ?_
  refine st_int (p := 10) (q := 13) (c := 50) (idx := 15) (k := 6) h0 (by decide +kernel) (by decide +kernel) (Nat.le_of_ble_eq_true rfl) ?_
  refine st_arr (p := 16) (q := 18) (n := 3) (kd := 100) (t := .int) (idx := 18) (k := 8) h0 (by decide +kernel) (by decide +kernel) (Nat.le_of_ble_eq_true rfl) ?_
  have h1 := OC_al (kd := 100) (n := 3) h0
  refine st_arr (p := 23) (q := 25) (n := 3) (kd := 100) (t := .int) (idx := 22) (k := 9) h1 (by decide +kernel) (by decide +kernel) (Nat.le_of_ble_eq_true rfl) ?_
  have h2 := OC_al (kd := 100) (n := 3) h1
  refine st_arr (p := 30) (q := 33) (n := 8) (kd := 100) (t := .int) (idx := 25) (k := 10) h2 (by decide +kernel) (by decide +kernel) (Nat.le_of_ble_eq_true rfl) ?_
  have h3 := OC_al (kd := 100) (n := 8) h2
  refine st_arr (p := 38) (q := 41) (n := 8) (kd := 100) (t := .int) (idx := 28) (k := 11) h3 (by decide +kernel) (by decide +kernel) (Nat.le_of_ble_eq_true rfl) ?_
  have h4 := OC_al (kd := 100) (n := 8) h3
  refine st_arr (p := 46) (q := 49) (n := 8) (kd := 100) (t := .int) (idx := 31) (k := 12) h4 (by decide +kernel) (by decide +kernel) (Nat.le_of_ble_eq_true rfl) ?_
  have h5 := OC_al (kd := 100) (n := 8) h4
  refine st_arr (p := 54) (q := 57) (n := 16) (kd := 100) (t := .int) (idx := 34) (k := 13) h5 (by decide +kernel) (by decide +kernel) (Nat.le_of_ble_eq_true rfl) ?_
  have h6 := OC_al (kd := 100) (n := 16) h5
  refine st_arr (p := 62) (q := 65) (n := 16) (kd := 100) (t := .int) (idx := 37) (k := 14) h6 (by decide +kernel) (by decide +kernel) (Nat.le_of_ble_eq_true rfl) ?_
  have h7 := OC_al (kd := 100) (n := 16) h6
  refine st_arr (p := 70) (q := 73) (n := 16) (kd := 100) (t := .int) (idx := 40) (k := 15) h7 (by decide +kernel) (by decide +kernel) (Nat.le_of_ble_eq_true rfl) ?_
  have h8 := OC_al (kd := 100) (n := 16) h7
  refine st_new (p := 78) (idx1 := 43) (idx2 := 45) (nest := 1) (n := 6) (idx := 46) (k := 16) t54 (by decide) (by omega) h8 (by decide +kernel) (by decide +kernel) (Nat.le_of_ble_eq_true rfl) (fun h9 => ?_)
  refine st_new (p := 89) (idx1 := 50) (idx2 := 52) (nest := 1) (n := 7) (idx := 53) (k := 17) t39 (by decide) (by omega) h9 (by decide +kernel) (by decide +kernel) (Nat.le_of_ble_eq_true rfl) (fun h10 => ?_)
  refine (px_rv (by decide +kernel)).mpr ?_
  refine cast (congrArg (K PU) (Prod.ext ?_ (Prod.ext ?_ ?_))) kk
  · simp only [← alL_app, List.cons_append, List.nil_append]
  · rfl
  · rfl
set_option maxRecDepth 4000 in
theorem t112 : CT 112 9 1 [(100, 72), (100, 24)] [(0, [0, 0])] [(0, [1, 2])] := by
  intro d G M T b K hF hG hk hM hT kk
  obtain ⟨g1, g2⟩ := G
  have eg : g1 = b + 1 := hG
  subst eg
  have h0 : OC (b + 1, g2) M T b 9 := ⟨hF, Nat.lt_succ_self b, hk⟩
  suffices hs : pm_Run (d + 0) 112 0 [vA b] [] ((b + 1, g2), pm_sa M b (pz [0, 0]), pm_sa T b (rl [-1, -1])) K by
    rw [show pm_sa M b (pz [0, 0]) = M from sa_0 (hM.trans (pz_rep 2).symm), show pm_sa T b (rl [-1, -1]) = T from sa_0 (hT.trans (pl_rep 2).symm)] at hs
    exact (en112 (d := d + 0)).mpr hs
  refine st_ini (idx := 3) (by decide +kernel) ?_
  refine st_arr (p := 4) (q := 7) (n := 72) (kd := 100) (t := .int) (idx := 9) (k := 0) h0 (by decide +kernel) (by decide +kernel) (Nat.le_of_ble_eq_true rfl) ?_
  have h1 := OC_al (kd := 100) (n := 72) h0
  refine st_arr (p := 12) (q := 15) (n := 24) (kd := 100) (t := .int) (idx := 15) (k := 1) h1 (by decide +kernel) (by decide +kernel) (Nat.le_of_ble_eq_true rfl) ?_
  have h2 := OC_al (kd := 100) (n := 24) h1
  refine (px_rv (by decide +kernel)).mpr ?_
  refine cast (congrArg (K PU) (Prod.ext ?_ (Prod.ext ?_ ?_))) kk
  · simp only [← alL_app, List.cons_append, List.nil_append]
  · rfl
  · rfl
