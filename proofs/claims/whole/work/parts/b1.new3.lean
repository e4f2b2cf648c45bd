/-! Constructors: the words of the lexer, two arguments, the past. -/
section NEW3
variable {d m p q : Nat} {ls st : List PV} {G : PG} {M T : PH} {K : PV → PS → Prop} {S : PS} {a b ci kd k idx : Nat} {c : Int} {lm lt : List Int}
def kst (s : Nat × Nat × List Int) (c : Int) : Nat × Nat × List Int := if c = 32 then (s.1 + 1, 0, s.2.2) else (s.1, s.2.1 + 1, s.2.2.set s.1 (pm_or (s.2.2.getD s.1 0) (pm_shl ((c - 97) + 1) (25 - (5 * (s.2.1 : Int))))))
def kfj (j : Nat) : Nat × Nat × List Int := (pm_own.take j).foldl kst (0, 0, List.replicate 29 0)
theorem own_len : pm_own.length = 147 := by decide +kernel
theorem own_r : ∀ j, j < 147 → 0 ≤ pm_own.getD j 0 ∧ pm_own.getD j 0 < 256 := by decide +kernel
theorem kf_s {j : Nat} (hj : j < 147) : kfj (j + 1) = kst (kfj j) (pm_own.getD j 0) := by
  have e : pm_own.take (j + 1) = pm_own.take j ++ [pm_own.getD j 0] := by
    rw [List.take_add_one, List.getD_eq_getElem?_getD, List.getElem?_eq_getElem (by rw [own_len]; exact hj)]
    rfl
  unfold kfj
  rw [e, List.foldl_append]
  rfl
theorem kf_w : ∀ j, j < 148 → (kfj j).1 < 29 := by decide +kernel
theorem kst_l (s : Nat × Nat × List Int) (c : Int) : (kst s c).2.2.length = s.2.2.length := by
  unfold kst
  split
  · rfl
  · exact List.length_set
theorem kf_l : ∀ j, j < 148 → (kfj j).2.2.length = 29 := by
  intro j
  induction j with
  | zero => intro _; rfl
  | succ j ih => intro h; rw [kf_s (by omega), kst_l]; exact ih (by omega)
theorem kf_e : (kfj 147).2.2 = KEYS := by decide +kernel
theorem n48_25 {w l j : Int} {l4 : PV} : pm_Run d 48 25 [vA b, vI w, vI l, vI j, l4] [] S K ↔ pm_Run d 48 31 [vA b, vI w, vI l, vI j, l4] [vI 147, vI j] S K := by
  refine (px_go (by decide +kernel : pm_fe 48 25 = some (.iload_n 3, 1)) rfl).trans ?_
  refine (px_ldcS (idx := 19) (x := -3) (by decide +kernel)).trans ?_
  refine px_go (by decide +kernel : pm_fe 48 28 = some (.invokevirtual 21, 3)) ?_
  have e : pm_mr (pm_cl 48) 21 = some (902, 0) := by decide +kernel
  simp only [pm_step, pm_invv, e]
  rfl
theorem n48_40 {w l : Int} {j : Nat} {l4 : PV} (hj : j < 147) : pm_Run d 48 40 [vA b, vI w, vI l, vI (j : Int), l4] [] S K ↔ pm_Run d 48 46 [vA b, vI w, vI l, vI (j : Int), l4] [vI (pm_own.getD j 0)] S K := by
  refine (px_ldcS (idx := 19) (x := -3) (by decide +kernel)).trans ?_
  refine (px_go (by decide +kernel : pm_fe 48 42 = some (.iload_n 3, 1)) rfl).trans ?_
  refine px_go (by decide +kernel : pm_fe 48 43 = some (.invokevirtual 27, 3)) ?_
  have e : pm_mr (pm_cl 48) 27 = some (903, 0) := by decide +kernel
  have e1 : pm_sg (j : Int) = j := pm_sgN (by omega)
  have e2 : pm_str (-3) = some pm_own := rfl
  simp only [pm_step, pm_invv, e, e1, e2, own_len, Int.toNat_natCast]
  rw [if_neg (by omega), if_neg (by omega), if_pos trivial, if_pos ⟨by decide, by omega, by omega⟩]
theorem s48 {s : Nat × Nat × List Int} {c : Int} {j : Nat} {l4 : PV} (hob : pm_ob G (b : Int) 4) (hT : T b 0 = ((b + 1 : Nat) : Int)) (har : ∀ w : Nat, w < 29 → pm_ar G ((b + 1 : Nat) : Int) 100 (w : Int)) (hw : s.1 < 29) (hl : s.2.2.length = 29) (hc : 0 ≤ c ∧ c < 256) (kk : pm_Run d 48 25 [vA b, vI ((kst s c).1 : Nat), vI ((kst s c).2.1 : Nat), vI ((j + 1 : Nat) : Int), vI c] [] (G, pm_sa M (b + 1) (pz (kst s c).2.2), T) K) : pm_Run d 48 46 [vA b, vI (s.1 : Nat), vI (s.2.1 : Nat), vI (j : Int), l4] [vI c] (G, pm_sa M (b + 1) (pz s.2.2), T) K := by
  have s3 : pm_sg (32 : Int) = 32 := by decide
  have e2 : pm_sg (s.1 : Int) = s.1 := pm_sgN (by omega)
  have e3 : pm_sg c = c := pm_sgid (by omega) (by omega)
  refine b48_46.mpr ?_
  rw [e3, s3]
  unfold kst at kk
  by_cases q : c = 32
  · rw [if_neg (fun z => z q)]
    refine b48_55.mpr ?_
    refine b48_89.mpr ?_
    simp only [if_pos q, Int.natCast_add, Int.natCast_one, Int.natCast_zero] at kk
    exact kk
  · rw [if_pos q]
    have eb : (b : Int).toNat = b := Int.toNat_natCast b
    refine (b48_63 hob (by rw [eb, hT]; exact har _ hw)).mpr ?_
    refine b48_89.mpr ?_
    simp only [if_neg q, Int.natCast_add, Int.natCast_one] at kk
    rw [eb, hT, Int.toNat_natCast, e2, Int.toNat_natCast, sa_2, show pm_sa M (b + 1) (pz s.2.2) (b + 1) = pz s.2.2 from if_pos rfl, pz_set (by omega)]
    exact kk
theorem l48 (hob : pm_ob G (b : Int) 4) (hT : T b 0 = ((b + 1 : Nat) : Int)) (har : ∀ w : Nat, w < 29 → pm_ar G ((b + 1 : Nat) : Int) 100 (w : Int)) (hK : K PU (G, pm_sa M (b + 1) (pz KEYS), T)) : ∀ (k j : Nat) (l4 : PV), j + k = 147 → pm_Run d 48 25 [vA b, vI ((kfj j).1 : Nat), vI ((kfj j).2.1 : Nat), vI (j : Int), l4] [] (G, pm_sa M (b + 1) (pz (kfj j).2.2), T) K := by
  intro k
  induction k with
  | zero =>
    intro j l4 hj
    obtain rfl : j = 147 := by omega
    refine n48_25.mpr ?_
    refine b48_31.mpr ?_
    rw [if_pos (by decide)]
    refine b48_95.mpr ?_
    rw [kf_e]
    exact hK
  | succ k ih =>
    intro j l4 hj
    have a1 : j < 147 := by omega
    have a2 : j < 148 := by omega
    have a3 : j + 1 + k = 147 := by omega
    have a4 : ¬ (147 : Int) ≤ (j : Int) := by omega
    have e1 : pm_sg (j : Int) = j := pm_sgN (by omega)
    have s1 : pm_sg (147 : Int) = 147 := by decide
    have s2 : pm_sg (29 : Int) = 29 := by decide
    have hw := kf_w j a2
    have hl := kf_l j a2
    have hc := own_r j a1
    have a5 : ¬ (29 : Int) ≤ ((kfj j).1 : Int) := fun z => absurd (Int.ofNat_le.mp (show ((29 : Nat) : Int) ≤ _ from z)) (Nat.not_le.mpr hw)
    have e2 : pm_sg ((kfj j).1 : Int) = (kfj j).1 := pm_sgN (Nat.lt_trans hw (by decide))
    refine n48_25.mpr ?_
    refine b48_31.mpr ?_
    rw [s1, e1, if_neg a4]
    refine b48_34.mpr ?_
    rw [s2, e2, if_neg a5]
    refine (n48_40 a1).mpr ?_
    have ih' := ih (j + 1) (vI (pm_own.getD j 0)) a3
    rw [kf_s a1] at ih'
    exact s48 hob hT har hw hl hc ih'
/-- what a constructor with two arguments does -/
def CT2 (m ci dep : Nat) (kl : List (Nat × Nat)) (Rm Rt : List (Nat × List Int)) (own : Nat → Nat → Nat → List Int) : Prop := ∀ (d : Nat) (G : PG) (M T : PH) (b x1 x2 : Nat) (K : PV → PS → Prop), FR G M T → G.1 = b + 1 → (G.2.2.1 b).1 = ci → M b = pz [] → T b = rl [] → K PU (alL G kl, asM M (shM b Rm), asT T (shT b Rt ++ [(b, own b x1 x2)])) → pm_Call (d + dep) m [vA b, vA x1, vA x2] (G, M, T) K
theorem st_new2 {m' c2 n dep idx1 idx2 nest g1 g2 k1 k2 x1 x2 : Nat} {kl : List (Nat × Nat)} {Rm Rt : List (Nat × List Int)} {own : Nat → Nat → Nat → List Int} (hC : CT2 m' c2 dep kl Rm Rt own) (hR : (∀ x ∈ Rm, x.1 < kl.length + 1) ∧ ∀ x ∈ Rt, x.1 < kl.length + 1) (hd : dep ≤ d) (h : OC G M T a ci) (hx1 : rl lt k1 = (x1 : Int)) (hx2 : rl lt k2 = (x2 : Int)) (hc : pm_fe m p = some (.aload_n 0, 1) ∧ (pm_fe m (p + 1) = some (.new idx1, 3) ∧ pm_nr (pm_cl m) idx1 = some c2 ∧ c2 < 13 ∧ pm_nf c2 = n) ∧ pm_fe m (p + 4) = some (.dup, 1) ∧ (pm_fe m (p + 13) = some (.invokespecial idx2, 3) ∧ pm_mr (pm_cl m) idx2 = some (m', nest) ∧ m' < 900 ∧ pm_np m' = 2 ∧ pm_kd m' = 2)) (hg : pm_fe m (p + 5) = some (.aload_n 0, 1) ∧ (pm_fe m (p + 6) = some (.getfield g1, 3) ∧ pm_fr (pm_cl m) g1 = some (ci, k1) ∧ k1 < pm_nf ci ∧ pm_tag (pm_ft ci k1) = 2) ∧ pm_fe m (p + 9) = some (.aload_n 0, 1) ∧ (pm_fe m (p + 10) = some (.getfield g2, 3) ∧ pm_fr (pm_cl m) g2 = some (ci, k2) ∧ k2 < pm_nf ci ∧ pm_tag (pm_ft ci k2) = 2)) (hp : pm_fe m (p + 16) = some (.putfield idx, 3) ∧ pm_fr (pm_cl m) idx = some (ci, k) ∧ k < pm_nf ci ∧ pm_may m ci k ∧ pm_tag (pm_ft ci k) = 2) (hk : k < lt.length) (kk : OC (alL G ((c2, n) :: kl)) (asM M (shM G.1 Rm)) (asT T (shT G.1 Rt ++ [(G.1, own G.1 x1 x2)])) a ci → pm_Run d m (p + 19) (vA a :: ls) [] (alL G ((c2, n) :: kl), pm_sa (asM M (shM G.1 Rm)) a (pz lm), pm_sa (asT T (shT G.1 Rt ++ [(G.1, own G.1 x1 x2)])) a (rl (lt.set k ((G.1 : Nat) : Int)))) K) : pm_Run d m p (vA a :: ls) [] (G, pm_sa M a (pz lm), pm_sa T a (rl lt)) K := by
  obtain ⟨h1, h2, h3, h4⟩ := hc
  obtain ⟨y1, y2, y3, y4⟩ := hg
  obtain ⟨d', rfl⟩ : ∃ d', d = d' + dep := ⟨d - dep, by omega⟩
  have hF := FR_st (f := rl lt) (FR_sm (f := pz lm) h.1 h.2.1) h.2.1
  have ha := h.2.1
  have km : kOK G.1 (G.1 + ((c2, n) :: kl).length) (shM G.1 Rm) := kOK_M hR.1
  have kt0 : kOK G.1 (G.1 + ((c2, n) :: kl).length) (shT G.1 Rt) := kOK_T hR.2
  have kt : kOK G.1 (G.1 + ((c2, n) :: kl).length) (shT G.1 Rt ++ [(G.1, own G.1 x1 x2)]) := by
    intro x hx
    rcases List.mem_append.mp hx with hx | hx
    · exact kt0 x hx
    · rw [List.mem_singleton.mp hx]
      exact ⟨Nat.le_refl _, by rw [List.length_cons]; omega⟩
  have hO := OC_as (kl := (c2, n) :: kl) h km kt
  have hob := OC_ob (OC_al (kd := c2) (n := n) h)
  have eT : ∀ j, pm_sa T a (rl lt) (a : Int).toNat j = rl lt j := fun j => by rw [Int.toNat_natCast]; exact congrFun (if_pos rfl) j
  refine (px_go h1 rfl).mpr ?_
  refine (px_nwO h2 hF).mpr ?_
  refine (px_go h3 rfl).mpr ?_
  refine (px_go y1 rfl).mpr ?_
  refine (px_get2 y2).mpr ⟨hob, ?_⟩
  refine (px_go y3 rfl).mpr ?_
  refine (px_get2 y4).mpr ⟨hob, ?_⟩
  rw [eT, eT, hx1, hx2]
  refine (px_i2 h4).mpr ⟨⟨Int.natCast_nonneg _, Nat.le_of_ble_eq_true rfl⟩, ?_⟩
  refine hC d' _ _ _ G.1 x1 x2 _ (FR_al hF) rfl (by show (if G.1 = G.1 then (c2, n) else G.2.2.1 G.1).1 = c2; rw [if_pos rfl]) (hF _ (Nat.le_refl _)).1 (hF _ (Nat.le_refl _)).2 ?_
  rw [asM_c _ _ _ (fun x hx => by have := km x hx; omega), asT_c _ _ _ (fun x hx => by have := kt x hx; omega)]
  exact (st_pR (G := alL G ((c2, n) :: kl)) hO hp hk).mpr (kk hO)
end NEW3
