/-! Constructors: cells laid one after the other. -/
def pz (l : List Int) : Nat → Int := fun k => l.getD k 0
def rl (l : List Int) : Nat → Int := fun k => l.getD k (-1)
def alG (G : PG) (kd n : Nat) : PG := (G.1 + 1, G.2.1 + n, (fun a => if a = G.1 then (kd, n) else G.2.2.1 a), G.2.2.2)
def alL (G : PG) : List (Nat × Nat) → PG
  | [] => G
  | x :: r => alL (alG G x.1 x.2) r
def asM (M : PH) : List (Nat × List Int) → PH
  | [] => M
  | x :: r => asM (pm_sa M x.1 (pz x.2)) r
def asT (T : PH) : List (Nat × List Int) → PH
  | [] => T
  | x :: r => asT (pm_sa T x.1 (rl x.2)) r
def shM (b : Nat) (R : List (Nat × List Int)) : List (Nat × List Int) := R.map (fun x => (b + x.1, x.2))
def shT (b : Nat) (R : List (Nat × List Int)) : List (Nat × List Int) := R.map (fun x => (b + x.1, x.2.map (fun r => if r < 0 then -1 else ((b + r.toNat : Nat) : Int))))
/-- no cell from here on has been laid -/
def FR (G : PG) (M T : PH) : Prop := ∀ q, G.1 ≤ q → M q = pz [] ∧ T q = rl []
def OC (G : PG) (M T : PH) (a ci : Nat) : Prop := FR G M T ∧ a < G.1 ∧ (G.2.2.1 a).1 = ci
section NEW1
variable {G : PG} {M T : PH} {a b ci kd n : Nat} {f g : Nat → Int} {l : List Int} {L L2 : List (Nat × List Int)}
theorem pz_nil : (fun _ => 0 : Nat → Int) = pz [] := rfl
theorem pl_nil : (fun _ => -1 : Nat → Int) = rl [] := rfl
theorem pz_rep (n : Nat) : pz (List.replicate n 0) = pz [] := by
  funext k
  simp only [pz, List.getD_eq_getElem?_getD, List.getElem?_replicate, List.getElem?_nil]
  split <;> rfl
theorem pl_rep (n : Nat) : rl (List.replicate n (-1)) = rl [] := by
  funext k
  simp only [rl, List.getD_eq_getElem?_getD, List.getElem?_replicate, List.getElem?_nil]
  split <;> rfl
theorem pl_set {k : Nat} {x : Int} (hk : k < l.length) : pm_up (rl l) k x = rl (l.set k x) := by
  funext j
  simp only [pm_up, rl, List.getD_eq_getElem?_getD, List.getElem?_set]
  by_cases e : j = k
  · subst e; rw [if_pos rfl, if_pos rfl, if_pos hk]; rfl
  · rw [if_neg e, if_neg (fun z => e z.symm)]
theorem pz_set {k : Nat} {x : Int} (hk : k < l.length) : pm_up (pz l) k x = pz (l.set k x) := by
  funext j
  simp only [pm_up, pz, List.getD_eq_getElem?_getD, List.getElem?_set]
  by_cases e : j = k
  · subst e; rw [if_pos rfl, if_pos rfl, if_pos hk]; rfl
  · rw [if_neg e, if_neg (fun z => e z.symm)]
theorem sa_2 : pm_sa (pm_sa M a f) a g = pm_sa M a g := by
  funext b
  simp only [pm_sa]
  split <;> rfl
theorem sa_0 (h : M a = f) : pm_sa M a f = M := by
  funext b
  simp only [pm_sa]
  split
  · rename_i e; rw [e, h]
  · rfl
theorem sa_cm (h : a ≠ b) : pm_sa (pm_sa M a f) b g = pm_sa (pm_sa M b g) a f := by
  funext c
  simp only [pm_sa]
  by_cases e : c = a
  · subst e; rw [if_pos rfl, if_pos rfl, if_neg h]
  · rw [if_neg e, if_neg e]
theorem al_id (h : FR G M T) : pm_al (G, M, T) kd n = (alG G kd n, M, T) := by
  have h0 := h G.1 (Nat.le_refl _)
  show (alG G kd n, pm_sa M G.1 (pz []), pm_sa T G.1 (rl [])) = _
  rw [sa_0 h0.1, sa_0 h0.2]
theorem FR_al (h : FR G M T) : FR (alG G kd n) M T := fun q hq => h q (by have : G.1 + 1 ≤ q := hq; omega)
theorem FR_sm (h : FR G M T) (ha : a < G.1) : FR G (pm_sa M a f) T := fun q hq => ⟨by rw [show pm_sa M a f q = M q from if_neg (by omega)]; exact (h q hq).1, (h q hq).2⟩
theorem FR_st (h : FR G M T) (ha : a < G.1) : FR G M (pm_sa T a f) := fun q hq => ⟨(h q hq).1, by rw [show pm_sa T a f q = T q from if_neg (by omega)]; exact (h q hq).2⟩
theorem OC_al (h : OC G M T a ci) : OC (alL G [(kd, n)]) M T a ci := ⟨FR_al h.1, by show a < G.1 + 1; have := h.2.1; omega, by
  show (if a = G.1 then (kd, n) else G.2.2.1 a).1 = ci
  rw [if_neg (by have := h.2.1; omega)]; exact h.2.2⟩
theorem OC_ob (h : OC G M T a ci) : pm_ob G (a : Int) ci := ⟨Int.natCast_nonneg _, by rw [Int.toNat_natCast]; exact h.2.1, by rw [Int.toNat_natCast]; exact h.2.2⟩
theorem alL_app : ∀ (l l2 : List (Nat × Nat)) (G : PG), alL G (l ++ l2) = alL (alL G l) l2
  | [], _, _ => rfl
  | _ :: r, l2, _ => alL_app r l2 _
theorem asM_app : ∀ (L L2 : List (Nat × List Int)) (M : PH), asM M (L ++ L2) = asM (asM M L) L2
  | [], _, _ => rfl
  | _ :: r, L2, _ => asM_app r L2 _
theorem asT_app : ∀ (L L2 : List (Nat × List Int)) (M : PH), asT M (L ++ L2) = asT (asT M L) L2
  | [], _, _ => rfl
  | _ :: r, L2, _ => asT_app r L2 _
theorem alL_1 : ∀ (l : List (Nat × Nat)) (G : PG), (alL G l).1 = G.1 + l.length
  | [], _ => rfl
  | x :: r, G => by
    show (alL (alG G x.1 x.2) r).1 = _
    rw [alL_1 r, List.length_cons]
    show G.1 + 1 + r.length = _
    omega
theorem alL_k : ∀ (l : List (Nat × Nat)) (G : PG) (q : Nat), q < G.1 → (alL G l).2.2.1 q = G.2.2.1 q
  | [], _, _, _ => rfl
  | x :: r, G, q, h => by
    show (alL (alG G x.1 x.2) r).2.2.1 q = _
    rw [alL_k r (alG G x.1 x.2) q (by show q < G.1 + 1; omega)]
    show (if q = G.1 then _ else G.2.2.1 q) = _
    rw [if_neg (by omega)]
theorem asM_n : ∀ (L : List (Nat × List Int)) (M : PH) (q : Nat), (∀ x ∈ L, x.1 ≠ q) → asM M L q = M q
  | [], _, _, _ => rfl
  | x :: r, M, q, h => by
    show asM (pm_sa M x.1 (pz x.2)) r q = _
    rw [asM_n r _ q (fun y hy => h y (List.mem_cons_of_mem _ hy))]
    exact if_neg (fun z => h x List.mem_cons_self z.symm)
theorem asT_n : ∀ (L : List (Nat × List Int)) (M : PH) (q : Nat), (∀ x ∈ L, x.1 ≠ q) → asT M L q = M q
  | [], _, _, _ => rfl
  | x :: r, M, q, h => by
    show asT (pm_sa M x.1 (rl x.2)) r q = _
    rw [asT_n r _ q (fun y hy => h y (List.mem_cons_of_mem _ hy))]
    exact if_neg (fun z => h x List.mem_cons_self z.symm)
theorem asM_c : ∀ (L : List (Nat × List Int)) (M : PH) (a : Nat), (∀ x ∈ L, x.1 ≠ a) → asM (pm_sa M a f) L = pm_sa (asM M L) a f
  | [], _, _, _ => rfl
  | x :: r, M, a, h => by
    show asM (pm_sa (pm_sa M a f) x.1 (pz x.2)) r = pm_sa (asM (pm_sa M x.1 (pz x.2)) r) a f
    rw [sa_cm (fun z => h x List.mem_cons_self z.symm), asM_c r _ a (fun y hy => h y (List.mem_cons_of_mem _ hy))]
theorem asT_c : ∀ (L : List (Nat × List Int)) (M : PH) (a : Nat), (∀ x ∈ L, x.1 ≠ a) → asT (pm_sa M a f) L = pm_sa (asT M L) a f
  | [], _, _, _ => rfl
  | x :: r, M, a, h => by
    show asT (pm_sa (pm_sa M a f) x.1 (rl x.2)) r = pm_sa (asT (pm_sa M x.1 (rl x.2)) r) a f
    rw [sa_cm (fun z => h x List.mem_cons_self z.symm), asT_c r _ a (fun y hy => h y (List.mem_cons_of_mem _ hy))]
/-- keys of a list of rows lie from b on, below e -/
def kOK (b e : Nat) (L : List (Nat × List Int)) : Prop := ∀ x ∈ L, b ≤ x.1 ∧ x.1 < e
theorem kOK_M {e : Nat} {R : List (Nat × List Int)} (h : ∀ x ∈ R, x.1 < e) : kOK b (b + e) (shM b R) := by
  intro x hx
  obtain ⟨y, hy, rfl⟩ := List.mem_map.mp hx
  have := h y hy
  exact ⟨Nat.le_add_right _ _, by show b + y.1 < b + e; omega⟩
theorem kOK_T {e : Nat} {R : List (Nat × List Int)} (h : ∀ x ∈ R, x.1 < e) : kOK b (b + e) (shT b R) := by
  intro x hx
  obtain ⟨y, hy, rfl⟩ := List.mem_map.mp hx
  have := h y hy
  exact ⟨Nat.le_add_right _ _, by show b + y.1 < b + e; omega⟩
theorem OC_as {kl : List (Nat × Nat)} {Lm Lt : List (Nat × List Int)} (h : OC G M T a ci) (hm : kOK G.1 (G.1 + kl.length) Lm) (ht : kOK G.1 (G.1 + kl.length) Lt) : OC (alL G kl) (asM M Lm) (asT T Lt) a ci := by
  refine ⟨fun q hq => ?_, ?_, ?_⟩
  · rw [alL_1] at hq
    rw [asM_n _ _ q (fun x hx => by have := hm x hx; omega), asT_n _ _ q (fun x hx => by have := ht x hx; omega)]
    exact h.1 q (by omega)
  · rw [alL_1]; have := h.2.1; omega
  · rw [alL_k _ _ _ h.2.1]; exact h.2.2
end NEW1
def isPu (m q : Nat) (c : Int) (q' : Nat) : Bool := match pm_fe m q with
  | some (.iconst z, _) => decide (z = c ∧ q' = q + 1)
  | some (.bipush z, _) => decide (z = c ∧ q' = q + 2 ∧ -128 ≤ z ∧ z < 128)
  | some (.sipush z, _) => decide (z = c ∧ q' = q + 3 ∧ -32768 ≤ z ∧ z < 32768)
  | _ => false
def kdA : ArrayType → Option Nat
  | .int => some 100
  | .byte => some 101
  | .boolean => some 102
  | .long => some 103
  | _ => none
section NEW2
variable {d m p q : Nat} {ls st : List PV} {G : PG} {M T : PH} {K : PV → PS → Prop} {S : PS} {a b ci kd k idx : Nat} {c : Int} {lm lt : List Int}
theorem px_pu (h : isPu m p c q = true) : pm_Run d m p ls st S K ↔ pm_Run d m q ls (vI c :: st) S K := by
  unfold isPu at h
  split at h
  · rename_i z n hf
    have e := of_decide_eq_true h
    obtain ⟨rfl, rfl⟩ := e
    exact px_go hf rfl
  · rename_i z n hf
    have e := of_decide_eq_true h
    obtain ⟨rfl, rfl, h1⟩ := e
    exact px_go hf (by simp only [pm_step, if_pos h1])
  · rename_i z n hf
    have e := of_decide_eq_true h
    obtain ⟨rfl, rfl, h1⟩ := e
    exact px_go hf (by simp only [pm_step, if_pos h1])
  · cases h
theorem px_nwA {t : ArrayType} {n : Nat} (hf : pm_fe m p = some (.newarray t, 2)) (ht : kdA t = some kd) (hn : n ≤ 100000) (hF : FR G M T) : pm_Run d m p ls (vI (n : Int) :: st) (G, M, T) K ↔ pm_Run d m (p + 2) ls (vA G.1 :: st) (alG G kd n, M, T) K := by
  refine px_go hf ?_
  have e1 : pm_sg (n : Int) = n := pm_sgN (by omega)
  show pm_newa t p ls (vI (n : Int) :: st) (G, M, T) = _
  unfold pm_newa
  simp only [e1, Int.toNat_natCast, al_id hF]
  rw [if_pos (by omega)]
  cases t <;> simp only [kdA, Option.some.injEq, reduceCtorEq] at ht <;> subst ht <;> rfl
theorem px_nwO {n : Nat} (h : pm_fe m p = some (.new idx, 3) ∧ pm_nr (pm_cl m) idx = some ci ∧ ci < 13 ∧ pm_nf ci = n) (hF : FR G M T) : pm_Run d m p ls st (G, M, T) K ↔ pm_Run d m (p + 3) ls (vA G.1 :: st) (alG G ci n, M, T) K := by
  refine (px_newo h).trans ?_
  rw [al_id hF]
theorem st_ini (h : pm_fe m 0 = some (.aload_n 0, 1) ∧ pm_fe m 1 = some (.invokespecial idx, 3) ∧ pm_mr (pm_cl m) idx = some (900, 0)) (kk : pm_Run d m 4 (vA a :: ls) [] S K) : pm_Run d m 0 (vA a :: ls) [] S K := by
  refine (px_go h.1 rfl).mpr ?_
  exact (px_oi ⟨h.2.1, h.2.2⟩).mpr ⟨⟨Int.natCast_nonneg _, by decide⟩, kk⟩
theorem st_pR {x : Nat} (h : OC G M T a ci) (hc : pm_fe m p = some (.putfield idx, 3) ∧ pm_fr (pm_cl m) idx = some (ci, k) ∧ k < pm_nf ci ∧ pm_may m ci k ∧ pm_tag (pm_ft ci k) = 2) (hk : k < lt.length) : pm_Run d m p ls (vA x :: vA a :: st) (G, pm_sa M a (pz lm), pm_sa T a (rl lt)) K ↔ pm_Run d m (p + 3) ls st (G, pm_sa M a (pz lm), pm_sa T a (rl (lt.set k (x : Int)))) K := by
  refine (px_put2 hc).trans ((and_iff_right ⟨OC_ob h, Int.natCast_nonneg _⟩).trans ?_)
  rw [Int.toNat_natCast, sa_2, show pm_sa T a (rl lt) a = rl lt from if_pos rfl, pl_set hk]
theorem st_pI (h : OC G M T a ci) (hc : pm_fe m p = some (.putfield idx, 3) ∧ pm_fr (pm_cl m) idx = some (ci, k) ∧ k < pm_nf ci ∧ pm_may m ci k ∧ pm_tag (pm_ft ci k) = 0) (hk : k < lm.length) : pm_Run d m p ls (vI c :: vA a :: st) (G, pm_sa M a (pz lm), pm_sa T a (rl lt)) K ↔ pm_Run d m (p + 3) ls st (G, pm_sa M a (pz (lm.set k c)), pm_sa T a (rl lt)) K := by
  refine (px_put0 hc).trans ((and_iff_right (OC_ob h)).trans ?_)
  rw [Int.toNat_natCast, sa_2, show pm_sa M a (pz lm) a = pz lm from if_pos rfl, pz_set hk]
theorem st_pZ (h : OC G M T a ci) (hc : pm_fe m p = some (.putfield idx, 3) ∧ pm_fr (pm_cl m) idx = some (ci, k) ∧ k < pm_nf ci ∧ pm_may m ci k ∧ pm_tag (pm_ft ci k) = 3) (hx : c = 0 ∨ c = 1) (hk : k < lm.length) : pm_Run d m p ls (vI c :: vA a :: st) (G, pm_sa M a (pz lm), pm_sa T a (rl lt)) K ↔ pm_Run d m (p + 3) ls st (G, pm_sa M a (pz (lm.set k c)), pm_sa T a (rl lt)) K := by
  refine (px_put3 hc).trans ((and_iff_right ⟨OC_ob h, hx⟩).trans ?_)
  rw [Int.toNat_natCast, sa_2, show pm_sa M a (pz lm) a = pz lm from if_pos rfl, pz_set hk]
theorem st_pL (h : OC G M T a ci) (hc : pm_fe m p = some (.putfield idx, 3) ∧ pm_fr (pm_cl m) idx = some (ci, k) ∧ k < pm_nf ci ∧ pm_may m ci k ∧ pm_tag (pm_ft ci k) = 1) (hk : k < lm.length) : pm_Run d m p ls (vL c :: vA a :: st) (G, pm_sa M a (pz lm), pm_sa T a (rl lt)) K ↔ pm_Run d m (p + 3) ls st (G, pm_sa M a (pz (lm.set k c)), pm_sa T a (rl lt)) K := by
  refine (px_put1 hc).trans ((and_iff_right (OC_ob h)).trans ?_)
  rw [Int.toNat_natCast, sa_2, show pm_sa M a (pz lm) a = pz lm from if_pos rfl, pz_set hk]
/-- a field becomes a new array -/
theorem st_arr {t : ArrayType} {n : Nat} (h : OC G M T a ci) (hc : pm_fe m p = some (.aload_n 0, 1) ∧ isPu m (p + 1) (n : Int) q = true ∧ pm_fe m q = some (.newarray t, 2) ∧ kdA t = some kd ∧ n ≤ 100000) (hp : pm_fe m (q + 2) = some (.putfield idx, 3) ∧ pm_fr (pm_cl m) idx = some (ci, k) ∧ k < pm_nf ci ∧ pm_may m ci k ∧ pm_tag (pm_ft ci k) = 2) (hk : k < lt.length) (kk : pm_Run d m (q + 5) (vA a :: ls) [] (alL G [(kd, n)], pm_sa M a (pz lm), pm_sa T a (rl (lt.set k ((G.1 : Nat) : Int)))) K) : pm_Run d m p (vA a :: ls) [] (G, pm_sa M a (pz lm), pm_sa T a (rl lt)) K := by
  obtain ⟨h1, h2, h3, h4, h5⟩ := hc
  refine (px_go h1 rfl).mpr ?_
  refine (px_pu h2).mpr ?_
  refine (px_nwA h3 h4 h5 (FR_st (FR_sm h.1 h.2.1) h.2.1)).mpr ?_
  exact (st_pR (G := alL G [(kd, n)]) (OC_al h) hp hk).mpr kk
/-- a field becomes a number -/
theorem st_int (h : OC G M T a ci) (hc : pm_fe m p = some (.aload_n 0, 1) ∧ isPu m (p + 1) c q = true) (hp : pm_fe m q = some (.putfield idx, 3) ∧ pm_fr (pm_cl m) idx = some (ci, k) ∧ k < pm_nf ci ∧ pm_may m ci k ∧ (pm_tag (pm_ft ci k) = 0 ∨ (pm_tag (pm_ft ci k) = 3 ∧ (c = 0 ∨ c = 1)))) (hk : k < lm.length) (kk : pm_Run d m (q + 3) (vA a :: ls) [] (G, pm_sa M a (pz (lm.set k c)), pm_sa T a (rl lt)) K) : pm_Run d m p (vA a :: ls) [] (G, pm_sa M a (pz lm), pm_sa T a (rl lt)) K := by
  obtain ⟨h1, h2⟩ := hc
  obtain ⟨p1, p2, p3, p4, p5⟩ := hp
  refine (px_go h1 rfl).mpr ?_
  refine (px_pu h2).mpr ?_
  rcases p5 with p5 | ⟨p5, p6⟩
  · exact (st_pI h ⟨p1, p2, p3, p4, p5⟩ hk).mpr kk
  · exact (st_pZ h ⟨p1, p2, p3, p4, p5⟩ p6 hk).mpr kk
/-- a field becomes a long -/
theorem st_lng {z : Fin 2} (h : OC G M T a ci) (hc : pm_fe m p = some (.aload_n 0, 1) ∧ pm_fe m (p + 1) = some (.lconst z, 1)) (hp : pm_fe m (p + 2) = some (.putfield idx, 3) ∧ pm_fr (pm_cl m) idx = some (ci, k) ∧ k < pm_nf ci ∧ pm_may m ci k ∧ pm_tag (pm_ft ci k) = 1) (hk : k < lm.length) (kk : pm_Run d m (p + 5) (vA a :: ls) [] (G, pm_sa M a (pz (lm.set k ((z : Nat) : Int))), pm_sa T a (rl lt)) K) : pm_Run d m p (vA a :: ls) [] (G, pm_sa M a (pz lm), pm_sa T a (rl lt)) K := by
  refine (px_go hc.1 rfl).mpr ?_
  refine (px_go hc.2 rfl).mpr ?_
  exact (st_pL h hp hk).mpr kk
/-- a field becomes what a local holds -/
theorem st_loc {x : Nat} {j : Fin 4} (h : OC G M T a ci) (hl : (vA a :: ls)[(j : Nat)]? = some (vA x)) (hc : pm_fe m p = some (.aload_n 0, 1) ∧ pm_fe m (p + 1) = some (.aload_n j, 1)) (hp : pm_fe m (p + 2) = some (.putfield idx, 3) ∧ pm_fr (pm_cl m) idx = some (ci, k) ∧ k < pm_nf ci ∧ pm_may m ci k ∧ pm_tag (pm_ft ci k) = 2) (hk : k < lt.length) (kk : pm_Run d m (p + 5) (vA a :: ls) [] (G, pm_sa M a (pz lm), pm_sa T a (rl (lt.set k (x : Int)))) K) : pm_Run d m p (vA a :: ls) [] (G, pm_sa M a (pz lm), pm_sa T a (rl lt)) K := by
  refine (px_go hc.1 rfl).mpr ?_
  refine (px_go (pc' := p + 1 + 1) (ls' := vA a :: ls) (st' := [vA x, vA a]) (S' := (G, pm_sa M a (pz lm), pm_sa T a (rl lt))) hc.2 (by simp only [pm_step, pm_lda, hl])).mpr ?_
  exact (st_pR h hp hk).mpr kk
/-- what a constructor without arguments does -/
def CT (m ci dep : Nat) (kl : List (Nat × Nat)) (Rm Rt : List (Nat × List Int)) : Prop := ∀ (d : Nat) (G : PG) (M T : PH) (b : Nat) (K : PV → PS → Prop), FR G M T → G.1 = b + 1 → (G.2.2.1 b).1 = ci → M b = pz [] → T b = rl [] → K PU (alL G kl, asM M (shM b Rm), asT T (shT b Rt)) → pm_Call (d + dep) m [vA b] (G, M, T) K
/-- a field becomes a new object -/
theorem st_new {m' c2 n dep idx1 idx2 nest : Nat} {kl : List (Nat × Nat)} {Rm Rt : List (Nat × List Int)} (hC : CT m' c2 dep kl Rm Rt) (hR : (∀ x ∈ Rm, x.1 < kl.length + 1) ∧ ∀ x ∈ Rt, x.1 < kl.length + 1) (hd : dep ≤ d) (h : OC G M T a ci) (hc : pm_fe m p = some (.aload_n 0, 1) ∧ (pm_fe m (p + 1) = some (.new idx1, 3) ∧ pm_nr (pm_cl m) idx1 = some c2 ∧ c2 < 13 ∧ pm_nf c2 = n) ∧ pm_fe m (p + 4) = some (.dup, 1) ∧ (pm_fe m (p + 5) = some (.invokespecial idx2, 3) ∧ pm_mr (pm_cl m) idx2 = some (m', nest) ∧ m' < 900 ∧ pm_np m' = 0 ∧ pm_kd m' = 2)) (hp : pm_fe m (p + 8) = some (.putfield idx, 3) ∧ pm_fr (pm_cl m) idx = some (ci, k) ∧ k < pm_nf ci ∧ pm_may m ci k ∧ pm_tag (pm_ft ci k) = 2) (hk : k < lt.length) (kk : OC (alL G ((c2, n) :: kl)) (asM M (shM G.1 Rm)) (asT T (shT G.1 Rt)) a ci → pm_Run d m (p + 11) (vA a :: ls) [] (alL G ((c2, n) :: kl), pm_sa (asM M (shM G.1 Rm)) a (pz lm), pm_sa (asT T (shT G.1 Rt)) a (rl (lt.set k ((G.1 : Nat) : Int)))) K) : pm_Run d m p (vA a :: ls) [] (G, pm_sa M a (pz lm), pm_sa T a (rl lt)) K := by
  obtain ⟨h1, h2, h3, h4⟩ := hc
  obtain ⟨d', rfl⟩ : ∃ d', d = d' + dep := ⟨d - dep, by omega⟩
  have hF := FR_st (f := rl lt) (FR_sm (f := pz lm) h.1 h.2.1) h.2.1
  have ha := h.2.1
  have km : kOK G.1 (G.1 + ((c2, n) :: kl).length) (shM G.1 Rm) := kOK_M hR.1
  have kt : kOK G.1 (G.1 + ((c2, n) :: kl).length) (shT G.1 Rt) := kOK_T hR.2
  have hO := OC_as (kl := (c2, n) :: kl) h km kt
  refine (px_go h1 rfl).mpr ?_
  refine (px_nwO h2 hF).mpr ?_
  refine (px_go h3 rfl).mpr ?_
  refine (px_i0 h4).mpr ⟨⟨Int.natCast_nonneg _, Nat.le_of_ble_eq_true rfl⟩, ?_⟩
  refine hC d' _ _ _ G.1 _ (FR_al hF) rfl (by show (if G.1 = G.1 then (c2, n) else G.2.2.1 G.1).1 = c2; rw [if_pos rfl]) (hF _ (Nat.le_refl _)).1 (hF _ (Nat.le_refl _)).2 ?_
  rw [asM_c _ _ _ (fun x hx => by have := km x hx; omega), asT_c _ _ _ (fun x hx => by have := kt x hx; omega)]
  exact (st_pR (G := alL G ((c2, n) :: kl)) hO hp hk).mpr (kk hO)
end NEW2
