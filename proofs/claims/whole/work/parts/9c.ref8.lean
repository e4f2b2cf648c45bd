/-! The reference: a formula is reckoned. -/
section RF8
variable {d b w : Nat} {X : Nat × (Nat → Int)} {v : Nat → Int} {M M' M2 : PH} {K : PV → PS → Prop} {n : Nat → Nat} {a μ : PH} {F : Nat → List Int}
theorem c249l (hb : b < 2) (e13 : M 234 13 = (b : Int)) {E : Nat} (hE : E ≤ 1600) {l1 : Int} {e : Nat → Int} {R : Int} {t : Bool}
    (hp : ∀ (g : Nat → Int) (c y : Int), (isNu c = true ∨ c = 20026) → (c < 10000 → y = c) → ∀ K', (pm_Call (d + 3) 244 [vA 234, vI (sor c), vI y] (GF X, pm_sa M 276 g, PTF v) K' ↔ K' (vL (vc e c)) (GF X, pm_sa M 276 g, PTF v)))
    (hK : ∀ g, K (vL R) (GF X, pm_sa M 276 g, PTF v)) : ∀ (rest : List Int) (i : Nat) (xs : List Int) (ts : List Bool) (g : Nat → Int) (l5 : PV), (∀ u, isVw u = true → ((10000 + u : Nat) : Int) ∈ rest → -1000000 ≤ e u ∧ e u ≤ 1000000) → i + rest.length = E → (∀ j (h : j < rest.length), cdR M b (i + j) rest[j]) → rest.foldl ty1 (some ts) = some [t] → okS ts xs → xs.length ≤ 64 → stk g xs → (rest.foldl (ev1 e) xs).headD 0 = R → pm_Run (d + 3) 249 14 [vA 234, vI l1, vI (E : Int), vI (xs.length : Int), vI ((1600 * b + i : Nat) : Int), l5] [] (GF X, pm_sa M 276 g, PTF v) K := by
  intro rest
  induction rest with
  | nil =>
    intro i xs ts g l5 _ hi _ ht hs hl hg hR
    rw [List.length_nil] at hi
    have e13' : (pm_sa M 276 g) 234 13 = (b : Int) := e13
    injection ht with ht
    subst ht
    match xs, hs, hl, hg, hR with
    | [x], hs, hl, hg, hR =>
      rw [r249_14 (by omega) (by omega), if_pos (by omega), r249_135, sa_s, show g 0 = x from hg.1, show x = R from hR]
      exact hK g
  | cons c rest ih =>
    intro i xs ts g l5 he hi hc ht hs hl hg hR
    have he' : ∀ u, isVw u = true → ((10000 + u : Nat) : Int) ∈ rest → -1000000 ≤ e u ∧ e u ≤ 1000000 := fun u hu hm => he u hu (List.mem_cons_of_mem _ hm)
    rw [List.length_cons] at hi
    have e13' : (pm_sa M 276 g) 234 13 = (b : Int) := e13
    have hc0 : cdR M b i c := hc 0 (by simp)
    have e1 : (pm_sa M 276 g) 259 (1600 * b + i) = sor c := hc0.1
    have hc' : ∀ j (h : j < rest.length), cdR M b (i + 1 + j) rest[j] := fun j h => by
      have := hc (j + 1) (by simp; omega)
      rw [show i + 1 + j = i + (j + 1) by omega]
      exact this
    rw [List.foldl_cons] at ht hR
    cases hx : ty1 (some ts) c with
    | none => rw [hx, ty1_n] at ht; cases ht
    | some ts1 =>
      rw [hx] at ht
      have hs1 := okS_s (fun u hu hm => he u hu (by rw [hm]; exact List.mem_cons_self)) hx hs
      have hls := okS_l hs
      rw [r249_14 (by omega) (by omega), if_neg (by omega), r249_29 (by omega) (by omega), Int.toNat_natCast, e1]
      have one : (isNu c = true ∨ c = 20026) → ts.length < 64 → ev1 e xs c = vc e c :: xs → pm_Run (d + 3) 249 14 [vA 234, vI l1, vI (E : Int), vI ((xs.length : Int) + 1), vI (((1600 * b + i : Nat) : Int) + 1), vI (sor c)] [] (GF X, pm_sa M 276 (pm_up g xs.length (vc e c)), PTF v) K := by
        intro hk hl2 he4
        rw [he4] at hs1 hR
        have := ih (i + 1) _ _ (pm_up g xs.length (vc e c)) (vI (sor c)) he' (by omega) hc' ht hs1 (by simp; omega) (stk_p hg) hR
        rw [show (((1600 * b + i : Nat) : Int) + 1) = ((1600 * b + (i + 1) : Nat) : Int) by omega, show ((xs.length : Int) + 1) = (((vc e c :: xs).length : Nat) : Int) by simp]
        exact this
      have push : (isNu c = true ∨ c = 20026) → ts.length < 64 → ev1 e xs c = vc e c :: xs → pm_Call (d + 3) 248 [vI (sor c)] (GF X, pm_sa M 276 g, PTF v) (fun r s => pm_Run (d + 3) 249 43 [vA 234, vI l1, vI (E : Int), vI (xs.length : Int), vI ((1600 * b + i : Nat) : Int), vI (sor c)] (pm_push r []) s K) := by
        intro hk hl2 he4
        have hsp := sor_p hk
        rw [c248 hsp.2, if_pos hsp.1, push_i, r249_43 (by omega), if_neg (by omega), r249_46 (by omega) (by omega), Int.toNat_natCast, show pm_sa M 276 g 260 (1600 * b + i) = M 260 (1600 * b + i) from rfl]
        rw [hp g c _ hk (fun z => hc0.2 z), push_l, r249_64 (by omega) (by omega), r249_65, r249_129, sa_s, sa_sa, Int.toNat_natCast]
        exact one hk hl2 he4
      have two : (isAr c = true ∨ isCm c = true ∨ isBo c = true) → (∃ y x r t1 t2 tr, xs = y :: x :: r ∧ ts = t1 :: t2 :: tr ∧ (isBo c = true → t1 = true ∧ t2 = true)) → pm_Call (d + 3) 248 [vI (sor c)] (GF X, pm_sa M 276 g, PTF v) (fun r s => pm_Run (d + 3) 249 43 [vA 234, vI l1, vI (E : Int), vI (xs.length : Int), vI ((1600 * b + i : Nat) : Int), vI (sor c)] (pm_push r []) s K) := by
        rintro hk ⟨y, x, r, t1, t2, tr, rfl, rfl, hbo⟩
        have hb1 : -1000000 ≤ y ∧ y ≤ 1000000 := by have := hs.1; split at this <;> omega
        have hb2 : -1000000 ≤ x ∧ x ≤ 1000000 := by have := hs.2.1; split at this <;> omega
        have hl2 : ((y :: x :: r).length : Int) = (r.length : Int) + 2 := by simp; omega
        have hl3 : r.length + 2 ≤ 64 := hl
        obtain ⟨g1, g2, g3, g4, g5, g6⟩ := sor_j hk
        have e4 : ev1 e (y :: x :: r) c = jn (c - 20000) x y :: r := by rw [ev1, if_neg g4, if_neg g5, if_neg g6]; rfl
        have hk2 : isAr (c - 20000 + 20000) = true ∨ isCm (c - 20000 + 20000) = true ∨ (isBo (c - 20000 + 20000) = true ∧ (x = 0 ∨ x = 1) ∧ (y = 0 ∨ y = 1)) := by
          rw [show c - 20000 + 20000 = c by omega]
          rcases hk with h | h | h
          · exact Or.inl h
          · exact Or.inr (Or.inl h)
          · obtain ⟨rfl, rfl⟩ := hbo h
            have z1 := hs.1
            have z2 := hs.2.1
            rw [if_pos rfl] at z1 z2
            exact Or.inr (Or.inr ⟨h, z2, z1⟩)
        rw [c248 (by omega), if_neg (by omega), push_i, r249_43 (by omega), if_pos (by omega), r249_71 (by omega), if_pos (by omega), hl2, r249_99 (by omega) (by omega) (by omega) (by omega), sa_s, show ((r.length : Int) + 2 + (-1) - 1).toNat = r.length by omega, show ((r.length : Int) + 2 + (-1)).toNat = r.length + 1 by omega, hg.2.1, show g (r.length + 1) = y from hg.1, g1, c247 hk2 hb2 hb1, push_l, r249_128 (by omega) (by omega), r249_129, sa_s, sa_sa, show ((r.length : Int) + 2 + (-1) - 1).toNat = r.length by omega]
        rw [e4] at hs1 hR
        have := ih (i + 1) (jn (c - 20000) x y :: r) ts1 (pm_up g r.length (jn (c - 20000) x y)) (vI (srt (c - 20000))) he' (by omega) hc' ht hs1 (by simp; omega) (stk_p hg.2.2) hR
        rw [show ((r.length : Int) + 2 + (-1)) = (((jn (c - 20000) x y :: r).length : Nat) : Int) by simp; omega, show (((1600 * b + i : Nat) : Int) + 1) = ((1600 * b + (i + 1) : Nat) : Int) by omega]
        exact this
      rcases ty1_c hx with ⟨h1, h2, rfl⟩ | ⟨h1, h2, rfl⟩ | ⟨h1, r, rfl, rfl⟩ | ⟨h1, r, rfl, rfl⟩ | ⟨h1, r, rfl, rfl⟩ | ⟨h1, r, rfl, rfl⟩
      · have h3 : c < 20000 := by have := isNu_c h1; omega
        exact push (Or.inl h1) h2 (by rw [ev1, vc, if_pos h3, if_pos h3])
      · subst h1
        exact push (Or.inr rfl) h2 rfl
      · subst h1
        match xs, hs, hl, hg, hR, hs1 with
        | x :: xs, hs, hl, hg, hR, hs1 =>
          have hl2 : ((x :: xs).length : Int) = (xs.length : Int) + 1 := by simp
          have hl3 : xs.length + 1 ≤ 64 := hl
          rw [show sor 20025 = 22 from rfl, c248 (by omega), if_neg (by omega), push_i, r249_43 (by omega), if_pos rfl, r249_71 (by omega), if_neg (by simp), hl2, r249_78 (by omega) (by omega), r249_129, sa_s, sa_sa, show ((xs.length : Int) + 1 - 1).toNat = xs.length by omega, hg.1]
          have := ih (i + 1) ((1 - x) :: xs) _ (pm_up g xs.length (1 - x)) (vI 22) he' (by omega) hc' ht hs1 hl (stk_p hg.2) hR
          rw [show (((1600 * b + i : Nat) : Int) + 1) = ((1600 * b + (i + 1) : Nat) : Int) by omega, show ((xs.length : Int) + 1) = ((((1 - x) :: xs).length : Nat) : Int) by simp]
          exact this
      · match xs, hs, two with
        | y :: x :: xs, hs, two => exact two (by simp [h1]) ⟨y, x, xs, _, _, r, rfl, rfl, fun z => by have := isAr_c h1; have := isBo_c z; omega⟩
      · match xs, hs, two with
        | y :: x :: xs, hs, two => exact two (by simp [h1]) ⟨y, x, xs, _, _, r, rfl, rfl, fun z => by have := isCm_c h1; have := isBo_c z; omega⟩
      · match xs, hs, two with
        | y :: x :: xs, hs, two => exact two (by simp [h1]) ⟨y, x, xs, _, _, r, rfl, rfl, fun _ => ⟨rfl, rfl⟩⟩
theorem c249 (hb : b < 2) (e13 : M 234 13 = (b : Int)) {f g k : Nat} {l : List Int} {e : Nat → Int} (hF : RFo M b f g k l) (he : ∀ u, isVw u = true → -1000000 ≤ e u ∧ e u ≤ 1000000)
    (hp : ∀ (g : Nat → Int) (c y : Int), (isNu c = true ∨ c = 20026) → (c < 10000 → y = c) → ∀ K', (pm_Call (d + 3) 244 [vA 234, vI (sor c), vI y] (GF X, pm_sa M 276 g, PTF v) K' ↔ K' (vL (vc e c)) (GF X, pm_sa M 276 g, PTF v)))
    (hK : ∀ g, K (vL (ev e l)) (GF X, pm_sa M 276 g, PTF v)) : pm_Call (d + 4) 249 [vA 234, vI (M f k), vI (M g k)] (GF X, M, PTF v) K := by
  obtain ⟨⟨i, h1, h2, h3, h4⟩, t, ht⟩ := hF
  rw [en249, r249_0, h1, h2, e13]
  have := c249l (d := d) (K := K) (X := X) (v := v) (l1 := (i : Int)) hb e13 h3 hp hK l i [] [] (M 276) PU (fun u hu _ => he u hu) rfl h4 ht trivial (by simp) trivial rfl
  rw [sa_id rfl] at this
  rw [show (1600 * (b : Int) + (i : Int)) = ((1600 * b + i : Nat) : Int) by omega]
  exact this
theorem fa_b {n0 : Nat} {x : Int} {p : Nat} (hx : 0 ≤ x ∧ x < (n0 : Int)) (hp : p < n0) (h : n0 ≤ 24) : 0 ≤ fa n0 x p ∧ fa n0 x p ≤ 24 := by unfold fa; split <;> split <;> omega
theorem evM_b (hwC : wC n a F) (hw : wN n μ) {m p : Nat} (hm : m < n 1) (hp : p < n 0) (u : Nat) : -1000000 ≤ evM n μ m p u ∧ evM n μ m p u ≤ 1000000 := by
  have hn := hwC.1
  have h1 := bt_bN hw (m := m) (by omega)
  have h2 := ba_bN hw
  have h3 := fa_b (hw.2.1 m hm) hp (by omega)
  have h4 := rv_e hw (by omega) hm
  have h5 : 0 ≤ sm (fun o => if o = m then 0 else bt μ o) (n 1) := by
    have := (sm_b (f := fun o => if o = m then 0 else bt μ o) (lo := 0) (hi := 160) (n := n 1) (fun i hi => by
      have := bt_bN hw (m := i) (by omega)
      show 0 ≤ (if i = m then 0 else bt μ i) ∧ (if i = m then 0 else bt μ i) ≤ 160
      split <;> omega)).1
    omega
  by_cases q : u = 21
  · subst q
    have := hw.1
    show -1000000 ≤ μ 0 0 ∧ μ 0 0 ≤ 1000000
    omega
  · have g := envM_b (wN_z hw) (m := m) (by omega) (paid := bt μ m) (rival := ba μ - bt μ m) (far := fa (n 0) (μ 1 m) p) (place := p) (by omega) (by omega) (by omega) (by omega) u
    have e : envM n (ups μ 0 0 0) m (bt μ m) (ba μ - bt μ m) (fa (n 0) (μ 1 m) p) p u = evM n μ m p u := by
      unfold evM envM
      rw [if_neg q, if_neg q]; rfl
    rw [e] at g; exact g
theorem c251 (hS : RS M b n a F) (hM : RM M n w μ) (hw : wN n μ) {m p : Nat} (hm : m < n 1) (hp : p < n 0) (hK : ∀ M', fk M M' → K (vI (pls n F μ m p)) (GF X, M', PTF v)) : pm_Call (d + 5) 251 [vA 234, vI (w : Int), vI (m : Int), vI (p : Int)] (GF X, M, PTF v) K := by
  obtain ⟨hb, e13⟩ := hS.1.1
  have hwC := hS.2.2
  have eb : (M 234 13).toNat = b := by omega
  by_cases q : F 0 = []
  · have z := hS.2.1.1 q
    rw [en251, r251_0 (by omega) (by omega) (by rw [eb]; omega), eb, if_neg (by omega), r251_13]
    have : pls n F μ m p = 0 := by rw [pls, pl, q]; rfl
    rw [← this]; exact hK M fk_r
  · have z := hS.2.1.2.1 q
    obtain ⟨⟨i, h1, -, h3, -⟩, -⟩ := id z
    rw [en251, r251_0 (by omega) (by omega) (by rw [eb]; omega), eb, if_pos (by omega), r251_15, r251_20, r251_25]
    suffices h : ∀ M3, fk M M3 → AKm M3 w m p → pm_Run (d + 4) 251 30 [vA 234, vI (w : Int), vI (m : Int), vI (p : Int)] [] (GF X, M3, PTF v) K from h _ ⟨fun q z1 z2 => by rw [sa_n z1, sa_n z1, sa_n z1], fun j z => by rw [sa_s, up_n (by omega), sa_s, up_n (by omega), sa_s, up_n (by omega)]⟩ ⟨rfl, rfl, rfl⟩
    intro M3 f3 hA
    have hS3 := RS_w (w := 0) (fh_w (fk_h f3)) hS
    have hM3 := RM_h (fk_h f3) hM
    have z3 := hS3.2.1.2.1 q
    obtain ⟨-, e133⟩ := hS3.1.1
    have eb3 : (M3 234 13).toNat = b := by omega
    rw [r251_30 (by omega) (by omega), eb3]
    refine c249 hb e133 z3 (fun u _ => evM_b hwC hw hm hp u) (fun g c y hc hy K' => ?_) (fun g => ?_)
    · have f4 : fk M3 (pm_sa M3 276 g) := ⟨fun q z1 z2 => by rw [sa_n z2], fun j z => rfl⟩
      exact c244m (RS_w (w := 0) (fh_w (fk_h f4)) hS3) (RM_h (fk_h f4) hM3) hw hm hp hA hc hy
    · have hev : -1000000 ≤ ev (evM n μ m p) (F 0) ∧ ev (evM n μ m p) (F 0) ≤ 1000000 := ev_r (l := F 0) (fun u _ _ => evM_b hwC hw hm hp u) z3.2.choose_spec
      rw [push_l, r251_52, c250 (by omega) (by decide) (by decide), push_i, r251_59]
      exact hK _ (fk_t f3 ⟨fun q z1 z2 => by rw [sa_n z2], fun j z => rfl⟩)
theorem c252 (hS : RS M b n a F) {h : Nat} (hh : h < n 2) (hK : ∀ M', fk M M' → M' 276 = M 276 → AKh M' a w h → K PU (GF X, M', PTF v)) : pm_Call (d + 2) 252 [vA 234, vI (w : Int), vI (h : Int)] (GF X, M, PTF v) K := by
  rw [en252, r252_0, r252_5, r252_10]
  suffices h : ∀ M3, fk M M3 → M3 276 = M 276 → M3 234 64 = (w : Int) → M3 234 65 = -1 → M3 234 66 = (h : Int) → pm_Run (d + 1) 252 15 [vA 234, vI (w : Int), vI (h : Int)] [] (GF X, M3, PTF v) K from h _ ⟨fun q z1 z2 => by rw [sa_n z1, sa_n z1, sa_n z1], fun j z => by rw [sa_s, up_n (by omega), sa_s, up_n (by omega), sa_s, up_n (by omega)]⟩ rfl rfl rfl rfl
  intro M3 f3 h6 z4 z5 z6
  have hS3 := RS_w (w := 0) (fh_w (fk_h f3)) hS
  rw [r252_15, c230 hS3.1 hS3.2.2 hh, push_i, r252_21]
  refine hK _ (fk_t f3 ⟨fun q z1 z2 => by rw [sa_n z1], fun j z => by rw [sa_s, up_n (by omega)]⟩) h6 ⟨?_, ?_, ?_, ?_⟩
  · rw [sa_s, up_n (by omega)]; exact z4
  · rw [sa_s, up_n (by omega)]; exact z5
  · rw [sa_s, up_n (by omega)]; exact z6
  · rw [sa_s, up_s]
theorem c249h (hS : RS M b n a F) (hM : RM M n w μ) (hw : wM n μ) {h : Nat} (hh : h < n 2) {x : Int} (hx : M 277 (a 2 h).toNat = x) (hxb : -100000 ≤ x ∧ x ≤ 100000) (hA : AKh M a w h) {f g k : Nat} {l : List Int} (hF : RFo M b f g k l) (hK : ∀ g, K (vL (ev (envH a μ h x) l)) (GF X, pm_sa M 276 g, PTF v)) : pm_Call (d + 4) 249 [vA 234, vI (M f k), vI (M g k)] (GF X, M, PTF v) K := by
  obtain ⟨hb, e13⟩ := hS.1.1
  subst hx
  refine c249 hb e13 hF (fun u _ => envH_b hw hh (by have := hS.2.2.1; omega) hS.2.2 u (fun _ => hxb)) (fun g c y hc hy K' => ?_) hK
  have f4 : fk M (pm_sa M 276 g) := ⟨fun q z1 z2 => by rw [sa_n z2], fun j z => rfl⟩
  exact c244h (RS_w (w := 0) (fh_w (fk_h f4)) hS) (RM_h (fk_h f4) hM) (wN_i hw) hh hA hxb hc hy
theorem c253 (hS : RS M b n a F) (hM : RM M n w μ) (hw : wM n μ) {h : Nat} (hh : h < n 2) {x : Int} (hx : M 277 (a 2 h).toNat = x) (hxb : -100000 ≤ x ∧ x ≤ 100000) (hK : ∀ M', fk M M' → K (vI (wi 0 (ev (envH a μ h x) (F 1)) 99)) (GF X, M', PTF v)) : pm_Call (d + 5) 253 [vA 234, vI (w : Int), vI (h : Int)] (GF X, M, PTF v) K := by
  obtain ⟨hb, e13⟩ := hS.1.1
  have hwC := hS.2.2
  have eb : (M 234 13).toNat = b := by omega
  by_cases q : F 1 = []
  · have z := hS.2.1.2.2.1 q
    rw [en253, r253_0 (by omega) (by omega) (by rw [eb]; omega), eb, if_neg (by omega), r253_13]
    have : wi 0 (ev (envH a μ h x) (F 1)) 99 = 0 := by rw [q]; rfl
    rw [← this]; exact hK M fk_r
  · have z := hS.2.1.2.2.2.1 q
    obtain ⟨⟨i, h1, -, h3, -⟩, -⟩ := id z
    rw [en253, r253_0 (by omega) (by omega) (by rw [eb]; omega), eb, if_pos (by omega), r253_15]
    refine c252 hS hh (fun M3 f3 _ hA => ?_)
    have hS3 := RS_w (w := 0) (fh_w (fk_h f3)) hS
    have hM3 := RM_h (fk_h f3) hM
    have z3 := hS3.2.1.2.2.2.1 q
    obtain ⟨-, e133⟩ := hS3.1.1
    have eb3 : (M3 234 13).toNat = b := by omega
    rw [push_u, r253_21 (by omega) (by omega), eb3]
    refine c249h hS3 hM3 hw hh (by rw [f3.1 277 (by omega) (by omega)]; exact hx) hxb hA z3 (fun g => ?_)
    have hev : -1000000 ≤ ev (envH a μ h x) (F 1) ∧ ev (envH a μ h x) (F 1) ≤ 1000000 := ev_r (l := F 1) (fun u _ _ => envH_b hw hh (by have := hS.2.2.1; omega) hS.2.2 u (fun _ => hxb)) z3.2.choose_spec
    rw [push_l, r253_43, c250 (by omega) (by decide) (by decide), push_i, r253_49]
    exact hK _ (fk_t f3 ⟨fun q z1 z2 => by rw [sa_n z2], fun j z => rfl⟩)
theorem c254 (hS : RS M b n a F) (hM : RM M n w μ) (hw : wM n μ) {h c : Nat} (hh : h < n 2) (hc : c < n 4) {x : Int} (hx : M 277 (a 2 h).toNat = x) (hxb : -100000 ≤ x ∧ x ≤ 100000) (hK : ∀ M', fk M M' → K (vI (if ev (envH a μ h x) (F (2 + c)) = 0 then 1 else 0)) (GF X, M', PTF v)) : pm_Call (d + 5) 254 [vA 234, vI (w : Int), vI (h : Int), vI (c : Int)] (GF X, M, PTF v) K := by
  obtain ⟨hb, e13⟩ := hS.1.1
  have hwC := hS.2.2
  have hn := hwC.1
  rw [en254, r254_0]
  refine c252 hS hh (fun M3 f3 _ hA => ?_)
  have hS3 := RS_w (w := 0) (fh_w (fk_h f3)) hS
  have hM3 := RM_h (fk_h f3) hM
  have z3 := hS3.2.1.2.2.2.2 c hc
  obtain ⟨-, e133⟩ := hS3.1.1
  have eb3 : (6 * M3 234 13 + (c : Int)).toNat = 6 * b + c := by omega
  rw [push_u, r254_6 (by omega) (by omega), eb3]
  refine c249h hS3 hM3 hw hh (by rw [f3.1 277 (by omega) (by omega)]; exact hx) hxb hA z3 (fun g => ?_)
  have hev : -1000000 ≤ ev (envH a μ h x) (F (2 + c)) ∧ ev (envH a μ h x) (F (2 + c)) ≤ 1000000 := ev_r (l := F (2 + c)) (fun u _ _ => envH_b hw hh (by have := hS.2.2.1; omega) hS.2.2 u (fun _ => hxb)) z3.2.choose_spec
  have hk := hK _ (fk_t f3 (M2 := pm_sa M3 276 g) ⟨fun q z1 z2 => by rw [sa_n z2], fun j z => rfl⟩)
  rw [push_l, r254_38 (by omega) cm_r]
  by_cases q : ev (envH a μ h x) (F (2 + c)) = 0
  · rw [if_neg (by rw [ne_eq, cm_e]; simpa using q), r254_43, r254_48 (by simp)]
    rw [if_pos q] at hk; exact hk
  · rw [if_pos (by rw [ne_eq, cm_e]; exact q), r254_47, r254_48 (by simp)]
    rw [if_neg q] at hk; exact hk
end RF8
