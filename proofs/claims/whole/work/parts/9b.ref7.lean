/-! The reference: what a word says, what a formula says. -/
def AKm (M : PH) (w m p : Nat) : Prop := M 234 64 = (w : Int) ∧ M 234 65 = (m : Int) ∧ M 234 67 = (p : Int)
def AKh (M : PH) (a : PH) (w h : Nat) : Prop := M 234 64 = (w : Int) ∧ M 234 65 = -1 ∧ M 234 66 = (h : Int) ∧ M 234 67 = a 2 h
def evM (n : Nat → Nat) (μ : PH) (m p : Nat) : Nat → Int := envM n μ m (bt μ m) (ba μ - bt μ m) (fa (n 0) (μ 1 m) p) p
def vc (e : Nat → Int) (c : Int) : Int := if c < 20000 then (if c < 10000 then c else e (c - 10000).toNat) else 1
theorem rv_e {n : Nat → Nat} {μ : PH} (hw : wN n μ) (h3 : n 1 ≤ 3) {m : Nat} (hm : m < n 1) : sm (fun o => if o = m then 0 else bt μ o) (n 1) = ba μ - bt μ m := by
  have e : ba μ = bt μ 0 + bt μ 1 + bt μ 2 := by simp [ba, bt, sm]; omega
  have z : ∀ o, o < 3 → n 1 ≤ o → bt μ o = 0 := fun o ho hn => by
    rw [bt, sm_c (g := fun _ => 0) (fun h _ => (hw.2.2.2.2.2.2.2 h o ho (Or.inr hn)).1), sm_0]
  have h1 : n 1 = 1 ∨ n 1 = 2 ∨ n 1 = 3 := by omega
  have hm' : m = 0 ∨ m = 1 ∨ m = 2 := by omega
  rw [e]
  rcases h1 with h1 | h1 | h1
  · have z1 := z 1 (by omega) (by omega)
    have z2 := z 2 (by omega) (by omega)
    rw [h1]
    rcases hm' with rfl | rfl | rfl
    · simp [sm] <;> omega
    · omega
    · omega
  · have z2 := z 2 (by omega) (by omega)
    rw [h1]
    rcases hm' with rfl | rfl | rfl
    · simp [sm] <;> omega
    · simp [sm] <;> omega
    · omega
  · rw [h1]
    rcases hm' with rfl | rfl | rfl
    · simp [sm] <;> omega
    · simp [sm] <;> omega
    · simp [sm] <;> omega
theorem nu_w {c : Int} (h1 : 10000 ≤ c) (h3 : isVw (c - 10000).toNat = true) : c = 10004 ∨ c = 10006 ∨ c = 10007 ∨ c = 10015 ∨ c = 10016 ∨ c = 10017 ∨ c = 10018 ∨ c = 10019 ∨ c = 10020 ∨ c = 10021 ∨ c = 10022 := by
  have := vw_c h3; omega
section RF7
variable {d b w : Nat} {X : Nat × (Nat → Int)} {v : Nat → Int} {M M' M2 : PH} {K : PV → PS → Prop} {n : Nat → Nat} {a μ : PH} {F : Nat → List Int}
theorem c244m (hS : RS M b n a F) (hM : RM M n w μ) (hw : wN n μ) {m p : Nat} (hm : m < n 1) (hp : p < n 0) (hA : AKm M w m p) {c y : Int} (hc : isNu c = true ∨ c = 20026) (hy : c < 10000 → y = c) : pm_Call (d + 3) 244 [vA 234, vI (sor c), vI y] (GF X, M, PTF v) K ↔ K (vL (vc (evM n μ m p) c)) (GF X, M, PTF v) := by
  obtain ⟨hR, -, hwC⟩ := hS
  obtain ⟨e64, e65, e67⟩ := hA
  have hn := hwC.1
  have hb1 := bt_bN hw (m := m) (by omega)
  have hb2 := dt_bN hw (m := m) (by omega)
  have hb3 := ba_bN hw
  have hw0 := hw.1
  have hw1 := hw.2.1 m hm
  have hw2 := hw.2.2.1 m (by omega)
  obtain ⟨w22, m1, m2, -, -⟩ := id hM
  have ix : (3 * (w : Int) + (m : Int)).toNat = 3 * w + m := by omega
  have g2 := m2 m hm
  have hrv := rv_e hw (by omega) hm
  rw [en244, r244_0 (by omega), e64, if_neg (by omega), r244_13]
  rcases hc with hc | rfl
  · rcases isNu_c hc with h | ⟨h1, h2, h3⟩
    · rw [show sor c = 0 by rw [sor, if_pos h.2], r244_18 (by omega)]
      change pm_Run _ 244 168 _ _ _ _ ↔ _
      rw [r244_168 (by have := hy h.2; omega), hy h.2, vc, if_pos (by omega), if_pos h.2]
    · rcases nu_w h1 h3 with rfl | rfl | rfl | rfl | rfl | rfl | rfl | rfl | rfl | rfl | rfl
      · rw [show sor 10004 = 7 from rfl, r244_18 (by omega)]
        change pm_Run _ 244 325 _ _ _ _ ↔ _
        rw [r244_325 (by omega), if_neg (by omega), r244_330 (by omega) (by omega) (by rw [e65, ix]; omega), r244_348, e65, ix, g2.2]; exact Iff.rfl
      · rw [show sor 10006 = 3 from rfl, r244_18 (by omega)]
        change pm_Run _ 244 210 _ _ _ _ ↔ _
        rw [r244_210 (by omega), if_neg (by omega), r244_215, r244_234]; exact Iff.rfl
      · rw [show sor 10007 = 2 from rfl, r244_18 (by omega)]
        change pm_Run _ 244 191 _ _ _ _ ↔ _
        rw [r244_191 (by omega), if_neg (by omega), r244_196, r244_209]; exact Iff.rfl
      · rw [show sor 10015 = 1 from rfl, r244_18 (by omega)]
        change pm_Run _ 244 171 _ _ _ _ ↔ _
        rw [r244_171 (by omega), if_neg (by omega), r244_176, r244_190]; exact Iff.rfl
      · rw [show sor 10016 = 4 from rfl, r244_18 (by omega)]
        change pm_Run _ 244 235 _ _ _ _ ↔ _
        rw [r244_235 (by omega), if_neg (by omega), r244_240, e65, c237 hR hwC hM hw hm, push_i, r244_249 (by omega), r244_263]; exact Iff.rfl
      · rw [show sor 10017 = 5 from rfl, r244_18 (by omega)]
        change pm_Run _ 244 264 _ _ _ _ ↔ _
        rw [r244_264 (by omega), if_neg (by omega), r244_269, e65, c238 hR hwC hM hw hm, push_i, r244_278 (by omega), r244_292]; exact Iff.rfl
      · rw [show sor 10018 = 6 from rfl, r244_18 (by omega)]
        change pm_Run _ 244 293 _ _ _ _ ↔ _
        have hf : 0 ≤ fa (n 0) (μ 1 m) p ∧ fa (n 0) (μ 1 m) p ≤ 24 := by unfold fa; split <;> split <;> omega
        rw [r244_293 (by omega), if_neg (by omega), r244_298 (by omega) (by omega), e65, ix, g2.1, e67, c242 hR hwC hw1 hp, push_i, r244_319 (by omega), r244_324]; exact Iff.rfl
      · rw [show sor 10019 = 8 from rfl, r244_18 (by omega)]
        change pm_Run _ 244 349 _ _ _ _ ↔ _
        rw [r244_349 (by omega), if_neg (by omega), r244_354, e65, c243 hR hwC hM hw hm, push_i]
        by_cases q : dt μ m < (n 6 : Int)
        · rw [if_pos q, r244_363 (by omega), if_pos rfl, r244_370, r244_371, show vc (evM n μ m p) 10019 = if (n 6 : Int) ≤ dt μ m then 1 else 0 from rfl, if_neg (by omega)]
        · rw [if_neg q, r244_363 (by omega), if_neg (by omega), r244_366, r244_371, show vc (evM n μ m p) 10019 = if (n 6 : Int) ≤ dt μ m then 1 else 0 from rfl, if_pos (by omega)]
      · rw [show sor 10020 = 9 from rfl, r244_18 (by omega)]
        change pm_Run _ 244 372 _ _ _ _ ↔ _
        rw [r244_372 (by omega), if_neg (by omega), r244_377, e65, c241 hR hwC hM hw hm, push_i]
        rw [hrv]
        rw [r244_386 (by omega), r244_391]; exact Iff.rfl
      · rw [show sor 10021 = 31 from rfl, r244_18 (by omega)]
        change pm_Run _ 244 392 _ _ _ _ ↔ _
        rw [r244_392 (by omega) (by omega) (by rw [Int.toNat_natCast]; omega), Int.toNat_natCast, m1]; exact Iff.rfl
      · rw [show sor 10022 = 32 from rfl, r244_18 (by omega)]
        change pm_Run _ 244 400 _ _ _ _ ↔ _
        rw [r244_400 (by omega), e67]; exact Iff.rfl
  · rw [show sor 20026 = 30 from rfl, r244_18 (by omega)]
    change pm_Run _ 244 406 _ _ _ _ ↔ _
    rw [r244_406]; exact Iff.rfl
theorem c244h (hS : RS M b n a F) (hM : RM M n w μ) (hw : wN n μ) {h : Nat} (hh : h < n 2) (hA : AKh M a w h) (hx : -100000 ≤ M 277 (a 2 h).toNat ∧ M 277 (a 2 h).toNat ≤ 100000) {c y : Int} (hc : isNu c = true ∨ c = 20026) (hy : c < 10000 → y = c) : pm_Call (d + 3) 244 [vA 234, vI (sor c), vI y] (GF X, M, PTF v) K ↔ K (vL (vc (envH a μ h (M 277 (a 2 h).toNat)) c)) (GF X, M, PTF v) := by
  obtain ⟨hR, -, hwC⟩ := hS
  obtain ⟨e64, e65, e66, e67⟩ := hA
  have hn := hwC.1
  have hb1 := bb_bN hw (k := h) (by omega)
  have hb2 := db_bN hw (k := h) (by omega)
  have hw0 := hw.1
  have hw3 := hw.2.2.2.1 h (by omega)
  have ha := hwC.2.2.1 h hh
  obtain ⟨w22, m1, -, m3, -⟩ := id hM
  have ix : (8 * (w : Int) + (h : Int)).toNat = 8 * w + h := by omega
  have g3 := m3 h hh
  rw [en244, r244_0 (by omega), e64, if_pos (by omega), r244_17]
  rcases hc with hc | rfl
  · rcases isNu_c hc with h | ⟨h1, h2, h3⟩
    · rw [show sor c = 0 by rw [sor, if_pos h.2], r244_18 (by omega)]
      change pm_Run _ 244 168 _ _ _ _ ↔ _
      rw [r244_168 (by have := hy h.2; omega), hy h.2, vc, if_pos (by omega), if_pos h.2]
    · rcases nu_w h1 h3 with rfl | rfl | rfl | rfl | rfl | rfl | rfl | rfl | rfl | rfl | rfl
      · rw [show sor 10004 = 7 from rfl, r244_18 (by omega)]
        change pm_Run _ 244 325 _ _ _ _ ↔ _
        rw [r244_325 (by omega), if_pos (by omega), r244_347, r244_348]; exact Iff.rfl
      · rw [show sor 10006 = 3 from rfl, r244_18 (by omega)]
        change pm_Run _ 244 210 _ _ _ _ ↔ _
        rw [r244_210 (by omega), if_pos (by omega), r244_219 (by omega) (by omega) (by rw [e66, ix]; omega), r244_234, e66, ix, g3]; exact Iff.rfl
      · rw [show sor 10007 = 2 from rfl, r244_18 (by omega)]
        change pm_Run _ 244 191 _ _ _ _ ↔ _
        rw [r244_191 (by omega), if_pos (by omega), r244_200, e66, c231 hR hwC hh, push_i, r244_208 (by omega), r244_209]; exact Iff.rfl
      · rw [show sor 10015 = 1 from rfl, r244_18 (by omega)]
        change pm_Run _ 244 171 _ _ _ _ ↔ _
        rw [r244_171 (by omega), if_pos (by omega), r244_180 (by omega) (by omega) (by rw [e67]; omega), r244_190, e67]; exact Iff.rfl
      · rw [show sor 10016 = 4 from rfl, r244_18 (by omega)]
        change pm_Run _ 244 235 _ _ _ _ ↔ _
        rw [r244_235 (by omega), if_pos (by omega), r244_253, e66, c239 hR hwC hM hw hh, push_i, r244_262 (by omega), r244_263]; exact Iff.rfl
      · rw [show sor 10017 = 5 from rfl, r244_18 (by omega)]
        change pm_Run _ 244 264 _ _ _ _ ↔ _
        rw [r244_264 (by omega), if_pos (by omega), r244_282, e66, c240 hR hwC hM hw hh, push_i, r244_291 (by omega), r244_292]; exact Iff.rfl
      · rw [show sor 10018 = 6 from rfl, r244_18 (by omega)]
        change pm_Run _ 244 293 _ _ _ _ ↔ _
        rw [r244_293 (by omega), if_pos (by omega), r244_323, r244_324]; exact Iff.rfl
      · rw [show sor 10019 = 8 from rfl, r244_18 (by omega)]
        change pm_Run _ 244 349 _ _ _ _ ↔ _
        rw [r244_349 (by omega), if_pos (by omega), r244_370, r244_371]; exact Iff.rfl
      · rw [show sor 10020 = 9 from rfl, r244_18 (by omega)]
        change pm_Run _ 244 372 _ _ _ _ ↔ _
        rw [r244_372 (by omega), if_pos (by omega), r244_390, r244_391]; exact Iff.rfl
      · rw [show sor 10021 = 31 from rfl, r244_18 (by omega)]
        change pm_Run _ 244 392 _ _ _ _ ↔ _
        rw [r244_392 (by omega) (by omega) (by rw [Int.toNat_natCast]; omega), Int.toNat_natCast, m1]; exact Iff.rfl
      · rw [show sor 10022 = 32 from rfl, r244_18 (by omega)]
        change pm_Run _ 244 400 _ _ _ _ ↔ _
        rw [r244_400 (by omega), e67]; exact Iff.rfl
  · rw [show sor 20026 = 30 from rfl, r244_18 (by omega)]
    change pm_Run _ 244 406 _ _ _ _ ↔ _
    rw [r244_406]; exact Iff.rfl
theorem sor_p {c : Int} (hc : isNu c = true ∨ c = 20026) : (sor c < 10 ∨ 30 ≤ sor c) ∧ inR (sor c) := by
  rcases hc with hc | rfl
  · rcases isNu_c hc with h | ⟨h1, h2, h3⟩
    · rw [sor, if_pos h.2]; omega
    · rcases nu_w h1 h3 with rfl | rfl | rfl | rfl | rfl | rfl | rfl | rfl | rfl | rfl | rfl <;> decide +kernel
  · decide +kernel
theorem sor_j {c : Int} (hc : isAr c = true ∨ isCm c = true ∨ isBo c = true) : sor c = srt (c - 20000) ∧ 10 ≤ sor c ∧ sor c < 22 ∧ ¬ c < 20000 ∧ c ≠ 20026 ∧ c ≠ 20025 := by
  have : c = 20043 ∨ c = 20045 ∨ c = 20042 ∨ c = 20047 ∨ c = 20037 ∨ c = 20027 ∨ c = 20028 ∨ c = 20060 ∨ c = 20062 ∨ c = 20061 ∨ c = 20023 ∨ c = 20024 := by
    rcases hc with h | h | h
    · have := isAr_c h; omega
    · have := isCm_c h; omega
    · have := isBo_c h; omega
  rcases this with rfl | rfl | rfl | rfl | rfl | rfl | rfl | rfl | rfl | rfl | rfl | rfl <;> decide +kernel
end RF7
