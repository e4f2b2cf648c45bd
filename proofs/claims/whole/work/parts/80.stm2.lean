/-! Moons, harbors, what is paid and owed: the class's statements. -/
abbrev CZ : Type := (Nat → Nat) × PH × (Nat → List Int) × PH
abbrev S2 : Type := (Int × Int) ⊕ (KP × List Int × CZ)
def upn (n : Nat → Nat) (i x : Nat) : Nat → Nat := fun j => if j = i then x else n j
theorem upn_s {n : Nat → Nat} {i x : Nat} : upn n i x i = x := by simp [upn]
theorem upn_n {n : Nat → Nat} {i j x : Nat} (h : j ≠ i) : upn n i x j = n j := by simp [upn, h]
def toS (κ : KP) (l : List Int) : ST := .inr (κ, 0, l)
def sb (s : ST) (f : KP × Nat × List Int → S2) : S2 := match s with
  | .inl e => .inl e
  | .inr x => f x
/-- the chart that is being read -/
def CH (M : PH) (c : Nat) (l : List Int) (z : CZ) : Prop := (∀ i, i < 7 → M c i = (z.1 i : Int)) ∧ (∀ m, m < z.1 1 → M (c + 1) m = z.2.1 7 m ∧ M (c + 2) m = z.2.1 1 m) ∧ (∀ h, h < z.1 2 → M (c + 3) h = z.2.1 8 h ∧ M (c + 4) h = z.2.1 2 h ∧ M (c + 5) h = z.2.1 3 h) ∧ (∀ k, k < z.1 3 → M (c + 6) k = z.2.1 4 k ∧ M (c + 7) k = z.2.1 5 k ∧ M (c + 8) k = z.2.1 6 k) ∧ mo M (c + 9) = z.2.2.2 ∧ (∀ w, w < 8 → ∃ pre post, l = pre ++ z.2.2.1 w ++ post ∧ M (c + 17) w = (pre.length : Int) ∧ M (c + 18) w = ((pre ++ z.2.2.1 w).length : Int)) ∧ (∀ w, w < 8 → ∃ U : Nat, U < 2147483648 ∧ M (c + 19) w = (U : Int) ∧ ∀ u, u < 29 → (U.testBit u = true ↔ ((10000 + u : Nat) : Int) ∈ z.2.2.1 w))
def wZ (z : CZ) : Prop := (z.1 0 ≤ 24 ∧ z.1 1 ≤ 3 ∧ z.1 2 ≤ 8 ∧ z.1 3 ≤ 16 ∧ z.1 4 ≤ 6 ∧ z.1 5 ≤ 99 ∧ z.1 6 ≤ 999 ∧ (z.1 0 = 0 → z.1 1 = 0 ∧ z.1 2 = 0)) ∧ (∀ m, m < z.1 1 → 0 ≤ z.2.1 1 m ∧ z.2.1 1 m ≤ 23) ∧ (∀ h, h < z.1 2 → 0 ≤ z.2.1 2 h ∧ z.2.1 2 h < z.1 0 ∧ 0 ≤ z.2.1 3 h ∧ z.2.1 3 h ≤ 99) ∧ (∀ k, k < z.1 3 → 0 ≤ z.2.1 4 k ∧ z.2.1 4 k < z.1 2 ∧ 0 ≤ z.2.1 5 k ∧ z.2.1 5 k < z.1 2 ∧ 1 ≤ z.2.1 6 k ∧ z.2.1 6 k ≤ 999) ∧ wM z.1 z.2.2.2 ∧ (∀ m, m < z.1 1 → -128 ≤ z.2.1 7 m ∧ z.2.1 7 m < 1073741824) ∧ (∀ h, h < z.1 2 → -128 ≤ z.2.1 8 h ∧ z.2.1 8 h < 1073741824) ∧ (∀ w, 2 + z.1 4 ≤ w → z.2.2.1 w = [])
def PS2 (M : PH) (c : Nat) (B : Nat → Int) (N : Nat) (s : S2) : Prop := match s with
  | .inl e => PSt M c B N (.inl e)
  | .inr x => PSt M c B N (toS x.1 x.2.1) ∧ CH M c x.2.1 x.2.2 ∧ wZ x.2.2
def frZ (c : Nat) (M M' : PH) : Prop := ∀ q, q ≠ 31 → q ≠ 32 → (q < c ∨ c + 19 < q) → M' q = M q
def zMoon (z : CZ) (nm pl go te : Int) : CZ := (upn z.1 1 (z.1 1 + 1), ups (ups z.2.1 7 (z.1 1) nm) 1 (z.1 1) go, z.2.2.1, ups (ups z.2.2.2 1 (z.1 1) pl) 2 (z.1 1) te)
def zHarb (z : CZ) (nm pl pu de : Int) : CZ := (upn z.1 2 (z.1 2 + 1), ups (ups (ups z.2.1 8 (z.1 2) nm) 2 (z.1 2) pl) 3 (z.1 2) de, z.2.2.1, ups z.2.2.2 3 (z.1 2) pu)
def zPays (z : CZ) (k : Nat) (x : Int) : CZ := (z.1, z.2.1, z.2.2.1, ups z.2.2.2 4 k x)
def zOwes (z : CZ) (de cr x : Int) : CZ := (upn z.1 3 (z.1 3 + 1), ups (ups (ups z.2.1 4 (z.1 3) de) 5 (z.1 3) cr) 6 (z.1 3) x, z.2.2.1, z.2.2.2)
section SPM
variable (B : Nat → Int) (N : Nat) (z : CZ) (s : ST)
def mS1 : ST := sNew B N (knw z.1 z.2.1) (sA B N s)
def mS2 : ST := sWd B N 2 (mS1 B N z s)
def mS3 : ST := sN B N 0 ((z.1 0 : Int) - 1) (mS2 B N z s)
def mS4 : ST := sWd B N 3 (mS3 B N z s)
def mS5 : ST := sN B N 0 23 (mS4 B N z s)
def mS6 : ST := sWd B N 4 (mS5 B N z s)
def mS7 : ST := sN B N 0 9 (mS6 B N z s)
def hS3 : ST := sFr B N z.1 z.2.1 (mS2 B N z s)
def hS4 : ST := sWd B N 6 (hS3 B N z s)
def hS5 : ST := sN B N 0 999 (hS4 B N z s)
def hS6 : ST := sWd B N 7 (hS5 B N z s)
def hS7 : ST := sN B N 0 99 (hS6 B N z s)
/-- a name that is told: which harbor, which moon -/
def hOf (s : ST) : Int := hn z.1 z.2.1 (vl B N s)
def mOf (s : ST) : Int := mn z.1 z.2.1 (vl B N s)
def sHn (o : Int) (s : ST) : ST := sKn B N (decide (hOf B N z s ≠ -1) && decide (hOf B N z s ≠ o)) s
def sMn (s : ST) : ST := sKn B N (decide (mOf B N z s ≠ -1)) s
end SPM
def gMoon (B : Nat → Int) (N : Nat) (κ : KP) (l : List Int) (z : CZ) : S2 := if z.1 1 < 3 then sb (mS7 B N z (toS κ l)) (fun x => .inr (x.1, x.2.2, zMoon z (vl B N (sA B N (toS κ l))) (vl B N (mS2 B N z (toS κ l))) (vl B N (mS4 B N z (toS κ l))) (vl B N (mS6 B N z (toS κ l))))) else .inl (6, ((tok B N κ).2.1 : Int))
def gHarb (B : Nat → Int) (N : Nat) (κ : KP) (l : List Int) (z : CZ) : S2 := if z.1 2 < 8 then sb (hS7 B N z (toS κ l)) (fun x => .inr (x.1, x.2.2, zHarb z (vl B N (sA B N (toS κ l))) (vl B N (mS2 B N z (toS κ l))) (vl B N (hS4 B N z (toS κ l))) (vl B N (hS6 B N z (toS κ l))))) else .inl (6, ((tok B N κ).2.1 : Int))
def gPays (B : Nat → Int) (N : Nat) (κ : KP) (l : List Int) (z : CZ) : S2 := sb (sN B N 0 20 (sMn B N z (sHn B N z (-1) (sA B N (toS κ l))))) (fun x => .inr (x.1, x.2.2, zPays z ((hOf B N z (sA B N (toS κ l))).toNat * 3 + (mOf B N z (sHn B N z (-1) (sA B N (toS κ l)))).toNat) (vl B N (sMn B N z (sHn B N z (-1) (sA B N (toS κ l)))))))
def gOwes (B : Nat → Int) (N : Nat) (κ : KP) (l : List Int) (z : CZ) : S2 := if z.1 3 < 16 then sb (sN B N 1 999 (sHn B N z (hOf B N z (sA B N (toS κ l))) (sHn B N z (-1) (sA B N (toS κ l))))) (fun x => .inr (x.1, x.2.2, zOwes z (hOf B N z (sA B N (toS κ l))) (hOf B N z (sHn B N z (-1) (sA B N (toS κ l)))) (vl B N (sHn B N z (hOf B N z (sA B N (toS κ l))) (sHn B N z (-1) (sA B N (toS κ l))))))) else .inl (6, ((tok B N κ).2.1 : Int))
section CS2
variable {d c N : Nat} {X : Nat × (Nat → Int)} {v : Nat → Int} {M M' : PH} {K : PV → PS → Prop} {B : Nat → Int} {s : ST} {z : CZ} {κ : KP} {l : List Int}
theorem PSt_c (h31 : M' 31 = M 31) (h32 : M' 32 = M 32) (h15 : M' (c + 15) = M (c + 15)) (h16 : M' (c + 16) = M (c + 16)) (h : PSt M c B N s) : PSt M' c B N s := by
  match s, h with
  | .inl e, h =>
    unfold PSt cdS at *
    simp only at *
    rw [h31, h32, h15, h16]; exact h
  | .inr x, h =>
    unfold PSt cdL at *
    simp only at *
    rw [h31, h32, h15, h16]; exact h
theorem PEn_c (h1 : M' 1 = M 1) (h33 : M' 33 = M 33) (h : PEn v M c B N) : PEn v M' c B N := by
  obtain ⟨g1, g2, g3, g4, g5, g6⟩ := h
  exact ⟨g1, g2, g3, TP_f g4 h1, fun w hw => by rw [h33]; exact g5 w hw, g6⟩
/-- a store into the chart -/
theorem PS_sa (hE : PEn v M c B N) {q : Nat} {f : Nat → Int} (hq : (c ≤ q ∧ q < c + 15) ∨ (c + 16 < q ∧ q ≤ c + 19)) : PEn v (pm_sa M q f) c B N ∧ ∀ s, PSt M c B N s → PSt (pm_sa M q f) c B N s := by
  have : c = 9 ∨ c = 35 := hE.1
  exact ⟨PEn_c (sa_n (by omega)) (sa_n (by omega)) hE, fun s => PSt_c (sa_n (by omega)) (sa_n (by omega)) (sa_n (by omega)) (sa_n (by omega))⟩
theorem CH_NM (hC : CH M c l z) (hw : wZ z) : NM M c z.1 z.2.1 := by
  obtain ⟨h1, h2, h3, -⟩ := hC
  obtain ⟨w1, -, -, -, -, w6, w7, -⟩ := hw
  exact ⟨⟨h1 1 (by omega), w1.2.1, fun k hk => ⟨(h2 k hk).1, by have := w6 k hk; omega⟩⟩, ⟨h1 2 (by omega), w1.2.2.1, fun k hk => ⟨(h3 k hk).1, by have := w7 k hk; omega⟩⟩⟩
theorem NM_sa (h : NM M c z.1 z.2.1) {q : Nat} {f : Nat → Int} (h0 : q ≠ c) (h1 : q ≠ c + 1) (h3 : q ≠ c + 3) : NM (pm_sa M q f) c z.1 z.2.1 := by
  unfold NM at *
  rw [sa_n (Ne.symm h0), sa_n (Ne.symm h1), sa_n (Ne.symm h3)]; exact h
theorem sN_e {lo hi : Int} {y : KP × Nat × List Int} (h : sN B N lo hi s = .inr y) : ∃ x, s = .inr x ∧ kd B N s = 2 ∧ lo ≤ vl B N s ∧ vl B N s ≤ hi ∧ y = (adv B N x.1, x.2) := by
  unfold sN at h
  by_cases q : kd B N s = 2
  · obtain ⟨x, rfl⟩ := kd_x q (by decide)
    rw [if_pos q] at h
    by_cases q2 : lo ≤ vl B N (.inr x) ∧ vl B N (.inr x) ≤ hi
    · rw [if_pos q2] at h
      exact ⟨x, rfl, q, q2.1, q2.2, sA_e h⟩
    · rw [if_neg q2] at h
      exact (opk_G h).elim
  · rw [if_neg q] at h
    match s, h with
    | .inr x, h => exact (opk_W h).elim
theorem sWd_e {k : Int} {y : KP × Nat × List Int} (h : sWd B N k s = .inr y) : ∃ x, s = .inr x ∧ isW B N k s = true ∧ y = (adv B N x.1, x.2) := by
  unfold sWd at h
  by_cases q : isW B N k s = true
  · obtain ⟨x, rfl⟩ := isW_x q
    rw [if_pos q] at h
    exact ⟨x, rfl, q, sA_e h⟩
  · rw [if_neg q] at h
    match s, h with
    | .inr x, h => exact (opk_W h).elim
theorem sNew_e {kn : Int → Bool} {y : KP × Nat × List Int} (h : sNew B N kn s = .inr y) : ∃ x, s = .inr x ∧ isNm B N s = true ∧ kn (vl B N s) = false ∧ y = (adv B N x.1, x.2) := by
  unfold sNew at h
  by_cases q : isNm B N s = true
  · obtain ⟨x, rfl⟩ := isNm_x q
    rw [if_pos q] at h
    by_cases q2 : kn (vl B N (.inr x)) = true
    · rw [if_pos q2] at h
      exact (opk_G h).elim
    · rw [if_neg q2] at h
      exact ⟨x, rfl, q, by simpa using q2, sA_e h⟩
  · rw [if_neg q] at h
    match s, h with
    | .inr x, h => exact (opk_W h).elim
theorem sKn_e {fit : Bool} {y : KP × Nat × List Int} (h : sKn B N fit s = .inr y) : ∃ x, s = .inr x ∧ isNm B N s = true ∧ fit = true ∧ y = (adv B N x.1, x.2) := by
  unfold sKn at h
  by_cases q : isNm B N s = true
  · obtain ⟨x, rfl⟩ := isNm_x q
    rw [if_pos q] at h
    by_cases q2 : fit = true
    · rw [if_pos q2] at h
      exact ⟨x, rfl, q, q2, sA_e h⟩
    · rw [if_neg q2] at h
      exact (opk_G h).elim
  · rw [if_neg q] at h
    match s, h with
    | .inr x, h => exact (opk_W h).elim
theorem sFr_e {n : Nat → Nat} {a : PH} {y : KP × Nat × List Int} (h : sFr B N n a s = .inr y) : ∃ x, s = .inr x ∧ kd B N s = 2 ∧ 0 ≤ vl B N s ∧ vl B N s ≤ (n 0 : Int) - 1 ∧ fi (fun k => decide (a 2 k = vl B N s)) (n 2) 0 = -1 ∧ y = (adv B N x.1, x.2) := by
  unfold sFr at h
  by_cases q : kd B N s = 2 ∧ fi (fun k => decide (a 2 k = vl B N s)) (n 2) 0 ≠ -1
  · rw [if_pos q] at h
    obtain ⟨x, rfl⟩ := kd_x q.1 (by decide)
    exact (opk_G h).elim
  · rw [if_neg q] at h
    obtain ⟨x, h1, h2, h3, h4, h5⟩ := sN_e h
    exact ⟨x, h1, h2, h3, h4, Decidable.byContradiction (fun w => q ⟨h2, w⟩), h5⟩
theorem c75v (hE : PEn v M c B N) (hP : PSt M c B N s) {lo hi : Int} (hlo : inR lo) (hhi : inR hi) (hK : ∀ M' r, frQ c M M' → PSt M' c B N (sN B N lo hi s) → (∀ y, sN B N lo hi s = .inr y → r = vl B N s) → K (vI r) (GF X, M', PTF v)) : pm_Call (d + 3) 75 [vA 31, vI lo, vI hi] (GF X, M, PTF v) K := by
  refine c75 hE hP hlo hhi (fun M' f p => hK M' _ f p (fun y hy => ?_))
  obtain ⟨x, h1, h2, h3, h4, h5⟩ := sN_e hy
  rw [if_pos ⟨h2, h3, h4⟩]
/-- what of the chart is told again after a change of a few cells -/
theorem CH_f {l' : List Int} {z' : CZ} (hC : CH M c l z) (hl : ∃ e, l' = l ++ e) (hF : z'.2.2.1 = z.2.2.1) (h17 : M' (c + 17) = M (c + 17)) (h18 : M' (c + 18) = M (c + 18)) (h19 : M' (c + 19) = M (c + 19)) (h0 : ∀ i, i < 7 → M' c i = (z'.1 i : Int)) (h1 : ∀ m, m < z'.1 1 → M' (c + 1) m = z'.2.1 7 m ∧ M' (c + 2) m = z'.2.1 1 m) (h2 : ∀ h, h < z'.1 2 → M' (c + 3) h = z'.2.1 8 h ∧ M' (c + 4) h = z'.2.1 2 h ∧ M' (c + 5) h = z'.2.1 3 h) (h3 : ∀ k, k < z'.1 3 → M' (c + 6) k = z'.2.1 4 k ∧ M' (c + 7) k = z'.2.1 5 k ∧ M' (c + 8) k = z'.2.1 6 k) (hm : mo M' (c + 9) = z'.2.2.2) : CH M' c l' z' := by
  obtain ⟨-, -, -, -, -, g6, g7⟩ := hC
  obtain ⟨e, rfl⟩ := hl
  refine ⟨h0, h1, h2, h3, hm, fun w hw => ?_, fun w hw => by rw [h19, hF]; exact g7 w hw⟩
  obtain ⟨pre, post, k1, k2, k3⟩ := g6 w hw
  exact ⟨pre, post ++ e, by rw [hF, k1]; simp, by rw [h17]; exact k2, by rw [h18, hF]; exact k3⟩
theorem c84 (hE : PEn v M c B N) (hP : PSt M c B N (toS κ l)) (hC : CH M c l z) (hw : wZ z) (h0 : 0 < z.1 0) (hk : (tok B N κ).1 ≠ 0) (hK : ∀ M', frZ c M M' → PS2 M' c B N (gMoon B N κ l z) → K PU (GF X, M', PTF v)) : pm_Call (d + 5) 84 [vA 31] (GF X, M, PTF v) K := by
  have hcc : c = 9 ∨ c = 35 := hE.1
  have w1 := hw.1
  have e1 : M c 1 = (z.1 1 : Int) := hC.1 1 (by omega)
  have e0 : M c 0 = (z.1 0 : Int) := hC.1 0 (by omega)
  have hNM := CH_NM hC hw
  unfold gMoon at hK
  rw [en84, r84_0 hE.1 hE.2.1 (by rw [e1]; omega), e1]
  by_cases q : z.1 1 < 3
  · rw [if_pos q] at hK
    rw [if_neg (by omega), r84_14, r84_19]
    refine c81 (room := true) (x := (κ, 0, l)) hE hP (fun M1 f1 p1 => ?_)
    have hE1 := PEn_f hE f1
    rw [if_pos (show true = true from rfl), push_i, r84_22 (by omega), if_pos (by omega), r84_26 hE.1 hE.2.1]
    refine c77 hE1 p1 (NM_f hE.1 hNM f1) (fun M2 nm f2 p2 hnm hnv => ?_)
    have hE2 := PEn_f hE1 f2
    rw [push_i, r84_38 hE.1 (by omega) (by omega), r84_39, Int.toNat_natCast]
    obtain ⟨hE2', s2⟩ := PS_sa (q := c + 1) (f := pm_up (M2 (c + 1)) (z.1 1) nm) hE2 (by omega)
    refine c73 hE2' (s2 _ p2) (by omega) (fun M3 f3 p3 => ?_)
    have hE3 := PEn_f hE2' f3
    have e03 : M3 c 0 = (z.1 0 : Int) := by rw [f3 c (by omega) (by omega) (by omega) (by omega), sa_n (by omega), f2 c (by omega) (by omega) (by omega) (by omega), f1 c (by omega) (by omega) (by omega) (by omega)]; exact e0
    rw [push_u, r84_44 hE.1 hE.2.1, e03]
    refine c75v hE3 p3 (by omega) (by omega) (fun M4 pl f4 p4 hpl => ?_)
    have hE4 := PEn_f hE3 f4
    rw [push_i, r84_69 hE.1 (by omega) (by omega), r84_70, Int.toNat_natCast]
    obtain ⟨hE4', s4⟩ := PS_sa (q := c + 10) (f := pm_up (M4 (c + 10)) (z.1 1) pl) hE4 (by omega)
    refine c73 hE4' (s4 _ p4) (by omega) (fun M5 f5 p5 => ?_)
    have hE5 := PEn_f hE4' f5
    rw [push_u, r84_75 hE.1 hE.2.1]
    refine c75v hE5 p5 (by omega) (by omega) (fun M6 go f6 p6 hgo => ?_)
    have hE6 := PEn_f hE5 f6
    rw [push_i, r84_90 hE.1 (by omega) (by omega), r84_91, Int.toNat_natCast]
    obtain ⟨hE6', s6⟩ := PS_sa (q := c + 2) (f := pm_up (M6 (c + 2)) (z.1 1) go) hE6 (by omega)
    refine c73 hE6' (s6 _ p6) (by omega) (fun M7 f7 p7 => ?_)
    have hE7 := PEn_f hE6' f7
    rw [push_u, r84_96 hE.1 hE.2.1]
    refine c75v hE7 p7 (by omega) (by omega) (fun M8 te f8 p8 hte => ?_)
    have hE8 := PEn_f hE7 f8
    rw [push_i, r84_114 hE.1 (by omega) (by omega), r84_115 hE.1 hE.2.1, Int.toNat_natCast]
    obtain ⟨hE8', s8⟩ := PS_sa (q := c + 11) (f := pm_up (M8 (c + 11)) (z.1 1) te) hE8 (by omega)
    obtain ⟨hE9', s9⟩ := PS_sa (q := c) (f := pm_up ((pm_sa M8 (c + 11) (pm_up (M8 (c + 11)) (z.1 1) te)) c) 1 ((z.1 1 : Int) + 1)) hE8' (by omega)
    have p9 := s9 _ (s8 _ p8)
    have hfr : frZ c M _ := fun q z1 z2 z3 => (show (pm_sa (pm_sa M8 (c + 11) (pm_up (M8 (c + 11)) (z.1 1) te)) c (pm_up ((pm_sa M8 (c + 11) (pm_up (M8 (c + 11)) (z.1 1) te)) c) 1 ((z.1 1 : Int) + 1))) q = M q by
      rw [sa_n (by omega), sa_n (by omega), f8 (q) (by omega) (by omega) (by omega) (by omega), f7 (q) (by omega) (by omega) (by omega) (by omega), sa_n (by omega), f6 (q) (by omega) (by omega) (by omega) (by omega), f5 (q) (by omega) (by omega) (by omega) (by omega), sa_n (by omega), f4 (q) (by omega) (by omega) (by omega) (by omega), f3 (q) (by omega) (by omega) (by omega) (by omega), sa_n (by omega), f2 (q) (by omega) (by omega) (by omega) (by omega), f1 (q) (by omega) (by omega) (by omega) (by omega)])
    refine hK _ hfr ?_
    cases e7 : mS7 B N z (toS κ l) with
    | inl e =>
      have p9' : PSt _ c B N (mS7 B N z (toS κ l)) := p9
      rw [e7] at p9'
      exact p9'
    | inr y =>
      have p9' : PSt _ c B N (mS7 B N z (toS κ l)) := p9
      rw [e7] at p9'
      obtain ⟨x6, e6, k6, a6, b6, y6⟩ := sN_e (s := mS6 B N z (toS κ l)) e7
      obtain ⟨x5, e5, k5, y5⟩ := sWd_e (s := mS5 B N z (toS κ l)) e6
      obtain ⟨x4, e4, k4, a4, b4, y4⟩ := sN_e (s := mS4 B N z (toS κ l)) e5
      obtain ⟨x3, e3, k3, y3⟩ := sWd_e (s := mS3 B N z (toS κ l)) e4
      obtain ⟨x2, e2, k2, a2, b2, y2⟩ := sN_e (s := mS2 B N z (toS κ l)) e3
      obtain ⟨x1, e1', k1, y1⟩ := sWd_e (s := mS1 B N z (toS κ l)) e2
      obtain ⟨x0, e0', k0, kn0, y0⟩ := sNew_e (s := sA B N (toS κ l)) e1'
      have hnm' : nm = vl B N (sA B N (toS κ l)) := hnv x0 e0'
      have x00 : x0 = (adv B N κ, 0, l) := sA_e e0'
      have hlist : y.2 = (0, l) := by rw [y6, y5, y4, y3, y2, y1, y0, x00]
      have hnb : -128 ≤ nm ∧ nm < 1073741824 := by
        rw [hnm']
        have hi0 : κ.1 ≤ N := hP.2.2.2.1
        have a1 := (tk_b hE.2.2.2.1 hE.2.2.2.2.2 (i := κ.1) (w := κ.2) hi0).2.2.2.2.2.1
        exact (tk_b hE.2.2.2.1 hE.2.2.2.2.2 (i := (adv B N κ).1) (w := (adv B N κ).2) a1).2.2.2.1
      have hpl' : pl = vl B N (mS2 B N z (toS κ l)) := hpl _ e3
      have hgo' : go = vl B N (mS4 B N z (toS κ l)) := hgo _ e5
      have hte' : te = vl B N (mS6 B N z (toS κ l)) := hte _ e7
      show PSt _ c B N (toS y.1 y.2.2) ∧ CH _ c y.2.2 _ ∧ wZ _
      have hy : toS y.1 y.2.2 = .inr y := by rw [toS, hlist]; show Sum.inr (y.1, 0, l) = Sum.inr y; rw [← show y = (y.1, 0, l) from by rw [← hlist]]
      rw [hy]
      refine ⟨p9', CH_f hC ⟨[], by rw [hlist]; simp⟩ rfl ?_ ?_ ?_ (fun i hi => ?_) (fun m hm => ?_) (fun h hh => ?_) (fun k hk => ?_) ?_, ?_⟩
      · rw [sa_n (by omega), sa_n (by omega), f8 (c + 17) (by omega) (by omega) (by omega) (by omega), f7 (c + 17) (by omega) (by omega) (by omega) (by omega), sa_n (by omega), f6 (c + 17) (by omega) (by omega) (by omega) (by omega), f5 (c + 17) (by omega) (by omega) (by omega) (by omega), sa_n (by omega), f4 (c + 17) (by omega) (by omega) (by omega) (by omega), f3 (c + 17) (by omega) (by omega) (by omega) (by omega), sa_n (by omega), f2 (c + 17) (by omega) (by omega) (by omega) (by omega), f1 (c + 17) (by omega) (by omega) (by omega) (by omega)]
      · rw [sa_n (by omega), sa_n (by omega), f8 (c + 18) (by omega) (by omega) (by omega) (by omega), f7 (c + 18) (by omega) (by omega) (by omega) (by omega), sa_n (by omega), f6 (c + 18) (by omega) (by omega) (by omega) (by omega), f5 (c + 18) (by omega) (by omega) (by omega) (by omega), sa_n (by omega), f4 (c + 18) (by omega) (by omega) (by omega) (by omega), f3 (c + 18) (by omega) (by omega) (by omega) (by omega), sa_n (by omega), f2 (c + 18) (by omega) (by omega) (by omega) (by omega), f1 (c + 18) (by omega) (by omega) (by omega) (by omega)]
      · rw [sa_n (by omega), sa_n (by omega), f8 (c + 19) (by omega) (by omega) (by omega) (by omega), f7 (c + 19) (by omega) (by omega) (by omega) (by omega), sa_n (by omega), f6 (c + 19) (by omega) (by omega) (by omega) (by omega), f5 (c + 19) (by omega) (by omega) (by omega) (by omega), sa_n (by omega), f4 (c + 19) (by omega) (by omega) (by omega) (by omega), f3 (c + 19) (by omega) (by omega) (by omega) (by omega), sa_n (by omega), f2 (c + 19) (by omega) (by omega) (by omega) (by omega), f1 (c + 19) (by omega) (by omega) (by omega) (by omega)]
      · rw [sa_s, sa_n (by omega), f8 (c) (by omega) (by omega) (by omega) (by omega), f7 (c) (by omega) (by omega) (by omega) (by omega), sa_n (by omega), f6 (c) (by omega) (by omega) (by omega) (by omega), f5 (c) (by omega) (by omega) (by omega) (by omega), sa_n (by omega), f4 (c) (by omega) (by omega) (by omega) (by omega), f3 (c) (by omega) (by omega) (by omega) (by omega), sa_n (by omega), f2 (c) (by omega) (by omega) (by omega) (by omega), f1 (c) (by omega) (by omega) (by omega) (by omega)]
        by_cases zi : i = 1
        · rw [up_e zi, zi]; show _ = ((upn z.1 1 (z.1 1 + 1) 1 : Nat) : Int); rw [upn_s]; rfl
        · rw [up_n zi]; show _ = ((upn z.1 1 (z.1 1 + 1) i : Nat) : Int); rw [upn_n zi]; exact hC.1 i hi
      · have hm' : m < z.1 1 + 1 := by have : m < upn z.1 1 (z.1 1 + 1) 1 := hm; rwa [upn_s] at this
        rw [sa_n (by omega), sa_n (by omega), f8 (c + 1) (by omega) (by omega) (by omega) (by omega), f7 (c + 1) (by omega) (by omega) (by omega) (by omega), sa_n (by omega), f6 (c + 1) (by omega) (by omega) (by omega) (by omega), f5 (c + 1) (by omega) (by omega) (by omega) (by omega), sa_n (by omega), f4 (c + 1) (by omega) (by omega) (by omega) (by omega), f3 (c + 1) (by omega) (by omega) (by omega) (by omega), sa_s, f2 (c + 1) (by omega) (by omega) (by omega) (by omega), f1 (c + 1) (by omega) (by omega) (by omega) (by omega), sa_n (by omega), sa_n (by omega), f8 (c + 2) (by omega) (by omega) (by omega) (by omega), f7 (c + 2) (by omega) (by omega) (by omega) (by omega), sa_s, f6 (c + 2) (by omega) (by omega) (by omega) (by omega), f5 (c + 2) (by omega) (by omega) (by omega) (by omega), sa_n (by omega), f4 (c + 2) (by omega) (by omega) (by omega) (by omega), f3 (c + 2) (by omega) (by omega) (by omega) (by omega), sa_n (by omega), f2 (c + 2) (by omega) (by omega) (by omega) (by omega), f1 (c + 2) (by omega) (by omega) (by omega) (by omega)]
        show _ = ups (ups z.2.1 7 (z.1 1) (vl B N (sA B N (toS κ l)))) 1 (z.1 1) (vl B N (mS4 B N z (toS κ l))) 7 m ∧ _ = ups (ups z.2.1 7 (z.1 1) (vl B N (sA B N (toS κ l)))) 1 (z.1 1) (vl B N (mS4 B N z (toS κ l))) 1 m
        by_cases zi : m = z.1 1
        · rw [up_e zi, up_e zi, zi, ups_n (by omega), ups_s, ups_s, hnm', hgo']; exact ⟨rfl, rfl⟩
        · rw [up_n zi, up_n zi, ups_n (by omega), ups_n (by omega), ups_n (by omega), ups_n (by omega)]; exact hC.2.1 m (by omega)
      · have hh' : h < z.1 2 := by have : h < upn z.1 1 (z.1 1 + 1) 2 := hh; rwa [upn_n (by omega)] at this
        rw [sa_n (by omega), sa_n (by omega), f8 (c + 3) (by omega) (by omega) (by omega) (by omega), f7 (c + 3) (by omega) (by omega) (by omega) (by omega), sa_n (by omega), f6 (c + 3) (by omega) (by omega) (by omega) (by omega), f5 (c + 3) (by omega) (by omega) (by omega) (by omega), sa_n (by omega), f4 (c + 3) (by omega) (by omega) (by omega) (by omega), f3 (c + 3) (by omega) (by omega) (by omega) (by omega), sa_n (by omega), f2 (c + 3) (by omega) (by omega) (by omega) (by omega), f1 (c + 3) (by omega) (by omega) (by omega) (by omega), sa_n (by omega), sa_n (by omega), f8 (c + 4) (by omega) (by omega) (by omega) (by omega), f7 (c + 4) (by omega) (by omega) (by omega) (by omega), sa_n (by omega), f6 (c + 4) (by omega) (by omega) (by omega) (by omega), f5 (c + 4) (by omega) (by omega) (by omega) (by omega), sa_n (by omega), f4 (c + 4) (by omega) (by omega) (by omega) (by omega), f3 (c + 4) (by omega) (by omega) (by omega) (by omega), sa_n (by omega), f2 (c + 4) (by omega) (by omega) (by omega) (by omega), f1 (c + 4) (by omega) (by omega) (by omega) (by omega), sa_n (by omega), sa_n (by omega), f8 (c + 5) (by omega) (by omega) (by omega) (by omega), f7 (c + 5) (by omega) (by omega) (by omega) (by omega), sa_n (by omega), f6 (c + 5) (by omega) (by omega) (by omega) (by omega), f5 (c + 5) (by omega) (by omega) (by omega) (by omega), sa_n (by omega), f4 (c + 5) (by omega) (by omega) (by omega) (by omega), f3 (c + 5) (by omega) (by omega) (by omega) (by omega), sa_n (by omega), f2 (c + 5) (by omega) (by omega) (by omega) (by omega), f1 (c + 5) (by omega) (by omega) (by omega) (by omega)]
        show _ = ups (ups z.2.1 7 (z.1 1) (vl B N (sA B N (toS κ l)))) 1 (z.1 1) (vl B N (mS4 B N z (toS κ l))) 8 h ∧ _ = ups (ups z.2.1 7 (z.1 1) (vl B N (sA B N (toS κ l)))) 1 (z.1 1) (vl B N (mS4 B N z (toS κ l))) 2 h ∧ _ = ups (ups z.2.1 7 (z.1 1) (vl B N (sA B N (toS κ l)))) 1 (z.1 1) (vl B N (mS4 B N z (toS κ l))) 3 h
        rw [ups_n (by omega), ups_n (by omega), ups_n (by omega), ups_n (by omega), ups_n (by omega), ups_n (by omega)]; exact hC.2.2.1 h hh'
      · have hh' : k < z.1 3 := by have : k < upn z.1 1 (z.1 1 + 1) 3 := hk; rwa [upn_n (by omega)] at this
        rw [sa_n (by omega), sa_n (by omega), f8 (c + 6) (by omega) (by omega) (by omega) (by omega), f7 (c + 6) (by omega) (by omega) (by omega) (by omega), sa_n (by omega), f6 (c + 6) (by omega) (by omega) (by omega) (by omega), f5 (c + 6) (by omega) (by omega) (by omega) (by omega), sa_n (by omega), f4 (c + 6) (by omega) (by omega) (by omega) (by omega), f3 (c + 6) (by omega) (by omega) (by omega) (by omega), sa_n (by omega), f2 (c + 6) (by omega) (by omega) (by omega) (by omega), f1 (c + 6) (by omega) (by omega) (by omega) (by omega), sa_n (by omega), sa_n (by omega), f8 (c + 7) (by omega) (by omega) (by omega) (by omega), f7 (c + 7) (by omega) (by omega) (by omega) (by omega), sa_n (by omega), f6 (c + 7) (by omega) (by omega) (by omega) (by omega), f5 (c + 7) (by omega) (by omega) (by omega) (by omega), sa_n (by omega), f4 (c + 7) (by omega) (by omega) (by omega) (by omega), f3 (c + 7) (by omega) (by omega) (by omega) (by omega), sa_n (by omega), f2 (c + 7) (by omega) (by omega) (by omega) (by omega), f1 (c + 7) (by omega) (by omega) (by omega) (by omega), sa_n (by omega), sa_n (by omega), f8 (c + 8) (by omega) (by omega) (by omega) (by omega), f7 (c + 8) (by omega) (by omega) (by omega) (by omega), sa_n (by omega), f6 (c + 8) (by omega) (by omega) (by omega) (by omega), f5 (c + 8) (by omega) (by omega) (by omega) (by omega), sa_n (by omega), f4 (c + 8) (by omega) (by omega) (by omega) (by omega), f3 (c + 8) (by omega) (by omega) (by omega) (by omega), sa_n (by omega), f2 (c + 8) (by omega) (by omega) (by omega) (by omega), f1 (c + 8) (by omega) (by omega) (by omega) (by omega)]
        show _ = ups (ups z.2.1 7 (z.1 1) (vl B N (sA B N (toS κ l)))) 1 (z.1 1) (vl B N (mS4 B N z (toS κ l))) 4 k ∧ _ = ups (ups z.2.1 7 (z.1 1) (vl B N (sA B N (toS κ l)))) 1 (z.1 1) (vl B N (mS4 B N z (toS κ l))) 5 k ∧ _ = ups (ups z.2.1 7 (z.1 1) (vl B N (sA B N (toS κ l)))) 1 (z.1 1) (vl B N (mS4 B N z (toS κ l))) 6 k
        rw [ups_n (by omega), ups_n (by omega), ups_n (by omega), ups_n (by omega), ups_n (by omega), ups_n (by omega)]; exact hC.2.2.2.1 k hh'
      · funext i k
        show mo _ (c + 9) i k = ups (ups z.2.2.2 1 (z.1 1) (vl B N (mS2 B N z (toS κ l)))) 2 (z.1 1) (vl B N (mS6 B N z (toS κ l))) i k
        have hm0 : ∀ i k, k < len i → M (c + 9 + i) k = z.2.2.2 i k := fun i k hk => by rw [mo_i (M := M) (b := c + 9) hk, hC.2.2.2.2.1]
        by_cases hk : k < len i
        · have hi6 := len_0 hk
          rw [mo, if_pos hk]
          by_cases y1 : i = 1
          · subst y1
            rw [show c + 9 + 1 = c + 10 from rfl, sa_n (by omega), sa_n (by omega), f8 (c + 10) (by omega) (by omega) (by omega) (by omega), f7 (c + 10) (by omega) (by omega) (by omega) (by omega), sa_n (by omega), f6 (c + 10) (by omega) (by omega) (by omega) (by omega), f5 (c + 10) (by omega) (by omega) (by omega) (by omega), sa_s, f4 (c + 10) (by omega) (by omega) (by omega) (by omega), f3 (c + 10) (by omega) (by omega) (by omega) (by omega), sa_n (by omega), f2 (c + 10) (by omega) (by omega) (by omega) (by omega), f1 (c + 10) (by omega) (by omega) (by omega) (by omega), ups_n (by omega)]
            by_cases zi : k = z.1 1
            · rw [up_e zi, zi, ups_s, hpl']
            · rw [up_n zi, ups_n (by omega)]; exact hm0 1 k hk
          by_cases y2 : i = 2
          · subst y2
            rw [show c + 9 + 2 = c + 11 from rfl, sa_n (by omega), sa_s, f8 (c + 11) (by omega) (by omega) (by omega) (by omega), f7 (c + 11) (by omega) (by omega) (by omega) (by omega), sa_n (by omega), f6 (c + 11) (by omega) (by omega) (by omega) (by omega), f5 (c + 11) (by omega) (by omega) (by omega) (by omega), sa_n (by omega), f4 (c + 11) (by omega) (by omega) (by omega) (by omega), f3 (c + 11) (by omega) (by omega) (by omega) (by omega), sa_n (by omega), f2 (c + 11) (by omega) (by omega) (by omega) (by omega), f1 (c + 11) (by omega) (by omega) (by omega) (by omega)]
            by_cases zi : k = z.1 1
            · rw [up_e zi, zi, ups_s, hte']
            · rw [up_n zi, ups_n (by omega), ups_n (by omega)]; exact hm0 2 k hk
          rw [ups_n (by omega), ups_n (by omega), sa_n (by omega), sa_n (by omega), f8 (c + 9 + i) (by omega) (by omega) (by omega) (by omega), f7 (c + 9 + i) (by omega) (by omega) (by omega) (by omega), sa_n (by omega), f6 (c + 9 + i) (by omega) (by omega) (by omega) (by omega), f5 (c + 9 + i) (by omega) (by omega) (by omega) (by omega), sa_n (by omega), f4 (c + 9 + i) (by omega) (by omega) (by omega) (by omega), f3 (c + 9 + i) (by omega) (by omega) (by omega) (by omega), sa_n (by omega), f2 (c + 9 + i) (by omega) (by omega) (by omega) (by omega), f1 (c + 9 + i) (by omega) (by omega) (by omega) (by omega)]
          exact hm0 i k hk
        · rw [mo, if_neg hk]
          have hz : z.2.2.2 i k = 0 := by rw [← hC.2.2.2.2.1, mo, if_neg hk]
          have hlen1 : ¬ (i = 1 ∧ k = z.1 1) := fun ⟨u1, u2⟩ => hk (by rw [u1, u2]; show z.1 1 < 3; exact q)
          have hlen2 : ¬ (i = 2 ∧ k = z.1 1) := fun ⟨u1, u2⟩ => hk (by rw [u1, u2]; show z.1 1 < 3; exact q)
          rw [ups_n (by omega), ups_n (by omega), hz]
      · obtain ⟨w1, w2, w3, w4, w5, w6, w7, w8⟩ := hw
        have u : ∀ i, i ≠ 1 → upn z.1 1 (z.1 1 + 1) i = z.1 i := fun i hi => upn_n hi
        have wm : wM (upn z.1 1 (z.1 1 + 1)) (ups (ups z.2.2.2 1 (z.1 1) (vl B N (mS2 B N z (toS κ l)))) 2 (z.1 1) (vl B N (mS6 B N z (toS κ l)))) := by
          obtain ⟨v0, v1, v2, v3, v4, v5, v6, v7⟩ := w5
          refine ⟨by rw [ups_n (by omega), ups_n (by omega)]; exact v0, fun m hm => ?_, fun m hm => ?_, fun h hh => by rw [ups_n (by omega), ups_n (by omega)]; exact v3 h hh, fun k hk => by rw [ups_n (by omega), ups_n (by omega), ups_n (by omega), ups_n (by omega)]; exact v4 k hk, fun m hm => ?_, fun h hh => by rw [u 2 (by omega)] at hh; rw [ups_n (by omega), ups_n (by omega)]; exact v6 h hh, fun h m hm hh => ?_⟩
          · rw [upn_s] at hm
            rw [u 0 (by omega), ups_n (by omega)]
            by_cases zi : m = z.1 1
            · rw [zi, ups_s]; omega
            · rw [ups_n (by omega)]; exact v1 m (by omega)
          · by_cases zi : m = z.1 1
            · rw [zi, ups_s]; omega
            · rw [ups_n (by omega), ups_n (by omega)]; exact v2 m hm
          · rw [upn_s] at hm
            rw [ups_n (by omega), ups_n (by omega), ups_n (by omega), ups_n (by omega)]; exact v5 m (by omega)
          · rw [upn_s, u 2 (by omega)] at hh
            rw [ups_n (by omega), ups_n (by omega), ups_n (by omega), ups_n (by omega)]; exact v7 h m hm (by omega)
        refine ⟨?_, fun m hm => ?_, fun h hh => ?_, fun k hk => ?_, wm, fun m hm => ?_, fun h hh => ?_, fun w hw' => ?_⟩
        · show (upn z.1 1 (z.1 1 + 1) 0 ≤ 24 ∧ upn z.1 1 (z.1 1 + 1) 1 ≤ 3 ∧ upn z.1 1 (z.1 1 + 1) 2 ≤ 8 ∧ upn z.1 1 (z.1 1 + 1) 3 ≤ 16 ∧ upn z.1 1 (z.1 1 + 1) 4 ≤ 6 ∧ upn z.1 1 (z.1 1 + 1) 5 ≤ 99 ∧ upn z.1 1 (z.1 1 + 1) 6 ≤ 999 ∧ (upn z.1 1 (z.1 1 + 1) 0 = 0 → upn z.1 1 (z.1 1 + 1) 1 = 0 ∧ upn z.1 1 (z.1 1 + 1) 2 = 0))
          rw [upn_s, u 0 (by omega), u 2 (by omega), u 3 (by omega), u 4 (by omega), u 5 (by omega), u 6 (by omega)]
          omega
        · have hm' : m < z.1 1 + 1 := by have : m < upn z.1 1 (z.1 1 + 1) 1 := hm; rwa [upn_s] at this
          show 0 ≤ ups (ups z.2.1 7 (z.1 1) (vl B N (sA B N (toS κ l)))) 1 (z.1 1) (vl B N (mS4 B N z (toS κ l))) 1 m ∧ ups (ups z.2.1 7 (z.1 1) (vl B N (sA B N (toS κ l)))) 1 (z.1 1) (vl B N (mS4 B N z (toS κ l))) 1 m ≤ 23
          by_cases zi : m = z.1 1
          · rw [zi, ups_s]; omega
          · rw [ups_n (by omega), ups_n (by omega)]; exact w2 m (by omega)
        · have hh' : h < z.1 2 := by have : h < upn z.1 1 (z.1 1 + 1) 2 := hh; rwa [u 2 (by omega)] at this
          show 0 ≤ ups (ups z.2.1 7 (z.1 1) (vl B N (sA B N (toS κ l)))) 1 (z.1 1) (vl B N (mS4 B N z (toS κ l))) 2 h ∧ ups (ups z.2.1 7 (z.1 1) (vl B N (sA B N (toS κ l)))) 1 (z.1 1) (vl B N (mS4 B N z (toS κ l))) 2 h < (upn z.1 1 (z.1 1 + 1) 0 : Nat) ∧ 0 ≤ ups (ups z.2.1 7 (z.1 1) (vl B N (sA B N (toS κ l)))) 1 (z.1 1) (vl B N (mS4 B N z (toS κ l))) 3 h ∧ ups (ups z.2.1 7 (z.1 1) (vl B N (sA B N (toS κ l)))) 1 (z.1 1) (vl B N (mS4 B N z (toS κ l))) 3 h ≤ 99
          rw [u 0 (by omega), ups_n (by omega), ups_n (by omega), ups_n (by omega), ups_n (by omega)]; exact w3 h hh'
        · have hh' : k < z.1 3 := by have : k < upn z.1 1 (z.1 1 + 1) 3 := hk; rwa [u 3 (by omega)] at this
          show 0 ≤ ups (ups z.2.1 7 (z.1 1) (vl B N (sA B N (toS κ l)))) 1 (z.1 1) (vl B N (mS4 B N z (toS κ l))) 4 k ∧ ups (ups z.2.1 7 (z.1 1) (vl B N (sA B N (toS κ l)))) 1 (z.1 1) (vl B N (mS4 B N z (toS κ l))) 4 k < (upn z.1 1 (z.1 1 + 1) 2 : Nat) ∧ 0 ≤ ups (ups z.2.1 7 (z.1 1) (vl B N (sA B N (toS κ l)))) 1 (z.1 1) (vl B N (mS4 B N z (toS κ l))) 5 k ∧ ups (ups z.2.1 7 (z.1 1) (vl B N (sA B N (toS κ l)))) 1 (z.1 1) (vl B N (mS4 B N z (toS κ l))) 5 k < (upn z.1 1 (z.1 1 + 1) 2 : Nat) ∧ 1 ≤ ups (ups z.2.1 7 (z.1 1) (vl B N (sA B N (toS κ l)))) 1 (z.1 1) (vl B N (mS4 B N z (toS κ l))) 6 k ∧ ups (ups z.2.1 7 (z.1 1) (vl B N (sA B N (toS κ l)))) 1 (z.1 1) (vl B N (mS4 B N z (toS κ l))) 6 k ≤ 999
          rw [u 2 (by omega), ups_n (by omega), ups_n (by omega), ups_n (by omega), ups_n (by omega), ups_n (by omega), ups_n (by omega)]; exact w4 k hh'
        · have hm' : m < z.1 1 + 1 := by have : m < upn z.1 1 (z.1 1 + 1) 1 := hm; rwa [upn_s] at this
          show -128 ≤ ups (ups z.2.1 7 (z.1 1) (vl B N (sA B N (toS κ l)))) 1 (z.1 1) (vl B N (mS4 B N z (toS κ l))) 7 m ∧ ups (ups z.2.1 7 (z.1 1) (vl B N (sA B N (toS κ l)))) 1 (z.1 1) (vl B N (mS4 B N z (toS κ l))) 7 m < 1073741824
          rw [ups_n (by omega)]
          by_cases zi : m = z.1 1
          · rw [zi, ups_s, ← hnm']; exact hnb
          · rw [ups_n (by omega)]; exact w6 m (by omega)
        · have hh' : h < z.1 2 := by have : h < upn z.1 1 (z.1 1 + 1) 2 := hh; rwa [u 2 (by omega)] at this
          show -128 ≤ ups (ups z.2.1 7 (z.1 1) (vl B N (sA B N (toS κ l)))) 1 (z.1 1) (vl B N (mS4 B N z (toS κ l))) 8 h ∧ ups (ups z.2.1 7 (z.1 1) (vl B N (sA B N (toS κ l)))) 1 (z.1 1) (vl B N (mS4 B N z (toS κ l))) 8 h < 1073741824
          rw [ups_n (by omega), ups_n (by omega)]; exact w7 h hh'
        · have hh' : 2 + z.1 4 ≤ w := by have : 2 + upn z.1 1 (z.1 1 + 1) 4 ≤ w := hw'; rwa [u 4 (by omega)] at this
          exact w8 w hh'
  · rw [if_neg q] at hK
    rw [if_pos (by omega), r84_18, r84_19]
    refine c81 (room := false) (x := (κ, 0, l)) hE hP (fun M1 f1 p1 => ?_)
    rw [if_neg (show ¬ false = true by decide), push_i, r84_22 (by omega), if_neg (by simp), r84_25]
    exact hK M1 (fun q z1 z2 z3 => f1 q z1 z2 (by omega) (by omega)) p1
end CS2
