/-! The reference: what stays while it asks, its formulas, a layer copied. -/
def fk (M M' : PH) : Prop := (∀ q, q ≠ 234 → q ≠ 276 → M' q = M q) ∧ ∀ j, j < 64 ∨ 67 < j → M' 234 j = M 234 j
def fh (M M' : PH) : Prop := (∀ q, q ≠ 234 → q ≠ 276 → q ≠ 277 → M' q = M q) ∧ ∀ j, j < 64 ∨ 67 < j → M' 234 j = M 234 j
def fw (w : Nat) (M M' : PH) : Prop := (∀ q, q ≠ 234 → q < 270 ∨ 277 < q → M' q = M q) ∧ (∀ j, j < 64 ∨ 67 < j → M' 234 j = M 234 j) ∧ (∀ k, k ≠ w → M' 270 k = M 270 k) ∧ (∀ k, k / 3 ≠ w → M' 271 k = M 271 k ∧ M' 272 k = M 272 k) ∧ (∀ k, k / 8 ≠ w → M' 273 k = M 273 k) ∧ ∀ k, k / 24 ≠ w → M' 274 k = M 274 k ∧ M' 275 k = M 275 k
def wsr (w : Int) : Int := if w = 15 then 1 else if w = 7 then 2 else if w = 6 then 3 else if w = 16 then 4 else if w = 17 then 5 else if w = 18 then 6 else if w = 4 then 7 else if w = 19 then 8 else if w = 20 then 9 else if w = 21 then 31 else 32
/-- the reference's number of a code -/
def sor (c : Int) : Int := if c < 10000 then 0 else if c < 20000 then wsr (c - 10000) else if c = 20026 then 30 else if c = 20025 then 22 else srt (c - 20000)
def cdR (M : PH) (b k : Nat) (c : Int) : Prop := M 259 (1600 * b + k) = sor c ∧ (c < 10000 → M 260 (1600 * b + k) = c)
def RFo (M : PH) (b f g k : Nat) (l : List Int) : Prop := (∃ i : Nat, M f k = (i : Int) ∧ M g k = ((i + l.length : Nat) : Int) ∧ i + l.length ≤ 1600 ∧ ∀ j (h : j < l.length), cdR M b (i + j) l[j]) ∧ ∃ t, ty l = some [t]
def RF (M : PH) (b : Nat) (n : Nat → Nat) (F : Nat → List Int) : Prop := (F 0 = [] → M 253 b = -1) ∧ (F 0 ≠ [] → RFo M b 253 254 b (F 0)) ∧ (F 1 = [] → M 255 b = -1) ∧ (F 1 ≠ [] → RFo M b 255 256 b (F 1)) ∧ ∀ c, c < n 4 → RFo M b 251 252 (6 * b + c) (F (2 + c))
def RS (M : PH) (b : Nat) (n : Nat → Nat) (a : PH) (F : Nat → List Int) : Prop := RC M b n a ∧ RF M b n F ∧ wC n a F
section RF6
variable {d b w u : Nat} {X : Nat × (Nat → Int)} {v : Nat → Int} {M M' M2 : PH} {K : PV → PS → Prop} {n : Nat → Nat} {a μ : PH} {F : Nat → List Int}
theorem fk_r : fk M M := ⟨fun _ _ _ => rfl, fun _ _ => rfl⟩
theorem fk_t (h : fk M M') (h2 : fk M' M2) : fk M M2 := ⟨fun q z1 z2 => (h2.1 q z1 z2).trans (h.1 q z1 z2), fun j z => (h2.2 j z).trans (h.2 j z)⟩
theorem fh_r : fh M M := ⟨fun _ _ _ _ => rfl, fun _ _ => rfl⟩
theorem fh_t (h : fh M M') (h2 : fh M' M2) : fh M M2 := ⟨fun q z1 z2 z3 => (h2.1 q z1 z2 z3).trans (h.1 q z1 z2 z3), fun j z => (h2.2 j z).trans (h.2 j z)⟩
theorem fk_h (h : fk M M') : fh M M' := ⟨fun q z1 z2 _ => h.1 q z1 z2, h.2⟩
theorem fh_w (h : fh M M') : fw w M M' := by
  refine ⟨fun q z1 z2 => h.1 q z1 (by omega) (by omega), h.2, fun k _ => ?_, fun k _ => ?_, fun k _ => ?_, fun k _ => ?_⟩
  · rw [h.1 270 (by omega) (by omega) (by omega)]
  · rw [h.1 271 (by omega) (by omega) (by omega), h.1 272 (by omega) (by omega) (by omega)]; exact ⟨rfl, rfl⟩
  · rw [h.1 273 (by omega) (by omega) (by omega)]
  · rw [h.1 274 (by omega) (by omega) (by omega), h.1 275 (by omega) (by omega) (by omega)]; exact ⟨rfl, rfl⟩
theorem fw_r : fw w M M := fh_w fh_r
theorem fw_t (h : fw w M M') (h2 : fw w M' M2) : fw w M M2 := ⟨fun q z1 z2 => (h2.1 q z1 z2).trans (h.1 q z1 z2), fun j z => (h2.2.1 j z).trans (h.2.1 j z), fun k z => (h2.2.2.1 k z).trans (h.2.2.1 k z), fun k z => ⟨(h2.2.2.2.1 k z).1.trans (h.2.2.2.1 k z).1, (h2.2.2.2.1 k z).2.trans (h.2.2.2.1 k z).2⟩, fun k z => (h2.2.2.2.2.1 k z).trans (h.2.2.2.2.1 k z), fun k z => ⟨(h2.2.2.2.2.2 k z).1.trans (h.2.2.2.2.2 k z).1, (h2.2.2.2.2.2 k z).2.trans (h.2.2.2.2.2 k z).2⟩⟩
theorem RS_f (h : ∀ q, 236 ≤ q → q ≤ 260 → M' q = M q) (h13 : M' 234 13 = M 234 13) (hS : RS M b n a F) : RS M' b n a F := by
  unfold RS RC RF RFo cdR at *
  simp only [h13, h 236 (by omega) (by omega), h 237 (by omega) (by omega), h 239 (by omega) (by omega), h 241 (by omega) (by omega), h 242 (by omega) (by omega), h 244 (by omega) (by omega), h 246 (by omega) (by omega), h 247 (by omega) (by omega), h 248 (by omega) (by omega), h 249 (by omega) (by omega), h 250 (by omega) (by omega), h 251 (by omega) (by omega), h 252 (by omega) (by omega), h 253 (by omega) (by omega), h 254 (by omega) (by omega), h 255 (by omega) (by omega), h 256 (by omega) (by omega), h 257 (by omega) (by omega), h 258 (by omega) (by omega), h 259 (by omega) (by omega), h 260 (by omega) (by omega)]
  exact hS
theorem RS_w (h : fw w M M') (hS : RS M b n a F) : RS M' b n a F := RS_f (fun q z1 z2 => h.1 q (by omega) (by omega)) (h.2.1 13 (by omega)) hS
theorem RM_f (h : ∀ q, 270 ≤ q → q ≤ 275 → M' q = M q) (hM : RM M n w μ) : RM M' n w μ := by
  unfold RM at *
  simp only [h 270 (by omega) (by omega), h 271 (by omega) (by omega), h 272 (by omega) (by omega), h 273 (by omega) (by omega), h 274 (by omega) (by omega), h 275 (by omega) (by omega)]
  exact hM
theorem RM_h (h : fh M M') (hM : RM M n w μ) : RM M' n w μ := RM_f (fun q z1 z2 => h.1 q (by omega) (by omega) (by omega)) hM
theorem RM_w (h : fw u M M') (hu : u ≠ w) (h3 : n 1 ≤ 3) (h8 : n 2 ≤ 8) (hM : RM M n w μ) : RM M' n w μ := by
  obtain ⟨m0, m1, m2, m3, m4⟩ := hM
  refine ⟨m0, (h.2.2.1 w (by omega)).trans m1, fun m hm => ?_, fun k hk => (h.2.2.2.2.1 _ (by omega)).trans (m3 k hk), fun k m hk hm => ?_⟩
  · have g := h.2.2.2.1 (3 * w + m) (by omega)
    rw [g.1, g.2]; exact m2 m hm
  · have g := h.2.2.2.2.2 (24 * w + 3 * k + m) (by omega)
    rw [g.1, g.2]; exact m4 k m hk hm
theorem c232 {t s : Nat} (ht : t < 22) (hs : s < 22) (hn : t ≠ s) : pm_Call (d + 1) 232 [vA 234, vI (t : Int), vI (s : Int)] (GF X, M, PTF v) K ↔ K PU (GF X, lcp M t s, PTF v) := by
  rw [en232, r232_0 (by omega) (by omega) (by omega) (by omega), r232_12, l232a ht hs hn, r232_65, l232b ht hs hn, r232_101, l232c ht hs hn, r232_159]
  exact Iff.rfl
theorem lcp_w {t s : Nat} : fw t M (lcp M t s) := by
  refine ⟨fun q z1 z2 => ?_, fun j z => rfl, fun k z => ?_, fun k z => ?_, fun k z => ?_, fun k z => ?_⟩
  · rw [lcp, sa_n (by omega), sa_n (by omega), sa_n (by omega), sa_n (by omega), sa_n (by omega), sa_n (by omega)]
  · show pm_up (M 270) t (M 270 s) k = _
    rw [up_n z]
  · constructor
    · show cpr (M 271) (3 * t) (3 * s) 3 k = _
      rw [cpr_n (by omega)]
    · show cpr (M 272) (3 * t) (3 * s) 3 k = _
      rw [cpr_n (by omega)]
  · show cpr (M 273) (8 * t) (8 * s) 8 k = _
    rw [cpr_n (by omega)]
  · constructor
    · show cpr (M 274) (24 * t) (24 * s) 24 k = _
      rw [cpr_n (by omega)]
    · show cpr (M 275) (24 * t) (24 * s) 24 k = _
      rw [cpr_n (by omega)]
theorem lcp_R {t s : Nat} (ht : t < 22) (h3 : n 1 ≤ 3) (h8 : n 2 ≤ 8) (hM : RM M n s μ) : RM (lcp M t s) n t μ := by
  obtain ⟨m0, m1, m2, m3, m4⟩ := hM
  refine ⟨ht, ?_, fun m hm => ⟨?_, ?_⟩, fun k hk => ?_, fun k m hk hm => ⟨?_, ?_⟩⟩
  · show pm_up (M 270) t (M 270 s) t = _
    rw [up_s, m1]
  · show cpr (M 271) (3 * t) (3 * s) 3 (3 * t + m) = _
    rw [cpr_i (by omega), (m2 m hm).1]
  · show cpr (M 272) (3 * t) (3 * s) 3 (3 * t + m) = _
    rw [cpr_i (by omega), (m2 m hm).2]
  · show cpr (M 273) (8 * t) (8 * s) 8 (8 * t + k) = _
    rw [cpr_i (by omega), m3 k hk]
  · show cpr (M 274) (24 * t) (24 * s) 24 (24 * t + 3 * k + m) = _
    rw [show 24 * t + 3 * k + m = 24 * t + (3 * k + m) by omega, cpr_i (by omega), show 24 * s + (3 * k + m) = 24 * s + 3 * k + m by omega, (m4 k m hk hm).1]
  · show cpr (M 275) (24 * t) (24 * s) 24 (24 * t + 3 * k + m) = _
    rw [show 24 * t + 3 * k + m = 24 * t + (3 * k + m) by omega, cpr_i (by omega), show 24 * s + (3 * k + m) = 24 * s + 3 * k + m by omega, (m4 k m hk hm).2]
end RF6
