/-! The reference: ships. -/
/-- places beside each other -/
def nb (N p q : Nat) : Prop := q = p ∨ q = (if p + 1 = N then 0 else p + 1) ∨ q = (if p = 0 then N - 1 else p - 1)
theorem nb_s {N p q : Nat} (hp : p < N) (hq : q < N) (h : nb N p q) : nb N q p := by
  unfold nb at *
  rcases h with h | h | h
  · exact Or.inl h.symm
  · right; right
    by_cases z : p + 1 = N
    · rw [if_pos z] at h; rw [if_pos h]; omega
    · rw [if_neg z] at h; rw [if_neg (by omega)]; omega
  · right; left
    by_cases z : p = 0
    · rw [if_pos z] at h; rw [if_pos (by omega)]; omega
    · rw [if_neg z] at h; rw [if_neg (by omega)]; omega
theorem nb_l {N p q : Nat} (hp : p < N) (h : nb N p q) : q < N := by
  unfold nb at h
  rcases h with h | h | h
  · omega
  · split at h <;> omega
  · split at h <;> omega
theorem spr_i {N p : Nat} {S : Nat → Bool} : spr N S p = true ↔ ∃ q, nb N p q ∧ S q = true := by
  unfold spr nb
  rw [Bool.or_eq_true, Bool.or_eq_true]
  constructor
  · rintro (h | h | h)
    · exact ⟨p, Or.inl rfl, h⟩
    · exact ⟨_, Or.inr (Or.inl rfl), h⟩
    · exact ⟨_, Or.inr (Or.inr rfl), h⟩
  · rintro ⟨q, rfl | rfl | rfl, h⟩
    · exact Or.inl h
    · exact Or.inr (Or.inl h)
    · exact Or.inr (Or.inr h)
/-- the first hour of a crossing instead of its last -/
theorem rch_1 {N : Nat} : ∀ {t : Nat} {g : Nat → Nat → Bool} {f x : Nat}, f < N → x < N → (rch N g f (t + 1) x = true ↔ g 0 f = true ∧ ∃ q, nb N f q ∧ rch N (fun t => g (t + 1)) q t x = true)
  | 0, g, f, x, hf, hx => by
    show (spr N (rch N g f 0) x && g (0 + 1) x) = true ↔ _
    rw [Bool.and_eq_true, spr_i]
    constructor
    · rintro ⟨⟨q, h1, h2⟩, h3⟩
      have h2' : (decide (q = f) && g 0 q) = true := h2
      simp at h2'
      obtain ⟨rfl, h4⟩ := h2'
      refine ⟨h4, x, nb_s hx hf h1, ?_⟩
      show (decide (x = x) && g (0 + 1) x) = true
      simpa using h3
    · rintro ⟨h1, q, h2, h3⟩
      have h3' : (decide (x = q) && g (0 + 1) x) = true := h3
      simp at h3'
      obtain ⟨rfl, h4⟩ := h3'
      refine ⟨⟨f, nb_s hf hx h2, ?_⟩, h4⟩
      show (decide (f = f) && g 0 f) = true
      simpa using h1
  | t + 1, g, f, x, hf, hx => by
    show (spr N (rch N g f (t + 1)) x && g (t + 1 + 1) x) = true ↔ _
    rw [Bool.and_eq_true, spr_i]
    constructor
    · rintro ⟨⟨y, h1, h2⟩, h3⟩
      obtain ⟨h4, q, h5, h6⟩ := (rch_1 hf (nb_l hx h1)).mp h2
      refine ⟨h4, q, h5, ?_⟩
      show (spr N (rch N (fun t => g (t + 1)) q t) x && g (t + 1 + 1) x) = true
      rw [Bool.and_eq_true, spr_i]
      exact ⟨⟨y, h1, h6⟩, h3⟩
    · rintro ⟨h4, q, h5, h6⟩
      have h6' : (spr N (rch N (fun t => g (t + 1)) q t) x && g (t + 1 + 1) x) = true := h6
      rw [Bool.and_eq_true, spr_i] at h6'
      obtain ⟨⟨y, h1, h7⟩, h3⟩ := h6'
      exact ⟨⟨y, h1, (rch_1 hf (nb_l hx h1)).mpr ⟨h4, q, h5, h7⟩⟩, h3⟩
theorem rch_c {N : Nat} {g g' : Nat → Nat → Bool} {f : Nat} : ∀ {t : Nat}, (∀ k, k ≤ t → g k = g' k) → rch N g f t = rch N g' f t
  | 0, h => by
    funext p
    show (decide (p = f) && g 0 p) = (decide (p = f) && g' 0 p)
    rw [h 0 (by omega)]
  | t + 1, h => by
    funext p
    show (spr N (rch N g f t) p && g (t + 1) p) = (spr N (rch N g' f t) p && g' (t + 1) p)
    rw [rch_c (fun k hk => h k (by omega)), h (t + 1) (by omega)]
/-- from behind and from ahead it is the same -/
theorem gd_i {N L to : Nat} {fl : Nat → Nat → Bool} (hto : to < N) : ∀ {s p : Nat}, s ≤ L → p < N → (gd N fl to L (s + 1) p = true ↔ ∃ t, t ≤ s ∧ rch N (fun t => fl (L - s + t)) p t to = true)
  | 0, p, hs, hp => by
    show ((decide (p = to) || spr N (fun _ => false) p) && fl (L - 0) p) = true ↔ _
    have e : spr N (fun _ => false) p = false := rfl
    rw [e, Bool.or_false, Bool.and_eq_true]
    constructor
    · rintro ⟨h1, h2⟩
      simp at h1
      subst h1
      refine ⟨0, by omega, ?_⟩
      show (decide (p = p) && fl (L - 0 + 0) p) = true
      simpa using h2
    · rintro ⟨t, ht, h⟩
      have : t = 0 := by omega
      subst this
      have h' : (decide (to = p) && fl (L - 0 + 0) to) = true := h
      simp at h'
      obtain ⟨rfl, h2⟩ := h'
      exact ⟨by simp, h2⟩
  | s + 1, p, hs, hp => by
    show ((decide (p = to) || spr N (gd N fl to L (s + 1)) p) && fl (L - (s + 1)) p) = true ↔ _
    rw [Bool.and_eq_true, Bool.or_eq_true, spr_i]
    have sh : ∀ {q t : Nat}, rch N (fun k => (fun t => fl (L - (s + 1) + t)) (k + 1)) q t = rch N (fun t => fl (L - s + t)) q t := fun {q t} => rch_c (fun k _ => by show fl (L - (s + 1) + (k + 1)) = fl (L - s + k); rw [show L - (s + 1) + (k + 1) = L - s + k by omega])
    constructor
    · rintro ⟨h1 | ⟨q, h1, h2⟩, h3⟩
      · simp at h1
        subst h1
        refine ⟨0, by omega, ?_⟩
        show (decide (p = p) && fl (L - (s + 1) + 0) p) = true
        simpa using h3
      · obtain ⟨t, ht, h4⟩ := (gd_i hto (by omega) (nb_l hp h1)).mp h2
        exact ⟨t + 1, by omega, (rch_1 hp hto).mpr ⟨h3, q, h1, by rw [sh]; exact h4⟩⟩
    · rintro ⟨t, ht, h⟩
      cases t with
      | zero =>
        have h' : (decide (to = p) && fl (L - (s + 1) + 0) to) = true := h
        simp at h'
        obtain ⟨rfl, h2⟩ := h'
        exact ⟨Or.inl (by simp), h2⟩
      | succ t =>
        obtain ⟨h1, q, h2, h3⟩ := (rch_1 hp hto).mp h
        rw [sh] at h3
        exact ⟨Or.inr ⟨q, h2, (gd_i hto (by omega) (nb_l hp h2)).mpr ⟨t, by omega, h3⟩⟩, h1⟩
/-- when one is there that sets out then -/
def ther (N : Nat) (fl : Nat → Nat → Bool) (f to L s : Nat) : Int := fi (fun k => rch N (fun t => fl (s + t)) f (k - s) to) (L + 1 - s) s
theorem ther_n {N L to f s : Nat} {fl : Nat → Nat → Bool} (hto : to < N) (hf : f < N) (hs : s ≤ L) : ther N fl f to L (L - s) ≠ -1 ↔ gd N fl to L (s + 1) f = true := by
  rw [gd_i hto hs hf]
  constructor
  · intro h
    obtain ⟨j, -, h1, h2, h3, -⟩ := fi_s h
    exact ⟨j - (L - s), by omega, h3⟩
  · rintro ⟨t, ht, h⟩ hn
    have := fi_n hn (L - s + t) (by omega) (by omega)
    rw [show L - s + t - (L - s) = t by omega, h] at this
    exact absurd this (by simp)
theorem tmS {p N : Nat} (h : p < N) : ((p : Int) + 1).tmod (N : Int) = ((if p + 1 = N then 0 else p + 1 : Nat) : Int) ∧ ((p : Int) + (N : Int) - 1).tmod (N : Int) = ((if p = 0 then N - 1 else p - 1 : Nat) : Int) := by
  constructor
  · rw [Int.tmod_eq_emod_of_nonneg (by omega)]
    by_cases q : p + 1 = N
    · rw [if_pos q, show (p : Int) + 1 = (N : Int) by omega, Int.emod_self]; rfl
    · rw [if_neg q, Int.emod_eq_of_lt (by omega) (by omega)]; omega
  · rw [Int.tmod_eq_emod_of_nonneg (by omega)]
    by_cases q : p = 0
    · rw [if_pos q, Int.emod_eq_of_lt (by omega) (by omega)]; omega
    · rw [if_neg q, show (p : Int) + (N : Int) - 1 = ((p : Int) - 1) + (N : Int) by omega, Int.add_emod_right, Int.emod_eq_of_lt (by omega) (by omega)]; omega
