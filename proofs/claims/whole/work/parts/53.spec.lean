/-! What is reckoned: sums and tests. -/
def cl (x : Int) : Int := if 1000000 < x then 1000000 else if x < -1000000 then -1000000 else x
def wi (lo x hi : Int) : Int := if x < lo then lo else if hi < x then hi else x
theorem cl_b {x : Int} : -1000000 ≤ cl x ∧ cl x ≤ 1000000 := by
  unfold cl; split
  · omega
  · split <;> omega
theorem cl_id {x : Int} (h : -1000000 ≤ x ∧ x ≤ 1000000) : cl x = x := by rw [cl, if_neg (by omega), if_neg (by omega)]
theorem wi_b {lo x hi : Int} (h : lo ≤ hi) : lo ≤ wi lo x hi ∧ wi lo x hi ≤ hi := by
  unfold wi; split
  · omega
  · split <;> omega
def raw (w a b : Int) : Int := if w = 43 then a + b else if w = 45 then a - b else if w = 42 then a * b else if w = 47 then (if b = 0 then 0 else a.fdiv b) else if w = 37 then (if b = 0 then 0 else a.fmod b) else if w = 60 then (if a < b then 1 else 0) else if w = 62 then (if b < a then 1 else 0) else if w = 61 then (if a = b then 1 else 0) else if w = 23 then pm_or a b else if w = 24 then pm_and a b else if w = 27 then min a b else if w = 28 then max a b else 0
def jn (w a b : Int) : Int := cl (raw w a b)
def isAr (c : Int) : Bool := c = 20043 || c = 20045 || c = 20042 || c = 20047 || c = 20037 || c = 20027 || c = 20028
def isCm (c : Int) : Bool := c = 20060 || c = 20062 || c = 20061
def isBo (c : Int) : Bool := c = 20023 || c = 20024
def isVw (w : Nat) : Bool := w = 4 || w = 6 || w = 7 || (15 ≤ w && w ≤ 22)
def isNu (c : Int) : Bool := (0 ≤ c && c < 10000) || (10000 ≤ c && c < 10029 && isVw (c - 10000).toNat)
def ng (s : List Int) : List Int := match s with
  | a :: r => (1 - a) :: r
  | [] => []
def j2 (w : Int) (s : List Int) : List Int := match s with
  | b :: a :: r => jn w a b :: r
  | l => l
def ev1 (e : Nat → Int) (s : List Int) (c : Int) : List Int :=
  if c < 20000 then (if c < 10000 then c else e (c - 10000).toNat) :: s
  else if c = 20026 then 1 :: s
  else if c = 20025 then ng s
  else j2 (c - 20000) s
def ev (e : Nat → Int) (l : List Int) : Int := (l.foldl (ev1 e) []).headD 0
/-- what lies on the stack: false a number, true a truth; none if it can't be -/
def ty1 (s : Option (List Bool)) (c : Int) : Option (List Bool) := match s with
  | none => none
  | some s =>
    if isNu c then (if s.length < 64 then some (false :: s) else none)
    else if c = 20026 then (if s.length < 64 then some (true :: s) else none)
    else if c = 20025 then (match s with
      | true :: r => some (true :: r)
      | _ => none)
    else if isAr c then (match s with
      | false :: false :: r => some (false :: r)
      | _ => none)
    else if isCm c then (match s with
      | false :: false :: r => some (true :: r)
      | _ => none)
    else if isBo c then (match s with
      | true :: true :: r => some (true :: r)
      | _ => none)
    else none
def ty (l : List Int) : Option (List Bool) := l.foldl ty1 (some [])
def okS : List Bool → List Int → Prop
  | [], [] => True
  | t :: ts, x :: xs => (if t then x = 0 ∨ x = 1 else -1000000 ≤ x ∧ x ≤ 1000000) ∧ okS ts xs
  | _, _ => False
theorem ty1_n {l : List Int} : l.foldl ty1 none = none := by
  induction l with
  | nil => rfl
  | cons c l ih => exact ih
theorem okS_l : ∀ {ts : List Bool} {xs : List Int}, okS ts xs → ts.length = xs.length
  | [], [], _ => rfl
  | t :: ts, x :: xs, h => congrArg (· + 1) (okS_l h.2)
  | [], x :: xs, h => h.elim
  | t :: ts, [], h => h.elim
/-- what a code does, read off its kind -/
theorem ty1_c {ts ts' : List Bool} {c : Int} (h : ty1 (some ts) c = some ts') :
    (isNu c = true ∧ ts.length < 64 ∧ ts' = false :: ts) ∨ (c = 20026 ∧ ts.length < 64 ∧ ts' = true :: ts) ∨ (c = 20025 ∧ ∃ r, ts = true :: r ∧ ts' = true :: r) ∨ (isAr c = true ∧ ∃ r, ts = false :: false :: r ∧ ts' = false :: r) ∨ (isCm c = true ∧ ∃ r, ts = false :: false :: r ∧ ts' = true :: r) ∨ (isBo c = true ∧ ∃ r, ts = true :: true :: r ∧ ts' = true :: r) := by
  unfold ty1 at h
  simp only at h
  split at h
  · rename_i h1
    split at h
    · rename_i h2; left; exact ⟨h1, h2, by injection h with h; exact h.symm⟩
    · cases h
  · split at h
    · rename_i h1
      split at h
      · rename_i h2; right; left; exact ⟨h1, h2, by injection h with h; exact h.symm⟩
      · cases h
    · split at h
      · rename_i h1
        split at h
        · rename_i r; right; right; left; exact ⟨h1, r, rfl, by injection h with h; exact h.symm⟩
        · cases h
      · split at h
        · rename_i h1
          split at h
          · rename_i r; right; right; right; left; exact ⟨h1, r, rfl, by injection h with h; exact h.symm⟩
          · cases h
        · split at h
          · rename_i h1
            split at h
            · rename_i r; right; right; right; right; left; exact ⟨h1, r, rfl, by injection h with h; exact h.symm⟩
            · cases h
          · split at h
            · rename_i h1
              split at h
              · rename_i r; right; right; right; right; right; exact ⟨h1, r, rfl, by injection h with h; exact h.symm⟩
              · cases h
            · cases h
theorem isNu_c {c : Int} (h : isNu c = true) : (0 ≤ c ∧ c < 10000) ∨ (10000 ≤ c ∧ c < 10029 ∧ isVw (c - 10000).toNat = true) := by
  simpa [isNu, and_assoc] using h
theorem isAr_c {c : Int} (h : isAr c = true) : c = 20043 ∨ c = 20045 ∨ c = 20042 ∨ c = 20047 ∨ c = 20037 ∨ c = 20027 ∨ c = 20028 := by
  simpa [isAr, or_assoc] using h
theorem isCm_c {c : Int} (h : isCm c = true) : c = 20060 ∨ c = 20062 ∨ c = 20061 := by
  simpa [isCm, or_assoc] using h
theorem isBo_c {c : Int} (h : isBo c = true) : c = 20023 ∨ c = 20024 := by
  simpa [isBo, or_assoc] using h
theorem okS_s {e : Nat → Int} {ts ts' : List Bool} {xs : List Int} {c : Int} (he : ∀ w, isVw w = true → ((10000 + w : Nat) : Int) = c → -1000000 ≤ e w ∧ e w ≤ 1000000) (h : ty1 (some ts) c = some ts') (hs : okS ts xs) : okS ts' (ev1 e xs c) := by
  rcases ty1_c h with ⟨h1, -, rfl⟩ | ⟨h1, -, rfl⟩ | ⟨h1, r, rfl, rfl⟩ | ⟨h1, r, rfl, rfl⟩ | ⟨h1, r, rfl, rfl⟩ | ⟨h1, r, rfl, rfl⟩
  · rcases isNu_c h1 with h2 | ⟨h2, h3, h4⟩
    · rw [ev1, if_pos (by omega), if_pos (by omega)]
      exact ⟨by rw [if_neg (by decide)]; omega, hs⟩
    · rw [ev1, if_pos (by omega), if_neg (by omega)]
      exact ⟨by rw [if_neg (by decide)]; exact he _ h4 (by omega), hs⟩
  · rw [ev1, if_neg (by omega), if_pos h1]
    exact ⟨by rw [if_pos rfl]; omega, hs⟩
  · rw [ev1, if_neg (by omega), if_neg (by omega), if_pos h1]
    match xs, hs with
    | x :: xs, ⟨hx, hr⟩ =>
      rw [if_pos rfl] at hx
      exact ⟨by rw [if_pos rfl]; omega, hr⟩
  · match xs, hs with
    | y :: x :: xs, ⟨hx, hy, hr⟩ =>
      have hc := isAr_c h1
      rw [ev1, if_neg (by omega), if_neg (by omega), if_neg (by omega)]
      exact ⟨by rw [if_neg (by decide)]; exact cl_b, hr⟩
  · match xs, hs with
    | y :: x :: xs, ⟨hx, hy, hr⟩ =>
      have hc := isCm_c h1
      rw [ev1, if_neg (by omega), if_neg (by omega), if_neg (by omega)]
      refine ⟨?_, hr⟩
      rw [if_pos rfl]
      show jn (c - 20000) x y = 0 ∨ jn (c - 20000) x y = 1
      rcases hc with rfl | rfl | rfl
      · by_cases q : x < y <;> simp [jn, raw, cl, q]
      · by_cases q : y < x <;> simp [jn, raw, cl, q]
      · by_cases q : x = y <;> simp [jn, raw, cl, q]
  · match xs, hs with
    | y :: x :: xs, ⟨hx, hy, hr⟩ =>
      have hc := isBo_c h1
      rw [ev1, if_neg (by omega), if_neg (by omega), if_neg (by omega)]
      refine ⟨?_, hr⟩
      rw [if_pos rfl] at hx hy ⊢
      show jn (c - 20000) x y = 0 ∨ jn (c - 20000) x y = 1
      rcases hc with rfl | rfl <;> rcases hx with rfl | rfl <;> rcases hy with rfl | rfl <;> decide +kernel
theorem ev_c {e e' : Nat → Int} : ∀ {l : List Int} {s : List Int}, (∀ c ∈ l, 10000 ≤ c → c < 20000 → e (c - 10000).toNat = e' (c - 10000).toNat) → l.foldl (ev1 e) s = l.foldl (ev1 e') s
  | [], _, _ => rfl
  | c :: l, s, h => by
    have h1 : ev1 e s c = ev1 e' s c := by
      by_cases h2 : c < 20000
      · by_cases h3 : c < 10000
        · rw [ev1, ev1, if_pos h2, if_pos h2, if_pos h3, if_pos h3]
        · rw [ev1, ev1, if_pos h2, if_pos h2, if_neg h3, if_neg h3, h c List.mem_cons_self (by omega) h2]
      · rw [ev1, ev1, if_neg h2, if_neg h2]
    rw [List.foldl_cons, List.foldl_cons, h1]
    exact ev_c (fun c hc => h c (List.mem_cons_of_mem _ hc))
/-- only words that are there are asked for -/
theorem ty_w : ∀ {l : List Int} {s : List Bool}, l.foldl ty1 (some s) ≠ none → ∀ c ∈ l, (0 ≤ c ∧ c < 10000) ∨ (10000 ≤ c ∧ c < 10029 ∧ isVw (c - 10000).toNat = true) ∨ 20000 ≤ c
  | [], _, _, c, hc => absurd hc List.not_mem_nil
  | x :: l, s, h, c, hc => by
    rw [List.foldl_cons] at h
    cases hx : ty1 (some s) x with
    | none => rw [hx, ty1_n] at h; exact absurd rfl h
    | some s' =>
      rw [hx] at h
      rcases List.mem_cons.mp hc with rfl | hc
      · rcases ty1_c hx with ⟨h1, -⟩ | ⟨h1, -⟩ | ⟨h1, -⟩ | ⟨h1, -⟩ | ⟨h1, -⟩ | ⟨h1, -⟩
        · rcases isNu_c h1 with h2 | h2
          · exact Or.inl h2
          · exact Or.inr (Or.inl h2)
        · omega
        · omega
        · have := isAr_c h1; omega
        · have := isCm_c h1; omega
        · have := isBo_c h1; omega
      · exact ty_w h c hc
theorem ev_b {e : Nat → Int} : ∀ {l : List Int} {ts ts' : List Bool} {xs : List Int}, (∀ w, isVw w = true → ((10000 + w : Nat) : Int) ∈ l → -1000000 ≤ e w ∧ e w ≤ 1000000) → l.foldl ty1 (some ts) = some ts' → okS ts xs → okS ts' (l.foldl (ev1 e) xs)
  | [], ts, ts', xs, _, h, hs => by injection h with h; rw [← h]; exact hs
  | c :: l, ts, ts', xs, he, h, hs => by
    rw [List.foldl_cons] at h ⊢
    cases hx : ty1 (some ts) c with
    | none => rw [hx, ty1_n] at h; cases h
    | some s' => rw [hx] at h; exact ev_b (fun w hw hm => he w hw (List.mem_cons_of_mem _ hm)) h (okS_s (fun w hw hm => he w hw (by rw [hm]; exact List.mem_cons_self)) hx hs)
