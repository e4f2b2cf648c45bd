/-! The state behind both constructors. -/
def lk (L : List (Nat × List Int)) (a : Nat) : List Int := match L.reverse.find? (fun x => x.1 == a) with
  | some x => x.2
  | none => []
def G0 (X : Nat × (Nat → Int)) : PG := (0, 0, (fun _ => (0, 0)), X)
def LM : List (Nat × List Int) := lm131 ++ lm178
def LT : List (Nat × List Int) := lt131 ++ lt178
def Mi : PH := asM (asM (fun _ => pz []) lm131) lm178
def Ti : PH := asT (asT (fun _ => rl []) lt131) lt178
def vi (i : Nat) : Int := [9, 35, 9, 9, 9, 34, 233].getD i (-1)
theorem lk_app (L : List (Nat × List Int)) (x : Nat × List Int) (a : Nat) : lk (L ++ [x]) a = if x.1 = a then x.2 else lk L a := by
  unfold lk
  rw [List.reverse_append, List.reverse_singleton, List.singleton_append, List.find?_cons]
  by_cases e : x.1 = a
  · rw [if_pos e, show (x.1 == a) = true from by simpa using e]
  · rw [if_neg e, show (x.1 == a) = false from by simpa using e]
theorem asM_lk : ∀ (n : Nat) (L : List (Nat × List Int)), L.length = n → ∀ a, asM (fun _ => pz []) L a = pz (lk L a) := by
  intro n
  induction n with
  | zero => intro L h a; rw [List.length_eq_zero_iff.mp h]; rfl
  | succ n ih =>
    intro L h a
    obtain ⟨L1, x, rfl⟩ : ∃ L1 x, L = L1 ++ [x] := ⟨L.dropLast, L.getLast (by intro z; rw [z] at h; cases h), (List.dropLast_concat_getLast _).symm⟩
    rw [lk_app, asM_app]
    show (if a = x.1 then pz x.2 else asM (fun _ => pz []) L1 a) = _
    by_cases e : x.1 = a
    · rw [if_pos e.symm, if_pos e]
    · rw [if_neg (fun z => e z.symm), if_neg e]
      exact ih L1 (by rw [List.length_append] at h; simpa using h) a
theorem asT_lk : ∀ (n : Nat) (L : List (Nat × List Int)), L.length = n → ∀ a, asT (fun _ => rl []) L a = rl (lk L a) := by
  intro n
  induction n with
  | zero => intro L h a; rw [List.length_eq_zero_iff.mp h]; rfl
  | succ n ih =>
    intro L h a
    obtain ⟨L1, x, rfl⟩ : ∃ L1 x, L = L1 ++ [x] := ⟨L.dropLast, L.getLast (by intro z; rw [z] at h; cases h), (List.dropLast_concat_getLast _).symm⟩
    rw [lk_app, asT_app]
    show (if a = x.1 then rl x.2 else asT (fun _ => rl []) L1 a) = _
    by_cases e : x.1 = a
    · rw [if_pos e.symm, if_pos e]
    · rw [if_neg (fun z => e z.symm), if_neg e]
      exact ih L1 (by rw [List.length_append] at h; simpa using h) a
theorem Mi_r (a : Nat) : Mi a = pz (lk LM a) := by
  rw [← asM_lk _ LM rfl a, LM, asM_app]
  rfl
theorem Ti_r (a : Nat) : Ti a = rl (lk LT a) := by
  rw [← asT_lk _ LT rfl a, LT, asT_app]
  rfl
theorem lk_out {L : List (Nat × List Int)} {a : Nat} (h : ∀ x ∈ L, x.1 ≠ a) : lk L a = [] := by
  unfold lk
  rw [List.find?_eq_none.mpr (fun x hx => by simpa using h x (List.mem_reverse.mp hx))]
set_option maxRecDepth 20000 in
theorem lkT_e : ∀ a, a < 283 → lk LT a = PTL.getD a [] := by decide +kernel
set_option maxRecDepth 20000 in
theorem LT_k : (∀ x ∈ LT, x.1 < 283) ∧ PTL.length ≤ 283 := by decide +kernel
set_option maxRecDepth 20000 in
theorem vi_e : vi 0 = PTS 0 3 ∧ vi 1 = PTS 31 1 ∧ vi 2 = PTS 60 7 ∧ vi 3 = PTS 74 8 ∧ vi 4 = PTS 91 5 ∧ vi 5 = PTS 32 1 ∧ vi 6 = PTS 225 3 := by decide +kernel
set_option maxRecDepth 20000 in
theorem Ti_e : Ti = PTF vi := by
  funext a k
  obtain ⟨e0, e1, e2, e3, e4, e5, e6⟩ := vi_e
  have e : PTF vi a k = PTS a k := by
    unfold PTF
    rw [e0, e1, e2, e3, e4, e5, e6]
    repeat' split
    all_goals first | rfl | (rename_i z; obtain ⟨rfl, rfl⟩ := z; rfl)
  rw [e, Ti_r]
  show (lk LT a).getD k (-1) = (PTL.getD a []).getD k (-1)
  by_cases h : a < 283
  · rw [lkT_e a h]
  · rw [lk_out (fun x hx => by have := LT_k.1 x hx; omega), show PTL.getD a [] = [] from by rw [List.getD_eq_getElem?_getD, List.getElem?_eq_none (by have := LT_k.2; omega)]; rfl]
theorem alL_all : ∀ (l : List (Nat × Nat)) (G : PG), alL G l = (G.1 + l.length, G.2.1 + (l.map (·.2)).sum, (fun q => if G.1 ≤ q ∧ q < G.1 + l.length then l.getD (q - G.1) (0, 0) else G.2.2.1 q), G.2.2.2)
  | [], G => by
    show G = (G.1 + 0, G.2.1 + 0, (fun q => if G.1 ≤ q ∧ q < G.1 + 0 then _ else G.2.2.1 q), G.2.2.2)
    rw [show (fun q => if G.1 ≤ q ∧ q < G.1 + 0 then ([] : List (Nat × Nat)).getD (q - G.1) (0, 0) else G.2.2.1 q) = G.2.2.1 from funext (fun q => if_neg (by omega))]
    rfl
  | x :: r, G => by
    show alL (alG G x.1 x.2) r = _
    rw [alL_all r]
    have e1 : (alG G x.1 x.2).1 + r.length = G.1 + (x :: r).length := by show G.1 + 1 + r.length = _; rw [List.length_cons]; omega
    have e2 : (alG G x.1 x.2).2.1 + (r.map (·.2)).sum = G.2.1 + ((x :: r).map (·.2)).sum := by show G.2.1 + x.2 + _ = _; rw [List.map_cons, List.sum_cons]; omega
    rw [e1, e2]
    congr 2
    refine Prod.ext (funext fun q => ?_) rfl
    show (if G.1 + 1 ≤ q ∧ q < G.1 + (x :: r).length then r.getD (q - (G.1 + 1)) (0, 0) else if q = G.1 then (x.1, x.2) else G.2.2.1 q) = if G.1 ≤ q ∧ q < G.1 + (x :: r).length then (x :: r).getD (q - G.1) (0, 0) else G.2.2.1 q
    rw [List.length_cons]
    by_cases h1 : q = G.1
    · subst h1
      rw [if_neg (by omega), if_pos rfl, if_pos (by omega), Nat.sub_self]
      rfl
    · by_cases h2 : G.1 + 1 ≤ q ∧ q < G.1 + (r.length + 1)
      · rw [if_pos h2, if_pos (by omega), show q - G.1 = (q - (G.1 + 1)) + 1 by omega]
        rfl
      · rw [if_neg h2, if_neg h1, if_neg (by omega)]
def Gi (X : Nat × (Nat → Int)) : PG := alL (alL (alL (alL (G0 X) [(11, 13)]) kl131) [(12, 76)]) kl178
set_option maxRecDepth 20000 in
theorem SHL_e : SHL = (11, 13) :: (kl131 ++ (12, 76) :: kl178) := by decide +kernel
set_option maxRecDepth 20000 in
theorem SHL_s : SHL.length = 283 ∧ (SHL.map (·.2)).sum = 24259 := by decide +kernel
set_option maxRecDepth 20000 in
theorem Gi_s (X : Nat × (Nat → Int)) : Gi X = alL (G0 X) SHL := by
  rw [SHL_e, alL_cons, alL_app, alL_cons, Gi]
set_option maxRecDepth 20000 in
theorem SHF_o {q : Nat} (h : ¬ q < 283) : SHF q = (0, 0) := by
  unfold SHF
  rw [List.getD_eq_getElem?_getD, List.getElem?_eq_none (by have := SHL_s.1; omega)]
  rfl
set_option maxRecDepth 20000 in
theorem Gi_e (X : Nat × (Nat → Int)) : Gi X = GF X := by
  rw [Gi_s, alL_all, SHL_s.1, SHL_s.2]
  unfold GF
  refine Prod.ext rfl (Prod.ext rfl (Prod.ext (funext fun q => ?_) rfl))
  show (if 0 ≤ q ∧ q < 0 + 283 then SHF (q - 0) else (0, 0)) = SHF q
  by_cases h : q < 283
  · rw [if_pos (by omega), Nat.sub_zero]
  · rw [if_neg (by omega), SHF_o h]
