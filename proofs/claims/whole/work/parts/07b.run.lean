/-! Runs of the plain machine: the least predicate closed under steps; calls by depth. -/
def pm_fe (mi pc : Nat) : Option (Instr × Nat) := ((pm_LT.getD mi []).find? (fun q => q.1 == pc)).map (fun q => q.2)
def pm_one (mi : Nat) (c : PC) : Option PO := match pm_fe mi c.1 with
  | some (i, n) => pm_step mi i n c.1 c.2.1 c.2.2.1 c.2.2.2
  | none => none
abbrev PB : Type := Nat → List PV → PS → PV → PS → Prop
def pm_stP (B : PB) (nx : PC → Prop) (K : PV → PS → Prop) (o : Option PO) : Prop := match o with
  | none => False
  | some (.inl c) => nx c
  | some (.inr (.inl q)) => K q.1 q.2
  | some (.inr (.inr q)) => ∃ (r : PV) (S1 : PS), B q.1 q.2.1 q.2.2.2.2.2 r S1 ∧ nx (q.2.2.1, q.2.2.2.1, pm_push r q.2.2.2.2.1, S1)
def pm_R (B : PB) (mi : Nat) (K : PV → PS → Prop) (c : PC) : Prop := ∀ P : PC → Prop, (∀ c, pm_stP B P K (pm_one mi c) → P c) → P c
section PMR
variable {B : PB} {mi : Nat} {K K' : PV → PS → Prop} {c : PC}
theorem pm_stP_mono {nx nx' : PC → Prop} (h : ∀ c, nx c → nx' c) (hK : ∀ r S, K r S → K' r S) : ∀ {o : Option PO}, pm_stP B nx K o → pm_stP B nx' K' o
  | none, z => z
  | some (.inl c), z => h c z
  | some (.inr (.inl _)), z => hK _ _ z
  | some (.inr (.inr _)), ⟨r, S1, hb, z⟩ => ⟨r, S1, hb, h _ z⟩
theorem pm_R_in (h : pm_stP B (pm_R B mi K) K (pm_one mi c)) : pm_R B mi K c := fun P hP => hP c (pm_stP_mono (fun _ hc => hc P hP) (fun _ _ z => z) h)
theorem pm_R_at : pm_R B mi K c ↔ pm_stP B (pm_R B mi K) K (pm_one mi c) := ⟨fun h => h (fun c => pm_stP B (pm_R B mi K) K (pm_one mi c)) (fun _ hc => pm_stP_mono (fun _ hc' => pm_R_in hc') (fun _ _ z => z) hc), pm_R_in⟩
theorem pm_R_mono (hK : ∀ r S, K r S → K' r S) (h : pm_R B mi K c) : pm_R B mi K' c := h _ (fun _ hc => pm_R_in (pm_stP_mono (fun _ z => z) hK hc))
theorem pm_R_pick (h : pm_R B mi K c) : ∃ (r : PV) (S' : PS), pm_R B mi (fun r' S1 => r' = r ∧ S1 = S') c ∧ K r S' := by
  refine h (fun c => ∃ (r : PV) (S' : PS), pm_R B mi (fun r' S1 => r' = r ∧ S1 = S') c ∧ K r S') (fun c hc => ?_)
  generalize ho : pm_one mi c = o at hc
  match o, hc with
  | some (.inl _), ⟨r, S', h1, h2⟩ => exact ⟨r, S', pm_R_in (by rw [ho]; exact h1), h2⟩
  | some (.inr (.inl q)), hk => exact ⟨q.1, q.2, pm_R_in (by rw [ho]; exact ⟨rfl, rfl⟩), hk⟩
  | some (.inr (.inr _)), ⟨r1, S1, hb, r, S', h1, h2⟩ => exact ⟨r, S', pm_R_in (by rw [ho]; exact ⟨r1, S1, hb, h1⟩), h2⟩
end PMR
def pm_Big : Nat → PB
  | 0 => fun _ _ _ _ _ => False
  | d + 1 => fun m as S r S' => (pm_slo as).length ≤ pm_ml m ∧ pm_R (pm_Big d) m (fun r' S1 => r' = r ∧ S1 = S') (0, pm_ini m as, [], S)
def pm_Call (d m : Nat) (as : List PV) (S : PS) (K : PV → PS → Prop) : Prop := ∃ (r : PV) (S' : PS), pm_Big d m as S r S' ∧ K r S'
def pm_Run (d m pc : Nat) (ls st : List PV) (S : PS) (K : PV → PS → Prop) : Prop := pm_R (pm_Big d) m K (pc, ls, st, S)
section PMX
variable {d m pc : Nat} {ls st : List PV} {S : PS} {K : PV → PS → Prop} {i : Instr} {n : Nat}
theorem pm_Call_s {as : List PV} : pm_Call (d + 1) m as S K ↔ (pm_slo as).length ≤ pm_ml m ∧ pm_Run d m 0 (pm_ini m as) [] S K := by
  constructor
  · rintro ⟨r, S', ⟨h0, h⟩, k⟩
    exact ⟨h0, pm_R_mono (fun r' S1 e => by rw [e.1, e.2]; exact k) h⟩
  · rintro ⟨h0, h⟩
    obtain ⟨r, S', h1, h2⟩ := pm_R_pick h
    exact ⟨r, S', ⟨h0, h1⟩, h2⟩
theorem pm_Call_k {as : List PV} {K' : PV → PS → Prop} (h : ∀ r S', K r S' → K' r S') (hc : pm_Call d m as S K) : pm_Call d m as S K' := by
  obtain ⟨r, S', h1, h2⟩ := hc
  exact ⟨r, S', h1, h r S' h2⟩
theorem px_go {pc' : Nat} {ls' st' : List PV} {S' : PS} (hf : pm_fe m pc = some (i, n)) (hp : pm_step m i n pc ls st S = pm_go pc' ls' st' S') : pm_Run d m pc ls st S K ↔ pm_Run d m pc' ls' st' S' K := by
  unfold pm_Run
  rw [pm_R_at]
  simp only [pm_one, hf, hp]
  exact Iff.rfl
theorem px_gd {p : Prop} [Decidable p] {pc' : Nat} {ls' st' : List PV} {S' : PS} (hf : pm_fe m pc = some (i, n)) (hp : pm_step m i n pc ls st S = if p then pm_go pc' ls' st' S' else none) : pm_Run d m pc ls st S K ↔ p ∧ pm_Run d m pc' ls' st' S' K := by
  by_cases h : p
  · rw [if_pos h] at hp
    rw [px_go hf hp]
    exact ⟨fun z => ⟨h, z⟩, fun z => z.2⟩
  · rw [if_neg h] at hp
    refine ⟨fun z => ?_, fun z => absurd z.1 h⟩
    unfold pm_Run at z
    rw [pm_R_at] at z
    simp only [pm_one, hf, hp] at z
    exact z.elim
theorem px_if {p : Prop} [Decidable p] {pa pb : Nat} {la lb sa sb : List PV} {Sa Sb : PS} (hf : pm_fe m pc = some (i, n)) (hp : pm_step m i n pc ls st S = if p then pm_go pa la sa Sa else pm_go pb lb sb Sb) : pm_Run d m pc ls st S K ↔ if p then pm_Run d m pa la sa Sa K else pm_Run d m pb lb sb Sb K := by
  by_cases h : p
  · rw [if_pos h] at hp ⊢
    exact px_go hf hp
  · rw [if_neg h] at hp ⊢
    exact px_go hf hp
theorem px_rt {v : PV} {S' : PS} (hf : pm_fe m pc = some (i, n)) (hp : pm_step m i n pc ls st S = some (.inr (.inl (v, S')))) : pm_Run d m pc ls st S K ↔ K v S' := by
  unfold pm_Run
  rw [pm_R_at]
  simp only [pm_one, hf, hp]
  exact Iff.rfl
theorem px_rg {p : Prop} [Decidable p] {v : PV} {S' : PS} (hf : pm_fe m pc = some (i, n)) (hp : pm_step m i n pc ls st S = if p then some (.inr (.inl (v, S'))) else none) : pm_Run d m pc ls st S K ↔ p ∧ K v S' := by
  by_cases h : p
  · rw [if_pos h] at hp
    rw [px_rt hf hp]
    exact ⟨fun z => ⟨h, z⟩, fun z => z.2⟩
  · rw [if_neg h] at hp
    refine ⟨fun z => ?_, fun z => absurd z.1 h⟩
    unfold pm_Run at z
    rw [pm_R_at] at z
    simp only [pm_one, hf, hp] at z
    exact z.elim
theorem px_cl {m' : Nat} {as : List PV} {pc' : Nat} {ls' r : List PV} {S' : PS} (hf : pm_fe m pc = some (i, n)) (hp : pm_step m i n pc ls st S = some (.inr (.inr (m', as, (pc', ls', r, S'))))) : pm_Run d m pc ls st S K ↔ pm_Call d m' as S' (fun v S1 => pm_Run d m pc' ls' (pm_push v r) S1 K) := by
  unfold pm_Run
  rw [pm_R_at]
  simp only [pm_one, hf, hp]
  exact Iff.rfl
theorem px_cg {p : Prop} [Decidable p] {m' : Nat} {as : List PV} {pc' : Nat} {ls' r : List PV} {S' : PS} (hf : pm_fe m pc = some (i, n)) (hp : pm_step m i n pc ls st S = if p then some (.inr (.inr (m', as, (pc', ls', r, S')))) else none) : pm_Run d m pc ls st S K ↔ p ∧ pm_Call d m' as S' (fun v S1 => pm_Run d m pc' ls' (pm_push v r) S1 K) := by
  by_cases h : p
  · rw [if_pos h] at hp
    rw [px_cl hf hp]
    exact ⟨fun z => ⟨h, z⟩, fun z => z.2⟩
  · rw [if_neg h] at hp
    refine ⟨fun z => ?_, fun z => absurd z.1 h⟩
    unfold pm_Run at z
    rw [pm_R_at] at z
    simp only [pm_one, hf, hp] at z
    exact z.elim
end PMX
