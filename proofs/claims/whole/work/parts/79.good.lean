/-! What is read is a sum or a test: its codes, its place in the text. -/
def BB (B : Nat → Int) : Prop := ∀ k, k < 1600 → 0 ≤ B k ∧ B k ≤ 255
theorem tkB {B : Nat → Int} {N : Nat} (hB : BB B) (hN : N ≤ 1600) {κ : KP} (hi : κ.1 ≤ N) : ((tok B N κ).1 = 0 ∨ (tok B N κ).1 = 1 ∨ (tok B N κ).1 = 2 ∨ ((tok B N κ).1 = 3 ∧ isSg (tok B N κ).2.2.2.1 = true) ∨ (tok B N κ).1 = 4) ∧ (tok B N κ).2.1 ≤ N ∧ (tok B N κ).2.2.1 ≤ N ∧ (-128 ≤ (tok B N κ).2.2.2.1 ∧ (tok B N κ).2.2.2.1 < 1073741824) ∧ (-1 ≤ (tok B N κ).2.2.2.2.1 ∧ (tok B N κ).2.2.2.2.1 < 29) ∧ (tok B N κ).2.2.2.2.2 ≤ N ∧ κ.1 ≤ (tok B N κ).2.1 ∧ (tok B N κ).2.1 ≤ (tok B N κ).2.2.2.2.2 ∧ ((tok B N κ).1 ≠ 0 → (tok B N κ).2.1 < (tok B N κ).2.2.2.2.2) ∧ ((tok B N κ).1 = 2 → 0 ≤ (tok B N κ).2.2.2.1 ∧ (tok B N κ).2.2.2.1 ≤ 9999) := tk_b (M := fun _ k => pm_b8 (B k)) (fun k hk => ⟨rfl, hB k hk⟩) hN hi
/-- a way to read: where it ends well, something of this sort was read -/
def GD (B : Nat → Int) (N n D : Nat) (t : Bool) (φ : ST → ST) : Prop := ∀ (κ : KP) (o : Nat) (l : List Int) (y : KP × Nat × List Int), 7 ≤ n + o → κ.1 ≤ N → l.length ≤ κ.1 → φ (.inr (κ, o, l)) = .inr y → y.1.1 ≤ N ∧ ∃ e, y.2.2 = l ++ e ∧ 0 < e.length ∧ κ.1 + e.length ≤ y.1.1 ∧ ∀ ts : List Bool, ts.length + D ≤ 64 → e.foldl ty1 (some ts) = some (t :: ts)
theorem ty_ar {c : Int} (h : isAr c = true) {r : List Bool} : ty1 (some (false :: false :: r)) c = some (false :: r) := by
  rcases isAr_c h with rfl | rfl | rfl | rfl | rfl | rfl | rfl <;> rfl
theorem ty_cm {c : Int} (h : isCm c = true) {r : List Bool} : ty1 (some (false :: false :: r)) c = some (true :: r) := by
  rcases isCm_c h with rfl | rfl | rfl <;> rfl
theorem ty_bo {c : Int} (h : isBo c = true) {r : List Bool} : ty1 (some (true :: true :: r)) c = some (true :: r) := by
  rcases isBo_c h with rfl | rfl <;> rfl
theorem ty_no {r : List Bool} : ty1 (some (true :: r)) 20025 = some (true :: r) := rfl
theorem ty_al {r : List Bool} (h : r.length < 64) : ty1 (some r) 20026 = some (true :: r) := by
  show (if r.length < 64 then some (true :: r) else none) = _
  rw [if_pos h]
theorem ty_nu {c : Int} (h : isNu c = true) {r : List Bool} (hr : r.length < 64) : ty1 (some r) c = some (false :: r) := by
  unfold ty1
  simp only
  rw [if_pos h, if_pos hr]
section GOO
variable {B : Nat → Int} {N n D : Nat} {rec recf sumf f : ST → ST} {t : Bool}
theorem sA_e {x y : KP × Nat × List Int} (h : sA B N (.inr x) = .inr y) : y = (adv B N x.1, x.2) := by
  have : (Sum.inr (adv B N x.1, x.2) : ST) = .inr y := h
  injection this with this
  exact this.symm
theorem sE_e {x y : KP × Nat × List Int} {z : Int} (h : sE z (.inr x) = .inr y) (hl : x.2.2.length < 1600) : y = (x.1, x.2.1, x.2.2 ++ [z]) := by
  have : (Sum.inr (x.1, x.2.1, if x.2.2.length < 1600 then x.2.2 ++ [z] else x.2.2) : ST) = .inr y := h
  injection this with this
  rw [if_pos hl] at this
  exact this.symm
theorem sO_e {s : ST} {y : KP × Nat × List Int} {z : Nat → Nat} (h : sO z s = .inr y) : ∃ x, s = .inr x ∧ y = (x.1, z x.2.1, x.2.2) := by
  match s, h with
  | .inr x, h =>
    have : (Sum.inr (x.1, z x.2.1, x.2.2) : ST) = .inr y := h
    injection this with this
    exact ⟨x, rfl, this.symm⟩
theorem sE_x {s : ST} {y : KP × Nat × List Int} {z : Int} (h : sE z s = .inr y) : ∃ x, s = .inr x := by
  match s, h with
  | .inr x, _ => exact ⟨x, rfl⟩
theorem sSg_e {s : ST} {y : KP × Nat × List Int} {z : Int} (h : sSg B N z s = .inr y) : ∃ x, s = .inr x ∧ isS B N z s = true ∧ y = (adv B N x.1, x.2) := by
  unfold sSg at h
  match s, h with
  | .inl e, h =>
    rw [if_neg (show ¬ isS B N z (.inl e) = true by simp [isS])] at h
    cases h
  | .inr x, h =>
    by_cases q : isS B N z (.inr x) = true
    · rw [if_pos q] at h
      exact ⟨x, rfl, q, sA_e h⟩
    · rw [if_neg q] at h
      exact (opk_W h).elim
theorem kf_x {φ : ST → ST} (hk : kf φ) {s : ST} {y : KP × Nat × List Int} (h : φ s = .inr y) : ∃ x, s = .inr x := by
  match s, h with
  | .inl e, h => rw [hk] at h; cases h
  | .inr x, _ => exact ⟨x, rfl⟩
/-- the cursor goes on -/
theorem adv_p (hB : BB B) (hN : N ≤ 1600) {κ : KP} (hi : κ.1 ≤ N) (h0 : (tok B N κ).1 ≠ 0) : κ.1 < (adv B N κ).1 ∧ (adv B N κ).1 ≤ N := by
  have h := tkB hB hN hi
  exact ⟨by have := h.2.2.2.2.2.2.2.2.1 h0; have := h.2.2.2.2.2.2.1; show κ.1 < (tok B N κ).2.2.2.2.2; omega, h.2.2.2.2.2.1⟩
theorem isS_0 {x : KP × Nat × List Int} {y : Int} (h : isS B N y (.inr x) = true) : (tok B N x.1).1 = 3 ∧ (tok B N x.1).2.2.2.1 = y := by
  have : (decide ((tok B N x.1).1 = 3) && decide ((tok B N x.1).2.2.2.1 = y)) = true := h
  simpa using this
theorem isW_0 {x : KP × Nat × List Int} {y : Int} (h : isW B N y (.inr x) = true) : (tok B N x.1).1 = 1 ∧ (tok B N x.1).2.2.2.2.1 = y := by
  have : (decide ((tok B N x.1).1 = 1) && decide ((tok B N x.1).2.2.2.2.1 = y)) = true := h
  simpa using this
theorem GD_m {D' : Nat} (h : GD B N n D t f) (hD : D ≤ D') : GD B N n D' t f := fun κ o l y h1 h2 h3 h4 => by
  obtain ⟨g1, e, g2, g3, g4, g5⟩ := h κ o l y h1 h2 h3 h4
  exact ⟨g1, e, g2, g3, g4, fun ts ht => g5 ts (by omega)⟩
theorem GD_Two (hB : BB B) (hN : N ≤ 1600) {m : Nat} (hrec : GD B N m D false rec) (ho : opk rec) (hk : kf rec) (hD : 0 < D) {w : Int} (hw : w = 27 ∨ w = 28) {κ : KP} {o : Nat} {l : List Int} {y : KP × Nat × List Int} (hmo : 7 ≤ m + 1 + o) (hi : κ.1 ≤ N) (hl : l.length + 1 ≤ κ.1) (h : gTwo B N rec w (.inr (κ, o, l)) = .inr y) : y.1.1 ≤ N ∧ ∃ e, y.2.2 = l ++ e ∧ 0 < e.length ∧ κ.1 + e.length ≤ y.1.1 + 1 ∧ ∀ ts : List Bool, ts.length + (D + 1) ≤ 64 → e.foldl ty1 (some ts) = some (false :: ts) := by
  unfold gTwo at h
  by_cases q : isS B N 40 (.inr (κ, o, l)) = true
  · rw [if_pos q] at h
    by_cases q7 : opn (.inr (κ, o, l)) < 7
    · rw [if_pos q7] at h
      have a1 := adv_p hB hN hi (by rw [(isS_0 q).1]; decide)
      obtain ⟨x5, e5⟩ := sE_x h
      obtain ⟨x4, e4, -⟩ := sO_e e5
      obtain ⟨x3, e3, q3, y3⟩ := sSg_e e4
      obtain ⟨x2, e2⟩ := kf_x hk e3
      obtain ⟨x1, e1, q1, y1⟩ := sSg_e e2
      have g1 := hrec (adv B N κ) (o + 1) l x1 (by omega) a1.2 (by omega) e1
      obtain ⟨i1, c1, j1, k1, l1, t1⟩ := g1
      have o1 : x1.2.1 = o + 1 := ho _ x1 e1
      rw [e1] at q1
      have a2 := adv_p hB hN i1 (by rw [(isS_0 q1).1]; decide)
      rw [e2, y1] at e3
      have g2 := hrec (adv B N x1.1) x1.2.1 x1.2.2 x3 (by omega) a2.2 (by rw [j1]; simp; omega) e3
      obtain ⟨i2, c2, j2, k2, l2, t2⟩ := g2
      rw [e2, y1, e3] at q3
      have a3 := adv_p hB hN i2 (by rw [(isS_0 q3).1]; decide)
      have hlen : x3.2.2.length < 1600 := by rw [j2, j1]; simp; omega
      rw [e4, y3] at e5
      have y5 : x5 = (adv B N x3.1, x3.2.1 - 1, x3.2.2) := by
        have : (Sum.inr (adv B N x3.1, x3.2.1 - 1, x3.2.2) : ST) = .inr x5 := e5
        injection this with this
        exact this.symm
      rw [e4, y3] at h
      have := sE_e (x := (adv B N x3.1, x3.2.1 - 1, x3.2.2)) h hlen
      rw [this]
      refine ⟨a3.2, c1 ++ (c2 ++ [20000 + w]), ?_, ?_, ?_, fun ts ht => ?_⟩
      · show x3.2.2 ++ [20000 + w] = _
        rw [j2, j1]; simp
      · simp; omega
      · show κ.1 + _ ≤ (adv B N x3.1).1 + 1
        simp; omega
      · have hlt : (false :: ts).length = ts.length + 1 := rfl
        rw [List.foldl_append, t1 ts (by omega), List.foldl_append, t2 (false :: ts) (by omega)]
        show ty1 (some (false :: false :: ts)) (20000 + w) = _
        exact ty_ar (by rcases hw with rfl | rfl <;> decide)
    · rw [if_neg q7] at h
      exact (opk_G h).elim
  · rw [if_neg q] at h
    exact (opk_W h).elim
theorem GD_Part (hB : BB B) (hN : N ≤ 1600) (ho : opk rec) (hk : kf rec) (hD : 0 < D) (hrec : ∀ m, n = m + 1 → GD B N m D false rec) : GD B N n (D + 1) false (gPart B N rec) := by
  intro κ o l y hno hi hl h
  have tb := tkB hB hN hi
  unfold gPart at h
  by_cases q1 : kd B N (.inr (κ, o, l)) = 2
  · rw [if_pos q1] at h
    have q1' : (tok B N κ).1 = 2 := q1
    have a1 := adv_p hB hN hi (by rw [q1']; decide)
    have ll : l.length < 1600 := by omega
    have e : sE (vl B N (.inr (κ, o, l))) (.inr (κ, o, l)) = .inr (κ, o, l ++ [(tok B N κ).2.2.2.1]) := by
      show (Sum.inr (κ, o, if l.length < 1600 then l ++ [(tok B N κ).2.2.2.1] else l) : ST) = _
      rw [if_pos ll]
    rw [e] at h
    have := sA_e h
    rw [this]
    refine ⟨a1.2, [(tok B N κ).2.2.2.1], rfl, by simp, by show κ.1 + 1 ≤ (adv B N κ).1; omega, fun ts ht => ?_⟩
    have hv := tb.2.2.2.2.2.2.2.2.2 q1'
    exact ty_nu (by simp [isNu]; omega) (by omega)
  rw [if_neg q1] at h
  by_cases q2 : isS B N 40 (.inr (κ, o, l)) = true
  · rw [if_pos q2] at h
    by_cases q7 : opn (.inr (κ, o, l)) < 7
    · rw [if_pos q7] at h
      have q7' : o < 7 := q7
      have a1 := adv_p hB hN hi (by rw [(isS_0 q2).1]; decide)
      obtain ⟨m, hm⟩ : ∃ m, n = m + 1 := ⟨n - 1, by omega⟩
      obtain ⟨x4, e4, y4⟩ := sO_e h
      obtain ⟨x3, e3, q3, y3⟩ := sSg_e e4
      obtain ⟨i1, c1, j1, k1, l1, t1⟩ := hrec m hm (adv B N κ) (o + 1) l x3 (by omega) a1.2 (by omega) e3
      rw [e3] at q3
      have a3 := adv_p hB hN i1 (by rw [(isS_0 q3).1]; decide)
      rw [y4, y3]
      refine ⟨a3.2, c1, j1, k1, by show κ.1 + c1.length ≤ (adv B N x3.1).1; omega, fun ts ht => t1 ts (by omega)⟩
    · rw [if_neg q7] at h
      exact (opk_G h).elim
  rw [if_neg q2] at h
  by_cases q3 : (isW B N 27 (.inr (κ, o, l)) || isW B N 28 (.inr (κ, o, l))) = true
  · rw [if_pos q3] at h
    have hw : (tok B N κ).1 = 1 ∧ ((tok B N κ).2.2.2.2.1 = 27 ∨ (tok B N κ).2.2.2.2.1 = 28) := by
      rcases Bool.or_eq_true_iff.mp q3 with z | z
      · exact ⟨(isW_0 z).1, Or.inl (isW_0 z).2⟩
      · exact ⟨(isW_0 z).1, Or.inr (isW_0 z).2⟩
    have a1 := adv_p hB hN hi (by rw [hw.1]; decide)
    by_cases hn : n = 0
    · -- no room is left
      exfalso
      have h' : gTwo B N rec (ow B N (.inr (κ, o, l))) (.inr (adv B N κ, o, l)) = .inr y := h
      unfold gTwo at h'
      by_cases z : isS B N 40 (.inr (adv B N κ, o, l)) = true
      · rw [if_pos z, if_neg (show ¬ opn (.inr (adv B N κ, o, l)) < 7 by show ¬ o < 7; omega)] at h'
        exact opk_G h'
      · rw [if_neg z] at h'
        exact opk_W h'
    · obtain ⟨m, hm⟩ : ∃ m, n = m + 1 := ⟨n - 1, by omega⟩
      obtain ⟨g1, e, g2, g3, g4, g5⟩ := GD_Two hB hN (hrec m hm) ho hk hD hw.2 (κ := adv B N κ) (o := o) (l := l) (y := y) (by omega) a1.2 (by omega) h
      exact ⟨g1, e, g2, g3, by omega, g5⟩
  rw [if_neg q3] at h
  by_cases q4 : isVal B N (.inr (κ, o, l)) = true
  · rw [if_pos q4] at h
    have hv : (tok B N κ).1 = 1 ∧ isVw (tok B N κ).2.2.2.2.1.toNat = true ∧ 0 ≤ (tok B N κ).2.2.2.2.1 := by
      have : (decide ((tok B N κ).1 = 1) && isVw (tok B N κ).2.2.2.2.1.toNat && decide (0 ≤ (tok B N κ).2.2.2.2.1)) = true := q4
      simp at this
      exact ⟨this.1.1, this.1.2, this.2⟩
    have a1 := adv_p hB hN hi (by rw [hv.1]; decide)
    have ll : l.length < 1600 := by omega
    have e : sE (10000 + ow B N (.inr (κ, o, l))) (.inr (κ, o, l)) = .inr (κ, o, l ++ [10000 + (tok B N κ).2.2.2.2.1]) := by
      show (Sum.inr (κ, o, if l.length < 1600 then l ++ [10000 + (tok B N κ).2.2.2.2.1] else l) : ST) = _
      rw [if_pos ll]
    rw [e] at h
    have := sA_e h
    rw [this]
    refine ⟨a1.2, [10000 + (tok B N κ).2.2.2.2.1], rfl, by simp, by show κ.1 + 1 ≤ (adv B N κ).1; omega, fun ts ht => ?_⟩
    have hob := tb.2.2.2.2.1
    refine ty_nu ?_ (by omega)
    have e2 : (10000 + (tok B N κ).2.2.2.2.1 - 10000).toNat = (tok B N κ).2.2.2.2.1.toNat := by congr 1; omega
    simp only [isNu, e2, hv.2.1]
    simp; omega
  · rw [if_neg q4] at h
    exact (opk_W h).elim
/-- an operator and what is behind it, again and again -/
theorem GD_Loop (hB : BB B) (hN : N ≤ 1600) {t0 t1 : Bool} {φ : ST → ST} (hφ : GD B N n D t0 φ) (ho : opk φ) (hk : kf φ) {p : ST → Bool} {z : ST → Int} (hp : ∀ κ o l, p (.inr (κ, o, l)) = true → (tok B N κ).1 ≠ 0 ∧ ∀ r : List Bool, ty1 (some (t0 :: t1 :: r)) (z (.inr (κ, o, l))) = some (t1 :: r)) : ∀ (k : Nat) (κ : KP) (o : Nat) (l : List Int) (y : KP × Nat × List Int), 7 ≤ n + o → κ.1 ≤ N → l.length ≤ κ.1 → gLoop p (fun s => sE (z s) (φ (sA B N s))) k (.inr (κ, o, l)) = .inr y → y.1.1 ≤ N ∧ ∃ e, y.2.2 = l ++ e ∧ κ.1 + e.length ≤ y.1.1 ∧ ∀ ts : List Bool, ts.length + (D + 1) ≤ 64 → e.foldl ty1 (some (t1 :: ts)) = some (t1 :: ts)
  | 0, κ, o, l, y, hno, hi, hl, h => by
    have : (Sum.inr (κ, o, l) : ST) = .inr y := h
    injection this with this
    rw [← this]
    exact ⟨hi, [], by simp, by simp, fun ts _ => rfl⟩
  | k + 1, κ, o, l, y, hno, hi, hl, h => by
    rw [gLoop] at h
    by_cases q : p (.inr (κ, o, l)) = true
    · rw [if_pos q] at h
      obtain ⟨h0, hz⟩ := hp κ o l q
      have a1 := adv_p hB hN hi h0
      have hb := opk_L (p := p) (body := fun s => sE (z s) (φ (sA B N s))) (fun x y e => opk_c (opk_c opk_A ho hk) (opk_E (z := z (.inr x))) kf_E x y e) (fun e => by show sE _ (φ (.inl e)) = _; rw [hk]; rfl) k
      obtain ⟨x2, e2⟩ := kf_x hb.2 h
      obtain ⟨x1, e1⟩ := sE_x e2
      obtain ⟨i1, c1, j1, k1, l1, t1'⟩ := hφ (adv B N κ) o l x1 hno a1.2 (by omega) e1
      have o1 : x1.2.1 = o := ho _ x1 e1
      have ll : x1.2.2.length < 1600 := by rw [j1]; simp; omega
      rw [e1] at e2
      have y2 := sE_e e2 ll
      have e2' : sE (z (.inr (κ, o, l))) (φ (sA B N (.inr (κ, o, l)))) = .inr x2 := by
        rw [e1]; exact e2
      rw [e2', y2] at h
      obtain ⟨i3, c3, j3, k3, t3⟩ := GD_Loop hB hN hφ ho hk hp k x1.1 x1.2.1 (x1.2.2 ++ [z (.inr (κ, o, l))]) y (by omega) i1 (by rw [j1]; simp; omega) h
      refine ⟨i3, c1 ++ ([z (.inr (κ, o, l))] ++ c3), by rw [j3, j1]; simp, by simp; omega, fun ts ht => ?_⟩
      have hlt : (t1 :: ts).length = ts.length + 1 := rfl
      rw [List.foldl_append, t1' (t1 :: ts) (by omega), List.foldl_append]
      show List.foldl ty1 (ty1 (some (t0 :: t1 :: ts)) (z (.inr (κ, o, l)))) c3 = _
      rw [hz ts]
      exact t3 ts ht
    · rw [if_neg q] at h
      have : (Sum.inr (κ, o, l) : ST) = .inr y := h
      injection this with this
      rw [← this]
      exact ⟨hi, [], by simp, by simp, fun ts _ => rfl⟩
theorem GD_then {t1 : Bool} {φ ψ : ST → ST} (h1 : GD B N n D t1 φ) (ho : opk φ) (hk : kf ψ) (h2 : ∀ (κ : KP) (o : Nat) (l : List Int) (y : KP × Nat × List Int), 7 ≤ n + o → κ.1 ≤ N → l.length ≤ κ.1 → ψ (.inr (κ, o, l)) = .inr y → y.1.1 ≤ N ∧ ∃ e, y.2.2 = l ++ e ∧ κ.1 + e.length ≤ y.1.1 ∧ ∀ ts : List Bool, ts.length + (D + 1) ≤ 64 → e.foldl ty1 (some (t1 :: ts)) = some (t1 :: ts)) : GD B N n (D + 1) t1 (fun s => ψ (φ s)) := by
  intro κ o l y hno hi hl h
  have h' : ψ (φ (.inr (κ, o, l))) = .inr y := h
  obtain ⟨x1, e1⟩ := kf_x hk h'
  obtain ⟨i1, c1, j1, k1, l1, t1'⟩ := h1 κ o l x1 hno hi hl e1
  have o1 : x1.2.1 = o := ho _ x1 e1
  rw [e1] at h'
  obtain ⟨i3, c3, j3, k3, t3⟩ := h2 x1.1 x1.2.1 x1.2.2 y (by omega) i1 (by rw [j1]; simp; omega) h'
  refine ⟨i3, c1 ++ c3, by rw [j3, j1]; simp, by simp; omega, by simp; omega, fun ts ht => ?_⟩
  rw [List.foldl_append, t1' ts (by omega)]
  exact t3 ts ht
theorem GD_Prod (hB : BB B) (hN : N ≤ 1600) (ho : opk rec) (hk : kf rec) (h : GD B N n D false (gPart B N rec)) : GD B N n (D + 1) false (gProd B N rec) := by
  have hl := fun k => GD_Loop hB hN h (opk_Part ho hk) kf_Part (p := fun s => isS B N 42 s || (isS B N 47 s || isS B N 37 s)) (z := fun s => 20000 + vl B N s) (t1 := false) (fun κ o l q => by
    have : (tok B N κ).1 = 3 ∧ ((tok B N κ).2.2.2.1 = 42 ∨ (tok B N κ).2.2.2.1 = 47 ∨ (tok B N κ).2.2.2.1 = 37) := by
      rcases Bool.or_eq_true_iff.mp q with z | z
      · exact ⟨(isS_0 z).1, Or.inl (isS_0 z).2⟩
      · rcases Bool.or_eq_true_iff.mp z with z | z
        · exact ⟨(isS_0 z).1, Or.inr (Or.inl (isS_0 z).2)⟩
        · exact ⟨(isS_0 z).1, Or.inr (Or.inr (isS_0 z).2)⟩
    refine ⟨by rw [this.1]; decide, fun r => ty_ar ?_⟩
    show isAr (20000 + (tok B N κ).2.2.2.1) = true
    rcases this.2 with e | e | e <;> rw [e] <;> decide) k
  have hb := opk_vl (f := fun z => 20000 + z) (B := B) (N := N) (gPart B N rec) (opk_Part ho hk) kf_Part
  exact GD_then (φ := gPart B N rec) h (opk_Part ho hk) (opk_L hb.1 hb.2 1600).2 (hl 1600)
theorem GD_Sum (hB : BB B) (hN : N ≤ 1600) (ho : opk rec) (hk : kf rec) (h : GD B N n D false (gProd B N rec)) : GD B N n (D + 1) false (gSum B N rec) := by
  have hp := opk_Prod (B := B) (N := N) ho hk
  have hl := fun k => GD_Loop hB hN h hp.1 hp.2 (p := fun s => isS B N 43 s || isS B N 45 s) (z := fun s => 20000 + vl B N s) (t1 := false) (fun κ o l q => by
    have : (tok B N κ).1 = 3 ∧ ((tok B N κ).2.2.2.1 = 43 ∨ (tok B N κ).2.2.2.1 = 45) := by
      rcases Bool.or_eq_true_iff.mp q with z | z
      · exact ⟨(isS_0 z).1, Or.inl (isS_0 z).2⟩
      · exact ⟨(isS_0 z).1, Or.inr (isS_0 z).2⟩
    refine ⟨by rw [this.1]; decide, fun r => ty_ar ?_⟩
    show isAr (20000 + (tok B N κ).2.2.2.1) = true
    rcases this.2 with e | e <;> rw [e] <;> decide) k
  have hb := opk_vl (f := fun z => 20000 + z) (B := B) (N := N) (gProd B N rec) hp.1 hp.2
  exact GD_then (φ := gProd B N rec) h hp.1 (opk_L hb.1 hb.2 1600).2 (hl 1600)
theorem GD_S (hB : BB B) (hN : N ≤ 1600) : ∀ n, GD B N n (3 * n + 4) false (gS B N n)
  | 0 => GD_Sum hB hN opk_id.1 opk_id.2 (GD_Prod hB hN opk_id.1 opk_id.2 (GD_Part hB hN opk_id.1 opk_id.2 (D := 1) (by omega) (fun m hm => absurd hm (by omega))))
  | n + 1 => by
    have hg := opk_gS (B := B) (N := N) n
    have := GD_Sum hB hN hg.1 hg.2 (GD_Prod hB hN hg.1 hg.2 (GD_Part (n := n + 1) hB hN hg.1 hg.2 (D := 3 * n + 4) (by omega) (fun m hm => by
      have : m = n := by omega
      subst this
      exact GD_S hB hN m)))
    exact GD_m this (by omega)
theorem GD_Both (hB : BB B) (hN : N ≤ 1600) (ho : opk f) (hk : kf f) (h : GD B N n D true f) : GD B N n (D + 1) true (gBoth B N f) := by
  have hl := fun k => GD_Loop hB hN h ho hk (p := isW B N 24) (z := fun _ => 20024) (t1 := true) (fun κ o l q => ⟨by rw [(isW_0 q).1]; decide, fun r => ty_bo (by decide)⟩) k
  have hb := opk_y (z := 20024) (B := B) (N := N) f ho hk
  exact GD_then (φ := f) h ho (opk_L hb.1 hb.2 1600).2 (hl 1600)
theorem GD_Test (hB : BB B) (hN : N ≤ 1600) (ho : opk f) (hk : kf f) (h : GD B N n D true f) : GD B N n (D + 2) true (gTest B N f) := by
  have h2 := GD_Both hB hN ho hk h
  have hp := opk_Both (B := B) (N := N) ho hk
  have hl := fun k => GD_Loop hB hN h2 hp.1 hp.2 (p := isW B N 23) (z := fun _ => 20023) (t1 := true) (fun κ o l q => ⟨by rw [(isW_0 q).1]; decide, fun r => ty_bo (by decide)⟩) k
  have hb := opk_y (z := 20023) (B := B) (N := N) (gBoth B N f) hp.1 hp.2
  exact GD_then (φ := gBoth B N f) h2 hp.1 (opk_L hb.1 hb.2 1600).2 (hl 1600)
theorem GD_Fact (hB : BB B) (hN : N ≤ 1600) (ho : opk sumf) (hk : kf sumf) (hr : opk recf) (hkr : kf recf) {E : Nat} (hs : GD B N n E false sumf) (hE : 2 < E) (hrec : ∀ m, n = m + 1 → GD B N m (E - 2) true recf) : GD B N n (E + 1) true (gFact B N sumf recf) := by
  intro κ o l y hno hi hl h
  have tb := tkB hB hN hi
  unfold gFact at h
  by_cases q1 : isW B N 25 (.inr (κ, o, l)) = true
  · rw [if_pos q1] at h
    by_cases q7 : opn (.inr (κ, o, l)) < 7
    · rw [if_pos q7] at h
      have q7' : o < 7 := q7
      have a1 := adv_p hB hN hi (by rw [(isW_0 q1).1]; decide)
      obtain ⟨m, hm⟩ : ∃ m, n = m + 1 := ⟨n - 1, by omega⟩
      obtain ⟨x5, e5⟩ := sE_x h
      obtain ⟨x4, e4, y4⟩ := sO_e e5
      obtain ⟨i1, c1, j1, k1, l1, t1⟩ := hrec m hm (adv B N κ) (o + 1) l x4 (by omega) a1.2 (by omega) e4
      rw [e5] at h
      have ll : x5.2.2.length < 1600 := by rw [y4]; show x4.2.2.length < 1600; rw [j1]; simp; omega
      have := sE_e h ll
      rw [this, y4]
      refine ⟨i1, c1 ++ [20025], by show x4.2.2 ++ [20025] = _; rw [j1]; simp, by simp, by show κ.1 + _ ≤ x4.1.1; simp; omega, fun ts ht => ?_⟩
      rw [List.foldl_append, t1 ts (by omega)]
      exact ty_no
    · rw [if_neg q7] at h
      exact (opk_G h).elim
  rw [if_neg q1] at h
  by_cases q2 : isS B N 91 (.inr (κ, o, l)) = true
  · rw [if_pos q2] at h
    by_cases q7 : opn (.inr (κ, o, l)) < 7
    · rw [if_pos q7] at h
      have q7' : o < 7 := q7
      have a1 := adv_p hB hN hi (by rw [(isS_0 q2).1]; decide)
      obtain ⟨m, hm⟩ : ∃ m, n = m + 1 := ⟨n - 1, by omega⟩
      obtain ⟨x4, e4, y4⟩ := sO_e h
      obtain ⟨x3, e3, q3, y3⟩ := sSg_e e4
      obtain ⟨i1, c1, j1, k1, l1, t1⟩ := GD_Test hB hN hr hkr (hrec m hm) (adv B N κ) (o + 1) l x3 (by omega) a1.2 (by omega) e3
      rw [e3] at q3
      have a3 := adv_p hB hN i1 (by rw [(isS_0 q3).1]; decide)
      rw [y4, y3]
      refine ⟨a3.2, c1, j1, k1, by show κ.1 + c1.length ≤ (adv B N x3.1).1; omega, fun ts ht => t1 ts (by omega)⟩
    · rw [if_neg q7] at h
      exact (opk_G h).elim
  rw [if_neg q2] at h
  by_cases q3 : isW B N 26 (.inr (κ, o, l)) = true
  · rw [if_pos q3] at h
    have a1 := adv_p hB hN hi (by rw [(isW_0 q3).1]; decide)
    have ll : l.length < 1600 := by omega
    have e : sE 20026 (.inr (κ, o, l)) = .inr (κ, o, l ++ [20026]) := by
      show (Sum.inr (κ, o, if l.length < 1600 then l ++ [20026] else l) : ST) = _
      rw [if_pos ll]
    rw [e] at h
    have := sA_e h
    rw [this]
    exact ⟨a1.2, [20026], rfl, by simp, by show κ.1 + 1 ≤ (adv B N κ).1; omega, fun ts ht => ty_al (by omega)⟩
  rw [if_neg q3] at h
  obtain ⟨x1, e1⟩ := kf_x (opk_Cmp (B := B) (N := N) ho hk).2 h
  obtain ⟨i1, c1, j1, k1, l1, t1⟩ := hs κ o l x1 hno hi hl e1
  have o1 : x1.2.1 = o := ho _ x1 e1
  rw [e1] at h
  unfold gCmp at h
  by_cases q : (isS B N 60 (.inr x1) || (isS B N 62 (.inr x1) || isS B N 61 (.inr x1))) = true
  · rw [if_pos q] at h
    have hz : (tok B N x1.1).1 = 3 ∧ ((tok B N x1.1).2.2.2.1 = 60 ∨ (tok B N x1.1).2.2.2.1 = 62 ∨ (tok B N x1.1).2.2.2.1 = 61) := by
      rcases Bool.or_eq_true_iff.mp q with z | z
      · exact ⟨(isS_0 z).1, Or.inl (isS_0 z).2⟩
      · rcases Bool.or_eq_true_iff.mp z with z | z
        · exact ⟨(isS_0 z).1, Or.inr (Or.inl (isS_0 z).2)⟩
        · exact ⟨(isS_0 z).1, Or.inr (Or.inr (isS_0 z).2)⟩
    have a1 := adv_p hB hN i1 (by rw [hz.1]; decide)
    obtain ⟨x2, e2⟩ := sE_x h
    obtain ⟨i2, c2, j2, k2, l2, t2⟩ := hs (adv B N x1.1) x1.2.1 x1.2.2 x2 (by omega) a1.2 (by rw [j1]; simp; omega) e2
    rw [e2] at h
    have ll : x2.2.2.length < 1600 := by rw [j2, j1]; simp; omega
    have := sE_e h ll
    rw [this]
    refine ⟨i2, c1 ++ (c2 ++ [20000 + (tok B N x1.1).2.2.2.1]), by show x2.2.2 ++ [20000 + (tok B N x1.1).2.2.2.1] = _; rw [j2, j1]; simp, by simp; omega, by show κ.1 + _ ≤ x2.1.1; simp; omega, fun ts ht => ?_⟩
    have hlt : (false :: ts).length = ts.length + 1 := rfl
    rw [List.foldl_append, t1 ts (by omega), List.foldl_append, t2 (false :: ts) (by omega)]
    show ty1 (some (false :: false :: ts)) (20000 + (tok B N x1.1).2.2.2.1) = _
    exact ty_cm (by rcases hz.2 with e | e | e <;> rw [e] <;> decide)
  · rw [if_neg q] at h
    exact (opk_W h).elim
theorem GD_F (hB : BB B) (hN : N ≤ 1600) : ∀ n, GD B N n (3 * n + 5) true (gF B N n)
  | 0 => GD_Fact hB hN (opk_gS 0).1 (opk_gS 0).2 opk_id.1 opk_id.2 (GD_S hB hN 0) (by omega) (fun m hm => absurd hm (by omega))
  | n + 1 => by
    have := GD_Fact (n := n + 1) (E := 3 * (n + 1) + 4) hB hN (opk_gS (n + 1)).1 (opk_gS (n + 1)).2 (opk_gF n).1 (opk_gF n).2 (GD_S hB hN (n + 1)) (by omega) (fun m hm => by
      have : m = n := by omega
      subst this
      exact GD_m (GD_F hB hN m) (by omega))
    exact this
theorem GD_T (hB : BB B) (hN : N ≤ 1600) (n : Nat) : GD B N n (3 * n + 7) true (gTest B N (gF B N n)) := GD_Test hB hN (opk_gF n).1 (opk_gF n).2 (GD_F hB hN n)
end GOO
