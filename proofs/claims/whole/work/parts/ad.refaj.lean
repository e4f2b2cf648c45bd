/-! The reference's reader of statements: what a half holds. -/
def SL (M : PH) (f g k : Nat) (l e : List Int) : Prop := e ≠ [] ∧ (∃ t, ty e = some [t]) ∧ ∃ pre post, l = pre ++ e ++ post ∧ M f k = (pre.length : Int) ∧ M g k = ((pre ++ e).length : Int)
def BW (z : CZ) : Prop := (z.1 0 ≤ 24 ∧ z.1 3 ≤ 16 ∧ z.1 4 ≤ 6) ∧ z.2.2.2 0 0 = 0 ∧ (∀ k, z.2.2.2 5 k = 0) ∧ (∀ h m, m < 3 → z.1 2 ≤ h → z.2.2.2 4 (h * 3 + m) = 0) ∧ ∀ h, h < z.1 2 → inR (z.2.1 2 h)
def BC (M : PH) (bk : Nat) (z : CZ) : Prop := M 236 bk = (z.1 0 : Int) ∧ M 246 bk = (z.1 3 : Int) ∧ M 250 bk = (z.1 4 : Int) ∧ M 257 bk = (z.1 5 : Int) ∧ M 258 bk = (z.1 6 : Int)
def BV (M : PH) (bk : Nat) (z : CZ) : Prop := (∀ m, m < z.1 1 → M 238 (3 * bk + m) = z.2.2.2 1 m ∧ M 239 (3 * bk + m) = z.2.1 1 m ∧ M 240 (3 * bk + m) = z.2.2.2 2 m) ∧ (∀ h, h < z.1 2 → M 242 (8 * bk + h) = z.2.1 2 h ∧ M 243 (8 * bk + h) = z.2.2.2 3 h ∧ M 244 (8 * bk + h) = z.2.1 3 h ∧ ∀ m, m < 3 → M 245 (24 * bk + (3 * h + m)) = z.2.2.2 4 (h * 3 + m)) ∧ ∀ k, k < z.1 3 → M 247 (16 * bk + k) = z.2.1 4 k ∧ M 248 (16 * bk + k) = z.2.1 5 k ∧ M 249 (16 * bk + k) = z.2.1 6 k
def BF (M : PH) (bk : Nat) (l : List Int) (z : CZ) : Prop := (z.2.2.1 0 = [] → M 253 bk = -1) ∧ (z.2.2.1 0 ≠ [] → SL M 253 254 bk l (z.2.2.1 0)) ∧ (z.2.2.1 1 = [] → M 255 bk = -1) ∧ (z.2.2.1 1 ≠ [] → SL M 255 256 bk l (z.2.2.1 1)) ∧ ∀ c, c < z.1 4 → SL M 251 252 (6 * bk + c) l (z.2.2.1 (2 + c))
/-- what has been read so far, in half bk -/
def BZ (M : PH) (bk : Nat) (l : List Int) (z : CZ) : Prop := BW z ∧ BC M bk z ∧ NB M bk z.1 z.2.1 ∧ BV M bk z ∧ BF M bk l z
/-- the cells in use -/
def US (z : CZ) (bk q k : Nat) : Prop := ((q = 236 ∨ q = 237 ∨ q = 241 ∨ q = 246 ∨ q = 250 ∨ (253 ≤ q ∧ q ≤ 258)) ∧ k = bk) ∨ (((238 ≤ q ∧ q ≤ 240) ∨ q = 261) ∧ 3 * bk ≤ k ∧ k < 3 * bk + z.1 1) ∨ (((242 ≤ q ∧ q ≤ 244) ∨ q = 262) ∧ 8 * bk ≤ k ∧ k < 8 * bk + z.1 2) ∨ (q = 245 ∧ 24 * bk ≤ k ∧ k < 24 * bk + 3 * z.1 2) ∨ ((247 ≤ q ∧ q ≤ 249) ∧ 16 * bk ≤ k ∧ k < 16 * bk + z.1 3) ∨ ((q = 251 ∨ q = 252) ∧ 6 * bk ≤ k ∧ k < 6 * bk + z.1 4)
def QS2 (M : PH) (bk : Nat) (B : Nat → Int) (N : Nat) (s : S2) : Prop := match s with
  | .inl e => FL M e
  | .inr x => (OK M B N x.1 ∧ CDR M bk x.2.1 ∧ BZ M bk x.2.1 x.2.2) ∨ ((tok B N x.1).1 = 4 ∧ FL M (1, ((tok B N x.1).2.2.1 : Int)))
/-- what a reading touches -/
def tc (P : Nat → Nat → Prop) (M M' : PH) : Prop := (∀ q, q ≠ 234 → ∀ k, ¬ P q k → M' q k = M q k) ∧ ∀ j, j < 3 ∨ 9 < j → j ≠ 12 → M' 234 j = M 234 j
section RFaj
variable {d b w bk D : Nat} {X : Nat × (Nat → Int)} {v : Nat → Int} {M M' M2 : PH} {K : PV → PS → Prop} {B : Nat → Int} {N : Nat} {κ : KP} {e : Int × Int} {o op : Nat} {l S S0 Q : List Int} {s : ST} {n : Nat → Nat} {a : PH} {z : CZ} {P : Nat → Nat → Prop}
theorem tc_r : tc P M M := ⟨fun _ _ _ _ => rfl, fun _ _ _ => rfl⟩
theorem tc_t (h : tc P M M') (h2 : tc P M' M2) : tc P M M2 := ⟨fun q z1 k z2 => (h2.1 q z1 k z2).trans (h.1 q z1 k z2), fun j z1 z2 => (h2.2 j z1 z2).trans (h.2 j z1 z2)⟩
theorem tc_4 (h : f4 M M') : tc P M M' := ⟨fun q z1 k _ => by rw [h.1 q z1], h.2⟩
theorem tc_q {q k : Nat} {x : Int} (hq : q ≠ 234) (hp : P q k) : tc P M (pm_sa M q (pm_up (M q) k x)) := by
  refine ⟨fun r z1 j z2 => ?_, fun j _ _ => by rw [sa_n (Ne.symm hq)]⟩
  by_cases e : r = q
  · subst e
    rw [sa_s, up_n (show j ≠ k from fun z => z2 (by rw [z]; exact hp))]
  · rw [sa_n e]
theorem fB_tc (h : tc P M M') (hP : ∀ q k, P q k → 236 ≤ q ∧ q ≤ 262 ∧ wd q * bk ≤ k ∧ k < wd q * bk + wd q) : fB bk M M' := by
  refine ⟨fun q z1 z2 => funext fun k => h.1 q z1 k (fun z => by have := hP q k z; omega), fun j z1 z2 _ _ _ _ _ => h.2 j z1 z2, fun q z1 z2 k z3 => h.1 q (by omega) k (fun z => by have := hP q k z; omega)⟩
theorem SL_u {f g k : Nat} {e : List Int} (h : SL M f g k l e) (e1 : M' f k = M f k) (e2 : M' g k = M g k) : SL M' f g k l e := by
  unfold SL at *
  rw [e1, e2]; exact h
theorem BZ_u (h : BZ M bk l z) (e42 : M' 234 42 = M 234 42) (e : ∀ q k, US z bk q k → M' q k = M q k) : BZ M' bk l z := by
  obtain ⟨h1, ⟨c0, c3, c4, c5, c6⟩, ⟨n0, n1, n2, n3, n4⟩, ⟨v1, v2, v3⟩, f1, f2, f3, f4, f5⟩ := h
  have b1 := n1.2
  have b2 := n2.2
  refine ⟨h1, ⟨?_, ?_, ?_, ?_, ?_⟩, ⟨by rw [e42]; exact n0, ⟨?_, n1.2⟩, ⟨?_, n2.2⟩, fun m hm => ⟨?_, (n3 m hm).2⟩, fun i hi => ⟨?_, (n4 i hi).2⟩⟩, ⟨fun m hm => ⟨?_, ?_, ?_⟩, fun i hi => ⟨?_, ?_, ?_, fun m hm => ?_⟩, fun k hk => ⟨?_, ?_, ?_⟩⟩, fun q => ?_, fun q => ?_, fun q => ?_, fun q => ?_, fun c hc => ?_⟩
  · rw [e 236 bk (by unfold US; omega)]; exact c0
  · rw [e 246 bk (by unfold US; omega)]; exact c3
  · rw [e 250 bk (by unfold US; omega)]; exact c4
  · rw [e 257 bk (by unfold US; omega)]; exact c5
  · rw [e 258 bk (by unfold US; omega)]; exact c6
  · rw [e 237 bk (by unfold US; omega)]; exact n1.1
  · rw [e 241 bk (by unfold US; omega)]; exact n2.1
  · rw [e 261 (3 * bk + m) (by unfold US; omega)]; exact (n3 m hm).1
  · rw [e 262 (8 * bk + i) (by unfold US; omega)]; exact (n4 i hi).1
  · rw [e 238 (3 * bk + m) (by unfold US; omega)]; exact (v1 m hm).1
  · rw [e 239 (3 * bk + m) (by unfold US; omega)]; exact (v1 m hm).2.1
  · rw [e 240 (3 * bk + m) (by unfold US; omega)]; exact (v1 m hm).2.2
  · rw [e 242 (8 * bk + i) (by unfold US; omega)]; exact (v2 i hi).1
  · rw [e 243 (8 * bk + i) (by unfold US; omega)]; exact (v2 i hi).2.1
  · rw [e 244 (8 * bk + i) (by unfold US; omega)]; exact (v2 i hi).2.2.1
  · rw [e 245 (24 * bk + (3 * i + m)) (by unfold US; omega)]; exact (v2 i hi).2.2.2 m hm
  · rw [e 247 (16 * bk + k) (by unfold US; omega)]; exact (v3 k hk).1
  · rw [e 248 (16 * bk + k) (by unfold US; omega)]; exact (v3 k hk).2.1
  · rw [e 249 (16 * bk + k) (by unfold US; omega)]; exact (v3 k hk).2.2
  · rw [e 253 bk (by unfold US; omega)]; exact f1 q
  · exact SL_u (f2 q) (e 253 bk (by unfold US; omega)) (e 254 bk (by unfold US; omega))
  · rw [e 255 bk (by unfold US; omega)]; exact f3 q
  · exact SL_u (f4 q) (e 255 bk (by unfold US; omega)) (e 256 bk (by unfold US; omega))
  · exact SL_u (f5 c hc) (e 251 (6 * bk + c) (by unfold US; omega)) (e 252 (6 * bk + c) (by unfold US; omega))
theorem BZ_tc (h : BZ M bk l z) (ht : tc P M M') (hP : ∀ q k, P q k → ¬ US z bk q k) : BZ M' bk l z := BZ_u h (ht.2 42 (by omega) (by omega)) (fun q k hu => ht.1 q (fun e => by subst e; unfold US at hu; omega) k (fun z => hP q k z hu))
theorem BZ_4 (h : BZ M bk l z) (hf : f4 M M') : BZ M' bk l z := BZ_tc (P := fun _ _ => False) h (tc_4 hf) (fun _ _ z => z.elim)
/-- one more moon -/
theorem BZ_moon {nm pl go te : Int} (h : BZ M bk l z) (h3 : z.1 1 < 3) (e1 : M 261 (3 * bk + z.1 1) = (bwk nm.toNat 6 : Int)) (en : nmOk nm) (e2 : M 238 (3 * bk + z.1 1) = pl) (e3 : M 239 (3 * bk + z.1 1) = go) (e4 : M 240 (3 * bk + z.1 1) = te) : BZ (pm_sa M 237 (pm_up (M 237) bk ((z.1 1 : Int) + 1))) bk l (zMoon z nm pl go te) := by
  obtain ⟨⟨w1, w2, w3, w4, w5⟩, ⟨c0, c3, c4, c5, c6⟩, ⟨n0, n1, n2, n3, n4⟩, ⟨v1, v2, v3⟩, f1, f2, f3, f4, f5⟩ := h
  have u1 : (zMoon z nm pl go te).1 1 = z.1 1 + 1 := (upn_s : upn z.1 1 (z.1 1 + 1) 1 = z.1 1 + 1)
  have u0 : ∀ j, j ≠ 1 → (zMoon z nm pl go te).1 j = z.1 j := fun j hj => (upn_n hj : upn z.1 1 (z.1 1 + 1) j = z.1 j)
  have a0 : ∀ i k, i ≠ 7 → i ≠ 1 → (zMoon z nm pl go te).2.1 i k = z.2.1 i k := fun i k h1 h2 => by
    show ups (ups z.2.1 7 (z.1 1) nm) 1 (z.1 1) go i k = _
    rw [ups_n (Or.inl h2), ups_n (Or.inl h1)]
  have m0 : ∀ i k, i ≠ 1 → i ≠ 2 → (zMoon z nm pl go te).2.2.2 i k = z.2.2.2 i k := fun i k h1 h2 => by
    show ups (ups z.2.2.2 1 (z.1 1) pl) 2 (z.1 1) te i k = _
    rw [ups_n (Or.inl h2), ups_n (Or.inl h1)]
  have eF : (zMoon z nm pl go te).2.2.1 = z.2.2.1 := rfl
  refine ⟨⟨?_, ?_, fun k => ?_, fun i m hm hi => ?_, fun i hi => ?_⟩, ⟨?_, ?_, ?_, ?_, ?_⟩, ⟨n0, ⟨?_, ?_⟩, ⟨?_, ?_⟩, fun m hm => ?_, fun i hi => ?_⟩, ⟨fun m hm => ?_, fun i hi => ?_, fun k hk => ?_⟩, ?_⟩
  · rw [u0 0 (by omega), u0 3 (by omega), u0 4 (by omega)]; exact w1
  · rw [m0 0 0 (by omega) (by omega)]; exact w2
  · rw [m0 5 k (by omega) (by omega)]; exact w3 k
  · rw [u0 2 (by omega)] at hi
    rw [m0 4 _ (by omega) (by omega)]; exact w4 i m hm hi
  · rw [u0 2 (by omega)] at hi
    rw [a0 2 i (by omega) (by omega)]; exact w5 i hi
  · rw [u0 0 (by omega)]; exact c0
  · rw [u0 3 (by omega)]; exact c3
  · rw [u0 4 (by omega)]; exact c4
  · rw [u0 5 (by omega)]; exact c5
  · rw [u0 6 (by omega)]; exact c6
  · rw [sa_s, up_s, u1]; omega
  · rw [u1]; omega
  · rw [u0 2 (by omega)]; exact n2.1
  · rw [u0 2 (by omega)]; exact n2.2
  · rw [u1] at hm
    show M 261 (3 * bk + m) = (bwk (ups (ups z.2.1 7 (z.1 1) nm) 1 (z.1 1) go 7 m).toNat 6 : Int) ∧ nmOk (ups (ups z.2.1 7 (z.1 1) nm) 1 (z.1 1) go 7 m)
    rw [ups_n (Or.inl (by omega))]
    by_cases q : m = z.1 1
    · subst q
      rw [ups_s]; exact ⟨e1, en⟩
    · rw [ups_n (Or.inr q)]; exact n3 m (by omega)
  · rw [u0 2 (by omega)] at hi
    rw [a0 8 i (by omega) (by omega)]; exact n4 i hi
  · rw [u1] at hm
    show M 238 (3 * bk + m) = ups (ups z.2.2.2 1 (z.1 1) pl) 2 (z.1 1) te 1 m ∧ M 239 (3 * bk + m) = ups (ups z.2.1 7 (z.1 1) nm) 1 (z.1 1) go 1 m ∧ M 240 (3 * bk + m) = ups (ups z.2.2.2 1 (z.1 1) pl) 2 (z.1 1) te 2 m
    by_cases q : m = z.1 1
    · subst q
      rw [ups_s, ups_s, ups_n (Or.inl (by omega)), ups_s]; exact ⟨e2, e3, e4⟩
    · rw [ups_n (Or.inr q), ups_n (Or.inr q), ups_n (Or.inr q), ups_n (Or.inr q), ups_n (Or.inr q), ups_n (Or.inr q)]; exact v1 m (by omega)
  · rw [u0 2 (by omega)] at hi
    rw [a0 2 i (by omega) (by omega), a0 3 i (by omega) (by omega), m0 3 i (by omega) (by omega)]
    refine ⟨(v2 i hi).1, (v2 i hi).2.1, (v2 i hi).2.2.1, fun m hm => ?_⟩
    rw [m0 4 _ (by omega) (by omega)]; exact (v2 i hi).2.2.2 m hm
  · rw [u0 3 (by omega)] at hk
    rw [a0 4 k (by omega) (by omega), a0 5 k (by omega) (by omega), a0 6 k (by omega) (by omega)]; exact v3 k hk
  · unfold BF
    rw [eF, u0 4 (by omega)]
    exact ⟨f1, f2, f3, f4, f5⟩
end RFaj
