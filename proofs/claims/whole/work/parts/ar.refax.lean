/-! The reference: sea. -/
section RFax
variable {d b w bk D : Nat} {X : Nat × (Nat → Int)} {v : Nat → Int} {M M' M2 : PH} {K : PV → PS → Prop} {B : Nat → Int} {N : Nat} {κ : KP} {l S S0 Q : List Int} {e : Int × Int} {s : S2} {n : Nat → Nat} {a : PH} {z : CZ} {F : Nat → List Int} {μ : PH} {rf : Nat → Int} {sd : Int} {A : Nat} {P : Nat → PH} {R : Nat} {sp sh : Nat → Int} {pi : PB2} {fe : Int × Int}
theorem SL_RFo {f g k : Nat} {e0 : List Int} (h : SL M f g k l e0) (hd : CDR M bk l) : RFo M bk f g k e0 := by
  obtain ⟨-, ht, pre, post, h1, h2, h3⟩ := h
  obtain ⟨-, -, -, h16, hc⟩ := hd
  have ll : l.length = pre.length + e0.length + post.length := by rw [h1, List.length_append, List.length_append]
  refine ⟨⟨pre.length, h2, by rw [h3, List.length_append], by omega, fun j hj => ?_⟩, ht⟩
  have := hc (pre.length + j) (by omega)
  have el : l[pre.length + j]'(by omega) = e0[j] := by
    subst h1
    rw [List.getElem_append_left (by rw [List.length_append]; omega), List.getElem_append_right (by omega)]
    congr 1; omega
  rw [el] at this
  exact this
theorem cdR_u {k : Nat} {c : Int} (h : cdR M b k c) (e1 : M' 259 (1600 * b + k) = M 259 (1600 * b + k)) (e2 : M' 260 (1600 * b + k) = M 260 (1600 * b + k)) : cdR M' b k c := by
  unfold cdR at *
  rw [e1, e2]; exact h
theorem RFo_u {f g k : Nat} {e0 : List Int} (h : RFo M b f g k e0) (e1 : M' f k = M f k) (e2 : M' g k = M g k) (e3 : ∀ j, j < 1600 → M' 259 (1600 * b + j) = M 259 (1600 * b + j) ∧ M' 260 (1600 * b + j) = M 260 (1600 * b + j)) : RFo M' b f g k e0 := by
  obtain ⟨⟨i, h1, h2, h3, h4⟩, h5⟩ := h
  exact ⟨⟨i, e1.trans h1, e2.trans h2, h3, fun j hj => cdR_u (h4 j hj) (e3 _ (by omega)).1 (e3 _ (by omega)).2⟩, h5⟩
/-- the live half stays -/
theorem RS_b (h : RS M b n a F) (h13 : M' 234 13 = M 234 13) (hq : ∀ q, 236 ≤ q → q ≤ 262 → ∀ k, wd q * b ≤ k ∧ k < wd q * b + wd q → M' q k = M q k) : RS M' b n a F := by
  obtain ⟨⟨c0, ⟨c1, c2, c3, c4, c5, c6, c7⟩, v1, v2, v3⟩, ⟨f1, f2, f3, f4, f5⟩, hw⟩ := h
  obtain ⟨w0, w1, w2, w3, w4, -⟩ := id hw.1
  have o1 : ∀ q, wd q = 1 → 236 ≤ q → q ≤ 262 → M' q b = M q b := fun q h1 h2 h3 => hq q h2 h3 b (by rw [h1]; omega)
  have cd : ∀ j, j < 1600 → M' 259 (1600 * b + j) = M 259 (1600 * b + j) ∧ M' 260 (1600 * b + j) = M 260 (1600 * b + j) := fun j hj => ⟨hq 259 (by omega) (by omega) _ (by show 1600 * b ≤ _ ∧ _ < 1600 * b + 1600; omega), hq 260 (by omega) (by omega) _ (by show 1600 * b ≤ _ ∧ _ < 1600 * b + 1600; omega)⟩
  refine ⟨⟨⟨c0.1, h13.trans c0.2⟩, ⟨?_, ?_, ?_, ?_, ?_, ?_, ?_⟩, fun m hm => ?_, fun i hi => ⟨?_, ?_⟩, fun k hk => ⟨?_, ?_, ?_⟩⟩, ⟨fun q => ?_, fun q => ?_, fun q => ?_, fun q => ?_, fun c hc => ?_⟩, hw⟩
  · rw [o1 236 rfl (by omega) (by omega)]; exact c1
  · rw [o1 237 rfl (by omega) (by omega)]; exact c2
  · rw [o1 241 rfl (by omega) (by omega)]; exact c3
  · rw [o1 246 rfl (by omega) (by omega)]; exact c4
  · rw [o1 250 rfl (by omega) (by omega)]; exact c5
  · rw [o1 257 rfl (by omega) (by omega)]; exact c6
  · rw [o1 258 rfl (by omega) (by omega)]; exact c7
  · rw [hq 239 (by omega) (by omega) _ (by show 3 * b ≤ _ ∧ _ < 3 * b + 3; omega)]; exact v1 m hm
  · rw [hq 242 (by omega) (by omega) _ (by show 8 * b ≤ _ ∧ _ < 8 * b + 8; omega)]; exact (v2 i hi).1
  · rw [hq 244 (by omega) (by omega) _ (by show 8 * b ≤ _ ∧ _ < 8 * b + 8; omega)]; exact (v2 i hi).2
  · rw [hq 247 (by omega) (by omega) _ (by show 16 * b ≤ _ ∧ _ < 16 * b + 16; omega)]; exact (v3 k hk).1
  · rw [hq 248 (by omega) (by omega) _ (by show 16 * b ≤ _ ∧ _ < 16 * b + 16; omega)]; exact (v3 k hk).2.1
  · rw [hq 249 (by omega) (by omega) _ (by show 16 * b ≤ _ ∧ _ < 16 * b + 16; omega)]; exact (v3 k hk).2.2
  · rw [o1 253 rfl (by omega) (by omega)]; exact f1 q
  · exact RFo_u (f2 q) (o1 253 rfl (by omega) (by omega)) (o1 254 rfl (by omega) (by omega)) cd
  · rw [o1 255 rfl (by omega) (by omega)]; exact f3 q
  · exact RFo_u (f4 q) (o1 255 rfl (by omega) (by omega)) (o1 256 rfl (by omega) (by omega)) cd
  · exact RFo_u (f5 c hc) (hq 251 (by omega) (by omega) _ (by show 6 * b ≤ _ ∧ _ < 6 * b + 6; omega)) (hq 252 (by omega) (by omega) _ (by show 6 * b ≤ _ ∧ _ < 6 * b + 6; omega)) cd
theorem RN_b (h : RN M b n a) (hw : n 1 ≤ 3 ∧ n 2 ≤ 8) (hq : ∀ q, 236 ≤ q → q ≤ 262 → ∀ k, wd q * b ≤ k ∧ k < wd q * b + wd q → M' q k = M q k) : RN M' b n a := by
  obtain ⟨w1, w2⟩ := hw
  refine ⟨fun m hm => ?_, fun i hi => ?_⟩
  · rw [hq 261 (by omega) (by omega) _ (by show 3 * b ≤ _ ∧ _ < 3 * b + 3; omega)]; exact h.1 m hm
  · rw [hq 262 (by omega) (by omega) _ (by show 8 * b ≤ _ ∧ _ < 8 * b + 8; omega)]; exact h.2 i hi
/-- the half that was read, when it is the live one -/
theorem RS_z (hZ : BZ M bk l z) (hd : CDR M bk l) (h13 : M 234 13 = (bk : Int)) (hw : wC z.1 z.2.1 z.2.2.1) : RS M bk z.1 z.2.1 z.2.2.1 ∧ RN M bk z.1 z.2.1 := by
  obtain ⟨-, ⟨c0, c3, c4, c5, c6⟩, ⟨⟨-, hb⟩, n1, n2, n3⟩, ⟨v1, v2, v3⟩, f1, f2, f3, f4, f5⟩ := hZ
  exact ⟨⟨⟨⟨hb, h13⟩, ⟨c0, n1.1, n2.1, c3, c4, c5, c6⟩, fun m hm => (v1 m hm).2.1, fun i hi => ⟨(v2 i hi).1, (v2 i hi).2.2.1⟩, v3⟩, ⟨f1, fun q => SL_RFo (f2 q) hd, f3, fun q => SL_RFo (f4 q) hd, fun c hc => SL_RFo (f5 c hc) hd⟩, hw⟩, n3⟩
end RFax
