/-! A plain machine over whole numbers. Values: ints, longs, references (a cell's number; -1 none; -2 the script; -3, -4 the two texts), unset. -/
abbrev PV : Type := Int ⊕ (Int ⊕ (Int ⊕ Unit))
abbrev PU : PV := .inr (.inr (.inr ()))
abbrev PH : Type := Nat → Nat → Int
/-- cells, their slots, each cell's kind and length, the script's length, the script -/
abbrev PG : Type := Nat × Nat × (Nat → Nat × Nat) × Nat × (Nat → Int)
/-- and the numbers in the cells, the references in the cells -/
abbrev PS : Type := PG × PH × PH
abbrev PC : Type := Nat × List PV × List PV × PS
abbrev PO : Type := PC ⊕ ((PV × PS) ⊕ (Nat × List PV × PC))
def pm_sg (x : Int) : Int := x.bmod 4294967296
def pm_sl (x : Int) : Int := x.bmod 18446744073709551616
def pm_up (f : Nat → Int) (k : Nat) (x : Int) : Nat → Int := fun j => if j = k then x else f j
def pm_sa (h : PH) (a : Nat) (f : Nat → Int) : PH := fun b => if b = a then f else h b
def pm_cp (f g : Nat → Int) (sp dp n : Nat) : Nat → Int := fun k => if dp ≤ k ∧ k < dp + n then f (sp + (k - dp)) else g k
def pm_and (x y : Int) : Int := (Int32.ofInt x &&& Int32.ofInt y).toInt
def pm_or (x y : Int) : Int := (Int32.ofInt x ||| Int32.ofInt y).toInt
def pm_xor (x y : Int) : Int := (Int32.ofInt x ^^^ Int32.ofInt y).toInt
def pm_shl (x y : Int) : Int := (Int32.ofInt x <<< (Int32.ofInt y &&& 31)).toInt
def pm_shr (x y : Int) : Int := (Int32.ofInt x >>> (Int32.ofInt y &&& 31)).toInt
def pm_land (x y : Int) : Int := (Int64.ofInt x &&& Int64.ofInt y).toInt
def pm_lor (x y : Int) : Int := (Int64.ofInt x ||| Int64.ofInt y).toInt
def pm_lshl (x y : Int) : Int := (Int64.ofInt x <<< ((Int32.ofInt y).toInt64 &&& 63)).toInt
def pm_lshr (x y : Int) : Int := (Int64.ofInt x >>> ((Int32.ofInt y).toInt64 &&& 63)).toInt
def pm_div (x y : Int) : Int := (pm_sg x).tdiv (pm_sg y)
def pm_rem (x y : Int) : Int := (pm_sg x).tmod (pm_sg y)
def pm_ldiv (x y : Int) : Int := (pm_sl x).tdiv (pm_sl y)
def pm_lrem (x y : Int) : Int := (pm_sl x).tmod (pm_sl y)
def pm_b8 (x : Int) : Int := x.bmod 256
def pm_cmp (x y : Int) : Int := if pm_sl x < pm_sl y then -1 else if pm_sl y < pm_sl x then 1 else 0
def pm_fr (c idx : Nat) : Option (Nat × Nat) := (pm_FR.find? (fun e => e.1 == c && e.2.1 == idx)).map (fun e => e.2.2.2)
def pm_mr (c idx : Nat) : Option (Nat × Nat) := (pm_MR.find? (fun e => e.1 == c && e.2.1 == idx)).map (fun e => e.2.2.2)
def pm_ic (c idx : Nat) : Option Int := (pm_IC.find? (fun e => e.1 == c && e.2.1 == idx)).map (fun e => e.2.2.2)
def pm_lc (c idx : Nat) : Option Int := (pm_LC.find? (fun e => e.1 == c && e.2.1 == idx)).map (fun e => e.2.2.2)
def pm_nr (c idx : Nat) : Option Nat := (pm_NR.find? (fun e => e.1 == c && e.2.1 == idx)).map (fun e => e.2.2.2)
def pm_own : List Int := [115, 101, 97, 32, 109, 111, 111, 110, 32, 97, 116, 32, 103, 111, 101, 115, 32, 116, 101, 109, 112, 101, 114, 32, 104, 97, 114, 98, 111, 114, 32, 112, 117, 114, 115, 101, 32, 100, 101, 112, 116, 104, 32, 112, 97, 121, 115, 32, 111, 119, 101, 115, 32, 99, 108, 97, 117, 115, 101, 32, 112, 117, 108, 108, 32, 101, 97, 114, 110, 115, 32, 108, 101, 118, 101, 108, 32, 115, 117, 108, 107, 32, 104, 101, 105, 103, 104, 116, 32, 112, 97, 105, 100, 32, 100, 117, 101, 32, 102, 97, 114, 32, 115, 117, 108, 107, 115, 32, 114, 105, 118, 97, 108, 32, 104, 111, 117, 114, 32, 112, 108, 97, 99, 101, 32, 111, 114, 32, 97, 110, 100, 32, 110, 111, 116, 32, 97, 108, 108, 32, 109, 105, 110, 32, 109, 97, 120]
def pm_signs : List Int := [59, 43, 45, 42, 47, 37, 40, 41, 91, 93, 44, 60, 62, 61]
def pm_str (a : Int) : Option (List Int) := if a = -3 then some pm_own else if a = -4 then some pm_signs else none
def pm_sc (c idx : Nat) : Option Int := if c = 4 ∧ idx = 19 then some (-3) else if c = 4 ∧ idx = 66 then some (-4) else none
/-- the place of c in a text, -1 without -/
def pm_ix : List Int → Int → Int → Int
  | [], _, _ => -1
  | x :: r, c, i => if x = c then i else pm_ix r c (i + 1)
def pm_gv (t a k : Nat) (S : PS) : PV := if t = 1 then .inr (.inl (S.2.1 a k)) else if t = 2 then .inr (.inr (.inl (S.2.2 a k))) else .inl (S.2.1 a k)
abbrev pm_ob (G : PG) (a : Int) (ci : Nat) : Prop := 0 ≤ a ∧ a.toNat < G.1 ∧ (G.2.2.1 a.toNat).1 = ci
abbrev pm_ar (G : PG) (a : Int) (kd : Nat) (j : Int) : Prop := (0 ≤ a ∧ a.toNat < G.1 ∧ (G.2.2.1 a.toNat).1 = kd) ∧ 0 ≤ pm_sg j ∧ pm_sg j < (G.2.2.1 a.toNat).2
def pm_al (S : PS) (kd n : Nat) : PS := ((S.1.1 + 1, S.1.2.1 + n, (fun a => if a = S.1.1 then (kd, n) else S.1.2.2.1 a), S.1.2.2.2), pm_sa S.2.1 S.1.1 (fun _ => 0), pm_sa S.2.2 S.1.1 (fun _ => -1))
def pm_w (v : PV) : Nat := match v with
  | .inr (.inl _) => 2
  | _ => 1
def pm_wl (l : List PV) : Nat := (l.map pm_w).sum
def pm_kil (ls : List PV) (i : Nat) : List PV := match i with
  | 0 => ls
  | j + 1 => match ls[j]? with
    | some (.inr (.inl _)) => ls.set j PU
    | _ => ls
def pm_s1 (ls : List PV) (i : Nat) (v : PV) : List PV := (pm_kil ls i).set i v
def pm_s2 (ls : List PV) (i : Nat) (v : PV) : List PV := ((pm_kil ls i).set i v).set (i + 1) PU
def pm_go (pc : Nat) (ls st : List PV) (S : PS) : Option PO := some (.inl (pc, ls, st, S))
def pm_jmp (pc : Nat) (off : Int) (ls st : List PV) (S : PS) : Option PO := if 0 ≤ (pc : Int) + off then pm_go ((pc : Int) + off).toNat ls st S else none
def pm_c (o : Jvm.ClassFile.Cond) (x y : Int) : Bool := match o with
  | .eq => decide (x = y)
  | .ne => decide (x ≠ y)
  | .lt => decide (x < y)
  | .ge => decide (y ≤ x)
  | .gt => decide (y < x)
  | .le => decide (x ≤ y)
def pm_ldi (k n pc : Nat) (ls st : List PV) (S : PS) : Option PO := match ls[k]? with
  | some (.inl x) => pm_go (pc + n) ls (.inl x :: st) S
  | _ => none
def pm_ldl (k n pc : Nat) (ls st : List PV) (S : PS) : Option PO := match ls[k]? with
  | some (.inr (.inl x)) => pm_go (pc + n) ls (.inr (.inl x) :: st) S
  | _ => none
def pm_lda (k n pc : Nat) (ls st : List PV) (S : PS) : Option PO := match ls[k]? with
  | some (.inr (.inr (.inl x))) => pm_go (pc + n) ls (.inr (.inr (.inl x)) :: st) S
  | _ => none
def pm_sti (k n pc : Nat) (ls st : List PV) (S : PS) : Option PO := match st with
  | .inl x :: r => if k < ls.length then pm_go (pc + n) (pm_s1 ls k (.inl x)) r S else none
  | _ => none
def pm_stl (k n pc : Nat) (ls st : List PV) (S : PS) : Option PO := match st with
  | .inr (.inl x) :: r => if k + 1 < ls.length then pm_go (pc + n) (pm_s2 ls k (.inr (.inl x))) r S else none
  | _ => none
def pm_sta (k n pc : Nat) (ls st : List PV) (S : PS) : Option PO := match st with
  | .inr (.inr (.inl x)) :: r => if k < ls.length then pm_go (pc + n) (pm_s1 ls k (.inr (.inr (.inl x)))) r S else none
  | _ => none
def pm_b2 (f : Int → Int → Int) (pc : Nat) (ls st : List PV) (S : PS) : Option PO := match st with
  | .inl y :: .inl x :: r => pm_go (pc + 1) ls (.inl (f x y) :: r) S
  | _ => none
def pm_d2 (f : Int → Int → Int) (pc : Nat) (ls st : List PV) (S : PS) : Option PO := match st with
  | .inl y :: .inl x :: r => if pm_sg y = 0 then none else pm_go (pc + 1) ls (.inl (f x y) :: r) S
  | _ => none
def pm_l2 (f : Int → Int → Int) (pc : Nat) (ls st : List PV) (S : PS) : Option PO := match st with
  | .inr (.inl y) :: .inr (.inl x) :: r => pm_go (pc + 1) ls (.inr (.inl (f x y)) :: r) S
  | _ => none
def pm_ld2 (f : Int → Int → Int) (pc : Nat) (ls st : List PV) (S : PS) : Option PO := match st with
  | .inr (.inl y) :: .inr (.inl x) :: r => if pm_sl y = 0 then none else pm_go (pc + 1) ls (.inr (.inl (f x y)) :: r) S
  | _ => none
def pm_lsh (f : Int → Int → Int) (pc : Nat) (ls st : List PV) (S : PS) : Option PO := match st with
  | .inl y :: .inr (.inl x) :: r => pm_go (pc + 1) ls (.inr (.inl (f x y)) :: r) S
  | _ => none
def pm_u1 (f : Int → PV) (pc : Nat) (ls st : List PV) (S : PS) : Option PO := match st with
  | .inl x :: r => pm_go (pc + 1) ls (f x :: r) S
  | _ => none
def pm_iald (pc : Nat) (ls st : List PV) (S : PS) : Option PO := match st with
  | .inl j :: .inr (.inr (.inl a)) :: r =>
    if pm_ar S.1 a 100 j then pm_go (pc + 1) ls (.inl (S.2.1 a.toNat (pm_sg j).toNat) :: r) S
    else if a = -2 ∧ 0 ≤ pm_sg j ∧ pm_sg j < S.1.2.2.2.1 then pm_go (pc + 1) ls (.inl (S.1.2.2.2.2 (pm_sg j).toNat) :: r) S else none
  | _ => none
def pm_bald (pc : Nat) (ls st : List PV) (S : PS) : Option PO := match st with
  | .inl j :: .inr (.inr (.inl a)) :: r =>
    if pm_ar S.1 a 101 j ∨ pm_ar S.1 a 102 j then pm_go (pc + 1) ls (.inl (S.2.1 a.toNat (pm_sg j).toNat) :: r) S else none
  | _ => none
def pm_lald (pc : Nat) (ls st : List PV) (S : PS) : Option PO := match st with
  | .inl j :: .inr (.inr (.inl a)) :: r =>
    if pm_ar S.1 a 103 j then pm_go (pc + 1) ls (.inr (.inl (S.2.1 a.toNat (pm_sg j).toNat)) :: r) S else none
  | _ => none
def pm_aald (pc : Nat) (ls st : List PV) (S : PS) : Option PO := match st with
  | .inl j :: .inr (.inr (.inl a)) :: r =>
    if pm_ar S.1 a 104 j ∧ 0 ≤ S.2.2 a.toNat (pm_sg j).toNat then pm_go (pc + 1) ls (.inr (.inr (.inl (S.2.2 a.toNat (pm_sg j).toNat))) :: r) S else none
  | _ => none
def pm_iast (pc : Nat) (ls st : List PV) (S : PS) : Option PO := match st with
  | .inl x :: .inl j :: .inr (.inr (.inl a)) :: r =>
    if pm_ar S.1 a 100 j then pm_go (pc + 1) ls r (S.1, pm_sa S.2.1 a.toNat (pm_up (S.2.1 a.toNat) (pm_sg j).toNat x), S.2.2) else none
  | _ => none
def pm_bast (pc : Nat) (ls st : List PV) (S : PS) : Option PO := match st with
  | .inl x :: .inl j :: .inr (.inr (.inl a)) :: r =>
    if pm_ar S.1 a 101 j then pm_go (pc + 1) ls r (S.1, pm_sa S.2.1 a.toNat (pm_up (S.2.1 a.toNat) (pm_sg j).toNat (pm_b8 x)), S.2.2)
    else if pm_ar S.1 a 102 j ∧ (x = 0 ∨ x = 1) then pm_go (pc + 1) ls r (S.1, pm_sa S.2.1 a.toNat (pm_up (S.2.1 a.toNat) (pm_sg j).toNat x), S.2.2) else none
  | _ => none
def pm_last (pc : Nat) (ls st : List PV) (S : PS) : Option PO := match st with
  | .inr (.inl x) :: .inl j :: .inr (.inr (.inl a)) :: r =>
    if pm_ar S.1 a 103 j then pm_go (pc + 1) ls r (S.1, pm_sa S.2.1 a.toNat (pm_up (S.2.1 a.toNat) (pm_sg j).toNat x), S.2.2) else none
  | _ => none
def pm_aast (pc : Nat) (ls st : List PV) (S : PS) : Option PO := match st with
  | .inr (.inr (.inl x)) :: .inl j :: .inr (.inr (.inl a)) :: r =>
    if pm_ar S.1 a 104 j ∧ pm_ob S.1 x 5 then pm_go (pc + 1) ls r (S.1, S.2.1, pm_sa S.2.2 a.toNat (pm_up (S.2.2 a.toNat) (pm_sg j).toNat x)) else none
  | _ => none
def pm_alen (pc : Nat) (ls st : List PV) (S : PS) : Option PO := match st with
  | .inr (.inr (.inl a)) :: r =>
    if 0 ≤ a ∧ a.toNat < S.1.1 ∧ 100 ≤ (S.1.2.2.1 a.toNat).1 ∧ (S.1.2.2.1 a.toNat).1 ≤ 104 then pm_go (pc + 1) ls (.inl (S.1.2.2.1 a.toNat).2 :: r) S
    else if a = -2 then pm_go (pc + 1) ls (.inl S.1.2.2.2.1 :: r) S else none
  | _ => none
def pm_getf (mi idx pc : Nat) (ls st : List PV) (S : PS) : Option PO := match pm_fr (pm_cl mi) idx, st with
  | some (ci, k), .inr (.inr (.inl a)) :: r => if pm_ob S.1 a ci ∧ k < pm_nf ci then pm_go (pc + 3) ls (pm_gv (pm_tag (pm_ft ci k)) a.toNat k S :: r) S else none
  | _, _ => none
/-- whether a field may be put here: a final one in a constructor of its own alone -/
abbrev pm_may (mi ci k : Nat) : Prop := pm_fin ci k = false ∨ (pm_kd mi = 2 ∧ pm_cl mi = ci)
def pm_putf (mi idx pc : Nat) (ls st : List PV) (S : PS) : Option PO := match pm_fr (pm_cl mi) idx, st with
  | some (ci, k), .inl x :: .inr (.inr (.inl a)) :: r =>
    if pm_ob S.1 a ci ∧ k < pm_nf ci ∧ pm_may mi ci k ∧ (pm_tag (pm_ft ci k) = 0 ∨ (pm_tag (pm_ft ci k) = 3 ∧ (x = 0 ∨ x = 1))) then pm_go (pc + 3) ls r (S.1, pm_sa S.2.1 a.toNat (pm_up (S.2.1 a.toNat) k x), S.2.2) else none
  | some (ci, k), .inr (.inl x) :: .inr (.inr (.inl a)) :: r =>
    if pm_ob S.1 a ci ∧ k < pm_nf ci ∧ pm_may mi ci k ∧ pm_tag (pm_ft ci k) = 1 then pm_go (pc + 3) ls r (S.1, pm_sa S.2.1 a.toNat (pm_up (S.2.1 a.toNat) k x), S.2.2) else none
  | some (ci, k), .inr (.inr (.inl x)) :: .inr (.inr (.inl a)) :: r =>
    if pm_ob S.1 a ci ∧ k < pm_nf ci ∧ pm_may mi ci k ∧ pm_tag (pm_ft ci k) = 2 ∧ 0 ≤ x then pm_go (pc + 3) ls r (S.1, S.2.1, pm_sa S.2.2 a.toNat (pm_up (S.2.2 a.toNat) k x)) else none
  | _, _ => none
def pm_newo (mi idx pc : Nat) (ls st : List PV) (S : PS) : Option PO := match pm_nr (pm_cl mi) idx with
  | some ci => if ci < 13 then pm_go (pc + 3) ls (.inr (.inr (.inl S.1.1)) :: st) (pm_al S ci (pm_nf ci)) else none
  | none => none
def pm_newa (t : ArrayType) (pc : Nat) (ls st : List PV) (S : PS) : Option PO := match st with
  | .inl n :: r => if 0 ≤ pm_sg n ∧ pm_sg n ≤ 100000 then match t with
      | .int => pm_go (pc + 2) ls (.inr (.inr (.inl S.1.1)) :: r) (pm_al S 100 (pm_sg n).toNat)
      | .byte => pm_go (pc + 2) ls (.inr (.inr (.inl S.1.1)) :: r) (pm_al S 101 (pm_sg n).toNat)
      | .boolean => pm_go (pc + 2) ls (.inr (.inr (.inl S.1.1)) :: r) (pm_al S 102 (pm_sg n).toNat)
      | .long => pm_go (pc + 2) ls (.inr (.inr (.inl S.1.1)) :: r) (pm_al S 103 (pm_sg n).toNat)
      | _ => none
    else none
  | _ => none
def pm_newr (mi idx pc : Nat) (ls st : List PV) (S : PS) : Option PO := match pm_nr (pm_cl mi) idx, st with
  | some ci, .inl n :: r => if ci = 5 ∧ 0 ≤ pm_sg n ∧ pm_sg n ≤ 100000 then pm_go (pc + 3) ls (.inr (.inr (.inl S.1.1)) :: r) (pm_al S 104 (pm_sg n).toNat) else none
  | _, _ => none
def pm_invv (mi idx pc : Nat) (ls st : List PV) (S : PS) : Option PO := match pm_mr (pm_cl mi) idx with
  | some (m, nest) =>
    if m < 900 then match st.drop (pm_np m) with
      | .inr (.inr (.inl a)) :: r => if pm_kd m = 0 ∧ nest = 0 ∧ pm_ob S.1 a (pm_cl m) ∧ pm_np m ≤ st.length ∧ pm_wl r ≤ 8 then some (.inr (.inr (m, .inr (.inr (.inl a)) :: (st.take (pm_np m)).reverse, (pc + 3, ls, r, S)))) else none
      | _ => none
    else if m = 902 then match st with
      | .inr (.inr (.inl a)) :: r => match pm_str a with
        | some t => if pm_wl r ≤ 8 then pm_go (pc + 3) ls (.inl t.length :: r) S else none
        | none => none
      | _ => none
    else if m = 903 then match st with
      | .inl i :: .inr (.inr (.inl a)) :: r => match pm_str a with
        | some t => if pm_wl r ≤ 8 ∧ 0 ≤ pm_sg i ∧ pm_sg i < t.length then pm_go (pc + 3) ls (.inl (t.getD (pm_sg i).toNat 0) :: r) S else none
        | none => none
      | _ => none
    else if m = 904 then match st with
      | .inl x :: .inr (.inr (.inl a)) :: r => match pm_str a with
        | some t => if pm_wl r ≤ 8 ∧ 0 ≤ pm_sg x ∧ pm_sg x < 256 then pm_go (pc + 3) ls (.inl (pm_ix t (pm_sg x) 0) :: r) S else none
        | none => none
      | _ => none
    else none
  | none => none
def pm_invi (mi idx pc : Nat) (ls st : List PV) (S : PS) : Option PO := match pm_mr (pm_cl mi) idx with
  | some (m, nest) => match st.drop (if m = 900 then 0 else pm_np m) with
    | .inr (.inr (.inl a)) :: r =>
      if 0 ≤ a ∧ pm_wl r ≤ 8 then
        if m = 900 then pm_go (pc + 3) ls r S
        else if m < 900 ∧ pm_kd m = 2 ∧ pm_np m ≤ st.length then some (.inr (.inr (m, .inr (.inr (.inl a)) :: (st.take (pm_np m)).reverse, (pc + 3, ls, r, S)))) else none
      else none
    | _ => none
  | none => none
def pm_acpy (pc : Nat) (ls st : List PV) (S : PS) : Option PO := match st with
  | .inl n :: .inl dp :: .inr (.inr (.inl b)) :: .inl sp :: .inr (.inr (.inl a)) :: r =>
    if pm_ob S.1 a 100 ∧ pm_ob S.1 b 100 ∧ 0 ≤ pm_sg sp ∧ 0 ≤ pm_sg dp ∧ 0 ≤ pm_sg n ∧ pm_sg sp + pm_sg n ≤ (S.1.2.2.1 a.toNat).2 ∧ pm_sg dp + pm_sg n ≤ (S.1.2.2.1 b.toNat).2 ∧ a ≠ b ∧ pm_wl r ≤ 8 then
      pm_go (pc + 3) ls r (S.1, pm_sa S.2.1 b.toNat (pm_cp (S.2.1 a.toNat) (S.2.1 b.toNat) (pm_sg sp).toNat (pm_sg dp).toNat (pm_sg n).toNat), S.2.2)
    else none
  | _ => none
def pm_mx (x y : Int) : Int := if pm_sg x < pm_sg y then y else x
def pm_mn (x y : Int) : Int := if pm_sg y < pm_sg x then y else x
def pm_fd (x y : Int) : Int := (pm_sg x).fdiv (pm_sg y)
def pm_fm (x y : Int) : Int := (pm_sg x).fmod (pm_sg y)
def pm_m2 (f : Int → Int → Int) (pc : Nat) (ls st : List PV) (S : PS) : Option PO := match st with
  | .inl y :: .inl x :: r => if pm_wl r ≤ 8 then pm_go (pc + 3) ls (.inl (f x y) :: r) S else none
  | _ => none
def pm_m0 (f : Int → Int → Int) (pc : Nat) (ls st : List PV) (S : PS) : Option PO := match st with
  | .inl y :: .inl x :: r => if pm_wl r ≤ 8 ∧ pm_sg y ≠ 0 then pm_go (pc + 3) ls (.inl (f x y) :: r) S else none
  | _ => none
def pm_invs (mi idx pc : Nat) (ls st : List PV) (S : PS) : Option PO := match pm_mr (pm_cl mi) idx with
  | some (m, nest) =>
    if m = 901 then pm_acpy pc ls st S
    else if m = 905 then pm_m2 pm_mx pc ls st S
    else if m = 906 then pm_m2 pm_mn pc ls st S
    else if m = 907 then pm_m0 pm_fd pc ls st S
    else if m = 908 then pm_m0 pm_fm pc ls st S
    else if m < 900 ∧ pm_kd m = 1 ∧ pm_np m ≤ st.length ∧ pm_wl (st.drop (pm_np m)) ≤ 8 then some (.inr (.inr (m, (st.take (pm_np m)).reverse, (pc + 3, ls, st.drop (pm_np m), S)))) else none
  | none => none
def pm_ldc (mi idx n pc : Nat) (ls st : List PV) (S : PS) : Option PO := match pm_ic (pm_cl mi) idx with
  | some x => pm_go (pc + n) ls (.inl x :: st) S
  | none => match pm_sc (pm_cl mi) idx with
    | some x => if n = 2 then pm_go (pc + n) ls (.inr (.inr (.inl x)) :: st) S else none
    | none => none
def pm_ldc2 (mi idx pc : Nat) (ls st : List PV) (S : PS) : Option PO := match pm_lc (pm_cl mi) idx with
  | some x => pm_go (pc + 3) ls (.inr (.inl x) :: st) S
  | none => none
def pm_tsw (pc : Nat) (dflt lo hi : Int) (offs : Array Int) (ls st : List PV) (S : PS) : Option PO := match st with
  | .inl x :: r => if pm_sg x < lo ∨ hi < pm_sg x then pm_jmp pc dflt ls r S else match offs[(pm_sg x - lo).toNat]? with
    | some off => pm_jmp pc off ls r S
    | none => none
  | _ => none
def pm_step (mi : Nat) (i : Instr) (n pc : Nat) (ls st : List PV) (S : PS) : Option PO :=
  match i with
  | .iload_n k => pm_ldi k 1 pc ls st S
  | .iload k => pm_ldi k 2 pc ls st S
  | .lload_n k => pm_ldl k 1 pc ls st S
  | .lload k => pm_ldl k 2 pc ls st S
  | .aload_n k => pm_lda k 1 pc ls st S
  | .aload k => pm_lda k 2 pc ls st S
  | .istore_n k => pm_sti k 1 pc ls st S
  | .istore k => pm_sti k 2 pc ls st S
  | .lstore_n k => pm_stl k 1 pc ls st S
  | .lstore k => pm_stl k 2 pc ls st S
  | .astore_n k => pm_sta k 1 pc ls st S
  | .astore k => pm_sta k 2 pc ls st S
  | .iinc k z => match ls[k]? with
    | some (.inl x) => pm_go (pc + 3) (pm_s1 ls k (.inl (x + z))) st S
    | _ => none
  | .iconst z => pm_go (pc + 1) ls (.inl z :: st) S
  | .bipush z => if -128 ≤ z ∧ z < 128 then pm_go (pc + 2) ls (.inl z :: st) S else none
  | .sipush z => if -32768 ≤ z ∧ z < 32768 then pm_go (pc + 3) ls (.inl z :: st) S else none
  | .lconst z => pm_go (pc + 1) ls (.inr (.inl ((z : Nat) : Int)) :: st) S
  | .ldc idx => pm_ldc mi idx 2 pc ls st S
  | .ldc_w idx => pm_ldc mi idx 3 pc ls st S
  | .ldc2_w idx => pm_ldc2 mi idx pc ls st S
  | .iadd => pm_b2 (fun x y => x + y) pc ls st S
  | .isub => pm_b2 (fun x y => x - y) pc ls st S
  | .imul => pm_b2 (fun x y => x * y) pc ls st S
  | .iand => pm_b2 pm_and pc ls st S
  | .ior => pm_b2 pm_or pc ls st S
  | .ixor => pm_b2 pm_xor pc ls st S
  | .ishl => pm_b2 pm_shl pc ls st S
  | .ishr => pm_b2 pm_shr pc ls st S
  | .idiv => pm_d2 pm_div pc ls st S
  | .irem => pm_d2 pm_rem pc ls st S
  | .ladd => pm_l2 (fun x y => x + y) pc ls st S
  | .lsub => pm_l2 (fun x y => x - y) pc ls st S
  | .lmul => pm_l2 (fun x y => x * y) pc ls st S
  | .land => pm_l2 pm_land pc ls st S
  | .lor => pm_l2 pm_lor pc ls st S
  | .ldiv => pm_ld2 pm_ldiv pc ls st S
  | .lrem => pm_ld2 pm_lrem pc ls st S
  | .lshl => pm_lsh pm_lshl pc ls st S
  | .lshr => pm_lsh pm_lshr pc ls st S
  | .lcmp => match st with
    | .inr (.inl y) :: .inr (.inl x) :: r => pm_go (pc + 1) ls (.inl (pm_cmp x y) :: r) S
    | _ => none
  | .i2l => pm_u1 (fun x => .inr (.inl (pm_sg x))) pc ls st S
  | .i2b => pm_u1 (fun x => .inl (pm_b8 x)) pc ls st S
  | .i2c => pm_u1 (fun x => .inl (x % 65536)) pc ls st S
  | .l2i => match st with
    | .inr (.inl x) :: r => pm_go (pc + 1) ls (.inl x :: r) S
    | _ => none
  | .dup => match st with
    | v :: r => if pm_w v = 1 then pm_go (pc + 1) ls (v :: v :: r) S else none
    | _ => none
  | .dup2 => match st with
    | v :: w :: r => if pm_w v = 1 ∧ pm_w w = 1 then pm_go (pc + 1) ls (v :: w :: v :: w :: r) S else none
    | _ => none
  | .pop => match st with
    | v :: r => if pm_w v = 1 then pm_go (pc + 1) ls r S else none
    | _ => none
  | .iaload => pm_iald pc ls st S
  | .baload => pm_bald pc ls st S
  | .laload => pm_lald pc ls st S
  | .aaload => pm_aald pc ls st S
  | .iastore => pm_iast pc ls st S
  | .bastore => pm_bast pc ls st S
  | .lastore => pm_last pc ls st S
  | .aastore => pm_aast pc ls st S
  | .arraylength => pm_alen pc ls st S
  | .getfield idx => pm_getf mi idx pc ls st S
  | .putfield idx => pm_putf mi idx pc ls st S
  | .new idx => pm_newo mi idx pc ls st S
  | .newarray t => pm_newa t pc ls st S
  | .anewarray idx => pm_newr mi idx pc ls st S
  | .invokevirtual idx => pm_invv mi idx pc ls st S
  | .invokespecial idx => pm_invi mi idx pc ls st S
  | .invokestatic idx => pm_invs mi idx pc ls st S
  | .goto off => pm_jmp pc off ls st S
  | .ifCond o off => match st with
    | .inl x :: r => if 0 ≤ (pc : Int) + off then (if pm_c o (pm_sg x) 0 = true then pm_go ((pc : Int) + off).toNat ls r S else pm_go (pc + 3) ls r S) else none
    | _ => none
  | .if_icmp o off => match st with
    | .inl y :: .inl x :: r => if 0 ≤ (pc : Int) + off then (if pm_c o (pm_sg x) (pm_sg y) = true then pm_go ((pc : Int) + off).toNat ls r S else pm_go (pc + 3) ls r S) else none
    | _ => none
  | .tableswitch dflt lo hi offs => pm_tsw pc dflt lo hi offs ls st S
  | .ireturn => match st with
    | [.inl x] => if pm_rt mi = some .int ∨ (pm_rt mi = some .boolean ∧ (x = 0 ∨ x = 1)) then some (.inr (.inl (.inl x, S))) else none
    | _ => none
  | .lreturn => match st with
    | [.inr (.inl x)] => if pm_rt mi = some .long then some (.inr (.inl (.inr (.inl x), S))) else none
    | _ => none
  | .areturn => match st with
    | [.inr (.inr (.inl x))] => if pm_rt mi = some (.object RX1) ∧ 0 ≤ x then some (.inr (.inl (.inr (.inr (.inl x)), S))) else none
    | _ => none
  | .return_ => match st with
    | [] => if pm_rt mi = none then some (.inr (.inl (PU, S))) else none
    | _ => none
  | _ => none
def pm_push (r : PV) (st : List PV) : List PV := match r with
  | .inr (.inr (.inr _)) => st
  | _ => r :: st
def pm_slo : List PV → List PV
  | [] => []
  | .inr (.inl x) :: r => .inr (.inl x) :: PU :: pm_slo r
  | v :: r => v :: pm_slo r
def pm_ini (m : Nat) (as : List PV) : List PV := pm_slo as ++ List.replicate (pm_ml m - (pm_slo as).length) PU
