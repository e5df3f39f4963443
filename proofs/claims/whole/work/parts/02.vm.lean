-- ===== THE SMALL MACHINE: a heap of numbered cells, and what one instruction does to it =====
/-- the small heap: how many cells, how many slots; kinds, lengths; ints, references; the script, its length -/
abbrev vt_H : Type := (Nat × Nat) × ((Nat → Nat) × (Nat → Nat)) × ((Nat → Nat → Int32) × (Nat → Nat → Option Nat)) × ((Nat → Int32) × Nat)
def vh_n (h : vt_H) : Nat := h.1.1
def vh_u (h : vt_H) : Nat := h.1.2
def vh_K (h : vt_H) : Nat → Nat := h.2.1.1
def vh_Z (h : vt_H) : Nat → Nat := h.2.1.2
def vh_I (h : vt_H) : Nat → Nat → Int32 := h.2.2.1.1
def vh_R (h : vt_H) : Nat → Nat → Option Nat := h.2.2.1.2
def vh_X (h : vt_H) : Nat → Int32 := h.2.2.2.1
def vh_L (h : vt_H) : Nat := h.2.2.2.2
/-- write an int, a reference; make a cell; copy ints -/
def vh_wI (h : vt_H) (a i : Nat) (x : Int32) : vt_H := (h.1, h.2.1, (fun b j => if b = a ∧ j = i then x else vh_I h b j, h.2.2.1.2), h.2.2.2)
def vh_wR (h : vt_H) (a i : Nat) (r : Option Nat) : vt_H := (h.1, h.2.1, (h.2.2.1.1, fun b j => if b = a ∧ j = i then r else vh_R h b j), h.2.2.2)
def vh_new (h : vt_H) (k z w : Nat) : vt_H := ((vh_n h + 1, vh_u h + w), (fun b => if b = vh_n h then k else vh_K h b, fun b => if b = vh_n h then z else vh_Z h b), (fun b j => if b = vh_n h then 0 else vh_I h b j, fun b j => if b = vh_n h then none else vh_R h b j), h.2.2.2)
def vh_cp (h : vt_H) (a0 sp a dp n : Nat) : vt_H := (h.1, h.2.1, (fun b j => if b = a then va_cpy (vh_I h a0) (vh_I h a) sp dp n j else vh_I h b j, h.2.2.1.2), h.2.2.2)
section VH
variable (h : vt_H) (a i : Nat) (x : Int32) (r : Option Nat) (k z w : Nat) (a0 sp dp n : Nat)
theorem vh_n_wI : vh_n (vh_wI h a i x) = vh_n h := rfl
theorem vh_u_wI : vh_u (vh_wI h a i x) = vh_u h := rfl
theorem vh_K_wI : vh_K (vh_wI h a i x) = vh_K h := rfl
theorem vh_Z_wI : vh_Z (vh_wI h a i x) = vh_Z h := rfl
theorem vh_R_wI : vh_R (vh_wI h a i x) = vh_R h := rfl
theorem vh_X_wI : vh_X (vh_wI h a i x) = vh_X h := rfl
theorem vh_L_wI : vh_L (vh_wI h a i x) = vh_L h := rfl
theorem vh_I_wI (b j : Nat) : vh_I (vh_wI h a i x) b j = if b = a ∧ j = i then x else vh_I h b j := rfl
theorem vh_n_wR : vh_n (vh_wR h a i r) = vh_n h := rfl
theorem vh_u_wR : vh_u (vh_wR h a i r) = vh_u h := rfl
theorem vh_K_wR : vh_K (vh_wR h a i r) = vh_K h := rfl
theorem vh_Z_wR : vh_Z (vh_wR h a i r) = vh_Z h := rfl
theorem vh_I_wR : vh_I (vh_wR h a i r) = vh_I h := rfl
theorem vh_X_wR : vh_X (vh_wR h a i r) = vh_X h := rfl
theorem vh_L_wR : vh_L (vh_wR h a i r) = vh_L h := rfl
theorem vh_R_wR (b j : Nat) : vh_R (vh_wR h a i r) b j = if b = a ∧ j = i then r else vh_R h b j := rfl
theorem vh_n_new : vh_n (vh_new h k z w) = vh_n h + 1 := rfl
theorem vh_u_new : vh_u (vh_new h k z w) = vh_u h + w := rfl
theorem vh_K_new (b : Nat) : vh_K (vh_new h k z w) b = if b = vh_n h then k else vh_K h b := rfl
theorem vh_Z_new (b : Nat) : vh_Z (vh_new h k z w) b = if b = vh_n h then z else vh_Z h b := rfl
theorem vh_I_new (b j : Nat) : vh_I (vh_new h k z w) b j = if b = vh_n h then 0 else vh_I h b j := rfl
theorem vh_R_new (b j : Nat) : vh_R (vh_new h k z w) b j = if b = vh_n h then none else vh_R h b j := rfl
theorem vh_X_new : vh_X (vh_new h k z w) = vh_X h := rfl
theorem vh_L_new : vh_L (vh_new h k z w) = vh_L h := rfl
theorem vh_n_cp : vh_n (vh_cp h a0 sp a dp n) = vh_n h := rfl
theorem vh_u_cp : vh_u (vh_cp h a0 sp a dp n) = vh_u h := rfl
theorem vh_K_cp : vh_K (vh_cp h a0 sp a dp n) = vh_K h := rfl
theorem vh_Z_cp : vh_Z (vh_cp h a0 sp a dp n) = vh_Z h := rfl
theorem vh_R_cp : vh_R (vh_cp h a0 sp a dp n) = vh_R h := rfl
theorem vh_X_cp : vh_X (vh_cp h a0 sp a dp n) = vh_X h := rfl
theorem vh_L_cp : vh_L (vh_cp h a0 sp a dp n) = vh_L h := rfl
theorem vh_I_cp (b j : Nat) : vh_I (vh_cp h a0 sp a dp n) b j = if b = a then va_cpy (vh_I h a0) (vh_I h a) sp dp n j else vh_I h b j := rfl
end VH
/-- the place of a local that holds nothing yet; the script -/
abbrev vt_un : Value := .retAddr 0
abbrev vt_sc : Value := .retAddr 1
/-- is it a reference, null or the script -/
def vt_rv : Value → Bool
  | .ref _ => true
  | .null => true
  | .retAddr n => n == 1
  | _ => false
def vt_bin (a : Nat) (x y : Int32) : Int32 := match a with
  | 0 => x + y
  | 1 => x - y
  | 2 => x * y
  | 3 => x &&& y
  | 4 => x ||| y
  | 5 => x ^^^ y
  | 6 => x <<< (y &&& 31)
  | 7 => x >>> (y &&& 31)
  | _ => (x.toUInt32 >>> (y.toUInt32 &&& Int32.toUInt32 31)).toInt32
def vt_cmp (a : Nat) (x y : Int32) : Bool := match a with
  | 0 => decide (x = y)
  | 1 => decide (¬ x = y)
  | 2 => decide (x < y)
  | 3 => decide (y ≤ x)
  | 4 => decide (y < x)
  | _ => decide (x ≤ y)
/-- where an instruction that is no call and no return goes on -/
abbrev vt_N : Type := Option (Nat × List Value × List Value × vt_H)
def vn_iload (a b pc : Nat) (ls st : List Value) (h : vt_H) : vt_N := match ls[a]? with
  | some (.int x) => some (pc + b, ls, .int x :: st, h)
  | _ => none
def vn_aload (a b pc : Nat) (ls st : List Value) (h : vt_H) : vt_N := match ls[a]? with
  | some v => if vt_rv v = true then some (pc + b, ls, v :: st, h) else none
  | _ => none
def vn_istore (a b pc : Nat) (ls st : List Value) (h : vt_H) : vt_N := match st with
  | .int x :: t => if a < ls.length then some (pc + b, ls.set a (.int x), t, h) else none
  | _ => none
def vn_astore (a b pc : Nat) (ls st : List Value) (h : vt_H) : vt_N := match st with
  | v :: t => if a < ls.length ∧ vt_rv v = true then some (pc + b, ls.set a v, t, h) else none
  | _ => none
def vn_iinc (v : Int) (a pc : Nat) (ls st : List Value) (h : vt_H) : vt_N := match ls[a]? with
  | some (.int x) => some (pc + 3, ls.set a (.int (x + Int32.ofInt v)), st, h)
  | _ => none
def vn_bin (a pc : Nat) (ls st : List Value) (h : vt_H) : vt_N := match st with
  | .int y :: .int x :: t => some (pc + 1, ls, .int (vt_bin a x y) :: t, h)
  | _ => none
def vn_div (pc : Nat) (ls st : List Value) (h : vt_H) : vt_N := match st with
  | .int y :: .int x :: t => if y = 0 then none else some (pc + 1, ls, .int (x / y) :: t, h)
  | _ => none
def vn_rem (pc : Nat) (ls st : List Value) (h : vt_H) : vt_N := match st with
  | .int y :: .int x :: t => if y = 0 then none else some (pc + 1, ls, .int (x - x / y * y) :: t, h)
  | _ => none
def vn_neg (pc : Nat) (ls st : List Value) (h : vt_H) : vt_N := match st with
  | .int x :: t => some (pc + 1, ls, .int (-x) :: t, h)
  | _ => none
def vn_dup (pc : Nat) (ls st : List Value) (h : vt_H) : vt_N := match st with
  | v :: t => if v.category = 1 then some (pc + 1, ls, v :: v :: t, h) else none
  | _ => none
def vn_pop (pc : Nat) (ls st : List Value) (h : vt_H) : vt_N := match st with
  | v :: t => if v.category = 1 then some (pc + 1, ls, t, h) else none
  | _ => none
def vn_dupx1 (pc : Nat) (ls st : List Value) (h : vt_H) : vt_N := match st with
  | v :: w :: t => if v.category = 1 ∧ w.category = 1 then some (pc + 1, ls, v :: w :: v :: t, h) else none
  | _ => none
def vn_dupx2 (pc : Nat) (ls st : List Value) (h : vt_H) : vt_N := match st with
  | v :: w :: y :: t => if v.category = 1 ∧ w.category = 1 ∧ y.category = 1 then some (pc + 1, ls, v :: w :: y :: v :: t, h) else none
  | _ => none
def vn_dup2 (pc : Nat) (ls st : List Value) (h : vt_H) : vt_N := match st with
  | v :: w :: t => if v.category = 1 ∧ w.category = 1 then some (pc + 1, ls, v :: w :: v :: w :: t, h) else none
  | _ => none
def vn_if (a b c : Nat) (ls st : List Value) (h : vt_H) : vt_N := match st with
  | .int x :: t => some (if vt_cmp a x 0 = true then b else c, ls, t, h)
  | _ => none
def vn_icmp (a b c : Nat) (ls st : List Value) (h : vt_H) : vt_N := match st with
  | .int y :: .int x :: t => some (if vt_cmp a x y = true then b else c, ls, t, h)
  | _ => none
def vn_null (pc : Nat) (ls st : List Value) (h : vt_H) : vt_N := some (pc + 1, ls, .null :: st, h)
def vn_ifnull (b c pc : Nat) (ls st : List Value) (h : vt_H) : vt_N := match st with
  | .null :: t => some (b, ls, t, h)
  | .ref _ :: t => some (c, ls, t, h)
  | _ => none
def vn_getI (ci k pc : Nat) (ls st : List Value) (h : vt_H) : vt_N := match st with
  | .ref r :: t => if vh_K h r = 100 + ci then some (pc + 3, ls, .int (vh_I h r k) :: t, h) else none
  | _ => none
def vn_getR (ci k pc : Nat) (ls st : List Value) (h : vt_H) : vt_N := match st with
  | .ref r :: t => if vh_K h r = 100 + ci then some (pc + 3, ls, va_rf (vh_R h r k) :: t, h) else none
  | _ => none
def vn_putI (v : Int) (ci k pc : Nat) (ls st : List Value) (h : vt_H) : vt_N := match st with
  | .int x :: .ref r :: t => if vh_K h r = 100 + ci ∧ (v = 1 → x = 0 ∨ x = 1) then some (pc + 3, ls, t, vh_wI h r k x) else none
  | _ => none
def vn_putR (ci k pc : Nat) (ls st : List Value) (h : vt_H) : vt_N := match st with
  | .ref y :: .ref r :: t => if vh_K h r = 100 + ci then some (pc + 3, ls, t, vh_wR h r k (some y)) else none
  | .null :: .ref r :: t => if vh_K h r = 100 + ci then some (pc + 3, ls, t, vh_wR h r k none) else none
  | _ => none
def vn_iald (pc : Nat) (ls st : List Value) (h : vt_H) : vt_N := match st with
  | .int i :: .ref r :: t => if vh_K h r = 1 ∧ ¬ (i < 0 ∨ vh_Z h r ≤ i.toNatClampNeg) then some (pc + 1, ls, .int (vh_I h r i.toNatClampNeg) :: t, h) else none
  | .int i :: .retAddr 1 :: t => if ¬ (i < 0 ∨ vh_L h ≤ i.toNatClampNeg) then some (pc + 1, ls, .int (vh_X h i.toNatClampNeg) :: t, h) else none
  | _ => none
def vn_iast (pc : Nat) (ls st : List Value) (h : vt_H) : vt_N := match st with
  | .int x :: .int i :: .ref r :: t => if vh_K h r = 1 ∧ ¬ (i < 0 ∨ vh_Z h r ≤ i.toNatClampNeg) then some (pc + 1, ls, t, vh_wI h r i.toNatClampNeg x) else none
  | _ => none
def vn_aald (a pc : Nat) (ls st : List Value) (h : vt_H) : vt_N := match st with
  | .int i :: .ref r :: t => if vh_K h r = a ∧ ¬ (i < 0 ∨ vh_Z h r ≤ i.toNatClampNeg) then some (pc + 1, ls, va_rf (vh_R h r i.toNatClampNeg) :: t, h) else none
  | _ => none
def vn_aast (a b pc : Nat) (ls st : List Value) (h : vt_H) : vt_N := match st with
  | .ref y :: .int i :: .ref r :: t => if (vh_K h r = a ∧ vh_K h y = b) ∧ ¬ (i < 0 ∨ vh_Z h r ≤ i.toNatClampNeg) then some (pc + 1, ls, t, vh_wR h r i.toNatClampNeg (some y)) else none
  | _ => none
def vn_alen (pc : Nat) (ls st : List Value) (h : vt_H) : vt_N := match st with
  | .ref r :: t => if 0 < vh_K h r ∧ vh_K h r < 100 then some (pc + 1, ls, .int (Int32.ofNat (vh_Z h r)) :: t, h) else none
  | .retAddr 1 :: t => some (pc + 1, ls, .int (Int32.ofNat (vh_L h)) :: t, h)
  | _ => none
def vn_newa (k len pc : Nat) (ls st : List Value) (h : vt_H) : vt_N := match st with
  | .int i :: t => if ¬ i < 0 ∧ i.toNatClampNeg ≤ 100000000 then some (pc + len, ls, .ref (vh_n h) :: t, vh_new h k i.toNatClampNeg i.toNatClampNeg) else none
  | _ => none
def vn_new (ci w pc : Nat) (ls st : List Value) (h : vt_H) : vt_N := some (pc + 3, ls, .ref (vh_n h) :: st, vh_new h (100 + ci) 0 w)
def vn_copy (pc : Nat) (ls st : List Value) (h : vt_H) : vt_N := match st with
  | .int n :: .int dp :: .ref a :: .int sp :: .ref a0 :: t => if (vh_K h a = 1 ∧ vh_K h a0 = 1 ∧ t.length ≤ 8) ∧ ¬ sp < 0 ∧ ¬ dp < 0 ∧ ¬ n < 0 ∧ sp.toNatClampNeg + n.toNatClampNeg ≤ vh_Z h a0 ∧ dp.toNatClampNeg + n.toNatClampNeg ≤ vh_Z h a then some (pc + 3, ls, t, vh_cp h a0 sp.toNatClampNeg a dp.toNatClampNeg n.toNatClampNeg) else none
  | _ => none
def vn_oinit (pc : Nat) (ls st : List Value) (h : vt_H) : vt_N := match st with
  | .ref _ :: t => if t.length ≤ 8 then some (pc + 3, ls, t, h) else none
  | _ => none
def vn_zald (pc : Nat) (ls st : List Value) (h : vt_H) : vt_N := match st with
  | .int i :: .ref r :: t => if vh_K h r = 4 ∧ ¬ (i < 0 ∨ vh_Z h r ≤ i.toNatClampNeg) then some (pc + 1, ls, .int (vh_I h r i.toNatClampNeg) :: t, h) else none
  | _ => none
def vn_zast (pc : Nat) (ls st : List Value) (h : vt_H) : vt_N := match st with
  | .int x :: .int i :: .ref r :: t => if (vh_K h r = 4 ∧ (x = 0 ∨ x = 1)) ∧ ¬ (i < 0 ∨ vh_Z h r ≤ i.toNatClampNeg) then some (pc + 1, ls, t, vh_wI h r i.toNatClampNeg x) else none
  | _ => none
/-- the law's switch, from 0 on -/
def vn_sw (a b : Nat) (ls st : List Value) (h : vt_H) : vt_N := match st with
  | .int x :: t => some (if x < 0 ∨ nI a ≤ x then b else vt_sw.getD x.toNatClampNeg 0, ls, t, h)
  | _ => none
/-- new int[n][k]: the outer array, then n inner ones -/
def vh_mul (h : vt_H) (n k : Nat) : vt_H := ((vh_n h + (1 + n), vh_u h + (n + n * k)), (fun b => if b < vh_n h then vh_K h b else if b = vh_n h then 3 else if b ≤ vh_n h + n then 1 else vh_K h b, fun b => if b < vh_n h then vh_Z h b else if b = vh_n h then n else if b ≤ vh_n h + n then k else vh_Z h b), (fun b j => if b < vh_n h ∨ vh_n h + n < b then vh_I h b j else 0, fun b j => if b < vh_n h ∨ vh_n h < b then vh_R h b j else if j < n then some (vh_n h + 1 + j) else none), h.2.2.2)
def vn_multi (pc : Nat) (ls st : List Value) (h : vt_H) : vt_N := match st with
  | .int k :: .int n :: t => if (¬ k < 0 ∧ k.toNatClampNeg ≤ 1000000) ∧ ¬ n < 0 ∧ n.toNatClampNeg ≤ 1000000 then some (pc + 4, ls, .ref (vh_n h) :: t, vh_mul h n.toNatClampNeg k.toNatClampNeg) else none
  | _ => none
def vn_max (pc : Nat) (ls st : List Value) (h : vt_H) : vt_N := match st with
  | .int y :: .int x :: t => if t.length ≤ 8 then some (pc + 3, ls, .int (if x < y then y else x) :: t, h) else none
  | _ => none
/-- one instruction that is no call and no return -/
def vt_nx (i : vt_I) (pc : Nat) (ls st : List Value) (h : vt_H) : vt_N := match i with
  | (op, _, v, a, b, _, _) => match op with
    | 0 => some (pc + a, ls, .int (Int32.ofInt v) :: st, h)
    | 1 => vn_iload a b pc ls st h
    | 2 => vn_aload a b pc ls st h
    | 3 => vn_istore a b pc ls st h
    | 4 => vn_astore a b pc ls st h
    | 5 => vn_iinc v a pc ls st h
    | 6 => vn_bin a pc ls st h
    | 7 => vn_div pc ls st h
    | 8 => vn_rem pc ls st h
    | 9 => vn_neg pc ls st h
    | 10 => vn_dup pc ls st h
    | 11 => vn_pop pc ls st h
    | 12 => vn_dupx1 pc ls st h
    | 13 => vn_dupx2 pc ls st h
    | 14 => vn_dup2 pc ls st h
    | 15 => vn_if a b (pc + 3) ls st h
    | 16 => vn_icmp a b (pc + 3) ls st h
    | 17 => some (b, ls, st, h)
    | 18 => vn_ifnull b (pc + 3) pc ls st h
    | 19 => vn_ifnull (pc + 3) b pc ls st h
    | 20 => vn_null pc ls st h
    | 21 => vn_getI a b pc ls st h
    | 22 => vn_getR a b pc ls st h
    | 23 => vn_putI v a b pc ls st h
    | 24 => vn_putR a b pc ls st h
    | 25 => vn_iald pc ls st h
    | 26 => vn_iast pc ls st h
    | 27 => vn_aald a pc ls st h
    | 28 => vn_aast a b pc ls st h
    | 29 => vn_alen pc ls st h
    | 30 => vn_newa 1 2 pc ls st h
    | 31 => vn_newa a 3 pc ls st h
    | 32 => vn_new a b pc ls st h
    | 33 => vn_multi pc ls st h
    | 34 => vn_copy pc ls st h
    | 35 => vn_oinit pc ls st h
    | 36 => vn_zald pc ls st h
    | 37 => vn_zast pc ls st h
    | 38 => vn_sw a b ls st h
    | 39 => vn_newa 4 2 pc ls st h
    | 41 => vn_max pc ls st h
    | _ => none
def vt_i (m pc : Nat) : vt_I := ((vt_code m).lookup pc).getD (999, 0, 0, 0, 0, 0, 0)
abbrev vt_Q : Type := Option Value → vt_H → Prop
abbrev vt_C : Type := Nat → Nat → List Value → List Value → vt_H → vt_Q → Prop
/-- the receiver of a call (the argument below all others) is an object of the class, where the call has one -/
def vt_rcv (k : Int) (b : Nat) (st : List Value) (h : vt_H) : Prop := if k = 0 then True else ∃ r, st[b - 1]? = some (.ref r) ∧ (vh_K h r : Int) = k
/-- what a method may give back -/
def vt_back (m : Nat) (st : List Value) (h : vt_H) (Q : vt_Q) : Prop := match st with
  | [.int x] => ((vt_m m).2.2.2 = some .boolean → x = 0 ∨ x = 1) ∧ Q (some (.int x)) h
  | _ => False
def vt_backR (st : List Value) (h : vt_H) (Q : vt_Q) : Prop := match st with
  | [v] => vt_rv v = true ∧ Q (some v) h
  | _ => False
def vt_step (P : vt_C) : vt_C := fun m pc ls st h Q => match vt_i m pc with
  | (op, w, v, a, b, c, e) => match op with
    | 40 => (b ≤ st.length ∧ (st.drop b).length ≤ 8 ∧ (∀ x ∈ st.drop b, x.category = 1) ∧ (∀ x ∈ st.take b, x.category = 1)) ∧ vt_rcv v b st h ∧ P a 0 ((st.take b).reverse ++ List.replicate ((vt_m a).2.2.1 - b) vt_un) [] h (fun v h' => P m (pc + 3) ls (v.toList ++ st.drop b) h' Q)
    | 50 => vt_back m st h Q
    | 51 => st = [] ∧ Q none h
    | 52 => vt_backR st h Q
    | _ => ∃ pc' ls' st' h', vt_nx (op, w, v, a, b, c, e) pc ls st h = some (pc', ls', st', h') ∧ P m pc' ls' st' h' Q
def vt_mono (P : vt_C) : Prop := ∀ m pc ls st h (Q1 Q2 : vt_Q), (∀ v h', Q1 v h' → Q2 v h') → P m pc ls st h Q1 → P m pc ls st h Q2
theorem vt_step_mono {P P' : vt_C} (hP : ∀ m pc ls st h Q, P m pc ls st h Q → P' m pc ls st h Q) (hm : vt_mono P') {m pc : Nat} {ls st : List Value} {h : vt_H} {Q1 Q2 : vt_Q} (hQ : ∀ v h', Q1 v h' → Q2 v h') : vt_step P m pc ls st h Q1 → vt_step P' m pc ls st h Q2 := by
  unfold vt_step
  generalize vt_i m pc = i
  obtain ⟨op, w, v, a, b, c, e⟩ := i
  dsimp only
  split
  · rintro ⟨h2, h3, h4⟩
    exact ⟨h2, h3, hm _ _ _ _ _ _ _ (fun v h' q => hm _ _ _ _ _ _ _ hQ (hP _ _ _ _ _ _ q)) (hP _ _ _ _ _ _ h4)⟩
  · unfold vt_back
    split
    · exact fun q => ⟨q.1, hQ _ _ q.2⟩
    · exact id
  · exact fun q => ⟨q.1, hQ _ _ q.2⟩
  · unfold vt_backR
    split
    · exact fun q => ⟨q.1, hQ _ _ q.2⟩
    · exact id
  · rintro ⟨pc', ls', st', h', h1, h2⟩
    exact ⟨pc', ls', st', h', h1, hm _ _ _ _ _ _ _ hQ (hP _ _ _ _ _ _ h2)⟩
/-- from here the small machine comes to an end with Q -/
def Wp (m pc : Nat) (ls st : List Value) (h : vt_H) (Q : vt_Q) : Prop := ∀ P : vt_C, vt_mono P → (∀ m pc ls st h Q, vt_step P m pc ls st h Q → P m pc ls st h Q) → P m pc ls st h Q
theorem Wp_mono : vt_mono Wp := fun m pc ls st h Q1 Q2 hQ w P hm hc => hm _ _ _ _ _ _ _ hQ (w P hm hc)
theorem Wp_of {m pc : Nat} {ls st : List Value} {h : vt_H} {Q : vt_Q} (w : vt_step Wp m pc ls st h Q) : Wp m pc ls st h Q := fun P hm hc => hc _ _ _ _ _ _ (vt_step_mono (fun _ _ _ _ _ _ q => q P hm hc) hm (fun _ _ q => q) w)
theorem Wp_iff {m pc : Nat} {ls st : List Value} {h : vt_H} {Q : vt_Q} : Wp m pc ls st h Q ↔ vt_step Wp m pc ls st h Q :=
  ⟨fun w => w (vt_step Wp) (fun _ _ _ _ _ _ _ hQ q => vt_step_mono (fun _ _ _ _ _ _ q => q) Wp_mono hQ q) (fun _ _ _ _ _ _ q => vt_step_mono (fun _ _ _ _ _ _ q => Wp_of q) Wp_mono (fun _ _ q => q) q), Wp_of⟩
theorem Wp.mono {m pc : Nat} {ls st : List Value} {h : vt_H} {Q1 Q2 : vt_Q} (w : Wp m pc ls st h Q1) (hQ : ∀ v h', Q1 v h' → Q2 v h') : Wp m pc ls st h Q2 := Wp_mono _ _ _ _ _ _ _ hQ w
/-- there is one end -/
theorem Wp_one {m pc : Nat} {ls st : List Value} {h : vt_H} {Q : vt_Q} (w : Wp m pc ls st h Q) : ∃ v h', Q v h' ∧ Wp m pc ls st h (fun v1 h1 => v1 = v ∧ h1 = h') := by
  refine w (fun m pc ls st h Q => ∃ v h', Q v h' ∧ Wp m pc ls st h (fun v1 h1 => v1 = v ∧ h1 = h')) ?_ ?_
  · rintro m pc ls st h Q1 Q2 hQ ⟨v, h', q, w⟩
    exact ⟨v, h', hQ _ _ q, w⟩
  · intro m pc ls st h Q
    unfold vt_step
    intro hh
    suffices g : ∃ v h', Q v h' ∧ vt_step Wp m pc ls st h (fun v1 h1 => v1 = v ∧ h1 = h') by
      obtain ⟨v, h', q, s⟩ := g
      exact ⟨v, h', q, Wp_of s⟩
    unfold vt_step
    revert hh
    generalize vt_i m pc = i
    obtain ⟨op, w, v, a, b, c, e⟩ := i
    dsimp only
    split
    · rintro ⟨h2, h3, v1, h1', ⟨v2, h2', q, w2⟩, w1⟩
      exact ⟨v2, h2', q, h2, h3, w1.mono (fun v h' e => by obtain ⟨rfl, rfl⟩ := e; exact w2)⟩
    · unfold vt_back
      split
      · exact fun q => ⟨_, _, q.2, q.1, rfl, rfl⟩
      · exact fun q => q.elim
    · exact fun q => ⟨_, _, q.2, q.1, rfl, rfl⟩
    · unfold vt_backR
      split
      · exact fun q => ⟨_, _, q.2, q.1, rfl, rfl⟩
      · exact fun q => q.elim
    · rintro ⟨pc', ls', st', h', h1, v2, h2', q, w2⟩
      exact ⟨v2, h2', q, pc', ls', st', h', h1, w2⟩
theorem Wp_and {m pc : Nat} {ls st : List Value} {h : vt_H} {Q1 Q2 : vt_Q} (w1 : Wp m pc ls st h Q1) (w2 : Wp m pc ls st h Q2) : Wp m pc ls st h (fun v h' => Q1 v h' ∧ Q2 v h') := by
  revert Q2
  refine w1 (fun m pc ls st h Q1 => ∀ {Q2 : vt_Q}, Wp m pc ls st h Q2 → Wp m pc ls st h (fun v h' => Q1 v h' ∧ Q2 v h')) ?_ ?_
  · intro m pc ls st h Q1 Q2 hQ w Q3 w3
    exact (w w3).mono (fun v h' q => ⟨hQ _ _ q.1, q.2⟩)
  · intro m pc ls st h Q1 hh Q2 w2
    have w2 := Wp_iff.mp w2
    refine Wp_of ?_
    revert hh w2
    unfold vt_step
    generalize vt_i m pc = i
    obtain ⟨op, w, v, a, b, c, e⟩ := i
    dsimp only
    split
    · rintro ⟨h2, h3, h4⟩ ⟨k2, k3, k4⟩
      exact ⟨h2, h3, (h4 k4).mono (fun v h' q => q.1 q.2)⟩
    · unfold vt_back
      split
      · exact fun q r => ⟨q.1, q.2, r.2⟩
      · exact fun q => q.elim
    · exact fun q r => ⟨q.1, q.2, r.2⟩
    · unfold vt_backR
      split
      · exact fun q r => ⟨q.1, q.2, r.2⟩
      · exact fun q => q.elim
    · rintro ⟨pc', ls', st', h', h1, h2⟩ ⟨pc2, ls2, st2, h2', k1, k2⟩
      rw [h1] at k1
      cases k1
      exact ⟨_, _, _, _, h1, h2 k2⟩
/-- a run whose end is known rewrites -/
theorem Wp_eq {m pc : Nat} {ls st : List Value} {h : vt_H} {v : Option Value} {h' : vt_H} (w : Wp m pc ls st h (fun v1 h1 => v1 = v ∧ h1 = h')) (Q : vt_Q) : Wp m pc ls st h Q ↔ Q v h' := by
  refine ⟨fun w2 => ?_, fun q => w.mono (fun _ _ e => by obtain ⟨rfl, rfl⟩ := e; exact q)⟩
  obtain ⟨v3, h3, q3, -⟩ := Wp_one (Wp_and w w2)
  obtain ⟨⟨rfl, rfl⟩, q⟩ := q3
  exact q
theorem Wp_eq' {m pc : Nat} {ls st : List Value} {h : vt_H} {v : Option Value} {h' : vt_H} (w : ∀ Q : vt_Q, Q v h' → Wp m pc ls st h Q) (Q : vt_Q) : Wp m pc ls st h Q ↔ Q v h' := Wp_eq (w _ ⟨rfl, rfl⟩) Q
-- ===== ROWS THAT REWRITE: a step of the small machine as an equivalence =====
section WR
variable {m pc : Nat} {i : vt_I} {ls st ls' st' : List Value} {h h' : vt_H} {Q : vt_Q} {pc' p1 p2 : Nat}
def vt_pl (i : vt_I) : Bool := !(i.1 == 40) && !(i.1 == 50) && !(i.1 == 51) && !(i.1 == 52)
theorem w_step (hi : vt_i m pc = i) (hp : vt_pl i = true) : Wp m pc ls st h Q ↔ ∃ pc' ls' st' h', vt_nx i pc ls st h = some (pc', ls', st', h') ∧ Wp m pc' ls' st' h' Q := by
  rw [Wp_iff]
  unfold vt_step
  rw [hi]
  obtain ⟨op, w, v, a, b, c, e⟩ := i
  dsimp only
  split
  · simp [vt_pl] at hp
  · simp [vt_pl] at hp
  · simp [vt_pl] at hp
  · simp [vt_pl] at hp
  · exact Iff.rfl
theorem w_nx (hi : vt_i m pc = i) (hp : vt_pl i = true) (hn : vt_nx i pc ls st h = some (pc', ls', st', h')) : Wp m pc ls st h Q ↔ Wp m pc' ls' st' h' Q := by
  rw [w_step hi hp]
  constructor
  · rintro ⟨a1, a2, a3, a4, k1, k2⟩
    rw [hn] at k1
    cases k1
    exact k2
  · exact fun k => ⟨_, _, _, _, hn, k⟩
theorem w_g {c : Prop} [Decidable c] (hi : vt_i m pc = i) (hp : vt_pl i = true) (hn : vt_nx i pc ls st h = if c then some (pc', ls', st', h') else none) : Wp m pc ls st h Q ↔ c ∧ Wp m pc' ls' st' h' Q := by
  rw [w_step hi hp]
  constructor
  · rintro ⟨a1, a2, a3, a4, k1, k2⟩
    rw [hn] at k1
    by_cases hc : c
    · rw [if_pos hc] at k1
      cases k1
      exact ⟨hc, k2⟩
    · rw [if_neg hc] at k1
      cases k1
  · rintro ⟨hc, k⟩
    exact ⟨_, _, _, _, by rw [hn, if_pos hc], k⟩
theorem w_br {c : Prop} [Decidable c] (hi : vt_i m pc = i) (hp : vt_pl i = true) (hn : vt_nx i pc ls st h = some (if decide c = true then p1 else p2, ls', st', h')) : Wp m pc ls st h Q ↔ if c then Wp m p1 ls' st' h' Q else Wp m p2 ls' st' h' Q := by
  rw [w_nx hi hp hn]
  by_cases hc : c
  · rw [if_pos hc, if_pos (decide_eq_true hc)]
  · rw [if_neg hc, if_neg (by simpa using hc)]
theorem w_call {w : Nat} {v : Int} {a b c e : Nat} (hi : vt_i m pc = (40, w, v, a, b, c, e)) (hb : b ≤ st.length) (h8 : (st.drop b).length ≤ 8) (h1 : ∀ x ∈ st.drop b, x.category = 1) (h2 : ∀ x ∈ st.take b, x.category = 1) : Wp m pc ls st h Q ↔ vt_rcv v b st h ∧ Wp a 0 ((st.take b).reverse ++ List.replicate ((vt_m a).2.2.1 - b) vt_un) [] h (fun v h' => Wp m (pc + 3) ls (v.toList ++ st.drop b) h' Q) := by
  rw [Wp_iff]
  unfold vt_step
  rw [hi]
  dsimp only
  constructor
  · rintro ⟨-, k2, k3⟩
    exact ⟨k2, k3⟩
  · rintro ⟨k2, k3⟩
    exact ⟨⟨hb, h8, h1, h2⟩, k2, k3⟩
/-- a call without a receiver, and one with a receiver of kind k -/
theorem w_callS {w : Nat} {a b c e : Nat} {as : List Value} (hi : vt_i m pc = (40, w, 0, a, b, c, e)) (hb : decide (b ≤ st.length ∧ (st.drop b).length ≤ 8) = true) (h1 : ∀ x ∈ st, x.category = 1) (ha : (st.take b).reverse ++ List.replicate ((vt_m a).2.2.1 - b) vt_un = as) (hd : st.drop b = st') (hp : pc + 3 = pc') : Wp m pc ls st h Q ↔ Wp a 0 as [] h (fun v h' => Wp m pc' ls (v.toList ++ st') h' Q) := by
  subst ha; subst hd; subst hp
  have hb := of_decide_eq_true hb
  rw [w_call hi hb.1 hb.2 (fun x hx => h1 x (List.mem_of_mem_drop hx)) (fun x hx => h1 x (List.mem_of_mem_take hx))]
  simp [vt_rcv]
theorem w_callV {w k : Nat} {a b c e r : Nat} {as : List Value} (hi : vt_i m pc = (40, w, (k : Int), a, b, c, e)) (hk : decide (k ≠ 0) = true) (hr : st[b - 1]? = some (.ref r)) (hb : decide (b ≤ st.length ∧ (st.drop b).length ≤ 8) = true) (h1 : ∀ x ∈ st, x.category = 1) (ha : (st.take b).reverse ++ List.replicate ((vt_m a).2.2.1 - b) vt_un = as) (hd : st.drop b = st') (hp : pc + 3 = pc') : Wp m pc ls st h Q ↔ vh_K h r = k ∧ Wp a 0 as [] h (fun v h' => Wp m pc' ls (v.toList ++ st') h' Q) := by
  subst ha; subst hd; subst hp
  have hb := of_decide_eq_true hb
  have hk := of_decide_eq_true hk
  rw [w_call hi hb.1 hb.2 (fun x hx => h1 x (List.mem_of_mem_drop hx)) (fun x hx => h1 x (List.mem_of_mem_take hx))]
  refine and_congr_left (fun _ => ?_)
  unfold vt_rcv
  rw [if_neg (by omega), hr]
  constructor
  · rintro ⟨r', e1, e2⟩
    cases e1
    omega
  · intro q
    exact ⟨r, rfl, by omega⟩
theorem w_iret {w : Nat} {v : Int} {a b c e : Nat} {x : Int32} (hi : vt_i m pc = (50, w, v, a, b, c, e)) (hb : decide ((vt_m m).2.2.2 = some .boolean) = false) : Wp m pc ls [.int x] h Q ↔ Q (some (.int x)) h := by
  rw [Wp_iff]
  unfold vt_step
  rw [hi]
  dsimp only [vt_back]
  have hb := of_decide_eq_false hb
  exact ⟨fun q => q.2, fun q => ⟨fun z => absurd z hb, q⟩⟩
theorem w_zret {w : Nat} {v : Int} {a b c e : Nat} {x : Int32} (hi : vt_i m pc = (50, w, v, a, b, c, e)) (hb : decide ((vt_m m).2.2.2 = some .boolean) = true) : Wp m pc ls [.int x] h Q ↔ (x = 0 ∨ x = 1) ∧ Q (some (.int x)) h := by
  rw [Wp_iff]
  unfold vt_step
  rw [hi]
  dsimp only [vt_back]
  have hb := of_decide_eq_true hb
  exact ⟨fun q => ⟨q.1 hb, q.2⟩, fun q => ⟨fun _ => q.1, q.2⟩⟩
theorem w_vret {w : Nat} {v : Int} {a b c e : Nat} (hi : vt_i m pc = (51, w, v, a, b, c, e)) : Wp m pc ls [] h Q ↔ Q none h := by
  rw [Wp_iff]
  unfold vt_step
  rw [hi]
  dsimp only
  exact ⟨fun q => q.2, fun q => ⟨rfl, q⟩⟩
theorem w_aret {w : Nat} {v : Int} {a b c e r : Nat} (hi : vt_i m pc = (52, w, v, a, b, c, e)) : Wp m pc ls [.ref r] h Q ↔ Q (some (.ref r)) h := by
  rw [Wp_iff]
  unfold vt_step
  rw [hi]
  dsimp only [vt_backR]
  exact ⟨fun q => q.2, fun q => ⟨rfl, q⟩⟩
end WR
