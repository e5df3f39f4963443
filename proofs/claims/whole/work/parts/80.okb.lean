-- ===== THE SMALL MACHINE AND THE MACHINE: each step of the small one is a step of the other =====
def vt_cd (a : Nat) : ClassFile.Cond := match a with
  | 0 => .eq
  | 1 => .ne
  | 2 => .lt
  | 3 => .ge
  | 4 => .gt
  | _ => .le
def vt_dc (m pc : Nat) (x : Instr) (n : Nat) : Bool := decide (decode (vt_m m).2.1 pc = .ok (x, n))
def vt_wd (e : Nat) (w : Jvm.Cond) : Bool := decide (lw_tbl[e]? = some w) && goodWord w
theorem vt_wd_of {e : Nat} {w : Jvm.Cond} (hd : vt_wd e w = true) : w ∈ vt_T := by
  unfold vt_wd at hd
  rw [Bool.and_eq_true, decide_eq_true_eq] at hd
  exact List.mem_filter.mpr ⟨List.mem_of_getElem? hd.1, hd.2⟩
def vt_own (m : Nat) : String := (vt_m m).1.cls
def vt_binI (a : Nat) : Instr := match a with
  | 0 => .iadd
  | 1 => .isub
  | 2 => .imul
  | 3 => .iand
  | 4 => .ior
  | 5 => .ixor
  | 6 => .ishl
  | 7 => .ishr
  | _ => .iushr
/-- the words of a method that is called -/
def vt_okM (a : Nat) : Bool := match vt_mx a with
  | (k, n, _, p2, p3, p4) => (vt_wd p2 (.initialized (vt_m a).1.cls) && (decide (((vt_m a).1.cls ≠ "java/lang/invoke/MethodHandle" ∧ (vt_m a).1.cls ≠ "java/lang/invoke/VarHandle" ∧ (parseMethodDescriptor (vt_m a).1.desc).map (fun d => d.parameters.length) = some n) ∧ plainName (vt_m a).1.cls = true ∧ (vt_m a).2.2.1 ≤ 20) && (match k with
    | 0 => vt_wd p3 (.static (vt_m a).1)
    | 1 => vt_wd p3 (.instanceMethod (vt_m a).1) && vt_wd p4 (.selects (vt_m a).1.cls (vt_m a).1 (vt_m a).1)
    | 2 => vt_wd p3 (.instanceMethod (vt_m a).1) && decide ((vt_m a).1.name = "<init>" ∧ (vt_m a).2.2.2 = none)
    | _ => false)))
def vt_okV (v : Int) (a : Nat) : Bool := decide (100 ≤ v) && (match vt_cl[(v - 100).toNat]? with
  | some (C, _, _) => decide (C = (vt_m a).1.cls)
  | none => false)
/-- a field is read -/
def vt_okG (m pc a b c e : Nat) : Bool := match vt_cl[a]? with
  | some (_, T, N) => decide (b < N) && (vt_dc m pc (.getfield c) 3 && vt_wd e (.fieldLink (vt_own m) c (T b).1 (T b).2.1 (T b).2.2.1))
  | none => false
/-- a field is written -/
def vt_okP (m pc w a b c e : Nat) : Bool := match vt_cl[a]? with
  | some (_, T, N) => decide (b < N) && (vt_dc m pc (.putfield c) 3 && (match w with
    | 0 => vt_wd e (.fieldLink (vt_own m) c (T b).1 (T b).2.1 (T b).2.2.1) && decide ((T b).2.2.2 = false)
    | _ => vt_wd e (.fieldLink (vt_own m) c (T b).1 (T b).2.1 (T b).2.2.1) && decide ((T b).2.2.2 = true ∧ (vt_m m).1.name = "<init>" ∧ (T b).1 = vt_own m)))
  | none => false
/-- an array of objects takes an object; one of rows a row -/
def vt_okS (a b : Nat) : Bool := decide (a = 3 ∧ b = 1) || (decide (a = 2 ∧ b = 103))
def vt_okA (m a c e : Nat) : Bool := decide (a = 2) && vt_wd e (.classLink (vt_own m) c "RuleEngine$Rule")
def vt_okN (m a b c e : Nat) : Bool := match vt_cl[a]? with
  | some (C, _, N) => decide (b = N) && vt_wd e (.classLink (vt_own m) c C)
  | none => false
/-- a call: w 0 or, of a nest mate, 1 -/
def vt_okC (m pc w : Nat) (v : Int) (a b c e : Nat) : Bool :=
  decide (vt_dp a < vt_dp m ∧ 0 < a ∧ a < 117 ∧ a ≠ 41 ∧ b ≤ (vt_m a).2.2.1) && ((match w with
    | 0 => vt_wd e (.methodLink (vt_own m) c (vt_m a).1)
    | _ => decide (vt_NL[e]? = some (vt_own m, c, (vt_m a).1))) && (match (vt_mx a).1 with
    | 0 => vt_dc m pc (.invokestatic c) 3 && decide (v = 0 ∧ b = (vt_mx a).2.1)
    | 1 => vt_dc m pc (.invokevirtual c) 3 && (vt_okV v a && decide (b = (vt_mx a).2.1 + 1))
    | _ => vt_dc m pc (.invokespecial c) 3 && decide (100 ≤ v ∧ b = (vt_mx a).2.1 + 1)))
/-- the law's switch -/
def vt_okW (m pc a b c : Nat) : Bool := decide (a = 15) && vt_dc m pc (.tableswitch ((b : Int) - (pc : Int)) 0 14 (vt_sw.map (fun t : Nat => (t : Int) - (pc : Int))).toArray) c
/-- what a row of the code table must be true of -/
def vt_okb (m pc : Nat) (i : vt_I) : Bool := match i with
  | (op, w, v, a, b, c, e) => match op with
    | 0 => match w with
      | 0 => decide (a = 1) && vt_dc m pc (.iconst v) 1
      | 1 => decide (a = 2) && (vt_dc m pc (.bipush v) 2 && decide ((Int8.ofInt v).toInt32 = Int32.ofInt v))
      | 2 => decide (a = 3) && (vt_dc m pc (.sipush v) 3 && decide ((Int16.ofInt v).toInt32 = Int32.ofInt v))
      | 3 => decide (a = 2) && (vt_dc m pc (.ldc b) 2 && vt_wd e (.constant (vt_own m) b (Int32.ofInt v)))
      | _ => decide (a = 3) && (vt_dc m pc (.ldc_w b) 3 && vt_wd e (.constant (vt_own m) b (Int32.ofInt v)))
    | 1 => match w with
      | 0 => decide (a < 4 ∧ b = 1) && vt_dc m pc (.iload_n (Fin.ofNat 4 a)) 1
      | _ => decide (b = 2) && vt_dc m pc (.iload a) 2
    | 2 => match w with
      | 0 => decide (a < 4 ∧ b = 1) && vt_dc m pc (.aload_n (Fin.ofNat 4 a)) 1
      | _ => decide (b = 2) && vt_dc m pc (.aload a) 2
    | 3 => match w with
      | 0 => decide (a < 4 ∧ b = 1) && vt_dc m pc (.istore_n (Fin.ofNat 4 a)) 1
      | _ => decide (b = 2) && vt_dc m pc (.istore a) 2
    | 4 => match w with
      | 0 => decide (a < 4 ∧ b = 1) && vt_dc m pc (.astore_n (Fin.ofNat 4 a)) 1
      | _ => decide (b = 2) && vt_dc m pc (.astore a) 2
    | 5 => vt_dc m pc (.iinc a v) 3
    | 6 => vt_dc m pc (vt_binI a) 1
    | 7 => vt_dc m pc .idiv 1
    | 8 => vt_dc m pc .irem 1
    | 9 => vt_dc m pc .ineg 1
    | 10 => vt_dc m pc .dup 1
    | 11 => vt_dc m pc .pop 1
    | 12 => vt_dc m pc .dup_x1 1
    | 13 => vt_dc m pc .dup_x2 1
    | 14 => vt_dc m pc .dup2 1
    | 15 => vt_dc m pc (.ifCond (vt_cd a) ((b : Int) - (pc : Int))) 3
    | 16 => vt_dc m pc (.if_icmp (vt_cd a) ((b : Int) - (pc : Int))) 3
    | 17 => vt_dc m pc (.goto ((b : Int) - (pc : Int))) 3
    | 18 => vt_dc m pc (.ifnull ((b : Int) - (pc : Int))) 3
    | 19 => vt_dc m pc (.ifnonnull ((b : Int) - (pc : Int))) 3
    | 20 => vt_dc m pc .aconst_null 1
    | 21 => vt_okG m pc a b c e && decide (vt_ref a b = false)
    | 22 => vt_okG m pc a b c e && decide (vt_ref a b = true)
    | 23 => vt_okP m pc w a b c e && (decide (vt_ref a b = false) && (decide (v = 0 ∧ vt_ty a b = .int) || decide (v = 1 ∧ vt_ty a b = .boolean)))
    | 24 => vt_okP m pc w a b c e && (decide (vt_ref a b = true) && vt_isobj (vt_ty a b))
    | 25 => vt_dc m pc .iaload 1
    | 26 => vt_dc m pc .iastore 1
    | 27 => vt_dc m pc .aaload 1 && decide (1 < a ∧ a < 100 ∧ a ≠ 4)
    | 28 => vt_dc m pc .aastore 1 && vt_okS a b
    | 29 => vt_dc m pc .arraylength 1
    | 30 => vt_dc m pc (.newarray .int) 2
    | 31 => vt_dc m pc (.anewarray c) 3 && vt_okA m a c e
    | 32 => vt_dc m pc (.new c) 3 && vt_okN m a b c e
    | 33 => vt_dc m pc (.multianewarray c 2) 4 && vt_wd e (.classLink (vt_own m) c "[[I")
    | 34 => vt_dc m pc (.invokestatic c) 3 && vt_wd e (.methodLink (vt_own m) c arraycopyName)
    | 35 => vt_dc m pc (.invokespecial c) 3 && vt_wd e (.methodLink (vt_own m) c Lib.objectInit)
    | 36 => vt_dc m pc .baload 1
    | 37 => vt_dc m pc .bastore 1
    | 38 => vt_okW m pc a b c
    | 39 => vt_dc m pc (.newarray .boolean) 2
    | 40 => vt_okC m pc w v a b c e
    | 41 => vt_dc m pc (.invokestatic c) 3 && vt_wd e (.methodLink (vt_own m) c Lib.Math.max.name)
    | 50 => vt_dc m pc .ireturn 1 && (decide ((vt_m m).2.2.2 = some .int) || decide ((vt_m m).2.2.2 = some .boolean))
    | 51 => vt_dc m pc .return_ 1 && decide ((vt_m m).2.2.2 = none)
    | 52 => vt_dc m pc .areturn 1 && (match (vt_m m).2.2.2 with | some ty => vt_isobj ty | none => false)
    | _ => false
theorem vt_lkm {β : Type} {l : List (Nat × β)} {k : Nat} {b : β} (h : l.lookup k = some b) : (k, b) ∈ l := by
  obtain ⟨l1, l2, e, -⟩ := List.lookup_eq_some_iff.mp h
  rw [e]
  simp
theorem vt_T_good : ∀ w ∈ vt_T, (w.onTables && w.keeps) = true ∨ ∃ ty, w = Jvm.Cond.arrayClass ty := fun w hw => good_of_word (List.mem_filter.mp hw).2
theorem vt_clw0 : ∀ w ∈ u_ws "RuleEngine$Cases" vt_T0 16, w ∈ vt_T := by
  have h : u_ws "RuleEngine$Cases" vt_T0 16 = ([137, 139, 141, 143, 145, 147, 149, 151, 153, 155, 157, 159, 161, 163, 165, 167] : List Nat).filterMap (fun i => lw_tbl[i]?) ∧ (u_ws "RuleEngine$Cases" vt_T0 16).all goodWord = true := by decide +kernel
  intro w hw
  refine List.mem_filter.mpr ⟨?_, List.all_eq_true.mp h.2 w hw⟩
  rw [h.1] at hw
  obtain ⟨i, -, hi⟩ := List.mem_filterMap.mp hw
  exact List.mem_of_getElem? hi
theorem vt_clt0 : (∀ k, k < 16 → parseFieldDescriptor (vt_T0 k).2.2.1 = some (vt_ty0 k)) ∧ (∀ a, a < 16 → ∀ b, b < 16 → a ≠ b → (vt_T0 a).2.1 ≠ (vt_T0 b).2.1) ∧ (∀ k, k < 16 → defaultValue (vt_ty0 k) = if vt_isobj (vt_ty0 k) = true then .null else .int 0) := ⟨by decide +kernel, by decide +kernel, by decide +kernel⟩
theorem vt_cli0 : Jvm.Cond.instantiable "RuleEngine$Cases" 16 ∈ vt_T ∧ Jvm.Cond.initialized "RuleEngine$Cases" ∈ vt_T := ⟨vt_wd_of (e := 115) (by decide +kernel), vt_wd_of (e := 48) (by decide +kernel)⟩
theorem vt_clw1 : ∀ w ∈ u_ws "RuleEngine$Facts" vt_T1 2, w ∈ vt_T := by
  have h : u_ws "RuleEngine$Facts" vt_T1 2 = ([74, 76] : List Nat).filterMap (fun i => lw_tbl[i]?) ∧ (u_ws "RuleEngine$Facts" vt_T1 2).all goodWord = true := by decide +kernel
  intro w hw
  refine List.mem_filter.mpr ⟨?_, List.all_eq_true.mp h.2 w hw⟩
  rw [h.1] at hw
  obtain ⟨i, -, hi⟩ := List.mem_filterMap.mp hw
  exact List.mem_of_getElem? hi
theorem vt_clt1 : (∀ k, k < 2 → parseFieldDescriptor (vt_T1 k).2.2.1 = some (vt_ty1 k)) ∧ (∀ a, a < 2 → ∀ b, b < 2 → a ≠ b → (vt_T1 a).2.1 ≠ (vt_T1 b).2.1) ∧ (∀ k, k < 2 → defaultValue (vt_ty1 k) = if vt_isobj (vt_ty1 k) = true then .null else .int 0) := ⟨by decide +kernel, by decide +kernel, by decide +kernel⟩
theorem vt_cli1 : Jvm.Cond.instantiable "RuleEngine$Facts" 2 ∈ vt_T ∧ Jvm.Cond.initialized "RuleEngine$Facts" ∈ vt_T := ⟨vt_wd_of (e := 64) (by decide +kernel), vt_wd_of (e := 45) (by decide +kernel)⟩
theorem vt_clw2 : ∀ w ∈ u_ws "RuleEngine$Model" vt_T2 11, w ∈ vt_T := by
  have h : u_ws "RuleEngine$Model" vt_T2 11 = ([187, 189, 191, 193, 195, 197, 199, 201, 203, 205, 207] : List Nat).filterMap (fun i => lw_tbl[i]?) ∧ (u_ws "RuleEngine$Model" vt_T2 11).all goodWord = true := by decide +kernel
  intro w hw
  refine List.mem_filter.mpr ⟨?_, List.all_eq_true.mp h.2 w hw⟩
  rw [h.1] at hw
  obtain ⟨i, -, hi⟩ := List.mem_filterMap.mp hw
  exact List.mem_of_getElem? hi
theorem vt_clt2 : (∀ k, k < 11 → parseFieldDescriptor (vt_T2 k).2.2.1 = some (vt_ty2 k)) ∧ (∀ a, a < 11 → ∀ b, b < 11 → a ≠ b → (vt_T2 a).2.1 ≠ (vt_T2 b).2.1) ∧ (∀ k, k < 11 → defaultValue (vt_ty2 k) = if vt_isobj (vt_ty2 k) = true then .null else .int 0) := ⟨by decide +kernel, by decide +kernel, by decide +kernel⟩
theorem vt_cli2 : Jvm.Cond.instantiable "RuleEngine$Model" 11 ∈ vt_T ∧ Jvm.Cond.initialized "RuleEngine$Model" ∈ vt_T := ⟨vt_wd_of (e := 81) (by decide +kernel), vt_wd_of (e := 46) (by decide +kernel)⟩
theorem vt_clw3 : ∀ w ∈ u_ws "RuleEngine$Rule" vt_T3 10, w ∈ vt_T := by
  have h : u_ws "RuleEngine$Rule" vt_T3 10 = ([247, 249, 251, 253, 255, 257, 259, 261, 263, 265] : List Nat).filterMap (fun i => lw_tbl[i]?) ∧ (u_ws "RuleEngine$Rule" vt_T3 10).all goodWord = true := by decide +kernel
  intro w hw
  refine List.mem_filter.mpr ⟨?_, List.all_eq_true.mp h.2 w hw⟩
  rw [h.1] at hw
  obtain ⟨i, -, hi⟩ := List.mem_filterMap.mp hw
  exact List.mem_of_getElem? hi
theorem vt_clt3 : (∀ k, k < 10 → parseFieldDescriptor (vt_T3 k).2.2.1 = some (vt_ty3 k)) ∧ (∀ a, a < 10 → ∀ b, b < 10 → a ≠ b → (vt_T3 a).2.1 ≠ (vt_T3 b).2.1) ∧ (∀ k, k < 10 → defaultValue (vt_ty3 k) = if vt_isobj (vt_ty3 k) = true then .null else .int 0) := ⟨by decide +kernel, by decide +kernel, by decide +kernel⟩
theorem vt_cli3 : Jvm.Cond.instantiable "RuleEngine$Rule" 10 ∈ vt_T ∧ Jvm.Cond.initialized "RuleEngine$Rule" ∈ vt_T := ⟨vt_wd_of (e := 212) (by decide +kernel), vt_wd_of (e := 49) (by decide +kernel)⟩
theorem vt_clw4 : ∀ w ∈ u_ws "RuleEngine$Strata" vt_T4 5, w ∈ vt_T := by
  have h : u_ws "RuleEngine$Strata" vt_T4 5 = ([101, 103, 105, 107, 109] : List Nat).filterMap (fun i => lw_tbl[i]?) ∧ (u_ws "RuleEngine$Strata" vt_T4 5).all goodWord = true := by decide +kernel
  intro w hw
  refine List.mem_filter.mpr ⟨?_, List.all_eq_true.mp h.2 w hw⟩
  rw [h.1] at hw
  obtain ⟨i, -, hi⟩ := List.mem_filterMap.mp hw
  exact List.mem_of_getElem? hi
theorem vt_clt4 : (∀ k, k < 5 → parseFieldDescriptor (vt_T4 k).2.2.1 = some (vt_ty4 k)) ∧ (∀ a, a < 5 → ∀ b, b < 5 → a ≠ b → (vt_T4 a).2.1 ≠ (vt_T4 b).2.1) ∧ (∀ k, k < 5 → defaultValue (vt_ty4 k) = if vt_isobj (vt_ty4 k) = true then .null else .int 0) := ⟨by decide +kernel, by decide +kernel, by decide +kernel⟩
theorem vt_cli4 : Jvm.Cond.instantiable "RuleEngine$Strata" 5 ∈ vt_T ∧ Jvm.Cond.initialized "RuleEngine$Strata" ∈ vt_T := ⟨vt_wd_of (e := 87) (by decide +kernel), vt_wd_of (e := 47) (by decide +kernel)⟩
theorem vt_clw5 : ∀ w ∈ u_ws "RuleEngine" vt_T5 4, w ∈ vt_T := by
  have h : u_ws "RuleEngine" vt_T5 4 = ([272, 274, 276, 278] : List Nat).filterMap (fun i => lw_tbl[i]?) ∧ (u_ws "RuleEngine" vt_T5 4).all goodWord = true := by decide +kernel
  intro w hw
  refine List.mem_filter.mpr ⟨?_, List.all_eq_true.mp h.2 w hw⟩
  rw [h.1] at hw
  obtain ⟨i, -, hi⟩ := List.mem_filterMap.mp hw
  exact List.mem_of_getElem? hi
theorem vt_clt5 : (∀ k, k < 4 → parseFieldDescriptor (vt_T5 k).2.2.1 = some (vt_ty5 k)) ∧ (∀ a, a < 4 → ∀ b, b < 4 → a ≠ b → (vt_T5 a).2.1 ≠ (vt_T5 b).2.1) ∧ (∀ k, k < 4 → defaultValue (vt_ty5 k) = if vt_isobj (vt_ty5 k) = true then .null else .int 0) := ⟨by decide +kernel, by decide +kernel, by decide +kernel⟩
theorem vt_cli5 : Jvm.Cond.instantiable "RuleEngine" 4 ∈ vt_T ∧ Jvm.Cond.initialized "RuleEngine" ∈ vt_T := ⟨vt_wd_of (e := 56) (by decide +kernel), vt_wd_of (e := 44) (by decide +kernel)⟩
theorem vt_clw6 : ∀ w ∈ u_ws "RuleEngineModel" vt_T6 26, w ∈ vt_T := by
  have h : u_ws "RuleEngineModel" vt_T6 26 = ([621, 623, 625, 627, 629, 631, 633, 635, 637, 639, 641, 643, 645, 647, 649, 651, 653, 655, 657, 659, 661, 663, 665, 667, 669, 671] : List Nat).filterMap (fun i => lw_tbl[i]?) ∧ (u_ws "RuleEngineModel" vt_T6 26).all goodWord = true := by decide +kernel
  intro w hw
  refine List.mem_filter.mpr ⟨?_, List.all_eq_true.mp h.2 w hw⟩
  rw [h.1] at hw
  obtain ⟨i, -, hi⟩ := List.mem_filterMap.mp hw
  exact List.mem_of_getElem? hi
theorem vt_clt6 : (∀ k, k < 26 → parseFieldDescriptor (vt_T6 k).2.2.1 = some (vt_ty6 k)) ∧ (∀ a, a < 26 → ∀ b, b < 26 → a ≠ b → (vt_T6 a).2.1 ≠ (vt_T6 b).2.1) ∧ (∀ k, k < 26 → defaultValue (vt_ty6 k) = if vt_isobj (vt_ty6 k) = true then .null else .int 0) := ⟨by decide +kernel, by decide +kernel, by decide +kernel⟩
theorem vt_cli6 : Jvm.Cond.instantiable "RuleEngineModel" 26 ∈ vt_T ∧ Jvm.Cond.initialized "RuleEngineModel" ∈ vt_T := ⟨vt_wd_of (e := 590) (by decide +kernel), vt_wd_of (e := 50) (by decide +kernel)⟩
theorem vt_clw {ci N : Nat} {C : String} {T : u_T} (hc : vt_cl[ci]? = some (C, T, N)) : ∀ w ∈ u_ws C T N, w ∈ vt_T := by
  match ci, hc with
  | 0, hc => cases hc; exact vt_clw0
  | 1, hc => cases hc; exact vt_clw1
  | 2, hc => cases hc; exact vt_clw2
  | 3, hc => cases hc; exact vt_clw3
  | 4, hc => cases hc; exact vt_clw4
  | 5, hc => cases hc; exact vt_clw5
  | 6, hc => cases hc; exact vt_clw6
  | k + 7, hc => simp [vt_cl] at hc
theorem vt_clt {ci N : Nat} {C : String} {T : u_T} (hc : vt_cl[ci]? = some (C, T, N)) : (∀ k, k < N → parseFieldDescriptor (T k).2.2.1 = some (vt_ty ci k)) ∧ (∀ a, a < N → ∀ b, b < N → a ≠ b → (T a).2.1 ≠ (T b).2.1) ∧ (∀ k, k < N → defaultValue (vt_ty ci k) = if vt_ref ci k = true then .null else .int 0) := by
  match ci, hc with
  | 0, hc => cases hc; exact vt_clt0
  | 1, hc => cases hc; exact vt_clt1
  | 2, hc => cases hc; exact vt_clt2
  | 3, hc => cases hc; exact vt_clt3
  | 4, hc => cases hc; exact vt_clt4
  | 5, hc => cases hc; exact vt_clt5
  | 6, hc => cases hc; exact vt_clt6
  | k + 7, hc => simp [vt_cl] at hc
theorem vt_cli {ci N : Nat} {C : String} {T : u_T} (hc : vt_cl[ci]? = some (C, T, N)) : Jvm.Cond.instantiable C N ∈ vt_T ∧ Jvm.Cond.initialized C ∈ vt_T := by
  match ci, hc with
  | 0, hc => cases hc; exact vt_cli0
  | 1, hc => cases hc; exact vt_cli1
  | 2, hc => cases hc; exact vt_cli2
  | 3, hc => cases hc; exact vt_cli3
  | 4, hc => cases hc; exact vt_cli4
  | 5, hc => cases hc; exact vt_cli5
  | 6, hc => cases hc; exact vt_cli6
  | k + 7, hc => simp [vt_cl] at hc
theorem lw_ovR : Jvm.Cond.arrayOver (.object "RuleEngine$Rule") ∈ lw_tbl := List.mem_of_getElem? (i := 211) (by decide +kernel)
theorem lw_ovI : Jvm.Cond.arrayOver (.array .int) ∈ lw_tbl := List.mem_of_getElem? (i := 171) (by decide +kernel)
theorem lw_nl : ∀ q ∈ vt_NL, Jvm.Cond.methodLinkNest q.1 q.2.1 q.2.2 vt_host ∈ lw_tbl := by
  have h : vt_NL.map (fun q => some (Jvm.Cond.methodLinkNest q.1 q.2.1 q.2.2 vt_host)) = ([65, 82, 88, 113, 116, 213, 295, 364, 403, 425, 439, 454, 510, 579] : List Nat).map (fun i => lw_tbl[i]?) := by decide +kernel
  intro q hq
  have hm : some (Jvm.Cond.methodLinkNest q.1 q.2.1 q.2.2 vt_host) ∈ vt_NL.map (fun q => some (Jvm.Cond.methodLinkNest q.1 q.2.1 q.2.2 vt_host)) := List.mem_map.mpr ⟨q, hq, rfl⟩
  rw [h] at hm
  obtain ⟨i, -, hi⟩ := List.mem_map.mp hm
  exact List.mem_of_getElem? hi
theorem vt_wArr : Jvm.Cond.arrayClass .int ∈ vt_T := vt_wd_of (e := 79) (by decide +kernel)
theorem vt_wArz : Jvm.Cond.arrayClass .boolean ∈ vt_T := vt_wd_of (e := 674) (by decide +kernel)
theorem vt_wMax : Jvm.Cond.static Lib.Math.max.name ∈ vt_T ∧ Jvm.Cond.initialized "java/lang/Math" ∈ vt_T ∧ Jvm.Cond.code Lib.Math.max.name Lib.Math.max.code 2 (some .int) ∈ vt_T := ⟨vt_wd_of (e := 417) (by decide +kernel), vt_wd_of (e := 53) (by decide +kernel), vt_wd_of (e := 418) (by decide +kernel)⟩
theorem vt_wCopy : Jvm.Cond.native arraycopyName ∈ vt_T ∧ Jvm.Cond.static arraycopyName ∈ vt_T ∧ Jvm.Cond.initialized "java/lang/System" ∈ vt_T := ⟨vt_wd_of (e := 385) (by decide +kernel), vt_wd_of (e := 384) (by decide +kernel), vt_wd_of (e := 51) (by decide +kernel)⟩
theorem vt_wObj : Jvm.Cond.instanceMethod Lib.objectInit ∈ vt_T ∧ Jvm.Cond.code Lib.objectInit ⟨#[0xb1]⟩ 1 none ∈ vt_T := ⟨vt_wd_of (e := 61) (by decide +kernel), vt_wd_of (e := 62) (by decide +kernel)⟩
theorem vt_ak_ref {a : Nat} {ty : FieldType} (h : vt_ak a = some ty) (h1 : 1 < a) (h4 : a ≠ 4) : ty.isReference = true := by
  have hm : (a, ty) ∈ vt_aks := vt_lkm h
  simp only [vt_aks, List.mem_cons, Prod.mk.injEq, List.not_mem_nil, or_false] at hm
  rcases hm with ⟨rfl, rfl⟩ | ⟨rfl, rfl⟩ | ⟨rfl, rfl⟩ | ⟨rfl, rfl⟩
  · omega
  · rfl
  · rfl
  · omega
theorem vt_mok1 : vt_okM 1 = true := by decide +kernel
set_option maxRecDepth 100000 in
theorem vt_mcw1 : lw_tbl[59]? = some (Jvm.Cond.code ⟨"RuleEngine", "<init>", "()V"⟩ prog_1_method_1_code 2 none) := rfl
theorem vt_mok2 : vt_okM 2 = true := by decide +kernel
set_option maxRecDepth 100000 in
theorem vt_mcw2 : lw_tbl[67]? = some (Jvm.Cond.code ⟨"RuleEngine$Facts", "<init>", "()V"⟩ prog_3_method_1_code 1 none) := rfl
theorem vt_mok3 : vt_okM 3 = true := by decide +kernel
set_option maxRecDepth 100000 in
theorem vt_mcw3 : lw_tbl[84]? = some (Jvm.Cond.code ⟨"RuleEngine$Model", "<init>", "()V"⟩ prog_4_method_1_code 1 none) := rfl
theorem vt_mok4 : vt_okM 4 = true := by decide +kernel
set_option maxRecDepth 100000 in
theorem vt_mcw4 : lw_tbl[90]? = some (Jvm.Cond.code ⟨"RuleEngine$Strata", "<init>", "()V"⟩ prog_6_method_1_code 1 none) := rfl
theorem vt_mok5 : vt_okM 5 = true := by decide +kernel
set_option maxRecDepth 100000 in
theorem vt_mcw5 : lw_tbl[118]? = some (Jvm.Cond.code ⟨"RuleEngine$Cases", "<init>", "()V"⟩ prog_2_method_1_code 1 none) := rfl
theorem vt_mok6 : vt_okM 6 = true := by decide +kernel
set_option maxRecDepth 100000 in
theorem vt_mcw6 : lw_tbl[215]? = some (Jvm.Cond.code ⟨"RuleEngine$Rule", "<init>", "()V"⟩ prog_5_method_1_code 1 none) := rfl
theorem vt_mok7 : vt_okM 7 = true := by decide +kernel
set_option maxRecDepth 100000 in
theorem vt_mcw7 : lw_tbl[284]? = some (Jvm.Cond.code ⟨"RuleEngine", "fact", "(III)I"⟩ prog_1_method_2_code 4 (some .int)) := rfl
theorem vt_mok8 : vt_okM 8 = true := by decide +kernel
set_option maxRecDepth 100000 in
theorem vt_mcw8 : lw_tbl[287]? = some (Jvm.Cond.code ⟨"RuleEngine", "isBadFact", "(III)Z"⟩ prog_1_method_21_code 3 (some .boolean)) := rfl
theorem vt_mok9 : vt_okM 9 = true := by decide +kernel
set_option maxRecDepth 100000 in
theorem vt_mcw9 : lw_tbl[290]? = some (Jvm.Cond.code ⟨"RuleEngine", "isBadName", "(I)Z"⟩ prog_1_method_19_code 1 (some .boolean)) := rfl
theorem vt_mok10 : vt_okM 10 = true := by decide +kernel
set_option maxRecDepth 100000 in
theorem vt_mcw10 : lw_tbl[294]? = some (Jvm.Cond.code ⟨"RuleEngine$Facts", "has", "(III)Z"⟩ prog_3_method_2_code 4 (some .boolean)) := rfl
theorem vt_mok11 : vt_okM 11 = true := by decide +kernel
set_option maxRecDepth 100000 in
theorem vt_mcw11 : lw_tbl[297]? = some (Jvm.Cond.code ⟨"RuleEngine", "isIn", "(II)Z"⟩ prog_1_method_23_code 2 (some .boolean)) := rfl
theorem vt_mok12 : vt_okM 12 = true := by decide +kernel
set_option maxRecDepth 100000 in
theorem vt_mcw12 : lw_tbl[301]? = some (Jvm.Cond.code ⟨"RuleEngine$Facts", "add", "(III)V"⟩ prog_3_method_3_code 4 none) := rfl
theorem vt_mok13 : vt_okM 13 = true := by decide +kernel
set_option maxRecDepth 100000 in
theorem vt_mcw13 : lw_tbl[305]? = some (Jvm.Cond.code ⟨"RuleEngine", "remove", "(III)I"⟩ prog_1_method_3_code 4 (some .int)) := rfl
theorem vt_mok14 : vt_okM 14 = true := by decide +kernel
set_option maxRecDepth 100000 in
theorem vt_mcw14 : lw_tbl[309]? = some (Jvm.Cond.code ⟨"RuleEngine$Facts", "cut", "(III)V"⟩ prog_3_method_4_code 4 none) := rfl
theorem vt_mok15 : vt_okM 15 = true := by decide +kernel
set_option maxRecDepth 100000 in
theorem vt_mcw15 : lw_tbl[313]? = some (Jvm.Cond.code ⟨"RuleEngine", "rule", "(III)I"⟩ prog_1_method_4_code 4 (some .int)) := rfl
theorem vt_mok16 : vt_okM 16 = true := by decide +kernel
set_option maxRecDepth 100000 in
theorem vt_mcw16 : lw_tbl[316]? = some (Jvm.Cond.code ⟨"RuleEngine", "isBadItem", "(I)Z"⟩ prog_1_method_20_code 1 (some .boolean)) := rfl
theorem vt_mok17 : vt_okM 17 = true := by decide +kernel
set_option maxRecDepth 100000 in
theorem vt_mcw17 : lw_tbl[320]? = some (Jvm.Cond.code ⟨"RuleEngine$Rule", "start", "(III)V"⟩ prog_5_method_2_code 4 none) := rfl
theorem vt_mok18 : vt_okM 18 = true := by decide +kernel
set_option maxRecDepth 100000 in
theorem vt_mcw18 : lw_tbl[324]? = some (Jvm.Cond.code ⟨"RuleEngine", "body", "(IIIIZ)I"⟩ prog_1_method_5_code 6 (some .int)) := rfl
theorem vt_mok19 : vt_okM 19 = true := by decide +kernel
set_option maxRecDepth 100000 in
theorem vt_mcw19 : lw_tbl[328]? = some (Jvm.Cond.code ⟨"RuleEngine", "addPart", "(IIIII)I"⟩ prog_1_method_17_code 6 (some .int)) := rfl
theorem vt_mok20 : vt_okM 20 = true := by decide +kernel
set_option maxRecDepth 100000 in
theorem vt_mcw20 : lw_tbl[332]? = some (Jvm.Cond.code ⟨"RuleEngine", "isBadRule", "(I)Z"⟩ prog_1_method_18_code 2 (some .boolean)) := rfl
theorem vt_mok21 : vt_okM 21 = true := by decide +kernel
set_option maxRecDepth 100000 in
theorem vt_mcw21 : lw_tbl[336]? = some (Jvm.Cond.code ⟨"RuleEngine$Rule", "addPart", "(IIII)V"⟩ prog_5_method_3_code 5 none) := rfl
theorem vt_mok22 : vt_okM 22 = true := by decide +kernel
set_option maxRecDepth 100000 in
theorem vt_mcw22 : lw_tbl[340]? = some (Jvm.Cond.code ⟨"RuleEngine", "filter", "(IIII)I"⟩ prog_1_method_6_code 5 (some .int)) := rfl
theorem vt_mok23 : vt_okM 23 = true := by decide +kernel
set_option maxRecDepth 100000 in
theorem vt_mcw23 : lw_tbl[344]? = some (Jvm.Cond.code ⟨"RuleEngine", "aggregate", "(III)I"⟩ prog_1_method_7_code 4 (some .int)) := rfl
theorem vt_mok24 : vt_okM 24 = true := by decide +kernel
set_option maxRecDepth 100000 in
theorem vt_mcw24 : lw_tbl[348]? = some (Jvm.Cond.code ⟨"RuleEngine", "drop", "(I)I"⟩ prog_1_method_8_code 4 (some .int)) := rfl
theorem vt_mok25 : vt_okM 25 = true := by decide +kernel
set_option maxRecDepth 100000 in
theorem vt_mcw25 : lw_tbl[352]? = some (Jvm.Cond.code ⟨"RuleEngine", "safe", "(I)I"⟩ prog_1_method_9_code 2 (some .int)) := rfl
theorem vt_mok26 : vt_okM 26 = true := by decide +kernel
set_option maxRecDepth 100000 in
theorem vt_mcw26 : lw_tbl[356]? = some (Jvm.Cond.code ⟨"RuleEngine$Rule", "isSafe", "()Z"⟩ prog_5_method_6_code 4 (some .boolean)) := rfl
theorem vt_mok27 : vt_okM 27 = true := by decide +kernel
set_option maxRecDepth 100000 in
theorem vt_mcw27 : lw_tbl[360]? = some (Jvm.Cond.code ⟨"RuleEngine$Rule", "secondItem", "()I"⟩ prog_5_method_4_code 1 (some .int)) := rfl
theorem vt_mok28 : vt_okM 28 = true := by decide +kernel
set_option maxRecDepth 100000 in
theorem vt_mcw28 : lw_tbl[363]? = some (Jvm.Cond.code ⟨"RuleEngine$Rule", "variables", "(II)I"⟩ prog_5_method_7_code 3 (some .int)) := rfl
theorem vt_mok29 : vt_okM 29 = true := by decide +kernel
set_option maxRecDepth 100000 in
theorem vt_mcw29 : lw_tbl[366]? = some (Jvm.Cond.code ⟨"RuleEngine", "variableOf", "(I)I"⟩ prog_1_method_22_code 1 (some .int)) := rfl
theorem vt_mok30 : vt_okM 30 = true := by decide +kernel
set_option maxRecDepth 100000 in
theorem vt_mcw30 : lw_tbl[370]? = some (Jvm.Cond.code ⟨"RuleEngine", "run", "()I"⟩ prog_1_method_10_code 2 (some .int)) := rfl
theorem vt_mok31 : vt_okM 31 = true := by decide +kernel
set_option maxRecDepth 100000 in
theorem vt_mcw31 : lw_tbl[374]? = some (Jvm.Cond.code ⟨"RuleEngine$Model", "settle", "(LRuleEngine$Facts;[LRuleEngine$Rule;I)V"⟩ prog_4_method_2_code 10 none) := rfl
theorem vt_mok32 : vt_okM 32 = true := by decide +kernel
set_option maxRecDepth 100000 in
theorem vt_mcw32 : lw_tbl[378]? = some (Jvm.Cond.code ⟨"RuleEngine$Model", "startLevels", "(LRuleEngine$Facts;[LRuleEngine$Rule;I)I"⟩ prog_4_method_3_code 6 (some .int)) := rfl
theorem vt_mok33 : vt_okM 33 = true := by decide +kernel
set_option maxRecDepth 100000 in
theorem vt_mcw33 : lw_tbl[382]? = some (Jvm.Cond.code ⟨"RuleEngine$Facts", "takeAll", "(LRuleEngine$Facts;)V"⟩ prog_3_method_6_code 2 none) := rfl
theorem vt_mok34 : vt_okM 34 = true := by decide +kernel
set_option maxRecDepth 100000 in
theorem vt_mcw34 : lw_tbl[389]? = some (Jvm.Cond.code ⟨"RuleEngine$Strata", "read", "([LRuleEngine$Rule;I)V"⟩ prog_6_method_2_code 4 none) := rfl
theorem vt_mok35 : vt_okM 35 = true := by decide +kernel
set_option maxRecDepth 100000 in
theorem vt_mcw35 : lw_tbl[392]? = some (Jvm.Cond.code ⟨"java/util/Arrays", "fill", "([II)V"⟩ prog_12_method_103_code 4 none) := rfl
theorem vt_mok36 : vt_okM 36 = true := by decide +kernel
set_option maxRecDepth 100000 in
theorem vt_mcw36 : lw_tbl[397]? = some (Jvm.Cond.code ⟨"RuleEngine$Strata", "readRule", "(LRuleEngine$Rule;)V"⟩ prog_6_method_3_code 4 none) := rfl
theorem vt_mok37 : vt_okM 37 = true := by decide +kernel
set_option maxRecDepth 100000 in
theorem vt_mcw37 : lw_tbl[401]? = some (Jvm.Cond.code ⟨"RuleEngine$Strata", "reachAll", "()V"⟩ prog_6_method_4_code 3 none) := rfl
theorem vt_mok38 : vt_okM 38 = true := by decide +kernel
set_option maxRecDepth 100000 in
theorem vt_mcw38 : lw_tbl[407]? = some (Jvm.Cond.code ⟨"RuleEngine$Strata", "leastCircle", "()I"⟩ prog_6_method_5_code 3 (some .int)) := rfl
theorem vt_mok39 : vt_okM 39 = true := by decide +kernel
set_option maxRecDepth 100000 in
theorem vt_mcw39 : lw_tbl[411]? = some (Jvm.Cond.code ⟨"RuleEngine$Strata", "number", "()V"⟩ prog_6_method_6_code 5 none) := rfl
theorem vt_mok40 : vt_okM 40 = true := by decide +kernel
set_option maxRecDepth 100000 in
theorem vt_mcw40 : lw_tbl[415]? = some (Jvm.Cond.code ⟨"RuleEngine$Strata", "leastLevel", "(I)I"⟩ prog_6_method_7_code 4 (some .int)) := rfl
theorem vt_mok42 : vt_okM 42 = true := by decide +kernel
set_option maxRecDepth 100000 in
theorem vt_mcw42 : lw_tbl[424]? = some (Jvm.Cond.code ⟨"RuleEngine$Model", "isDue", "(LRuleEngine$Rule;II)Z"⟩ prog_4_method_4_code 4 (some .boolean)) := rfl
theorem vt_mok43 : vt_okM 43 = true := by decide +kernel
set_option maxRecDepth 100000 in
theorem vt_mcw43 : lw_tbl[429]? = some (Jvm.Cond.code ⟨"RuleEngine$Model", "give", "(LRuleEngine$Rule;I)V"⟩ prog_4_method_5_code 8 none) := rfl
theorem vt_mok44 : vt_okM 44 = true := by decide +kernel
set_option maxRecDepth 100000 in
theorem vt_mcw44 : lw_tbl[433]? = some (Jvm.Cond.code ⟨"RuleEngine$Rule", "isTallied", "()Z"⟩ prog_5_method_5_code 1 (some .boolean)) := rfl
theorem vt_mok45 : vt_okM 45 = true := by decide +kernel
set_option maxRecDepth 100000 in
theorem vt_mcw45 : lw_tbl[437]? = some (Jvm.Cond.code ⟨"RuleEngine$Cases", "load", "(LRuleEngine$Rule;LRuleEngine$Facts;LRuleEngine$Facts;IZ)V"⟩ prog_2_method_2_code 7 none) := rfl
theorem vt_mok46 : vt_okM 46 = true := by decide +kernel
set_option maxRecDepth 100000 in
theorem vt_mcw46 : lw_tbl[444]? = some (Jvm.Cond.code ⟨"RuleEngine$Cases", "readFacts", "(LRuleEngine$Facts;IZ)V"⟩ prog_2_method_3_code 5 none) := rfl
theorem vt_mok47 : vt_okM 47 = true := by decide +kernel
set_option maxRecDepth 100000 in
theorem vt_mcw47 : lw_tbl[449]? = some (Jvm.Cond.code ⟨"RuleEngine$Cases", "readFilter", "(I)V"⟩ prog_2_method_4_code 4 none) := rfl
theorem vt_mok48 : vt_okM 48 = true := by decide +kernel
set_option maxRecDepth 100000 in
theorem vt_mcw48 : lw_tbl[453]? = some (Jvm.Cond.code ⟨"RuleEngine$Cases", "join", "(II)V"⟩ prog_2_method_5_code 3 none) := rfl
theorem vt_mok49 : vt_okM 49 = true := by decide +kernel
set_option maxRecDepth 100000 in
theorem vt_mcw49 : lw_tbl[458]? = some (Jvm.Cond.code ⟨"RuleEngine$Cases", "narrow", "(II)V"⟩ prog_2_method_6_code 3 none) := rfl
theorem vt_mok50 : vt_okM 50 = true := by decide +kernel
set_option maxRecDepth 100000 in
theorem vt_mcw50 : lw_tbl[462]? = some (Jvm.Cond.code ⟨"RuleEngine$Cases", "numbersWithThemselves", "()I"⟩ prog_2_method_7_code 3 (some .int)) := rfl
theorem vt_mok51 : vt_okM 51 = true := by decide +kernel
set_option maxRecDepth 100000 in
theorem vt_mcw51 : lw_tbl[466]? = some (Jvm.Cond.code ⟨"RuleEngine$Cases", "link", "(II[I)I"⟩ prog_2_method_8_code 8 (some .int)) := rfl
theorem vt_mok52 : vt_okM 52 = true := by decide +kernel
set_option maxRecDepth 100000 in
theorem vt_mcw52 : lw_tbl[470]? = some (Jvm.Cond.code ⟨"RuleEngine$Cases", "firstNumbers", "()I"⟩ prog_2_method_9_code 1 (some .int)) := rfl
theorem vt_mok53 : vt_okM 53 = true := by decide +kernel
set_option maxRecDepth 100000 in
theorem vt_mcw53 : lw_tbl[474]? = some (Jvm.Cond.code ⟨"RuleEngine$Cases", "find", "(II)I"⟩ prog_2_method_10_code 8 (some .int)) := rfl
theorem vt_mok54 : vt_okM 54 = true := by decide +kernel
set_option maxRecDepth 100000 in
theorem vt_mcw54 : lw_tbl[478]? = some (Jvm.Cond.code ⟨"RuleEngine$Cases", "begin", "(II)Z"⟩ prog_2_method_11_code 3 (some .boolean)) := rfl
theorem vt_mok55 : vt_okM 55 = true := by decide +kernel
set_option maxRecDepth 100000 in
theorem vt_mcw55 : lw_tbl[483]? = some (Jvm.Cond.code ⟨"RuleEngine$Cases", "copyLevel", "(I)V"⟩ prog_2_method_12_code 4 none) := rfl
theorem vt_mok56 : vt_okM 56 = true := by decide +kernel
set_option maxRecDepth 100000 in
theorem vt_mcw56 : lw_tbl[487]? = some (Jvm.Cond.code ⟨"RuleEngine$Cases", "fix", "(III)Z"⟩ prog_2_method_13_code 6 (some .boolean)) := rfl
theorem vt_mok57 : vt_okM 57 = true := by decide +kernel
set_option maxRecDepth 100000 in
theorem vt_mcw57 : lw_tbl[491]? = some (Jvm.Cond.code ⟨"RuleEngine$Cases", "foldAll", "(I)Z"⟩ prog_2_method_14_code 5 (some .boolean)) := rfl
theorem vt_mok58 : vt_okM 58 = true := by decide +kernel
set_option maxRecDepth 100000 in
theorem vt_mcw58 : lw_tbl[495]? = some (Jvm.Cond.code ⟨"RuleEngine$Cases", "linkCount", "(II)I"⟩ prog_2_method_15_code 3 (some .int)) := rfl
theorem vt_mok59 : vt_okM 59 = true := by decide +kernel
set_option maxRecDepth 100000 in
theorem vt_mcw59 : lw_tbl[498]? = some (Jvm.Cond.code ⟨"java/lang/Integer", "bitCount", "(I)I"⟩ prog_9_method_49_code 1 (some .int)) := rfl
theorem vt_mok60 : vt_okM 60 = true := by decide +kernel
set_option maxRecDepth 100000 in
theorem vt_mcw60 : lw_tbl[505]? = some (Jvm.Cond.code ⟨"RuleEngine$Cases", "fold", "(II)Z"⟩ prog_2_method_17_code 11 (some .boolean)) := rfl
theorem vt_mok61 : vt_okM 61 = true := by decide +kernel
set_option maxRecDepth 100000 in
theorem vt_mcw61 : lw_tbl[509]? = some (Jvm.Cond.code ⟨"RuleEngine$Cases", "weightOf", "(I)I"⟩ prog_2_method_18_code 4 (some .int)) := rfl
theorem vt_mok62 : vt_okM 62 = true := by decide +kernel
set_option maxRecDepth 100000 in
theorem vt_mcw62 : lw_tbl[512]? = some (Jvm.Cond.code ⟨"RuleEngine", "leastOf", "(I)I"⟩ prog_1_method_24_code 1 (some .int)) := rfl
theorem vt_mok63 : vt_okM 63 = true := by decide +kernel
set_option maxRecDepth 100000 in
theorem vt_mcw63 : lw_tbl[517]? = some (Jvm.Cond.code ⟨"RuleEngine$Cases", "weigh", "(III)V"⟩ prog_2_method_19_code 7 none) := rfl
theorem vt_mok64 : vt_okM 64 = true := by decide +kernel
set_option maxRecDepth 100000 in
theorem vt_mcw64 : lw_tbl[521]? = some (Jvm.Cond.code ⟨"RuleEngine$Cases", "mostLinked", "()I"⟩ prog_2_method_16_code 3 (some .int)) := rfl
theorem vt_mok65 : vt_okM 65 = true := by decide +kernel
set_option maxRecDepth 100000 in
theorem vt_mcw65 : lw_tbl[525]? = some (Jvm.Cond.code ⟨"RuleEngine$Cases", "gather", "(I)I"⟩ prog_2_method_20_code 4 (some .int)) := rfl
theorem vt_mok66 : vt_okM 66 = true := by decide +kernel
set_option maxRecDepth 100000 in
theorem vt_mcw66 : lw_tbl[529]? = some (Jvm.Cond.code ⟨"RuleEngine$Cases", "total", "(II)I"⟩ prog_2_method_21_code 5 (some .int)) := rfl
theorem vt_mok67 : vt_okM 67 = true := by decide +kernel
set_option maxRecDepth 100000 in
theorem vt_mcw67 : lw_tbl[533]? = some (Jvm.Cond.code ⟨"RuleEngine$Facts", "addAll", "(III)V"⟩ prog_3_method_5_code 5 none) := rfl
theorem vt_mok68 : vt_okM 68 = true := by decide +kernel
set_option maxRecDepth 100000 in
theorem vt_mcw68 : lw_tbl[538]? = some (Jvm.Cond.code ⟨"RuleEngine$Model", "keepFresh", "(I)Z"⟩ prog_4_method_8_code 3 (some .boolean)) := rfl
theorem vt_mok69 : vt_okM 69 = true := by decide +kernel
set_option maxRecDepth 100000 in
theorem vt_mcw69 : lw_tbl[542]? = some (Jvm.Cond.code ⟨"RuleEngine$Facts", "clear", "(I)V"⟩ prog_3_method_7_code 3 none) := rfl
theorem vt_mok70 : vt_okM 70 = true := by decide +kernel
set_option maxRecDepth 100000 in
theorem vt_mcw70 : lw_tbl[546]? = some (Jvm.Cond.code ⟨"RuleEngine$Model", "keepName", "(II)V"⟩ prog_4_method_9_code 6 none) := rfl
theorem vt_mok71 : vt_okM 71 = true := by decide +kernel
set_option maxRecDepth 100000 in
theorem vt_mcw71 : lw_tbl[550]? = some (Jvm.Cond.code ⟨"RuleEngine", "stratum", "(I)I"⟩ prog_1_method_11_code 2 (some .int)) := rfl
theorem vt_mok72 : vt_okM 72 = true := by decide +kernel
set_option maxRecDepth 100000 in
theorem vt_mcw72 : lw_tbl[554]? = some (Jvm.Cond.code ⟨"RuleEngine", "holds", "(III)I"⟩ prog_1_method_12_code 4 (some .int)) := rfl
theorem vt_mok73 : vt_okM 73 = true := by decide +kernel
set_option maxRecDepth 100000 in
theorem vt_mcw73 : lw_tbl[558]? = some (Jvm.Cond.code ⟨"RuleEngine", "round", "(III)I"⟩ prog_1_method_13_code 4 (some .int)) := rfl
theorem vt_mok74 : vt_okM 74 = true := by decide +kernel
set_option maxRecDepth 100000 in
theorem vt_mcw74 : lw_tbl[562]? = some (Jvm.Cond.code ⟨"RuleEngine$Model", "roundOf", "(III)I"⟩ prog_4_method_7_code 5 (some .int)) := rfl
theorem vt_mok75 : vt_okM 75 = true := by decide +kernel
set_option maxRecDepth 100000 in
theorem vt_mcw75 : lw_tbl[566]? = some (Jvm.Cond.code ⟨"RuleEngine", "counts", "(III)I"⟩ prog_1_method_14_code 7 (some .int)) := rfl
theorem vt_mok76 : vt_okM 76 = true := by decide +kernel
set_option maxRecDepth 100000 in
theorem vt_mcw76 : lw_tbl[570]? = some (Jvm.Cond.code ⟨"RuleEngine$Model", "timesGiven", "(LRuleEngine$Rule;II)I"⟩ prog_4_method_6_code 5 (some .int)) := rfl
theorem vt_mok77 : vt_okM 77 = true := by decide +kernel
set_option maxRecDepth 100000 in
theorem vt_mcw77 : lw_tbl[574]? = some (Jvm.Cond.code ⟨"RuleEngine", "row", "(I)I"⟩ prog_1_method_15_code 2 (some .int)) := rfl
theorem vt_mok78 : vt_okM 78 = true := by decide +kernel
set_option maxRecDepth 100000 in
theorem vt_mcw78 : lw_tbl[578]? = some (Jvm.Cond.code ⟨"RuleEngine$Facts", "codeFrom", "(I)I"⟩ prog_3_method_8_code 5 (some .int)) := rfl
theorem vt_mok79 : vt_okM 79 = true := by decide +kernel
set_option maxRecDepth 100000 in
theorem vt_mcw79 : lw_tbl[583]? = some (Jvm.Cond.code ⟨"RuleEngine", "size", "()I"⟩ prog_1_method_16_code 1 (some .int)) := rfl
theorem vt_mok80 : vt_okM 80 = true := by decide +kernel
set_option maxRecDepth 100000 in
theorem vt_mcw80 : lw_tbl[587]? = some (Jvm.Cond.code ⟨"RuleEngine$Facts", "total", "()I"⟩ prog_3_method_9_code 3 (some .int)) := rfl
theorem vt_mok81 : vt_okM 81 = true := by decide +kernel
set_option maxRecDepth 100000 in
theorem vt_mcw81 : lw_tbl[593]? = some (Jvm.Cond.code ⟨"RuleEngineModel", "<init>", "()V"⟩ prog_8_method_1_code 1 none) := rfl
theorem vt_mok82 : vt_okM 82 = true := by decide +kernel
set_option maxRecDepth 100000 in
theorem vt_mcw82 : lw_tbl[678]? = some (Jvm.Cond.code ⟨"RuleEngineModel", "fact", "(III)I"⟩ prog_8_method_7_code 4 (some .int)) := rfl
theorem vt_mok83 : vt_okM 83 = true := by decide +kernel
set_option maxRecDepth 100000 in
theorem vt_mcw83 : lw_tbl[681]? = some (Jvm.Cond.code ⟨"RuleEngineModel", "isFact", "(III)Z"⟩ prog_8_method_5_code 3 (some .boolean)) := rfl
theorem vt_mok84 : vt_okM 84 = true := by decide +kernel
set_option maxRecDepth 100000 in
theorem vt_mcw84 : lw_tbl[684]? = some (Jvm.Cond.code ⟨"RuleEngineModel", "isName", "(I)Z"⟩ prog_8_method_2_code 1 (some .boolean)) := rfl
theorem vt_mok85 : vt_okM 85 = true := by decide +kernel
set_option maxRecDepth 100000 in
theorem vt_mcw85 : lw_tbl[687]? = some (Jvm.Cond.code ⟨"RuleEngineModel", "isNumber", "(I)Z"⟩ prog_8_method_3_code 1 (some .boolean)) := rfl
theorem vt_mok86 : vt_okM 86 = true := by decide +kernel
set_option maxRecDepth 100000 in
theorem vt_mcw86 : lw_tbl[690]? = some (Jvm.Cond.code ⟨"RuleEngineModel", "code", "(III)I"⟩ prog_8_method_6_code 3 (some .int)) := rfl
theorem vt_mok87 : vt_okM 87 = true := by decide +kernel
set_option maxRecDepth 100000 in
theorem vt_mcw87 : lw_tbl[694]? = some (Jvm.Cond.code ⟨"RuleEngineModel", "remove", "(III)I"⟩ prog_8_method_8_code 4 (some .int)) := rfl
theorem vt_mok88 : vt_okM 88 = true := by decide +kernel
set_option maxRecDepth 100000 in
theorem vt_mcw88 : lw_tbl[698]? = some (Jvm.Cond.code ⟨"RuleEngineModel", "rule", "(III)I"⟩ prog_8_method_10_code 4 (some .int)) := rfl
theorem vt_mok89 : vt_okM 89 = true := by decide +kernel
set_option maxRecDepth 100000 in
theorem vt_mcw89 : lw_tbl[701]? = some (Jvm.Cond.code ⟨"RuleEngineModel", "isItem", "(I)Z"⟩ prog_8_method_4_code 1 (some .boolean)) := rfl
theorem vt_mok90 : vt_okM 90 = true := by decide +kernel
set_option maxRecDepth 100000 in
theorem vt_mcw90 : lw_tbl[705]? = some (Jvm.Cond.code ⟨"RuleEngineModel", "body", "(IIIIZ)I"⟩ prog_8_method_12_code 6 (some .int)) := rfl
theorem vt_mok91 : vt_okM 91 = true := by decide +kernel
set_option maxRecDepth 100000 in
theorem vt_mcw91 : lw_tbl[709]? = some (Jvm.Cond.code ⟨"RuleEngineModel", "isRule", "(I)Z"⟩ prog_8_method_9_code 2 (some .boolean)) := rfl
theorem vt_mok92 : vt_okM 92 = true := by decide +kernel
set_option maxRecDepth 100000 in
theorem vt_mcw92 : lw_tbl[713]? = some (Jvm.Cond.code ⟨"RuleEngineModel", "part", "(IIIII)I"⟩ prog_8_method_11_code 7 (some .int)) := rfl
theorem vt_mok93 : vt_okM 93 = true := by decide +kernel
set_option maxRecDepth 100000 in
theorem vt_mcw93 : lw_tbl[717]? = some (Jvm.Cond.code ⟨"RuleEngineModel", "filter", "(IIII)I"⟩ prog_8_method_13_code 5 (some .int)) := rfl
theorem vt_mok94 : vt_okM 94 = true := by decide +kernel
set_option maxRecDepth 100000 in
theorem vt_mcw94 : lw_tbl[721]? = some (Jvm.Cond.code ⟨"RuleEngineModel", "aggregate", "(III)I"⟩ prog_8_method_14_code 4 (some .int)) := rfl
theorem vt_mok95 : vt_okM 95 = true := by decide +kernel
set_option maxRecDepth 100000 in
theorem vt_mcw95 : lw_tbl[725]? = some (Jvm.Cond.code ⟨"RuleEngineModel", "drop", "(I)I"⟩ prog_8_method_15_code 4 (some .int)) := rfl
theorem vt_mok96 : vt_okM 96 = true := by decide +kernel
set_option maxRecDepth 100000 in
theorem vt_mcw96 : lw_tbl[729]? = some (Jvm.Cond.code ⟨"RuleEngineModel", "safe", "(I)I"⟩ prog_8_method_18_code 2 (some .int)) := rfl
theorem vt_mok97 : vt_okM 97 = true := by decide +kernel
set_option maxRecDepth 100000 in
theorem vt_mcw97 : lw_tbl[733]? = some (Jvm.Cond.code ⟨"RuleEngineModel", "isSafe", "(I)Z"⟩ prog_8_method_17_code 5 (some .boolean)) := rfl
theorem vt_mok98 : vt_okM 98 = true := by decide +kernel
set_option maxRecDepth 100000 in
theorem vt_mcw98 : lw_tbl[737]? = some (Jvm.Cond.code ⟨"RuleEngineModel", "isBound", "(II)Z"⟩ prog_8_method_16_code 6 (some .boolean)) := rfl
theorem vt_mok99 : vt_okM 99 = true := by decide +kernel
set_option maxRecDepth 100000 in
theorem vt_mcw99 : lw_tbl[741]? = some (Jvm.Cond.code ⟨"RuleEngineModel", "run", "()I"⟩ prog_8_method_30_code 1 (some .int)) := rfl
theorem vt_mok100 : vt_okM 100 = true := by decide +kernel
set_option maxRecDepth 100000 in
theorem vt_mcw100 : lw_tbl[745]? = some (Jvm.Cond.code ⟨"RuleEngineModel", "work", "()V"⟩ prog_8_method_29_code 4 none) := rfl
theorem vt_mok101 : vt_okM 101 = true := by decide +kernel
set_option maxRecDepth 100000 in
theorem vt_mcw101 : lw_tbl[749]? = some (Jvm.Cond.code ⟨"RuleEngineModel", "need", "()V"⟩ prog_8_method_19_code 6 none) := rfl
theorem vt_mok102 : vt_okM 102 = true := by decide +kernel
set_option maxRecDepth 100000 in
theorem vt_mcw102 : lw_tbl[753]? = some (Jvm.Cond.code ⟨"RuleEngineModel", "layer", "()V"⟩ prog_8_method_20_code 4 none) := rfl
theorem vt_mok103 : vt_okM 103 = true := by decide +kernel
set_option maxRecDepth 100000 in
theorem vt_mcw103 : lw_tbl[757]? = some (Jvm.Cond.code ⟨"RuleEngineModel", "spread", "(II)V"⟩ prog_8_method_28_code 8 none) := rfl
theorem vt_mok104 : vt_okM 104 = true := by decide +kernel
set_option maxRecDepth 100000 in
theorem vt_mcw104 : lw_tbl[761]? = some (Jvm.Cond.code ⟨"RuleEngineModel", "begin", "(I)V"⟩ prog_8_method_24_code 3 none) := rfl
theorem vt_mok105 : vt_okM 105 = true := by decide +kernel
set_option maxRecDepth 100000 in
theorem vt_mcw105 : lw_tbl[765]? = some (Jvm.Cond.code ⟨"RuleEngineModel", "next", "(IZ)Z"⟩ prog_8_method_25_code 6 (some .boolean)) := rfl
theorem vt_mok106 : vt_okM 106 = true := by decide +kernel
set_option maxRecDepth 100000 in
theorem vt_mcw106 : lw_tbl[769]? = some (Jvm.Cond.code ⟨"RuleEngineModel", "tell", "(II)Z"⟩ prog_8_method_23_code 9 (some .boolean)) := rfl
theorem vt_mok107 : vt_okM 107 = true := by decide +kernel
set_option maxRecDepth 100000 in
theorem vt_mcw107 : lw_tbl[773]? = some (Jvm.Cond.code ⟨"RuleEngineModel", "passes", "(I)Z"⟩ prog_8_method_26_code 7 (some .boolean)) := rfl
theorem vt_mok108 : vt_okM 108 = true := by decide +kernel
set_option maxRecDepth 100000 in
theorem vt_mcw108 : lw_tbl[777]? = some (Jvm.Cond.code ⟨"RuleEngineModel", "valueOf", "(I)I"⟩ prog_8_method_21_code 2 (some .int)) := rfl
theorem vt_mok109 : vt_okM 109 = true := by decide +kernel
set_option maxRecDepth 100000 in
theorem vt_mcw109 : lw_tbl[781]? = some (Jvm.Cond.code ⟨"RuleEngineModel", "isOld", "(I)Z"⟩ prog_8_method_22_code 2 (some .boolean)) := rfl
theorem vt_mok110 : vt_okM 110 = true := by decide +kernel
set_option maxRecDepth 100000 in
theorem vt_mcw110 : lw_tbl[785]? = some (Jvm.Cond.code ⟨"RuleEngineModel", "give", "(II)V"⟩ prog_8_method_27_code 3 none) := rfl
theorem vt_mok111 : vt_okM 111 = true := by decide +kernel
set_option maxRecDepth 100000 in
theorem vt_mcw111 : lw_tbl[789]? = some (Jvm.Cond.code ⟨"RuleEngineModel", "stratum", "(I)I"⟩ prog_8_method_31_code 2 (some .int)) := rfl
theorem vt_mok112 : vt_okM 112 = true := by decide +kernel
set_option maxRecDepth 100000 in
theorem vt_mcw112 : lw_tbl[793]? = some (Jvm.Cond.code ⟨"RuleEngineModel", "holds", "(III)I"⟩ prog_8_method_32_code 5 (some .int)) := rfl
theorem vt_mok113 : vt_okM 113 = true := by decide +kernel
set_option maxRecDepth 100000 in
theorem vt_mcw113 : lw_tbl[797]? = some (Jvm.Cond.code ⟨"RuleEngineModel", "round", "(III)I"⟩ prog_8_method_33_code 5 (some .int)) := rfl
theorem vt_mok114 : vt_okM 114 = true := by decide +kernel
set_option maxRecDepth 100000 in
theorem vt_mcw114 : lw_tbl[801]? = some (Jvm.Cond.code ⟨"RuleEngineModel", "counts", "(III)I"⟩ prog_8_method_34_code 4 (some .int)) := rfl
theorem vt_mok115 : vt_okM 115 = true := by decide +kernel
set_option maxRecDepth 100000 in
theorem vt_mcw115 : lw_tbl[805]? = some (Jvm.Cond.code ⟨"RuleEngineModel", "row", "(I)I"⟩ prog_8_method_35_code 3 (some .int)) := rfl
theorem vt_mok116 : vt_okM 116 = true := by decide +kernel
set_option maxRecDepth 100000 in
theorem vt_mcw116 : lw_tbl[809]? = some (Jvm.Cond.code ⟨"RuleEngineModel", "size", "()I"⟩ prog_8_method_36_code 3 (some .int)) := rfl
theorem vt_mok (a : Nat) (h0 : 0 < a) (h1 : a < 117) (h2 : a ≠ 41) : vt_okM a = true ∧ Jvm.Cond.code (vt_m a).1 (vt_m a).2.1 (vt_m a).2.2.1 (vt_m a).2.2.2 ∈ vt_T := by
  match a, h0, h1, h2 with
  | 1, _, _, _ => exact ⟨vt_mok1, List.mem_filter.mpr ⟨List.mem_of_getElem? vt_mcw1, rfl⟩⟩
  | 2, _, _, _ => exact ⟨vt_mok2, List.mem_filter.mpr ⟨List.mem_of_getElem? vt_mcw2, rfl⟩⟩
  | 3, _, _, _ => exact ⟨vt_mok3, List.mem_filter.mpr ⟨List.mem_of_getElem? vt_mcw3, rfl⟩⟩
  | 4, _, _, _ => exact ⟨vt_mok4, List.mem_filter.mpr ⟨List.mem_of_getElem? vt_mcw4, rfl⟩⟩
  | 5, _, _, _ => exact ⟨vt_mok5, List.mem_filter.mpr ⟨List.mem_of_getElem? vt_mcw5, rfl⟩⟩
  | 6, _, _, _ => exact ⟨vt_mok6, List.mem_filter.mpr ⟨List.mem_of_getElem? vt_mcw6, rfl⟩⟩
  | 7, _, _, _ => exact ⟨vt_mok7, List.mem_filter.mpr ⟨List.mem_of_getElem? vt_mcw7, rfl⟩⟩
  | 8, _, _, _ => exact ⟨vt_mok8, List.mem_filter.mpr ⟨List.mem_of_getElem? vt_mcw8, rfl⟩⟩
  | 9, _, _, _ => exact ⟨vt_mok9, List.mem_filter.mpr ⟨List.mem_of_getElem? vt_mcw9, rfl⟩⟩
  | 10, _, _, _ => exact ⟨vt_mok10, List.mem_filter.mpr ⟨List.mem_of_getElem? vt_mcw10, rfl⟩⟩
  | 11, _, _, _ => exact ⟨vt_mok11, List.mem_filter.mpr ⟨List.mem_of_getElem? vt_mcw11, rfl⟩⟩
  | 12, _, _, _ => exact ⟨vt_mok12, List.mem_filter.mpr ⟨List.mem_of_getElem? vt_mcw12, rfl⟩⟩
  | 13, _, _, _ => exact ⟨vt_mok13, List.mem_filter.mpr ⟨List.mem_of_getElem? vt_mcw13, rfl⟩⟩
  | 14, _, _, _ => exact ⟨vt_mok14, List.mem_filter.mpr ⟨List.mem_of_getElem? vt_mcw14, rfl⟩⟩
  | 15, _, _, _ => exact ⟨vt_mok15, List.mem_filter.mpr ⟨List.mem_of_getElem? vt_mcw15, rfl⟩⟩
  | 16, _, _, _ => exact ⟨vt_mok16, List.mem_filter.mpr ⟨List.mem_of_getElem? vt_mcw16, rfl⟩⟩
  | 17, _, _, _ => exact ⟨vt_mok17, List.mem_filter.mpr ⟨List.mem_of_getElem? vt_mcw17, rfl⟩⟩
  | 18, _, _, _ => exact ⟨vt_mok18, List.mem_filter.mpr ⟨List.mem_of_getElem? vt_mcw18, rfl⟩⟩
  | 19, _, _, _ => exact ⟨vt_mok19, List.mem_filter.mpr ⟨List.mem_of_getElem? vt_mcw19, rfl⟩⟩
  | 20, _, _, _ => exact ⟨vt_mok20, List.mem_filter.mpr ⟨List.mem_of_getElem? vt_mcw20, rfl⟩⟩
  | 21, _, _, _ => exact ⟨vt_mok21, List.mem_filter.mpr ⟨List.mem_of_getElem? vt_mcw21, rfl⟩⟩
  | 22, _, _, _ => exact ⟨vt_mok22, List.mem_filter.mpr ⟨List.mem_of_getElem? vt_mcw22, rfl⟩⟩
  | 23, _, _, _ => exact ⟨vt_mok23, List.mem_filter.mpr ⟨List.mem_of_getElem? vt_mcw23, rfl⟩⟩
  | 24, _, _, _ => exact ⟨vt_mok24, List.mem_filter.mpr ⟨List.mem_of_getElem? vt_mcw24, rfl⟩⟩
  | 25, _, _, _ => exact ⟨vt_mok25, List.mem_filter.mpr ⟨List.mem_of_getElem? vt_mcw25, rfl⟩⟩
  | 26, _, _, _ => exact ⟨vt_mok26, List.mem_filter.mpr ⟨List.mem_of_getElem? vt_mcw26, rfl⟩⟩
  | 27, _, _, _ => exact ⟨vt_mok27, List.mem_filter.mpr ⟨List.mem_of_getElem? vt_mcw27, rfl⟩⟩
  | 28, _, _, _ => exact ⟨vt_mok28, List.mem_filter.mpr ⟨List.mem_of_getElem? vt_mcw28, rfl⟩⟩
  | 29, _, _, _ => exact ⟨vt_mok29, List.mem_filter.mpr ⟨List.mem_of_getElem? vt_mcw29, rfl⟩⟩
  | 30, _, _, _ => exact ⟨vt_mok30, List.mem_filter.mpr ⟨List.mem_of_getElem? vt_mcw30, rfl⟩⟩
  | 31, _, _, _ => exact ⟨vt_mok31, List.mem_filter.mpr ⟨List.mem_of_getElem? vt_mcw31, rfl⟩⟩
  | 32, _, _, _ => exact ⟨vt_mok32, List.mem_filter.mpr ⟨List.mem_of_getElem? vt_mcw32, rfl⟩⟩
  | 33, _, _, _ => exact ⟨vt_mok33, List.mem_filter.mpr ⟨List.mem_of_getElem? vt_mcw33, rfl⟩⟩
  | 34, _, _, _ => exact ⟨vt_mok34, List.mem_filter.mpr ⟨List.mem_of_getElem? vt_mcw34, rfl⟩⟩
  | 35, _, _, _ => exact ⟨vt_mok35, List.mem_filter.mpr ⟨List.mem_of_getElem? vt_mcw35, rfl⟩⟩
  | 36, _, _, _ => exact ⟨vt_mok36, List.mem_filter.mpr ⟨List.mem_of_getElem? vt_mcw36, rfl⟩⟩
  | 37, _, _, _ => exact ⟨vt_mok37, List.mem_filter.mpr ⟨List.mem_of_getElem? vt_mcw37, rfl⟩⟩
  | 38, _, _, _ => exact ⟨vt_mok38, List.mem_filter.mpr ⟨List.mem_of_getElem? vt_mcw38, rfl⟩⟩
  | 39, _, _, _ => exact ⟨vt_mok39, List.mem_filter.mpr ⟨List.mem_of_getElem? vt_mcw39, rfl⟩⟩
  | 40, _, _, _ => exact ⟨vt_mok40, List.mem_filter.mpr ⟨List.mem_of_getElem? vt_mcw40, rfl⟩⟩
  | 42, _, _, _ => exact ⟨vt_mok42, List.mem_filter.mpr ⟨List.mem_of_getElem? vt_mcw42, rfl⟩⟩
  | 43, _, _, _ => exact ⟨vt_mok43, List.mem_filter.mpr ⟨List.mem_of_getElem? vt_mcw43, rfl⟩⟩
  | 44, _, _, _ => exact ⟨vt_mok44, List.mem_filter.mpr ⟨List.mem_of_getElem? vt_mcw44, rfl⟩⟩
  | 45, _, _, _ => exact ⟨vt_mok45, List.mem_filter.mpr ⟨List.mem_of_getElem? vt_mcw45, rfl⟩⟩
  | 46, _, _, _ => exact ⟨vt_mok46, List.mem_filter.mpr ⟨List.mem_of_getElem? vt_mcw46, rfl⟩⟩
  | 47, _, _, _ => exact ⟨vt_mok47, List.mem_filter.mpr ⟨List.mem_of_getElem? vt_mcw47, rfl⟩⟩
  | 48, _, _, _ => exact ⟨vt_mok48, List.mem_filter.mpr ⟨List.mem_of_getElem? vt_mcw48, rfl⟩⟩
  | 49, _, _, _ => exact ⟨vt_mok49, List.mem_filter.mpr ⟨List.mem_of_getElem? vt_mcw49, rfl⟩⟩
  | 50, _, _, _ => exact ⟨vt_mok50, List.mem_filter.mpr ⟨List.mem_of_getElem? vt_mcw50, rfl⟩⟩
  | 51, _, _, _ => exact ⟨vt_mok51, List.mem_filter.mpr ⟨List.mem_of_getElem? vt_mcw51, rfl⟩⟩
  | 52, _, _, _ => exact ⟨vt_mok52, List.mem_filter.mpr ⟨List.mem_of_getElem? vt_mcw52, rfl⟩⟩
  | 53, _, _, _ => exact ⟨vt_mok53, List.mem_filter.mpr ⟨List.mem_of_getElem? vt_mcw53, rfl⟩⟩
  | 54, _, _, _ => exact ⟨vt_mok54, List.mem_filter.mpr ⟨List.mem_of_getElem? vt_mcw54, rfl⟩⟩
  | 55, _, _, _ => exact ⟨vt_mok55, List.mem_filter.mpr ⟨List.mem_of_getElem? vt_mcw55, rfl⟩⟩
  | 56, _, _, _ => exact ⟨vt_mok56, List.mem_filter.mpr ⟨List.mem_of_getElem? vt_mcw56, rfl⟩⟩
  | 57, _, _, _ => exact ⟨vt_mok57, List.mem_filter.mpr ⟨List.mem_of_getElem? vt_mcw57, rfl⟩⟩
  | 58, _, _, _ => exact ⟨vt_mok58, List.mem_filter.mpr ⟨List.mem_of_getElem? vt_mcw58, rfl⟩⟩
  | 59, _, _, _ => exact ⟨vt_mok59, List.mem_filter.mpr ⟨List.mem_of_getElem? vt_mcw59, rfl⟩⟩
  | 60, _, _, _ => exact ⟨vt_mok60, List.mem_filter.mpr ⟨List.mem_of_getElem? vt_mcw60, rfl⟩⟩
  | 61, _, _, _ => exact ⟨vt_mok61, List.mem_filter.mpr ⟨List.mem_of_getElem? vt_mcw61, rfl⟩⟩
  | 62, _, _, _ => exact ⟨vt_mok62, List.mem_filter.mpr ⟨List.mem_of_getElem? vt_mcw62, rfl⟩⟩
  | 63, _, _, _ => exact ⟨vt_mok63, List.mem_filter.mpr ⟨List.mem_of_getElem? vt_mcw63, rfl⟩⟩
  | 64, _, _, _ => exact ⟨vt_mok64, List.mem_filter.mpr ⟨List.mem_of_getElem? vt_mcw64, rfl⟩⟩
  | 65, _, _, _ => exact ⟨vt_mok65, List.mem_filter.mpr ⟨List.mem_of_getElem? vt_mcw65, rfl⟩⟩
  | 66, _, _, _ => exact ⟨vt_mok66, List.mem_filter.mpr ⟨List.mem_of_getElem? vt_mcw66, rfl⟩⟩
  | 67, _, _, _ => exact ⟨vt_mok67, List.mem_filter.mpr ⟨List.mem_of_getElem? vt_mcw67, rfl⟩⟩
  | 68, _, _, _ => exact ⟨vt_mok68, List.mem_filter.mpr ⟨List.mem_of_getElem? vt_mcw68, rfl⟩⟩
  | 69, _, _, _ => exact ⟨vt_mok69, List.mem_filter.mpr ⟨List.mem_of_getElem? vt_mcw69, rfl⟩⟩
  | 70, _, _, _ => exact ⟨vt_mok70, List.mem_filter.mpr ⟨List.mem_of_getElem? vt_mcw70, rfl⟩⟩
  | 71, _, _, _ => exact ⟨vt_mok71, List.mem_filter.mpr ⟨List.mem_of_getElem? vt_mcw71, rfl⟩⟩
  | 72, _, _, _ => exact ⟨vt_mok72, List.mem_filter.mpr ⟨List.mem_of_getElem? vt_mcw72, rfl⟩⟩
  | 73, _, _, _ => exact ⟨vt_mok73, List.mem_filter.mpr ⟨List.mem_of_getElem? vt_mcw73, rfl⟩⟩
  | 74, _, _, _ => exact ⟨vt_mok74, List.mem_filter.mpr ⟨List.mem_of_getElem? vt_mcw74, rfl⟩⟩
  | 75, _, _, _ => exact ⟨vt_mok75, List.mem_filter.mpr ⟨List.mem_of_getElem? vt_mcw75, rfl⟩⟩
  | 76, _, _, _ => exact ⟨vt_mok76, List.mem_filter.mpr ⟨List.mem_of_getElem? vt_mcw76, rfl⟩⟩
  | 77, _, _, _ => exact ⟨vt_mok77, List.mem_filter.mpr ⟨List.mem_of_getElem? vt_mcw77, rfl⟩⟩
  | 78, _, _, _ => exact ⟨vt_mok78, List.mem_filter.mpr ⟨List.mem_of_getElem? vt_mcw78, rfl⟩⟩
  | 79, _, _, _ => exact ⟨vt_mok79, List.mem_filter.mpr ⟨List.mem_of_getElem? vt_mcw79, rfl⟩⟩
  | 80, _, _, _ => exact ⟨vt_mok80, List.mem_filter.mpr ⟨List.mem_of_getElem? vt_mcw80, rfl⟩⟩
  | 81, _, _, _ => exact ⟨vt_mok81, List.mem_filter.mpr ⟨List.mem_of_getElem? vt_mcw81, rfl⟩⟩
  | 82, _, _, _ => exact ⟨vt_mok82, List.mem_filter.mpr ⟨List.mem_of_getElem? vt_mcw82, rfl⟩⟩
  | 83, _, _, _ => exact ⟨vt_mok83, List.mem_filter.mpr ⟨List.mem_of_getElem? vt_mcw83, rfl⟩⟩
  | 84, _, _, _ => exact ⟨vt_mok84, List.mem_filter.mpr ⟨List.mem_of_getElem? vt_mcw84, rfl⟩⟩
  | 85, _, _, _ => exact ⟨vt_mok85, List.mem_filter.mpr ⟨List.mem_of_getElem? vt_mcw85, rfl⟩⟩
  | 86, _, _, _ => exact ⟨vt_mok86, List.mem_filter.mpr ⟨List.mem_of_getElem? vt_mcw86, rfl⟩⟩
  | 87, _, _, _ => exact ⟨vt_mok87, List.mem_filter.mpr ⟨List.mem_of_getElem? vt_mcw87, rfl⟩⟩
  | 88, _, _, _ => exact ⟨vt_mok88, List.mem_filter.mpr ⟨List.mem_of_getElem? vt_mcw88, rfl⟩⟩
  | 89, _, _, _ => exact ⟨vt_mok89, List.mem_filter.mpr ⟨List.mem_of_getElem? vt_mcw89, rfl⟩⟩
  | 90, _, _, _ => exact ⟨vt_mok90, List.mem_filter.mpr ⟨List.mem_of_getElem? vt_mcw90, rfl⟩⟩
  | 91, _, _, _ => exact ⟨vt_mok91, List.mem_filter.mpr ⟨List.mem_of_getElem? vt_mcw91, rfl⟩⟩
  | 92, _, _, _ => exact ⟨vt_mok92, List.mem_filter.mpr ⟨List.mem_of_getElem? vt_mcw92, rfl⟩⟩
  | 93, _, _, _ => exact ⟨vt_mok93, List.mem_filter.mpr ⟨List.mem_of_getElem? vt_mcw93, rfl⟩⟩
  | 94, _, _, _ => exact ⟨vt_mok94, List.mem_filter.mpr ⟨List.mem_of_getElem? vt_mcw94, rfl⟩⟩
  | 95, _, _, _ => exact ⟨vt_mok95, List.mem_filter.mpr ⟨List.mem_of_getElem? vt_mcw95, rfl⟩⟩
  | 96, _, _, _ => exact ⟨vt_mok96, List.mem_filter.mpr ⟨List.mem_of_getElem? vt_mcw96, rfl⟩⟩
  | 97, _, _, _ => exact ⟨vt_mok97, List.mem_filter.mpr ⟨List.mem_of_getElem? vt_mcw97, rfl⟩⟩
  | 98, _, _, _ => exact ⟨vt_mok98, List.mem_filter.mpr ⟨List.mem_of_getElem? vt_mcw98, rfl⟩⟩
  | 99, _, _, _ => exact ⟨vt_mok99, List.mem_filter.mpr ⟨List.mem_of_getElem? vt_mcw99, rfl⟩⟩
  | 100, _, _, _ => exact ⟨vt_mok100, List.mem_filter.mpr ⟨List.mem_of_getElem? vt_mcw100, rfl⟩⟩
  | 101, _, _, _ => exact ⟨vt_mok101, List.mem_filter.mpr ⟨List.mem_of_getElem? vt_mcw101, rfl⟩⟩
  | 102, _, _, _ => exact ⟨vt_mok102, List.mem_filter.mpr ⟨List.mem_of_getElem? vt_mcw102, rfl⟩⟩
  | 103, _, _, _ => exact ⟨vt_mok103, List.mem_filter.mpr ⟨List.mem_of_getElem? vt_mcw103, rfl⟩⟩
  | 104, _, _, _ => exact ⟨vt_mok104, List.mem_filter.mpr ⟨List.mem_of_getElem? vt_mcw104, rfl⟩⟩
  | 105, _, _, _ => exact ⟨vt_mok105, List.mem_filter.mpr ⟨List.mem_of_getElem? vt_mcw105, rfl⟩⟩
  | 106, _, _, _ => exact ⟨vt_mok106, List.mem_filter.mpr ⟨List.mem_of_getElem? vt_mcw106, rfl⟩⟩
  | 107, _, _, _ => exact ⟨vt_mok107, List.mem_filter.mpr ⟨List.mem_of_getElem? vt_mcw107, rfl⟩⟩
  | 108, _, _, _ => exact ⟨vt_mok108, List.mem_filter.mpr ⟨List.mem_of_getElem? vt_mcw108, rfl⟩⟩
  | 109, _, _, _ => exact ⟨vt_mok109, List.mem_filter.mpr ⟨List.mem_of_getElem? vt_mcw109, rfl⟩⟩
  | 110, _, _, _ => exact ⟨vt_mok110, List.mem_filter.mpr ⟨List.mem_of_getElem? vt_mcw110, rfl⟩⟩
  | 111, _, _, _ => exact ⟨vt_mok111, List.mem_filter.mpr ⟨List.mem_of_getElem? vt_mcw111, rfl⟩⟩
  | 112, _, _, _ => exact ⟨vt_mok112, List.mem_filter.mpr ⟨List.mem_of_getElem? vt_mcw112, rfl⟩⟩
  | 113, _, _, _ => exact ⟨vt_mok113, List.mem_filter.mpr ⟨List.mem_of_getElem? vt_mcw113, rfl⟩⟩
  | 114, _, _, _ => exact ⟨vt_mok114, List.mem_filter.mpr ⟨List.mem_of_getElem? vt_mcw114, rfl⟩⟩
  | 115, _, _, _ => exact ⟨vt_mok115, List.mem_filter.mpr ⟨List.mem_of_getElem? vt_mcw115, rfl⟩⟩
  | 116, _, _, _ => exact ⟨vt_mok116, List.mem_filter.mpr ⟨List.mem_of_getElem? vt_mcw116, rfl⟩⟩
  | 41, _, _, h => exact absurd rfl h
  | k + 117, _, h, _ => exact absurd h (by omega)
