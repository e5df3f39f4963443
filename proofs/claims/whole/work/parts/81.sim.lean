def vt_tr (base b : Nat) : Value → Value
  | .ref a => .ref (base + a)
  | .retAddr _ => .ref b
  | v => v
theorem vt_tr_rf (base b : Nat) (r : Option Nat) : vt_tr base b (va_rf r) = va_rf (r.map (base + ·)) := by cases r <;> rfl
theorem vt_tr_cat (base b : Nat) (v : Value) : (vt_tr base b v).category = v.category := by cases v <;> rfl
def vt_fv (base : Nat) (h : vt_H) (k j : Nat) (rf : Bool) : Value := if rf = true then va_rf ((vh_R h k j).map (base + ·)) else .int (vh_I h k j)
def vt_nf (ci : Nat) : Nat := match vt_cl[ci]? with
  | some (_, _, N) => N
  | none => 0
def vt_fs (base : Nat) (h : vt_H) (k ci : Nat) : List Value := (List.range (vt_nf ci)).map (fun j => vt_fv base h k j (vt_ref ci j))
/-- the cell of the machine that stands for a cell of the small heap -/
def vt_E (base : Nat) (ca : Nat → ClassId) (h : vt_H) (k : Nat) : va_E :=
  if 100 ≤ vh_K h k then .inr (vh_K h k - 100, vt_fs base h k (vh_K h k - 100))
  else if vh_K h k = 1 ∨ vh_K h k = 4 then .inl (ca (vh_K h k), vh_Z h k, .inl (vh_I h k))
  else .inl (ca (vh_K h k), vh_Z h k, .inr (.inr (.inr (.inr (fun i => (vh_R h k i).map (base + ·))))))
def vt_ws (base : Nat) (ca : Nat → ClassId) (h : vt_H) : va_W := (List.range (vh_n h)).map (fun k => (base + k, vt_E base ca h k))
theorem vt_ws_at {base : Nat} {ca : Nat → ClassId} {h : vt_H} {k : Nat} (hk : k < vh_n h) : (vt_ws base ca h)[k]? = some (base + k, vt_E base ca h k) := by
  simp [vt_ws, hk]
theorem vt_ws_of {base : Nat} {ca : Nat → ClassId} {h : vt_H} {k : Nat} {q : Nat × va_E} (hq : (vt_ws base ca h)[k]? = some q) : k < vh_n h ∧ q = (base + k, vt_E base ca h k) := by
  have hk : k < vh_n h := by
    have := (List.getElem?_eq_some_iff.mp hq).1
    simpa [vt_ws] using this
  rw [vt_ws_at hk] at hq
  exact ⟨hk, (Option.some.inj hq).symm⟩
theorem vt_ws_set {base : Nat} {ca : Nat → ClassId} {h h' : vt_H} {k : Nat} (hn : vh_n h' = vh_n h) (ho : ∀ j, j ≠ k → vt_E base ca h' j = vt_E base ca h j) : (vt_ws base ca h).set k (base + k, vt_E base ca h' k) = vt_ws base ca h' := by
  apply List.ext_getElem?
  intro j
  by_cases hj : j < vh_n h
  · rw [vt_ws_at (h := h') (by omega), List.getElem?_set]
    by_cases e : k = j
    · subst e
      simp [vt_ws, hj]
    · rw [if_neg e, vt_ws_at hj, ho j (fun q => e q.symm)]
  · rw [List.getElem?_eq_none (by simp [vt_ws]; omega), List.getElem?_eq_none (by simp [vt_ws]; omega)]
theorem vt_ws_push {base : Nat} {ca : Nat → ClassId} {h h' : vt_H} (hn : vh_n h' = vh_n h + 1) (ho : ∀ j, j < vh_n h → vt_E base ca h' j = vt_E base ca h j) : vt_ws base ca h ++ [(base + vh_n h, vt_E base ca h' (vh_n h))] = vt_ws base ca h' := by
  unfold vt_ws
  rw [hn, List.range_succ, List.map_append]
  congr 1
  exact List.map_congr_left (fun j hj => by rw [ho j (List.mem_range.mp hj)])
theorem vt_ws_D {base : Nat} {ca : Nat → ClassId} {h : vt_H} : va_D (fun q => base ≤ q) (vt_ws base ca h) := by
  refine ⟨fun i j p q hp hq e => ?_, fun k q hq => ?_⟩
  · obtain ⟨-, rfl⟩ := vt_ws_of hp
    obtain ⟨-, rfl⟩ := vt_ws_of hq
    have e : base + i = base + j := e
    omega
  · obtain ⟨-, rfl⟩ := vt_ws_of hq
    exact Nat.le_add_right _ _
def vt_tys (ca : Nat → ClassId) : List (ClassId × FieldType) := vt_aks.map (fun q => (ca q.1, q.2))
/-- the heap of the machine holds the small heap, from base on -/
def vt_Rel (base : Nat) (D : va_G) (ca : Nat → ClassId) (h : vt_H) (H : Heap) : Prop := (∀ k, vh_n h ≤ k → vh_K h k = 0) ∧ (∀ k, vh_K h k < 100 → 0 < vh_K h k → (vt_ak (vh_K h k)).isSome = true) ∧ va_P D vt_cl (vt_ws base ca h) H
def vt_L (base b m : Nat) (lsA : Array Slot) (ls : List Value) : Prop := lsA.size = (vt_m m).2.2.1 ∧ lv_wf lsA ∧ ls.length ≤ (vt_m m).2.2.1 ∧ (∀ v ∈ ls, v.category = 1) ∧ ∀ (i : Nat) (v : Value), ls[i]? = some v → v ≠ vt_un → lsA[i]? = some (.val (vt_tr base b v))
/-- the locals as the kit lists them -/
def vt_lv (base b : Nat) (ls : List Value) : List (Nat × Value) := (List.range ls.length).filterMap (fun i => match ls[i]? with
  | some v => if v = vt_un then none else some (i, vt_tr base b v)
  | none => none)
theorem vt_lv_mem {base b : Nat} {ls : List Value} {q : Nat × Value} : q ∈ vt_lv base b ls ↔ ∃ v, ls[q.1]? = some v ∧ v ≠ vt_un ∧ q.2 = vt_tr base b v := by
  unfold vt_lv
  rw [List.mem_filterMap]
  constructor
  · rintro ⟨i, hi, hq⟩
    cases hv : ls[i]? with
    | none => rw [hv] at hq; cases hq
    | some v =>
      rw [hv] at hq
      dsimp only at hq
      by_cases hu : v = vt_un
      · rw [if_pos hu] at hq; cases hq
      · rw [if_neg hu] at hq
        cases hq
        exact ⟨v, hv, hu, rfl⟩
  · rintro ⟨v, hv, hu, hq⟩
    refine ⟨q.1, List.mem_range.mpr (List.getElem?_eq_some_iff.mp hv).1, ?_⟩
    rw [hv]
    dsimp only
    rw [if_neg hu, ← hq]
theorem vt_lv_has {base b m : Nat} {lsA : Array Slot} {ls : List Value} (hL : vt_L base b m lsA ls) : lv_has lsA (vt_m m).2.2.1 (vt_lv base b ls) := by
  refine ⟨hL.1, hL.2.1, fun q hq => ?_⟩
  obtain ⟨v, hv, hu, e⟩ := vt_lv_mem.mp hq
  rw [e]
  exact hL.2.2.2.2 _ _ hv hu
theorem vt_L_set {base b m : Nat} {lsA lsA' : Array Slot} {ls : List Value} {a : Nat} {v : Value} (hL : vt_L base b m lsA ls) (ha : a < ls.length) (hv : v.category = 1) (hl : lv_has lsA' (vt_m m).2.2.1 ((a, vt_tr base b v) :: (vt_lv base b ls).filter (fun q => !(q.1 == a) && !(q.1 + 1 == a && q.2.category == 2)))) : vt_L base b m lsA' (ls.set a v) := by
  obtain ⟨h1, h2, h3, h4, h5⟩ := hL
  refine ⟨hl.1, hl.2.1, by rw [List.length_set]; exact h3, fun x hx => ?_, fun i x hx hu => ?_⟩
  · rcases List.mem_or_eq_of_mem_set hx with q | q
    · exact h4 x q
    · rw [q]; exact hv
  · rw [List.getElem?_set] at hx
    by_cases e : a = i
    · subst e
      rw [if_pos rfl, if_pos ha] at hx
      cases hx
      exact hl.2.2 _ List.mem_cons_self
    · rw [if_neg e] at hx
      refine hl.2.2 (i, vt_tr base b x) (List.mem_cons_of_mem _ (List.mem_filter.mpr ⟨vt_lv_mem.mpr ⟨x, hx, hu, rfl⟩, ?_⟩))
      have hc : (vt_tr base b x).category = 1 := by rw [vt_tr_cat]; exact h4 x (List.mem_of_getElem? hx)
      simp only [hc]
      have : (i == a) = false := beq_eq_false_iff_ne.mpr (fun q => e q.symm)
      simp [this]
/-- what stays while a method runs -/
def vt_Ctx (m : Nat) (p : Program) (Rm : Room) (s : State) (mm : MethodId) (args : Array Value) (meth : Method) (c : Code) : Prop :=
  p.tables.exec = Jvm.exec ∧ c.code = (vt_m m).2.1 ∧ c.maxLocals = (vt_m m).2.2.1 ∧ meth.sig.returnType = (vt_m m).2.2.2 ∧ s.vm.findClass (vt_own m) = some mm.cls ∧ (∀ w ∈ vt_T, w.before args s = true) ∧ meth.locks = false ∧ ((vt_m m).1.name = "<init>" → meth.name = "<init>") ∧ vt_dp m + 1 ≤ Rm.frames ∧ 40 * (vt_dp m + 1) ≤ Rm.locals
/-- what the tables say that no list of words carries along -/
def vt_Tx (s : State) : Prop := (∀ q ∈ vt_NL, va_Nw (.methodLinkNest q.1 q.2.1 q.2.2 vt_host) s) ∧ va_AO "RuleEngine$Rule" s ∧ va_Nw (.arrayOver (.array .int)) s
theorem vt_AOA {u U : State} (hvm : u.vm.Alike U.vm) (h : va_Nw (.arrayOver (.array .int)) u) : va_Nw (.arrayOver (.array .int)) U := by
  have hi : ∀ comp : ClassId, (U.vm.classes.findIdx? fun (x : Class) => match x.kind with | .array component _ => component == comp | _ => false) = (u.vm.classes.findIdx? fun (x : Class) => match x.kind with | .array component _ => component == comp | _ => false) := fun comp => (va_idx_bare U.vm comp).symm.trans (Eq.trans (by rw [hvm.bare_eq]) (va_idx_bare u.vm comp))
  have hf : ∀ n, U.vm.findClass n = u.vm.findClass n := fun n => by rw [hvm.findClass]
  unfold va_Nw Cond.before Cond.holds at h ⊢
  simp only [Cond.value, beq_iff_eq] at h ⊢
  rw [hf]
  cases hc : u.vm.findClass (FieldType.array FieldType.int).toString with
  | none => rw [hc] at h; simp at h
  | some comp =>
    rw [hc, Option.bind_some] at h
    rw [Option.bind_some]
    obtain ⟨c, h1, h2⟩ := Option.bind_eq_some_iff.mp h
    obtain ⟨k, hk, hb⟩ := Option.map_eq_some_iff.mp h2
    obtain ⟨k', hk', he⟩ := hvm.2.2 _ _ hk
    refine Option.bind_eq_some_iff.mpr ⟨c, (hi comp).trans h1, Option.map_eq_some_iff.mpr ⟨k', hk', ?_⟩⟩
    have hkk : k'.kind = k.kind := by rw [he]
    rw [hkk, hf]
    exact hb
theorem vt_Tx.moved {s U : State} (hW : s.WarmedH U.vm) (h : vt_Tx s) : vt_Tx U := ⟨fun q hq => va_Nw.warmM hW (h.1 q hq), va_AO.moved hW.alike h.2.1, vt_AOA hW.alike h.2.2⟩
theorem vt_Tx.same {s U : State} (hv : s.vm = U.vm) (h : vt_Tx s) : vt_Tx U := ⟨fun q hq => va_Nw.same rfl hv (h.1 q hq), va_AO.moved (by rw [hv]; exact Vm.Alike.refl _) h.2.1, vt_AOA (by rw [hv]; exact Vm.Alike.refl _) h.2.2⟩
def vt_Wd (base b : Nat) (D : va_G) (ca : Nat → ClassId) (X : Nat → Int32) (L : Nat) (s : State) : Prop := va_K D vt_cl (vt_tys ca) s ∧ b < base ∧ base ≤ s.heap.size ∧ va_X b L X s s.heap ∧ vt_Tx s
/-- the machine goes on from here to Qf, wherever its cells lie -/
def vt_Go (p : Program) (l : Launch) (e : Env) (Rm : Room) (s : State) (mm : MethodId) (args : Array Value) (below : List Frame) (meth : Method) (c : Code) (Qf : State → Prop) (base b : Nat) (D : va_G) (ca : Nat → ClassId) (m pc : Nat) (ls st : List Value) (h : vt_H) (cells slots : Nat) : Prop :=
  ∀ (H : Heap) (locs : List Loc) (lsA : Array Slot), s.heap.size + cells = base + vh_n h → vt_Rel base D ca h H → va_S (fun q => base ≤ q) s.heap H locs → vt_L base b m lsA ls → W p l e Rm s mm args below meth c H locs cells slots Qf (F0 mm pc lsA (st.map (vt_tr base b)))
section SM
variable {p : Program} {l : Launch} {e : Env} {Rm : Room} {s : State} {mm : MethodId} {args : Array Value} {below : List Frame} {meth : Method} {c : Code} {Qf : State → Prop} {base b : Nat} {D : va_G} {ca : Nat → ClassId} {m pc : Nat} {ls st : List Value} {h : vt_H} {cells slots : Nat}
/-- what the count of new cells says of the heap's size -/
theorem vt_cap {H : Heap} {locs : List Loc} {g : JFrame} (k : H.size ≤ s.heap.size + cells → W p l e Rm s mm args below meth c H locs cells slots Qf g) : W p l e Rm s mm args below meth c H locs cells slots Qf g := fun T hT X => k (by have := X.same.2.2.1; rw [← hT]; exact this) T hT X
theorem vt_size {H : Heap} (hz : H.size ≤ base + vh_n h) (hb : base ≤ H.size) (hR : vt_Rel base D ca h H) : H.size = base + vh_n h := by
  rcases Nat.eq_zero_or_pos (vh_n h) with q | q
  · omega
  · have := (hR.2.2 (vh_n h - 1) _ (vt_ws_at (by omega))).lt
    have : base + (vh_n h - 1) < H.size := this
    omega
theorem vt_dc_of {x : Instr} {n : Nat} (hd : vt_dc m pc x n = true) : decode (vt_m m).2.1 pc = .ok (x, n) := of_decide_eq_true hd
theorem vt_L_at {lsA : Array Slot} {i : Nat} {v : Value} (hL : vt_L base b m lsA ls) (hv : ls[i]? = some v) (hu : v ≠ vt_un) : lsA[i]? = some (.val (vt_tr base b v)) := hL.2.2.2.2 i v hv hu
theorem sm_const (C : vt_Ctx m p Rm s mm args meth c) (Wd : vt_Wd base b D ca (vh_X h) (vh_L h) s) {w a b1 c1 e1 : Nat} {v : Int} {pc' : Nat} {ls' st' : List Value} {h' : vt_H} {cells' slots' : Nat} (hc : cells' = cells + (vh_n h' - vh_n h)) (hs : slots' = slots + (vh_u h' - vh_u h)) (hbc : cells' ≤ Rm.cells) (hbs : slots' ≤ Rm.slots) (hn : (some (pc + a, ls, .int (Int32.ofInt v) :: st, h) : vt_N) = some (pc', ls', st', h')) (hok : vt_okb m pc (0, w, v, a, b1, c1, e1) = true) (kk : vt_Go p l e Rm s mm args below meth c Qf base b D ca m pc' ls' st' h' cells' slots') : vt_Go p l e Rm s mm args below meth c Qf base b D ca m pc ls st h cells slots := by
  obtain ⟨hx, hb, hml, hr, hown, hts, hlk, hnm, hfr, hlo⟩ := C
  cases hn
  simp only [Nat.sub_self, Nat.add_zero] at hc hs
  replace hc := hc.symm; replace hs := hs.symm; subst hc; subst hs
  intro H locs lsA hZ hR hS hL
  have k := kk H locs lsA hZ hR hS hL
  simp only [vt_okb] at hok
  split at hok <;> simp only [Bool.and_eq_true, decide_eq_true_eq] at hok
  · obtain ⟨rfl, h1⟩ := hok
    exact lv_iconst hx hb (vt_dc_of h1) rfl k
  · obtain ⟨rfl, h1, h2⟩ := hok
    exact lv_bipush hx hb (vt_dc_of h1) h2 k
  · obtain ⟨rfl, h1, h2⟩ := hok
    exact lv_sipush hx hb (vt_dc_of h1) h2 k
  · obtain ⟨rfl, h1, h2⟩ := hok
    exact lv_ldc hx hb hown (hts _ (vt_wd_of h2)) (vt_dc_of h1) k
  · obtain ⟨rfl, h1, h2⟩ := hok
    exact lv_ldcw hx hb hown (hts _ (vt_wd_of h2)) (vt_dc_of h1) k
theorem sm_iload (C : vt_Ctx m p Rm s mm args meth c) (Wd : vt_Wd base b D ca (vh_X h) (vh_L h) s) {w a b1 c1 e1 : Nat} {v : Int} {pc' : Nat} {ls' st' : List Value} {h' : vt_H} {cells' slots' : Nat} (hc : cells' = cells + (vh_n h' - vh_n h)) (hs : slots' = slots + (vh_u h' - vh_u h)) (hbc : cells' ≤ Rm.cells) (hbs : slots' ≤ Rm.slots) (hn : vn_iload a b1 pc ls st h = some (pc', ls', st', h')) (hok : vt_okb m pc (1, w, v, a, b1, c1, e1) = true) (kk : vt_Go p l e Rm s mm args below meth c Qf base b D ca m pc' ls' st' h' cells' slots') : vt_Go p l e Rm s mm args below meth c Qf base b D ca m pc ls st h cells slots := by
  obtain ⟨hx, hb, hml, hr, hown, hts, hlk, hnm, hfr, hlo⟩ := C
  unfold vn_iload at hn
  split at hn
  · rename_i x hl
    cases hn
    simp only [Nat.sub_self, Nat.add_zero] at hc hs
    replace hc := hc.symm; replace hs := hs.symm; subst hc; subst hs
    intro H locs lsA hZ hR hS hL
    have k := kk H locs lsA hZ hR hS hL
    have hl : lsA[a]? = some (.val (.int x)) := vt_L_at hL hl (by simp)
    simp only [vt_okb] at hok
    split at hok <;> simp only [Bool.and_eq_true, decide_eq_true_eq] at hok
    · obtain ⟨⟨h0, rfl⟩, h1⟩ := hok
      exact lv_iload_n hx hb (vt_dc_of h1) (by simp [Nat.mod_eq_of_lt h0]) hl k
    · obtain ⟨rfl, h1⟩ := hok
      exact lv_iload hx hb (vt_dc_of h1) hl k
  · cases hn
theorem sm_aload (C : vt_Ctx m p Rm s mm args meth c) (Wd : vt_Wd base b D ca (vh_X h) (vh_L h) s) {w a b1 c1 e1 : Nat} {v : Int} {pc' : Nat} {ls' st' : List Value} {h' : vt_H} {cells' slots' : Nat} (hc : cells' = cells + (vh_n h' - vh_n h)) (hs : slots' = slots + (vh_u h' - vh_u h)) (hbc : cells' ≤ Rm.cells) (hbs : slots' ≤ Rm.slots) (hn : vn_aload a b1 pc ls st h = some (pc', ls', st', h')) (hok : vt_okb m pc (2, w, v, a, b1, c1, e1) = true) (kk : vt_Go p l e Rm s mm args below meth c Qf base b D ca m pc' ls' st' h' cells' slots') : vt_Go p l e Rm s mm args below meth c Qf base b D ca m pc ls st h cells slots := by
  obtain ⟨hx, hb, hml, hr, hown, hts, hlk, hnm, hfr, hlo⟩ := C
  unfold vn_aload at hn
  split at hn
  · rename_i v0 hl
    by_cases hv : vt_rv v0 = true
    · rw [if_pos hv] at hn
      cases hn
      simp only [Nat.sub_self, Nat.add_zero] at hc hs
      replace hc := hc.symm; replace hs := hs.symm; subst hc; subst hs
      intro H locs lsA hZ hR hS hL
      have k := kk H locs lsA hZ hR hS hL
      have hl : lsA[a]? = some (.val (vt_tr base b v0)) := vt_L_at hL hl (by rintro rfl; simp [vt_rv] at hv)
      have hf : vt_tr base b v0 = .null ∨ ∃ x, vt_tr base b v0 = .ref x := by
        cases v0 <;> simp [vt_rv, vt_tr] at hv ⊢
      have k : W p l e Rm s mm args below meth c H locs cells slots Qf (F0 mm (pc + b1) lsA (vt_tr base b v0 :: st.map (vt_tr base b))) := k
      simp only [vt_okb] at hok
      rcases hf with q | ⟨x, q⟩ <;> rw [q] at hl k <;> split at hok <;> simp only [Bool.and_eq_true, decide_eq_true_eq] at hok
      · obtain ⟨⟨h0, rfl⟩, h1⟩ := hok
        exact lv_aload_nN hx hb (vt_dc_of h1) (by simp [Nat.mod_eq_of_lt h0]) hl k
      · obtain ⟨rfl, h1⟩ := hok
        exact lv_aloadN hx hb (vt_dc_of h1) hl k
      · obtain ⟨⟨h0, rfl⟩, h1⟩ := hok
        exact lv_aload_n hx hb (vt_dc_of h1) (by simp [Nat.mod_eq_of_lt h0]) hl k
      · obtain ⟨rfl, h1⟩ := hok
        exact lv_aload hx hb (vt_dc_of h1) hl k
    · rw [if_neg hv] at hn
      cases hn
  · cases hn
theorem sm_istore (C : vt_Ctx m p Rm s mm args meth c) (Wd : vt_Wd base b D ca (vh_X h) (vh_L h) s) {w a b1 c1 e1 : Nat} {v : Int} {pc' : Nat} {ls' st' : List Value} {h' : vt_H} {cells' slots' : Nat} (hc : cells' = cells + (vh_n h' - vh_n h)) (hs : slots' = slots + (vh_u h' - vh_u h)) (hbc : cells' ≤ Rm.cells) (hbs : slots' ≤ Rm.slots) (hn : vn_istore a b1 pc ls st h = some (pc', ls', st', h')) (hok : vt_okb m pc (3, w, v, a, b1, c1, e1) = true) (kk : vt_Go p l e Rm s mm args below meth c Qf base b D ca m pc' ls' st' h' cells' slots') : vt_Go p l e Rm s mm args below meth c Qf base b D ca m pc ls st h cells slots := by
  obtain ⟨hx, hb, hml, hr, hown, hts, hlk, hnm, hfr, hlo⟩ := C
  unfold vn_istore at hn
  split at hn
  · rename_i x t
    by_cases ha : a < ls.length
    · rw [if_pos ha] at hn
      cases hn
      simp only [Nat.sub_self, Nat.add_zero] at hc hs
      replace hc := hc.symm; replace hs := hs.symm; subst hc; subst hs
      intro H locs lsA hZ hR hS hL
      have han : a < (vt_m m).2.2.1 := Nat.lt_of_lt_of_le ha hL.2.2.1
      simp only [vt_okb] at hok
      split at hok <;> simp only [Bool.and_eq_true, decide_eq_true_eq] at hok
      · obtain ⟨⟨h0, rfl⟩, h1⟩ := hok
        exact lv_istore_n hx hb (vt_dc_of h1) (by simp [Nat.mod_eq_of_lt h0]) (vt_lv_has hL) han rfl (fun ls2 hl2 => kk H locs ls2 hZ hR hS (vt_L_set hL ha rfl hl2))
      · obtain ⟨rfl, h1⟩ := hok
        exact lv_istore hx hb (vt_dc_of h1) (vt_lv_has hL) han rfl (fun ls2 hl2 => kk H locs ls2 hZ hR hS (vt_L_set hL ha rfl hl2))
    · rw [if_neg ha] at hn
      cases hn
  · cases hn
theorem sm_astore (C : vt_Ctx m p Rm s mm args meth c) (Wd : vt_Wd base b D ca (vh_X h) (vh_L h) s) {w a b1 c1 e1 : Nat} {v : Int} {pc' : Nat} {ls' st' : List Value} {h' : vt_H} {cells' slots' : Nat} (hc : cells' = cells + (vh_n h' - vh_n h)) (hs : slots' = slots + (vh_u h' - vh_u h)) (hbc : cells' ≤ Rm.cells) (hbs : slots' ≤ Rm.slots) (hn : vn_astore a b1 pc ls st h = some (pc', ls', st', h')) (hok : vt_okb m pc (4, w, v, a, b1, c1, e1) = true) (kk : vt_Go p l e Rm s mm args below meth c Qf base b D ca m pc' ls' st' h' cells' slots') : vt_Go p l e Rm s mm args below meth c Qf base b D ca m pc ls st h cells slots := by
  obtain ⟨hx, hb, hml, hr, hown, hts, hlk, hnm, hfr, hlo⟩ := C
  unfold vn_astore at hn
  split at hn
  · rename_i v0 t
    by_cases ha : a < ls.length ∧ vt_rv v0 = true
    · rw [if_pos ha] at hn
      cases hn
      simp only [Nat.sub_self, Nat.add_zero] at hc hs
      replace hc := hc.symm; replace hs := hs.symm; subst hc; subst hs
      intro H locs lsA hZ hR hS hL
      have han : a < (vt_m m).2.2.1 := Nat.lt_of_lt_of_le ha.1 hL.2.2.1
      have hcat : v0.category = 1 := by
        have := ha.2
        cases v0 <;> simp [vt_rv, Value.category] at this ⊢
      have hf : vt_tr base b v0 = .null ∨ ∃ x, vt_tr base b v0 = .ref x := by
        have := ha.2
        cases v0 <;> simp [vt_rv, vt_tr] at this ⊢
      have key : ∀ ls2, lv_has ls2 (vt_m m).2.2.1 ((a, vt_tr base b v0) :: (vt_lv base b ls).filter (fun q => !(q.1 == a) && !(q.1 + 1 == a && q.2.category == 2))) → W p l e Rm s mm args below meth c H locs cells slots Qf (F0 mm (pc + b1) ls2 (st'.map (vt_tr base b))) := fun ls2 hl2 => kk H locs ls2 hZ hR hS (vt_L_set hL ha.1 hcat hl2)
      show W p l e Rm s mm args below meth c H locs cells slots Qf (F0 mm pc lsA (vt_tr base b v0 :: st'.map (vt_tr base b)))
      simp only [vt_okb] at hok
      rcases hf with q | ⟨x, q⟩ <;> rw [q] at key ⊢ <;> split at hok <;> simp only [Bool.and_eq_true, decide_eq_true_eq] at hok
      · obtain ⟨⟨h0, rfl⟩, h1⟩ := hok
        exact lv_astore_nN hx hb (vt_dc_of h1) (by simp [Nat.mod_eq_of_lt h0]) (vt_lv_has hL) han rfl key
      · obtain ⟨rfl, h1⟩ := hok
        exact lv_astoreN hx hb (vt_dc_of h1) (vt_lv_has hL) han rfl key
      · obtain ⟨⟨h0, rfl⟩, h1⟩ := hok
        exact lv_astore_n hx hb (vt_dc_of h1) (by simp [Nat.mod_eq_of_lt h0]) (vt_lv_has hL) han rfl key
      · obtain ⟨rfl, h1⟩ := hok
        exact lv_astore hx hb (vt_dc_of h1) (vt_lv_has hL) han rfl key
    · rw [if_neg ha] at hn
      cases hn
  · cases hn
theorem sm_iinc (C : vt_Ctx m p Rm s mm args meth c) (Wd : vt_Wd base b D ca (vh_X h) (vh_L h) s) {w a b1 c1 e1 : Nat} {v : Int} {pc' : Nat} {ls' st' : List Value} {h' : vt_H} {cells' slots' : Nat} (hc : cells' = cells + (vh_n h' - vh_n h)) (hs : slots' = slots + (vh_u h' - vh_u h)) (hbc : cells' ≤ Rm.cells) (hbs : slots' ≤ Rm.slots) (hn : vn_iinc v a pc ls st h = some (pc', ls', st', h')) (hok : vt_okb m pc (5, w, v, a, b1, c1, e1) = true) (kk : vt_Go p l e Rm s mm args below meth c Qf base b D ca m pc' ls' st' h' cells' slots') : vt_Go p l e Rm s mm args below meth c Qf base b D ca m pc ls st h cells slots := by
  obtain ⟨hx, hb, hml, hr, hown, hts, hlk, hnm, hfr, hlo⟩ := C
  unfold vn_iinc at hn
  split at hn
  · rename_i x hl
    cases hn
    simp only [Nat.sub_self, Nat.add_zero] at hc hs
    replace hc := hc.symm; replace hs := hs.symm; subst hc; subst hs
    intro H locs lsA hZ hR hS hL
    have ha : a < ls.length := (List.getElem?_eq_some_iff.mp hl).1
    have han : a < (vt_m m).2.2.1 := Nat.lt_of_lt_of_le ha hL.2.2.1
    obtain ⟨k0, hk0⟩ := List.getElem?_of_mem (vt_lv_mem (q := (a, .int x)) (base := base) (b := b) |>.mpr ⟨.int x, hl, by simp, rfl⟩)
    exact lv_iinc hx hb (vt_dc_of hok) (vt_lv_has hL) hk0 rfl han rfl (fun ls2 hl2 => kk H locs ls2 hZ hR hS (vt_L_set hL ha rfl hl2))
  · cases hn
theorem sm_bin (C : vt_Ctx m p Rm s mm args meth c) (Wd : vt_Wd base b D ca (vh_X h) (vh_L h) s) {w a b1 c1 e1 : Nat} {v : Int} {pc' : Nat} {ls' st' : List Value} {h' : vt_H} {cells' slots' : Nat} (hc : cells' = cells + (vh_n h' - vh_n h)) (hs : slots' = slots + (vh_u h' - vh_u h)) (hbc : cells' ≤ Rm.cells) (hbs : slots' ≤ Rm.slots) (hn : vn_bin a pc ls st h = some (pc', ls', st', h')) (hok : vt_okb m pc (6, w, v, a, b1, c1, e1) = true) (kk : vt_Go p l e Rm s mm args below meth c Qf base b D ca m pc' ls' st' h' cells' slots') : vt_Go p l e Rm s mm args below meth c Qf base b D ca m pc ls st h cells slots := by
  obtain ⟨hx, hb, hml, hr, hown, hts, hlk, hnm, hfr, hlo⟩ := C
  unfold vn_bin at hn
  split at hn
  · rename_i y x t
    cases hn
    simp only [Nat.sub_self, Nat.add_zero] at hc hs
    replace hc := hc.symm; replace hs := hs.symm; subst hc; subst hs
    intro H locs lsA hZ hR hS hL
    have k : W p l e Rm s mm args below meth c H locs cells slots Qf (F0 mm (pc + 1) lsA (.int (vt_bin a x y) :: t.map (vt_tr base b))) := kk H locs lsA hZ hR hS hL
    show W p l e Rm s mm args below meth c H locs cells slots Qf (F0 mm pc lsA (.int y :: .int x :: t.map (vt_tr base b)))
    have hd := vt_dc_of (m := m) (pc := pc) (x := vt_binI a) (n := 1) hok
    unfold vt_bin at k
    unfold vt_binI at hd
    split at k <;> (try dsimp only at hd)
    · exact lv_iadd hx hb hd k
    · exact lv_isub hx hb hd k
    · exact lv_imul hx hb hd k
    · exact lv_iand hx hb hd k
    · exact lv_ior hx hb hd k
    · exact lv_ixor hx hb hd k
    · exact lv_ishl hx hb hd k
    · exact lv_ishr hx hb hd k
    · split at hd <;> first | contradiction | exact lv_iushr hx hb hd rfl k
  · cases hn
theorem sm_div (C : vt_Ctx m p Rm s mm args meth c) (Wd : vt_Wd base b D ca (vh_X h) (vh_L h) s) {w a b1 c1 e1 : Nat} {v : Int} {pc' : Nat} {ls' st' : List Value} {h' : vt_H} {cells' slots' : Nat} (hc : cells' = cells + (vh_n h' - vh_n h)) (hs : slots' = slots + (vh_u h' - vh_u h)) (hbc : cells' ≤ Rm.cells) (hbs : slots' ≤ Rm.slots) (hn : vn_div pc ls st h = some (pc', ls', st', h')) (hok : vt_okb m pc (7, w, v, a, b1, c1, e1) = true) (kk : vt_Go p l e Rm s mm args below meth c Qf base b D ca m pc' ls' st' h' cells' slots') : vt_Go p l e Rm s mm args below meth c Qf base b D ca m pc ls st h cells slots := by
  obtain ⟨hx, hb, hml, hr, hown, hts, hlk, hnm, hfr, hlo⟩ := C
  unfold vn_div at hn
  split at hn
  · rename_i y x t
    by_cases hy : y = 0
    · rw [if_pos hy] at hn
      cases hn
    · rw [if_neg hy] at hn
      cases hn
      simp only [Nat.sub_self, Nat.add_zero] at hc hs
      replace hc := hc.symm; replace hs := hs.symm; subst hc; subst hs
      intro H locs lsA hZ hR hS hL
      exact lv_idiv hx hb (vt_dc_of hok) hy (kk H locs lsA hZ hR hS hL)
  · cases hn
theorem sm_rem (C : vt_Ctx m p Rm s mm args meth c) (Wd : vt_Wd base b D ca (vh_X h) (vh_L h) s) {w a b1 c1 e1 : Nat} {v : Int} {pc' : Nat} {ls' st' : List Value} {h' : vt_H} {cells' slots' : Nat} (hc : cells' = cells + (vh_n h' - vh_n h)) (hs : slots' = slots + (vh_u h' - vh_u h)) (hbc : cells' ≤ Rm.cells) (hbs : slots' ≤ Rm.slots) (hn : vn_rem pc ls st h = some (pc', ls', st', h')) (hok : vt_okb m pc (8, w, v, a, b1, c1, e1) = true) (kk : vt_Go p l e Rm s mm args below meth c Qf base b D ca m pc' ls' st' h' cells' slots') : vt_Go p l e Rm s mm args below meth c Qf base b D ca m pc ls st h cells slots := by
  obtain ⟨hx, hb, hml, hr, hown, hts, hlk, hnm, hfr, hlo⟩ := C
  unfold vn_rem at hn
  split at hn
  · rename_i y x t
    by_cases hy : y = 0
    · rw [if_pos hy] at hn
      cases hn
    · rw [if_neg hy] at hn
      cases hn
      simp only [Nat.sub_self, Nat.add_zero] at hc hs
      replace hc := hc.symm; replace hs := hs.symm; subst hc; subst hs
      intro H locs lsA hZ hR hS hL
      exact lv_irem hx hb (vt_dc_of hok) hy (kk H locs lsA hZ hR hS hL)
  · cases hn
theorem sm_neg (C : vt_Ctx m p Rm s mm args meth c) (Wd : vt_Wd base b D ca (vh_X h) (vh_L h) s) {w a b1 c1 e1 : Nat} {v : Int} {pc' : Nat} {ls' st' : List Value} {h' : vt_H} {cells' slots' : Nat} (hc : cells' = cells + (vh_n h' - vh_n h)) (hs : slots' = slots + (vh_u h' - vh_u h)) (hbc : cells' ≤ Rm.cells) (hbs : slots' ≤ Rm.slots) (hn : vn_neg pc ls st h = some (pc', ls', st', h')) (hok : vt_okb m pc (9, w, v, a, b1, c1, e1) = true) (kk : vt_Go p l e Rm s mm args below meth c Qf base b D ca m pc' ls' st' h' cells' slots') : vt_Go p l e Rm s mm args below meth c Qf base b D ca m pc ls st h cells slots := by
  obtain ⟨hx, hb, hml, hr, hown, hts, hlk, hnm, hfr, hlo⟩ := C
  unfold vn_neg at hn
  split at hn
  · cases hn
    simp only [Nat.sub_self, Nat.add_zero] at hc hs
    replace hc := hc.symm; replace hs := hs.symm; subst hc; subst hs
    intro H locs lsA hZ hR hS hL
    exact lv_ineg hx hb (vt_dc_of hok) (kk H locs lsA hZ hR hS hL)
  · cases hn
theorem sm_dup (C : vt_Ctx m p Rm s mm args meth c) (Wd : vt_Wd base b D ca (vh_X h) (vh_L h) s) {w a b1 c1 e1 : Nat} {v : Int} {pc' : Nat} {ls' st' : List Value} {h' : vt_H} {cells' slots' : Nat} (hc : cells' = cells + (vh_n h' - vh_n h)) (hs : slots' = slots + (vh_u h' - vh_u h)) (hbc : cells' ≤ Rm.cells) (hbs : slots' ≤ Rm.slots) (hn : vn_dup pc ls st h = some (pc', ls', st', h')) (hok : vt_okb m pc (10, w, v, a, b1, c1, e1) = true) (kk : vt_Go p l e Rm s mm args below meth c Qf base b D ca m pc' ls' st' h' cells' slots') : vt_Go p l e Rm s mm args below meth c Qf base b D ca m pc ls st h cells slots := by
  obtain ⟨hx, hb, hml, hr, hown, hts, hlk, hnm, hfr, hlo⟩ := C
  unfold vn_dup at hn
  split at hn
  · split at hn
    · rename_i hv
      cases hn
      simp only [Nat.sub_self, Nat.add_zero] at hc hs
      replace hc := hc.symm; replace hs := hs.symm; subst hc; subst hs
      intro H locs lsA hZ hR hS hL
      exact lv_dup hx hb (vt_dc_of hok) (by rw [vt_tr_cat]; exact hv) (kk H locs lsA hZ hR hS hL)
    · cases hn
  · cases hn
theorem sm_pop (C : vt_Ctx m p Rm s mm args meth c) (Wd : vt_Wd base b D ca (vh_X h) (vh_L h) s) {w a b1 c1 e1 : Nat} {v : Int} {pc' : Nat} {ls' st' : List Value} {h' : vt_H} {cells' slots' : Nat} (hc : cells' = cells + (vh_n h' - vh_n h)) (hs : slots' = slots + (vh_u h' - vh_u h)) (hbc : cells' ≤ Rm.cells) (hbs : slots' ≤ Rm.slots) (hn : vn_pop pc ls st h = some (pc', ls', st', h')) (hok : vt_okb m pc (11, w, v, a, b1, c1, e1) = true) (kk : vt_Go p l e Rm s mm args below meth c Qf base b D ca m pc' ls' st' h' cells' slots') : vt_Go p l e Rm s mm args below meth c Qf base b D ca m pc ls st h cells slots := by
  obtain ⟨hx, hb, hml, hr, hown, hts, hlk, hnm, hfr, hlo⟩ := C
  unfold vn_pop at hn
  split at hn
  · split at hn
    · rename_i hv
      cases hn
      simp only [Nat.sub_self, Nat.add_zero] at hc hs
      replace hc := hc.symm; replace hs := hs.symm; subst hc; subst hs
      intro H locs lsA hZ hR hS hL
      exact lv_pop hx hb (vt_dc_of hok) (by rw [vt_tr_cat]; exact hv) (kk H locs lsA hZ hR hS hL)
    · cases hn
  · cases hn
theorem sm_dupx1 (C : vt_Ctx m p Rm s mm args meth c) (Wd : vt_Wd base b D ca (vh_X h) (vh_L h) s) {w a b1 c1 e1 : Nat} {v : Int} {pc' : Nat} {ls' st' : List Value} {h' : vt_H} {cells' slots' : Nat} (hc : cells' = cells + (vh_n h' - vh_n h)) (hs : slots' = slots + (vh_u h' - vh_u h)) (hbc : cells' ≤ Rm.cells) (hbs : slots' ≤ Rm.slots) (hn : vn_dupx1 pc ls st h = some (pc', ls', st', h')) (hok : vt_okb m pc (12, w, v, a, b1, c1, e1) = true) (kk : vt_Go p l e Rm s mm args below meth c Qf base b D ca m pc' ls' st' h' cells' slots') : vt_Go p l e Rm s mm args below meth c Qf base b D ca m pc ls st h cells slots := by
  obtain ⟨hx, hb, hml, hr, hown, hts, hlk, hnm, hfr, hlo⟩ := C
  unfold vn_dupx1 at hn
  split at hn
  · split at hn
    · rename_i hv
      cases hn
      simp only [Nat.sub_self, Nat.add_zero] at hc hs
      replace hc := hc.symm; replace hs := hs.symm; subst hc; subst hs
      intro H locs lsA hZ hR hS hL
      exact lv_dup_x1 hx hb (vt_dc_of hok) (by rw [vt_tr_cat]; exact hv.1) (by rw [vt_tr_cat]; exact hv.2) (kk H locs lsA hZ hR hS hL)
    · cases hn
  · cases hn
theorem sm_dupx2 (C : vt_Ctx m p Rm s mm args meth c) (Wd : vt_Wd base b D ca (vh_X h) (vh_L h) s) {w a b1 c1 e1 : Nat} {v : Int} {pc' : Nat} {ls' st' : List Value} {h' : vt_H} {cells' slots' : Nat} (hc : cells' = cells + (vh_n h' - vh_n h)) (hs : slots' = slots + (vh_u h' - vh_u h)) (hbc : cells' ≤ Rm.cells) (hbs : slots' ≤ Rm.slots) (hn : vn_dupx2 pc ls st h = some (pc', ls', st', h')) (hok : vt_okb m pc (13, w, v, a, b1, c1, e1) = true) (kk : vt_Go p l e Rm s mm args below meth c Qf base b D ca m pc' ls' st' h' cells' slots') : vt_Go p l e Rm s mm args below meth c Qf base b D ca m pc ls st h cells slots := by
  obtain ⟨hx, hb, hml, hr, hown, hts, hlk, hnm, hfr, hlo⟩ := C
  unfold vn_dupx2 at hn
  split at hn
  · split at hn
    · rename_i hv
      cases hn
      simp only [Nat.sub_self, Nat.add_zero] at hc hs
      replace hc := hc.symm; replace hs := hs.symm; subst hc; subst hs
      intro H locs lsA hZ hR hS hL
      exact lv_dup_x2 hx hb (vt_dc_of hok) (by rw [vt_tr_cat]; exact hv.1) (by rw [vt_tr_cat]; exact hv.2.1) (by rw [vt_tr_cat]; exact hv.2.2) (kk H locs lsA hZ hR hS hL)
    · cases hn
  · cases hn
theorem sm_dup2 (C : vt_Ctx m p Rm s mm args meth c) (Wd : vt_Wd base b D ca (vh_X h) (vh_L h) s) {w a b1 c1 e1 : Nat} {v : Int} {pc' : Nat} {ls' st' : List Value} {h' : vt_H} {cells' slots' : Nat} (hc : cells' = cells + (vh_n h' - vh_n h)) (hs : slots' = slots + (vh_u h' - vh_u h)) (hbc : cells' ≤ Rm.cells) (hbs : slots' ≤ Rm.slots) (hn : vn_dup2 pc ls st h = some (pc', ls', st', h')) (hok : vt_okb m pc (14, w, v, a, b1, c1, e1) = true) (kk : vt_Go p l e Rm s mm args below meth c Qf base b D ca m pc' ls' st' h' cells' slots') : vt_Go p l e Rm s mm args below meth c Qf base b D ca m pc ls st h cells slots := by
  obtain ⟨hx, hb, hml, hr, hown, hts, hlk, hnm, hfr, hlo⟩ := C
  unfold vn_dup2 at hn
  split at hn
  · split at hn
    · rename_i hv
      cases hn
      simp only [Nat.sub_self, Nat.add_zero] at hc hs
      replace hc := hc.symm; replace hs := hs.symm; subst hc; subst hs
      intro H locs lsA hZ hR hS hL
      exact lv_dup2_11 hx hb (vt_dc_of hok) (by rw [vt_tr_cat]; exact hv.1) (by rw [vt_tr_cat]; exact hv.2) (kk H locs lsA hZ hR hS hL)
    · cases hn
  · cases hn
theorem sm_if (C : vt_Ctx m p Rm s mm args meth c) (Wd : vt_Wd base b D ca (vh_X h) (vh_L h) s) {w a b1 c1 e1 : Nat} {v : Int} {pc' : Nat} {ls' st' : List Value} {h' : vt_H} {cells' slots' : Nat} (hc : cells' = cells + (vh_n h' - vh_n h)) (hs : slots' = slots + (vh_u h' - vh_u h)) (hbc : cells' ≤ Rm.cells) (hbs : slots' ≤ Rm.slots) (hn : vn_if a b1 (pc + 3) ls st h = some (pc', ls', st', h')) (hok : vt_okb m pc (15, w, v, a, b1, c1, e1) = true) (kk : vt_Go p l e Rm s mm args below meth c Qf base b D ca m pc' ls' st' h' cells' slots') : vt_Go p l e Rm s mm args below meth c Qf base b D ca m pc ls st h cells slots := by
  obtain ⟨hx, hb, hml, hr, hown, hts, hlk, hnm, hfr, hlo⟩ := C
  unfold vn_if at hn
  split at hn
  · cases hn
    simp only [Nat.sub_self, Nat.add_zero] at hc hs
    replace hc := hc.symm; replace hs := hs.symm; subst hc; subst hs
    intro H locs lsA hZ hR hS hL
    have k := kk H locs lsA hZ hR hS hL
    have hd := vt_dc_of hok
    have ht : (pc : Int) + ((b1 : Int) - (pc : Int)) = (b1 : Int) := by omega
    unfold vt_cmp at k
    unfold vt_cd at hd
    split at k <;> (try dsimp only at hd)
    · exact lv_if_eq hx hb hd ht (fun q => by simpa [q] using k) (fun q => by simpa [q] using k)
    · exact lv_if_ne hx hb hd ht (fun q => by simpa [q] using k) (fun q => by simpa [q] using k)
    · exact lv_if_lt hx hb hd ht (fun q => by simpa [q] using k) (fun q => by simpa [q] using k)
    · exact lv_if_ge hx hb hd ht (fun q => by simpa [q] using k) (fun q => by simpa [q] using k)
    · exact lv_if_gt hx hb hd ht (fun q => by simpa [q] using k) (fun q => by simpa [q] using k)
    · split at hd <;> first | contradiction | exact lv_if_le hx hb hd ht (fun q => by simpa [q] using k) (fun q => by simpa [q] using k)
  · cases hn
theorem sm_icmp (C : vt_Ctx m p Rm s mm args meth c) (Wd : vt_Wd base b D ca (vh_X h) (vh_L h) s) {w a b1 c1 e1 : Nat} {v : Int} {pc' : Nat} {ls' st' : List Value} {h' : vt_H} {cells' slots' : Nat} (hc : cells' = cells + (vh_n h' - vh_n h)) (hs : slots' = slots + (vh_u h' - vh_u h)) (hbc : cells' ≤ Rm.cells) (hbs : slots' ≤ Rm.slots) (hn : vn_icmp a b1 (pc + 3) ls st h = some (pc', ls', st', h')) (hok : vt_okb m pc (16, w, v, a, b1, c1, e1) = true) (kk : vt_Go p l e Rm s mm args below meth c Qf base b D ca m pc' ls' st' h' cells' slots') : vt_Go p l e Rm s mm args below meth c Qf base b D ca m pc ls st h cells slots := by
  obtain ⟨hx, hb, hml, hr, hown, hts, hlk, hnm, hfr, hlo⟩ := C
  unfold vn_icmp at hn
  split at hn
  · cases hn
    simp only [Nat.sub_self, Nat.add_zero] at hc hs
    replace hc := hc.symm; replace hs := hs.symm; subst hc; subst hs
    intro H locs lsA hZ hR hS hL
    have k := kk H locs lsA hZ hR hS hL
    have hd := vt_dc_of hok
    have ht : (pc : Int) + ((b1 : Int) - (pc : Int)) = (b1 : Int) := by omega
    unfold vt_cmp at k
    unfold vt_cd at hd
    split at k <;> (try dsimp only at hd)
    · exact lv_icmp_eq hx hb hd ht (fun q => by simpa [q] using k) (fun q => by simpa [q] using k)
    · exact lv_icmp_ne hx hb hd ht (fun q => by simpa [q] using k) (fun q => by simpa [q] using k)
    · exact lv_icmp_lt hx hb hd ht (fun q => by simpa [q] using k) (fun q => by simpa [q] using k)
    · exact lv_icmp_ge hx hb hd ht (fun q => by simpa [q] using k) (fun q => by simpa [q] using k)
    · exact lv_icmp_gt hx hb hd ht (fun q => by simpa [q] using k) (fun q => by simpa [q] using k)
    · split at hd <;> first | contradiction | exact lv_icmp_le hx hb hd ht (fun q => by simpa [q] using k) (fun q => by simpa [q] using k)
  · cases hn
theorem sm_goto (C : vt_Ctx m p Rm s mm args meth c) (Wd : vt_Wd base b D ca (vh_X h) (vh_L h) s) {w a b1 c1 e1 : Nat} {v : Int} {pc' : Nat} {ls' st' : List Value} {h' : vt_H} {cells' slots' : Nat} (hc : cells' = cells + (vh_n h' - vh_n h)) (hs : slots' = slots + (vh_u h' - vh_u h)) (hbc : cells' ≤ Rm.cells) (hbs : slots' ≤ Rm.slots) (hn : (some (b1, ls, st, h) : vt_N) = some (pc', ls', st', h')) (hok : vt_okb m pc (17, w, v, a, b1, c1, e1) = true) (kk : vt_Go p l e Rm s mm args below meth c Qf base b D ca m pc' ls' st' h' cells' slots') : vt_Go p l e Rm s mm args below meth c Qf base b D ca m pc ls st h cells slots := by
  obtain ⟨hx, hb, hml, hr, hown, hts, hlk, hnm, hfr, hlo⟩ := C
  cases hn
  simp only [Nat.sub_self, Nat.add_zero] at hc hs
  replace hc := hc.symm; replace hs := hs.symm; subst hc; subst hs
  intro H locs lsA hZ hR hS hL
  exact lv_goto hx hb (vt_dc_of hok) (by omega) (kk H locs lsA hZ hR hS hL)
theorem sm_ifnull (C : vt_Ctx m p Rm s mm args meth c) (Wd : vt_Wd base b D ca (vh_X h) (vh_L h) s) {w a b1 c1 e1 : Nat} {v : Int} {pc' : Nat} {ls' st' : List Value} {h' : vt_H} {cells' slots' : Nat} (hc : cells' = cells + (vh_n h' - vh_n h)) (hs : slots' = slots + (vh_u h' - vh_u h)) (hbc : cells' ≤ Rm.cells) (hbs : slots' ≤ Rm.slots) (hn : vn_ifnull b1 (pc + 3) pc ls st h = some (pc', ls', st', h')) (hok : vt_okb m pc (18, w, v, a, b1, c1, e1) = true) (kk : vt_Go p l e Rm s mm args below meth c Qf base b D ca m pc' ls' st' h' cells' slots') : vt_Go p l e Rm s mm args below meth c Qf base b D ca m pc ls st h cells slots := by
  obtain ⟨hx, hb, hml, hr, hown, hts, hlk, hnm, hfr, hlo⟩ := C
  unfold vn_ifnull at hn
  split at hn
  · cases hn
    simp only [Nat.sub_self, Nat.add_zero] at hc hs
    replace hc := hc.symm; replace hs := hs.symm; subst hc; subst hs
    intro H locs lsA hZ hR hS hL
    exact lv_ifnullN hx hb (vt_dc_of hok) (by omega) (kk H locs lsA hZ hR hS hL)
  · cases hn
    simp only [Nat.sub_self, Nat.add_zero] at hc hs
    replace hc := hc.symm; replace hs := hs.symm; subst hc; subst hs
    intro H locs lsA hZ hR hS hL
    exact lv_ifnull hx hb (vt_dc_of hok) (kk H locs lsA hZ hR hS hL)
  · cases hn
theorem sm_ifnonnull (C : vt_Ctx m p Rm s mm args meth c) (Wd : vt_Wd base b D ca (vh_X h) (vh_L h) s) {w a b1 c1 e1 : Nat} {v : Int} {pc' : Nat} {ls' st' : List Value} {h' : vt_H} {cells' slots' : Nat} (hc : cells' = cells + (vh_n h' - vh_n h)) (hs : slots' = slots + (vh_u h' - vh_u h)) (hbc : cells' ≤ Rm.cells) (hbs : slots' ≤ Rm.slots) (hn : vn_ifnull (pc + 3) b1 pc ls st h = some (pc', ls', st', h')) (hok : vt_okb m pc (19, w, v, a, b1, c1, e1) = true) (kk : vt_Go p l e Rm s mm args below meth c Qf base b D ca m pc' ls' st' h' cells' slots') : vt_Go p l e Rm s mm args below meth c Qf base b D ca m pc ls st h cells slots := by
  obtain ⟨hx, hb, hml, hr, hown, hts, hlk, hnm, hfr, hlo⟩ := C
  unfold vn_ifnull at hn
  split at hn
  · cases hn
    simp only [Nat.sub_self, Nat.add_zero] at hc hs
    replace hc := hc.symm; replace hs := hs.symm; subst hc; subst hs
    intro H locs lsA hZ hR hS hL
    exact lv_ifnonnullN hx hb (vt_dc_of hok) (kk H locs lsA hZ hR hS hL)
  · cases hn
    simp only [Nat.sub_self, Nat.add_zero] at hc hs
    replace hc := hc.symm; replace hs := hs.symm; subst hc; subst hs
    intro H locs lsA hZ hR hS hL
    exact lv_ifnonnull hx hb (vt_dc_of hok) (by omega) (kk H locs lsA hZ hR hS hL)
  · cases hn
theorem sm_null (C : vt_Ctx m p Rm s mm args meth c) (Wd : vt_Wd base b D ca (vh_X h) (vh_L h) s) {w a b1 c1 e1 : Nat} {v : Int} {pc' : Nat} {ls' st' : List Value} {h' : vt_H} {cells' slots' : Nat} (hc : cells' = cells + (vh_n h' - vh_n h)) (hs : slots' = slots + (vh_u h' - vh_u h)) (hbc : cells' ≤ Rm.cells) (hbs : slots' ≤ Rm.slots) (hn : vn_null pc ls st h = some (pc', ls', st', h')) (hok : vt_okb m pc (20, w, v, a, b1, c1, e1) = true) (kk : vt_Go p l e Rm s mm args below meth c Qf base b D ca m pc' ls' st' h' cells' slots') : vt_Go p l e Rm s mm args below meth c Qf base b D ca m pc ls st h cells slots := by
  obtain ⟨hx, hb, hml, hr, hown, hts, hlk, hnm, hfr, hlo⟩ := C
  cases hn
  simp only [Nat.sub_self, Nat.add_zero] at hc hs
  replace hc := hc.symm; replace hs := hs.symm; subst hc; subst hs
  intro H locs lsA hZ hR hS hL
  exact lv_null hx hb (vt_dc_of hok) (kk H locs lsA hZ hR hS hL)
/-- an object of the small heap among the cells -/
theorem vt_obj {H : Heap} {r a : Nat} (hR : vt_Rel base D ca h H) (hk : vh_K h r = 100 + a) : r < vh_n h ∧ (vt_ws base ca h)[r]? = some (base + r, .inr (a, vt_fs base h r a)) := by
  have hr : r < vh_n h := by
    rcases Nat.lt_or_ge r (vh_n h) with q | q
    · exact q
    · have := hR.1 r q; omega
  refine ⟨hr, ?_⟩
  rw [vt_ws_at hr]
  unfold vt_E
  rw [hk, if_pos (by omega), Nat.add_sub_cancel_left]
theorem vt_arI {H : Heap} {r : Nat} (hR : vt_Rel base D ca h H) (hk : vh_K h r = 1) : r < vh_n h ∧ (vt_ws base ca h)[r]? = some (base + r, .inl (ca 1, vh_Z h r, .inl (vh_I h r))) := by
  have hr : r < vh_n h := by
    rcases Nat.lt_or_ge r (vh_n h) with q | q
    · exact q
    · have := hR.1 r q; omega
  refine ⟨hr, ?_⟩
  rw [vt_ws_at hr]
  unfold vt_E
  rw [if_neg (by omega), if_pos (Or.inl hk), hk]
theorem vt_arZ {H : Heap} {r : Nat} (hR : vt_Rel base D ca h H) (hk : vh_K h r = 4) : r < vh_n h ∧ (vt_ws base ca h)[r]? = some (base + r, .inl (ca 4, vh_Z h r, .inl (vh_I h r))) := by
  have hr : r < vh_n h := by
    rcases Nat.lt_or_ge r (vh_n h) with q | q
    · exact q
    · have := hR.1 r q; omega
  refine ⟨hr, ?_⟩
  rw [vt_ws_at hr]
  unfold vt_E
  rw [if_neg (by omega), if_pos (Or.inr hk), hk]
theorem vt_arR {H : Heap} {r a : Nat} (hR : vt_Rel base D ca h H) (hk : vh_K h r = a) (h1 : 1 < a) (h2 : a < 100) (h4 : a ≠ 4) : r < vh_n h ∧ (vt_ws base ca h)[r]? = some (base + r, .inl (ca a, vh_Z h r, .inr (.inr (.inr (.inr (fun i => (vh_R h r i).map (base + ·))))))) := by
  have hr : r < vh_n h := by
    rcases Nat.lt_or_ge r (vh_n h) with q | q
    · exact q
    · have := hR.1 r q; omega
  refine ⟨hr, ?_⟩
  rw [vt_ws_at hr]
  unfold vt_E
  rw [if_neg (by omega), if_neg (by omega), hk]
theorem vt_fs_at {r a k : Nat} (hk : k < vt_nf a) : (vt_fs base h r a)[k]? = some (vt_fv base h r k (vt_ref a k)) := by
  simp [vt_fs, hk]
theorem vt_fs_len {r a : Nat} : (vt_fs base h r a).length = vt_nf a := by simp [vt_fs]
theorem vt_nf_of {a N : Nat} {C : String} {T : u_T} (hc : vt_cl[a]? = some (C, T, N)) : vt_nf a = N := by simp [vt_nf, hc]
/-- the fields after one of them is written -/
theorem vt_fs_set {h' : vt_H} {r a k : Nat} {x : Value} (hk : k < vt_nf a) (hx : vt_fv base h' r k (vt_ref a k) = x) (ho : ∀ j, j ≠ k → vt_fv base h' r j (vt_ref a j) = vt_fv base h r j (vt_ref a j)) : (vt_fs base h r a).set k x = vt_fs base h' r a := by
  apply List.ext_getElem?
  intro j
  by_cases hj : j < vt_nf a
  · rw [vt_fs_at hj, List.getElem?_set]
    by_cases e : k = j
    · subst e
      rw [if_pos rfl, if_pos (by rw [vt_fs_len]; exact hk), hx]
    · rw [if_neg e, vt_fs_at hj, ho j (fun q => e q.symm)]
  · rw [List.getElem?_eq_none (by rw [List.length_set, vt_fs_len]; omega), List.getElem?_eq_none (by rw [vt_fs_len]; omega)]
theorem vt_E_wI {a i : Nat} {x : Int32} {j : Nat} (hj : j ≠ a) : vt_E base ca (vh_wI h a i x) j = vt_E base ca h j := by
  have e : ∀ q, vh_I (vh_wI h a i x) j q = vh_I h j q := fun q => by rw [vh_I_wI, if_neg (fun z => hj z.1)]
  simp only [vt_E, vt_fs, vt_fv, vh_K_wI, vh_Z_wI, vh_R_wI, e, show vh_I (vh_wI h a i x) j = vh_I h j from funext e]
theorem vt_E_wR {a i : Nat} {x : Option Nat} {j : Nat} (hj : j ≠ a) : vt_E base ca (vh_wR h a i x) j = vt_E base ca h j := by
  have e : ∀ q, vh_R (vh_wR h a i x) j q = vh_R h j q := fun q => by rw [vh_R_wR, if_neg (fun z => hj z.1)]
  simp only [vt_E, vt_fs, vt_fv, vh_K_wR, vh_Z_wR, vh_I_wR, e]
theorem vt_E_cp {a0 sp a dp n : Nat} {j : Nat} (hj : j ≠ a) : vt_E base ca (vh_cp h a0 sp a dp n) j = vt_E base ca h j := by
  have e : ∀ q, vh_I (vh_cp h a0 sp a dp n) j q = vh_I h j q := fun q => by rw [vh_I_cp, if_neg hj]
  simp only [vt_E, vt_fs, vt_fv, vh_K_cp, vh_Z_cp, vh_R_cp, e, show vh_I (vh_cp h a0 sp a dp n) j = vh_I h j from funext e]
theorem vt_E_new {k z w : Nat} {j : Nat} (hj : j < vh_n h) : vt_E base ca (vh_new h k z w) j = vt_E base ca h j := by
  have n1 : ¬ j = vh_n h := by omega
  simp only [vt_E, vt_fs, vt_fv, vh_K_new, vh_Z_new, vh_I_new, vh_R_new, if_neg n1, show vh_I (vh_new h k z w) j = vh_I h j from funext (fun q => by rw [vh_I_new, if_neg n1])]
theorem sm_getI (C : vt_Ctx m p Rm s mm args meth c) (Wd : vt_Wd base b D ca (vh_X h) (vh_L h) s) {w a b1 c1 e1 : Nat} {v : Int} {pc' : Nat} {ls' st' : List Value} {h' : vt_H} {cells' slots' : Nat} (hc : cells' = cells + (vh_n h' - vh_n h)) (hs : slots' = slots + (vh_u h' - vh_u h)) (hbc : cells' ≤ Rm.cells) (hbs : slots' ≤ Rm.slots) (hn : vn_getI a b1 pc ls st h = some (pc', ls', st', h')) (hok : vt_okb m pc (21, w, v, a, b1, c1, e1) = true) (kk : vt_Go p l e Rm s mm args below meth c Qf base b D ca m pc' ls' st' h' cells' slots') : vt_Go p l e Rm s mm args below meth c Qf base b D ca m pc ls st h cells slots := by
  obtain ⟨hx, hb, hml, hr, hown, hts, hlk, hnm, hfr, hlo⟩ := C
  unfold vn_getI at hn
  split at hn
  · rename_i r t
    by_cases hk : vh_K h r = 100 + a
    · rw [if_pos hk] at hn
      cases hn
      simp only [Nat.sub_self, Nat.add_zero] at hc hs
      replace hc := hc.symm; replace hs := hs.symm; subst hc; subst hs
      intro H locs lsA hZ hR hS hL
      have k := kk H locs lsA hZ hR hS hL
      rw [List.map_cons] at k
      obtain ⟨hr0, he⟩ := vt_obj hR hk
      simp only [vt_okb] at hok
      rw [Bool.and_eq_true, decide_eq_true_eq] at hok
      obtain ⟨hg, hrf⟩ := hok
      unfold vt_okG at hg
      split at hg
      · rename_i C T N hcl
        simp only [Bool.and_eq_true, decide_eq_true_eq] at hg
        obtain ⟨hN, hd, hl⟩ := hg
        have hv : (vt_fs base h r a)[b1]? = some (.int (vh_I h r b1)) := by rw [vt_fs_at (by rw [vt_nf_of hcl]; exact hN), hrf]; rfl
        exact va_get (D := D) hx hb hts (vt_clw hcl) hown Wd.1 hR.2.2 r he hcl b1 hN (hts _ (vt_wd_of hl)) (fun _ q => q) hv (vt_dc_of hd) k
      · cases hg
    · rw [if_neg hk] at hn
      cases hn
  · cases hn
theorem sm_getR (C : vt_Ctx m p Rm s mm args meth c) (Wd : vt_Wd base b D ca (vh_X h) (vh_L h) s) {w a b1 c1 e1 : Nat} {v : Int} {pc' : Nat} {ls' st' : List Value} {h' : vt_H} {cells' slots' : Nat} (hc : cells' = cells + (vh_n h' - vh_n h)) (hs : slots' = slots + (vh_u h' - vh_u h)) (hbc : cells' ≤ Rm.cells) (hbs : slots' ≤ Rm.slots) (hn : vn_getR a b1 pc ls st h = some (pc', ls', st', h')) (hok : vt_okb m pc (22, w, v, a, b1, c1, e1) = true) (kk : vt_Go p l e Rm s mm args below meth c Qf base b D ca m pc' ls' st' h' cells' slots') : vt_Go p l e Rm s mm args below meth c Qf base b D ca m pc ls st h cells slots := by
  obtain ⟨hx, hb, hml, hr, hown, hts, hlk, hnm, hfr, hlo⟩ := C
  unfold vn_getR at hn
  split at hn
  · rename_i r t
    by_cases hk : vh_K h r = 100 + a
    · rw [if_pos hk] at hn
      cases hn
      simp only [Nat.sub_self, Nat.add_zero] at hc hs
      replace hc := hc.symm; replace hs := hs.symm; subst hc; subst hs
      intro H locs lsA hZ hR hS hL
      have k := kk H locs lsA hZ hR hS hL
      rw [List.map_cons, vt_tr_rf] at k
      obtain ⟨hr0, he⟩ := vt_obj hR hk
      simp only [vt_okb] at hok
      rw [Bool.and_eq_true, decide_eq_true_eq] at hok
      obtain ⟨hg, hrf⟩ := hok
      unfold vt_okG at hg
      split at hg
      · rename_i C T N hcl
        simp only [Bool.and_eq_true, decide_eq_true_eq] at hg
        obtain ⟨hN, hd, hl⟩ := hg
        have hv : (vt_fs base h r a)[b1]? = some (va_rf ((vh_R h r b1).map (base + ·))) := by rw [vt_fs_at (by rw [vt_nf_of hcl]; exact hN), hrf]; rfl
        exact va_get (D := D) hx hb hts (vt_clw hcl) hown Wd.1 hR.2.2 r he hcl b1 hN (hts _ (vt_wd_of hl)) (fun _ q => q) hv (vt_dc_of hd) k
      · cases hg
    · rw [if_neg hk] at hn
      cases hn
  · cases hn
/-- a field is written: the three forms -/
theorem vt_put {w a b1 c1 e1 r : Nat} {x : Value} {t : List Value} {h' : vt_H} (C : vt_Ctx m p Rm s mm args meth c) (Wd : vt_Wd base b D ca (vh_X h) (vh_L h) s) (hk : vh_K h r = 100 + a) (hok : vt_okP m pc w a b1 c1 e1 = true) (hnar : narrow (vt_ty a b1) (vt_tr base b x) = vt_tr base b x) (hfit : fits (vt_ty a b1) (vt_tr base b x) = true)
    (hK : vh_K h' = vh_K h) (hn' : vh_n h' = vh_n h) (hE : ∀ j, j ≠ r → vt_E base ca h' j = vt_E base ca h j) (hx' : vt_fv base h' r b1 (vt_ref a b1) = vt_tr base b x) (ho : ∀ j, j ≠ b1 → vt_fv base h' r j (vt_ref a j) = vt_fv base h r j (vt_ref a j))
    (kk : vt_Go p l e Rm s mm args below meth c Qf base b D ca m (pc + 3) ls t h' cells slots) : vt_Go p l e Rm s mm args below meth c Qf base b D ca m pc ls (x :: .ref r :: t) h cells slots := by
  obtain ⟨hx, hb, hml, hr, hown, hts, hlk, hnm, hfr, hlo⟩ := C
  intro H locs lsA hZ hR hS hL
  obtain ⟨hr0, he⟩ := vt_obj hR hk
  unfold vt_okP at hok
  split at hok
  · rename_i C T N hcl
    simp only [Bool.and_eq_true, decide_eq_true_eq] at hok
    obtain ⟨hN, hd, hl⟩ := hok
    have hN2 : b1 < vt_nf a := by rw [vt_nf_of hcl]; exact hN
    have hll : b1 < (vt_fs base h r a).length := by rw [vt_fs_len]; exact hN2
    have key : ∀ (H1 : Heap) (locs1 : List Loc), va_P D vt_cl ((vt_ws base ca h).set r (base + r, .inr (a, (vt_fs base h r a).set b1 (vt_tr base b x)))) H1 → va_D (fun q => base ≤ q) ((vt_ws base ca h).set r (base + r, .inr (a, (vt_fs base h r a).set b1 (vt_tr base b x)))) → va_S (fun q => base ≤ q) s.heap H1 locs1 → W p l e Rm s mm args below meth c H1 locs1 cells slots Qf (F0 mm (pc + 3) lsA (t.map (vt_tr base b))) := by
      intro H1 locs1 hP1 hD1 hS1
      refine kk H1 locs1 lsA (by rw [hn']; exact hZ) ⟨fun k q => by rw [hK]; exact hR.1 k (by rw [← hn']; exact q), fun k q1 q2 => by rw [hK] at q1 q2 ⊢; exact hR.2.1 k q1 q2, ?_⟩ hS1 hL
      rw [vt_fs_set hN2 hx' ho] at hP1
      have e : (.inr (a, vt_fs base h' r a) : va_E) = vt_E base ca h' r := by
        unfold vt_E
        rw [hK, hk, if_pos (by omega), Nat.add_sub_cancel_left]
      rw [e, vt_ws_set hn' hE] at hP1
      exact hP1
    obtain ⟨k1, k2, k3⟩ := vt_clt hcl
    split at hl <;> simp only [Bool.and_eq_true, decide_eq_true_eq] at hl
    · exact va_put (D := D) hx hb hts (vt_clw hcl) (vt_ty a) k1 k2 hown Wd.1 hR.2.2 vt_ws_D hS r he hcl b1 hN (hts _ (vt_wd_of hl.1)) (fun _ q => q) hl.2 (k1 b1 hN) hnar hfit hll (vt_dc_of hd) key
    · exact va_putF (D := D) hx hb hts (vt_clw hcl) (vt_ty a) k1 k2 hown Wd.1 hR.2.2 vt_ws_D hS r he hcl b1 hN (hts _ (vt_wd_of hl.1)) (fun _ q => q) hl.2.1 (hnm hl.2.2.1) hl.2.2.2 (k1 b1 hN) hnar hfit hll (vt_dc_of hd) key
  · cases hok
theorem sm_putI (C : vt_Ctx m p Rm s mm args meth c) (Wd : vt_Wd base b D ca (vh_X h) (vh_L h) s) {w a b1 c1 e1 : Nat} {v : Int} {pc' : Nat} {ls' st' : List Value} {h' : vt_H} {cells' slots' : Nat} (hc : cells' = cells + (vh_n h' - vh_n h)) (hs : slots' = slots + (vh_u h' - vh_u h)) (hbc : cells' ≤ Rm.cells) (hbs : slots' ≤ Rm.slots) (hn : vn_putI v a b1 pc ls st h = some (pc', ls', st', h')) (hok : vt_okb m pc (23, w, v, a, b1, c1, e1) = true) (kk : vt_Go p l e Rm s mm args below meth c Qf base b D ca m pc' ls' st' h' cells' slots') : vt_Go p l e Rm s mm args below meth c Qf base b D ca m pc ls st h cells slots := by
  obtain ⟨hx, hb, hml, hr, hown, hts, hlk, hnm, hfr, hlo⟩ := C
  unfold vn_putI at hn
  split at hn
  · rename_i x r t
    by_cases hk : vh_K h r = 100 + a ∧ (v = 1 → x = 0 ∨ x = 1)
    · rw [if_pos hk] at hn
      cases hn
      simp only [vh_n_wI, vh_u_wI, Nat.sub_self, Nat.add_zero] at hc hs
      replace hc := hc.symm; replace hs := hs.symm; subst hc; subst hs
      simp only [vt_okb] at hok
      simp only [Bool.and_eq_true, Bool.or_eq_true, decide_eq_true_eq] at hok
      obtain ⟨hp, hrf, hty⟩ := hok
      refine vt_put (x := .int x) (h' := vh_wI h r b1 x) ⟨hx, hb, hml, hr, hown, hts, hlk, hnm, hfr, hlo⟩ Wd hk.1 hp ?_ ?_ rfl rfl (fun j hj => vt_E_wI hj) ?_ ?_ kk
      · rcases hty with ⟨-, q⟩ | ⟨q1, q⟩ <;> rw [q]
        · rfl
        · rcases hk.2 q1 with rfl | rfl <;> rfl
      · rcases hty with ⟨-, q⟩ | ⟨q1, q⟩ <;> rw [q]
        · rfl
        · rcases hk.2 q1 with rfl | rfl <;> rfl
      · simp [vt_fv, hrf, vh_I_wI, vt_tr]
      · intro j hj
        simp [vt_fv, vh_I_wI, vh_R_wI, hj]
    · rw [if_neg hk] at hn
      cases hn
  · cases hn
theorem sm_putR (C : vt_Ctx m p Rm s mm args meth c) (Wd : vt_Wd base b D ca (vh_X h) (vh_L h) s) {w a b1 c1 e1 : Nat} {v : Int} {pc' : Nat} {ls' st' : List Value} {h' : vt_H} {cells' slots' : Nat} (hc : cells' = cells + (vh_n h' - vh_n h)) (hs : slots' = slots + (vh_u h' - vh_u h)) (hbc : cells' ≤ Rm.cells) (hbs : slots' ≤ Rm.slots) (hn : vn_putR a b1 pc ls st h = some (pc', ls', st', h')) (hok : vt_okb m pc (24, w, v, a, b1, c1, e1) = true) (kk : vt_Go p l e Rm s mm args below meth c Qf base b D ca m pc' ls' st' h' cells' slots') : vt_Go p l e Rm s mm args below meth c Qf base b D ca m pc ls st h cells slots := by
  obtain ⟨hx, hb, hml, hr, hown, hts, hlk, hnm, hfr, hlo⟩ := C
  simp only [vt_okb] at hok
  simp only [Bool.and_eq_true, decide_eq_true_eq] at hok
  obtain ⟨hp, hrf, hty⟩ := hok
  unfold vn_putR at hn
  split at hn
  · rename_i y r t
    by_cases hk : vh_K h r = 100 + a
    · rw [if_pos hk] at hn
      cases hn
      simp only [vh_n_wR, vh_u_wR, Nat.sub_self, Nat.add_zero] at hc hs
      replace hc := hc.symm; replace hs := hs.symm; subst hc; subst hs
      refine vt_put (x := .ref y) (h' := vh_wR h r b1 (some y)) ⟨hx, hb, hml, hr, hown, hts, hlk, hnm, hfr, hlo⟩ Wd hk hp ?_ ?_ rfl rfl (fun j hj => vt_E_wR hj) ?_ ?_ kk
      · generalize vt_ty a b1 = ty at hty
        cases ty <;> simp [vt_isobj] at hty <;> rfl
      · generalize vt_ty a b1 = ty at hty
        cases ty <;> simp [vt_isobj] at hty <;> rfl
      · simp [vt_fv, hrf, vh_R_wR, vt_tr, va_rf]
      · intro j hj
        simp [vt_fv, vh_I_wR, vh_R_wR, hj]
    · rw [if_neg hk] at hn
      cases hn
  · rename_i r t
    by_cases hk : vh_K h r = 100 + a
    · rw [if_pos hk] at hn
      cases hn
      simp only [vh_n_wR, vh_u_wR, Nat.sub_self, Nat.add_zero] at hc hs
      replace hc := hc.symm; replace hs := hs.symm; subst hc; subst hs
      refine vt_put (x := .null) (h' := vh_wR h r b1 none) ⟨hx, hb, hml, hr, hown, hts, hlk, hnm, hfr, hlo⟩ Wd hk hp ?_ ?_ rfl rfl (fun j hj => vt_E_wR hj) ?_ ?_ kk
      · generalize vt_ty a b1 = ty at hty
        cases ty <;> simp [vt_isobj] at hty <;> rfl
      · generalize vt_ty a b1 = ty at hty
        cases ty <;> simp [vt_isobj] at hty <;> rfl
      · simp [vt_fv, hrf, vh_R_wR, vt_tr, va_rf]
      · intro j hj
        simp [vt_fv, vh_I_wR, vh_R_wR, hj]
    · rw [if_neg hk] at hn
      cases hn
  · cases hn
theorem vt_ak_at {a : Nat} {ty : FieldType} (hk : vt_ak a = some ty) : ∃ t0 : Nat, (vt_tys ca)[t0]? = some (ca a, ty) := by
  have hm : (a, ty) ∈ vt_aks := by
    unfold vt_ak at hk
    exact vt_lkm hk
  exact List.getElem?_of_mem (List.mem_map.mpr ⟨(a, ty), hm, rfl⟩)
theorem vt_scr {H : Heap} {locs : List Loc} (Wd : vt_Wd base b D ca (vh_X h) (vh_L h) s) : b < s.heap.size ∧ ¬ (fun q => base ≤ q) b := ⟨Nat.lt_of_lt_of_le Wd.2.1 Wd.2.2.1, Nat.not_le.mpr Wd.2.1⟩
theorem sm_iald (C : vt_Ctx m p Rm s mm args meth c) (Wd : vt_Wd base b D ca (vh_X h) (vh_L h) s) {w a b1 c1 e1 : Nat} {v : Int} {pc' : Nat} {ls' st' : List Value} {h' : vt_H} {cells' slots' : Nat} (hc : cells' = cells + (vh_n h' - vh_n h)) (hs : slots' = slots + (vh_u h' - vh_u h)) (hbc : cells' ≤ Rm.cells) (hbs : slots' ≤ Rm.slots) (hn : vn_iald pc ls st h = some (pc', ls', st', h')) (hok : vt_okb m pc (25, w, v, a, b1, c1, e1) = true) (kk : vt_Go p l e Rm s mm args below meth c Qf base b D ca m pc' ls' st' h' cells' slots') : vt_Go p l e Rm s mm args below meth c Qf base b D ca m pc ls st h cells slots := by
  obtain ⟨hx, hb, hml, hr, hown, hts, hlk, hnm, hfr, hlo⟩ := C
  have hd := vt_dc_of (m := m) (pc := pc) (x := .iaload) (n := 1) hok
  unfold vn_iald at hn
  split at hn
  · rename_i i r t
    by_cases hk : vh_K h r = 1 ∧ ¬ (i < 0 ∨ vh_Z h r ≤ i.toNatClampNeg)
    · rw [if_pos hk] at hn
      cases hn
      simp only [Nat.sub_self, Nat.add_zero] at hc hs
      replace hc := hc.symm; replace hs := hs.symm; subst hc; subst hs
      intro H locs lsA hZ hR hS hL
      obtain ⟨hr0, he⟩ := vt_arI hR hk.1
      obtain ⟨t0, ht⟩ := vt_ak_at (ca := ca) (a := 1) (ty := .int) rfl
      exact va_iald (D := D) hx hb Wd.1 hR.2.2 r t0 he ht hk.2 hd (kk H locs lsA hZ hR hS hL)
    · rw [if_neg hk] at hn
      cases hn
  · rename_i i t
    by_cases hk : ¬ (i < 0 ∨ vh_L h ≤ i.toNatClampNeg)
    · rw [if_pos hk] at hn
      cases hn
      simp only [Nat.sub_self, Nat.add_zero] at hc hs
      replace hc := hc.symm; replace hs := hs.symm; subst hc; subst hs
      intro H locs lsA hZ hR hS hL
      exact va_sld hx hb Wd.2.2.2.1 (Nat.lt_of_lt_of_le Wd.2.1 Wd.2.2.1) (Nat.not_le.mpr Wd.2.1) hS hk hd (kk H locs lsA hZ hR hS hL)
    · rw [if_neg hk] at hn
      cases hn
  · cases hn
theorem sm_iast (C : vt_Ctx m p Rm s mm args meth c) (Wd : vt_Wd base b D ca (vh_X h) (vh_L h) s) {w a b1 c1 e1 : Nat} {v : Int} {pc' : Nat} {ls' st' : List Value} {h' : vt_H} {cells' slots' : Nat} (hc : cells' = cells + (vh_n h' - vh_n h)) (hs : slots' = slots + (vh_u h' - vh_u h)) (hbc : cells' ≤ Rm.cells) (hbs : slots' ≤ Rm.slots) (hn : vn_iast pc ls st h = some (pc', ls', st', h')) (hok : vt_okb m pc (26, w, v, a, b1, c1, e1) = true) (kk : vt_Go p l e Rm s mm args below meth c Qf base b D ca m pc' ls' st' h' cells' slots') : vt_Go p l e Rm s mm args below meth c Qf base b D ca m pc ls st h cells slots := by
  obtain ⟨hx, hb, hml, hr, hown, hts, hlk, hnm, hfr, hlo⟩ := C
  have hd := vt_dc_of (m := m) (pc := pc) (x := .iastore) (n := 1) hok
  unfold vn_iast at hn
  split at hn
  · rename_i x i r t
    by_cases hk : vh_K h r = 1 ∧ ¬ (i < 0 ∨ vh_Z h r ≤ i.toNatClampNeg)
    · rw [if_pos hk] at hn
      cases hn
      simp only [vh_n_wI, vh_u_wI, Nat.sub_self, Nat.add_zero] at hc hs
      replace hc := hc.symm; replace hs := hs.symm; subst hc; subst hs
      intro H locs lsA hZ hR hS hL
      obtain ⟨hr0, he⟩ := vt_arI hR hk.1
      obtain ⟨t0, ht⟩ := vt_ak_at (ca := ca) (a := 1) (ty := .int) rfl
      refine va_iast (D := D) hx hb Wd.1 hR.2.2 vt_ws_D hS r t0 he ht hk.2 hd (fun H1 locs1 hP1 hD1 hS1 => ?_)
      refine kk H1 locs1 lsA hZ ⟨hR.1, hR.2.1, ?_⟩ hS1 hL
      have e : (.inl (ca 1, vh_Z h r, .inl (upd (vh_I h r) i.toNatClampNeg x)) : va_E) = vt_E base ca (vh_wI h r i.toNatClampNeg x) r := by
        unfold vt_E
        rw [vh_K_wI, hk.1, if_neg (by omega), if_pos (Or.inl rfl), vh_Z_wI]
        congr 4
        funext j
        simp [upd, vh_I_wI]
      rw [e, vt_ws_set (h := h) (h' := vh_wI h r i.toNatClampNeg x) rfl (fun j hj => vt_E_wI hj)] at hP1
      exact hP1
    · rw [if_neg hk] at hn
      cases hn
  · cases hn
theorem sm_aald (C : vt_Ctx m p Rm s mm args meth c) (Wd : vt_Wd base b D ca (vh_X h) (vh_L h) s) {w a b1 c1 e1 : Nat} {v : Int} {pc' : Nat} {ls' st' : List Value} {h' : vt_H} {cells' slots' : Nat} (hc : cells' = cells + (vh_n h' - vh_n h)) (hs : slots' = slots + (vh_u h' - vh_u h)) (hbc : cells' ≤ Rm.cells) (hbs : slots' ≤ Rm.slots) (hn : vn_aald a pc ls st h = some (pc', ls', st', h')) (hok : vt_okb m pc (27, w, v, a, b1, c1, e1) = true) (kk : vt_Go p l e Rm s mm args below meth c Qf base b D ca m pc' ls' st' h' cells' slots') : vt_Go p l e Rm s mm args below meth c Qf base b D ca m pc ls st h cells slots := by
  obtain ⟨hx, hb, hml, hr, hown, hts, hlk, hnm, hfr, hlo⟩ := C
  simp only [vt_okb] at hok
  simp only [Bool.and_eq_true, decide_eq_true_eq] at hok
  unfold vn_aald at hn
  split at hn
  · rename_i i r t
    by_cases hk : vh_K h r = a ∧ ¬ (i < 0 ∨ vh_Z h r ≤ i.toNatClampNeg)
    · rw [if_pos hk] at hn
      cases hn
      simp only [Nat.sub_self, Nat.add_zero] at hc hs
      replace hc := hc.symm; replace hs := hs.symm; subst hc; subst hs
      intro H locs lsA hZ hR hS hL
      have k := kk H locs lsA hZ hR hS hL
      rw [List.map_cons, vt_tr_rf] at k
      obtain ⟨hr0, he⟩ := vt_arR hR hk.1 hok.2.1 hok.2.2.1 hok.2.2.2
      have hsm := hR.2.1 r (by rw [hk.1]; exact hok.2.2.1) (by rw [hk.1]; omega)
      rw [hk.1] at hsm
      obtain ⟨ty, hty⟩ := Option.isSome_iff_exists.mp hsm
      obtain ⟨t0, ht⟩ := vt_ak_at (ca := ca) hty
      have hcell : H[base + r]? = some (arrV (ca a) (vh_Z h r) (fun j => va_rf ((vh_R h r j).map (base + ·)))) := hR.2.2 r _ he
      have hlt : i.toNatClampNeg < vh_Z h r := Nat.not_le.mp fun q => hk.2 (Or.inr q)
      exact W.aald hx hb hcell ((Wd.1.2 t0 _ ht).1 _ _) (vt_ak_ref hty hok.2.1 hok.2.2.2) (fun q => by cases q) (by rw [arrV_size]; exact hk.2) (arrV_read _ _ hlt) rfl rfl (vt_dc_of hok.1) k
    · rw [if_neg hk] at hn
      cases hn
  · cases hn
theorem sm_aast (C : vt_Ctx m p Rm s mm args meth c) (Wd : vt_Wd base b D ca (vh_X h) (vh_L h) s) {w a b1 c1 e1 : Nat} {v : Int} {pc' : Nat} {ls' st' : List Value} {h' : vt_H} {cells' slots' : Nat} (hc : cells' = cells + (vh_n h' - vh_n h)) (hs : slots' = slots + (vh_u h' - vh_u h)) (hbc : cells' ≤ Rm.cells) (hbs : slots' ≤ Rm.slots) (hn : vn_aast a b1 pc ls st h = some (pc', ls', st', h')) (hok : vt_okb m pc (28, w, v, a, b1, c1, e1) = true) (kk : vt_Go p l e Rm s mm args below meth c Qf base b D ca m pc' ls' st' h' cells' slots') : vt_Go p l e Rm s mm args below meth c Qf base b D ca m pc ls st h cells slots := by
  obtain ⟨hx, hb, hml, hr, hown, hts, hlk, hnm, hfr, hlo⟩ := C
  simp only [vt_okb] at hok
  rw [Bool.and_eq_true] at hok
  obtain ⟨hd, hok⟩ := hok
  unfold vt_okS at hok
  rw [Bool.or_eq_true, decide_eq_true_eq, decide_eq_true_eq] at hok
  unfold vn_aast at hn
  split at hn
  · rename_i y i r t
    by_cases hk : (vh_K h r = a ∧ vh_K h y = b1) ∧ ¬ (i < 0 ∨ vh_Z h r ≤ i.toNatClampNeg)
    · rw [if_pos hk] at hn
      cases hn
      simp only [vh_n_wR, vh_u_wR, Nat.sub_self, Nat.add_zero] at hc hs
      replace hc := hc.symm; replace hs := hs.symm; subst hc; subst hs
      intro H locs lsA hZ hR hS hL
      have q12 : 1 < a ∧ a < 100 := by omega
      obtain ⟨hr0, he⟩ := vt_arR hR hk.1.1 q12.1 q12.2 (by omega)
      have key : ∀ (H1 : Heap) (locs1 : List Loc), va_P D vt_cl ((vt_ws base ca h).set r (base + r, .inl (ca a, vh_Z h r, .inr (.inr (.inr (.inr (va_up (fun j => (vh_R h r j).map (base + ·)) i.toNatClampNeg (some (base + y))))))))) H1 → va_S (fun q => base ≤ q) s.heap H1 locs1 → W p l e Rm s mm args below meth c H1 locs1 cells slots Qf (F0 mm (pc + 1) lsA (st'.map (vt_tr base b))) := by
        intro H1 locs1 hP1 hS1
        refine kk H1 locs1 lsA hZ ⟨hR.1, hR.2.1, ?_⟩ hS1 hL
        have e : (.inl (ca a, vh_Z h r, .inr (.inr (.inr (.inr (va_up (fun j => (vh_R h r j).map (base + ·)) i.toNatClampNeg (some (base + y))))))) : va_E) = vt_E base ca (vh_wR h r i.toNatClampNeg (some y)) r := by
          unfold vt_E
          rw [vh_K_wR, hk.1.1, if_neg (by omega), if_neg (by omega), vh_Z_wR]
          congr 7
          funext j
          by_cases hj : j = i.toNatClampNeg <;> simp [va_up, vh_R_wR, hj]
        rw [e, vt_ws_set (h := h) (h' := vh_wR h r i.toNatClampNeg (some y)) rfl (fun j hj => vt_E_wR hj)] at hP1
        exact hP1
      rcases hok with ⟨rfl, rfl⟩ | ⟨rfl, rfl⟩
      · obtain ⟨t3, ht3⟩ := vt_ak_at (ca := ca) (a := 3) (ty := .array .int) rfl
        obtain ⟨t1, ht1⟩ := vt_ak_at (ca := ca) (a := 1) (ty := .int) rfl
        obtain ⟨hy0, hey⟩ := vt_arI (r := y) hR hk.1.2
        obtain ⟨comp, cA, kA, h1, h3, h4, h5⟩ := Cond.arrayOver_specA Wd.2.2.2.2.2.2
        have g3 : s.vm.findClass ("[" ++ (FieldType.array .int).toString) = some (ca 3) := (Wd.1.2 t3 _ ht3).2
        have g1 : s.vm.findClass ("[" ++ FieldType.int.toString) = some (ca 1) := (Wd.1.2 t1 _ ht1).2
        have e3 : cA = ca 3 := Option.some.inj (h5.symm.trans g3)
        have e1 : comp = ca 1 := Option.some.inj (Eq.trans (Eq.symm h1) g1)
        subst e3; subst e1
        obtain ⟨-, k1, hk1, cc1, hkd1⟩ := (Wd.1.2 t1 _ ht1).1 (vh_Z h y) (fun j => .int (vh_I h y j))
        have hk1 : s.vm.classes[ca 1]? = some k1 := hk1
        have hcell : H[base + r]? = some (vp_cell (ca 3) (vh_Z h r, .inr (.inr (.inr (.inr (fun i => (vh_R h r i).map (base + ·))))))) := hR.2.2 r _ he
        have hcv : H[base + y]? = some (vp_cell (ca 1) (vh_Z h y, .inl (vh_I h y))) := hR.2.2 y _ hey
        have hlt : i.toNatClampNeg < vh_Z h r := Nat.not_le.mp fun q => hk.2 (Or.inr q)
        have hass : s.vm.assignable (ca 1) (ca 1) = true := Vm.assignable_self _ _
        refine W.aast hx hb hcell (fun q h => by cases h) (fun h => by cases h) h3 h4 rfl hk1 ⟨fun q => hk.2 (Or.inl q), by show _ < (arrV _ _ _).slots.size; rw [arrV_size]; exact hlt⟩ hcv (fun q h => by cases h) hk1 hass rfl rfl (vt_dc_of hd) (fun H1 e2 z oq => ?_)
        refine key H1 _ (hR.2.2.set vt_ws_D he ?_ oq) (hS.put z oq (Nat.le_add_right _ _))
        show H1[base + r]? = some (vp_cell _ _)
        rw [e2, vp_cell_q, vp_cell_q, arrV_store]
        congr 2
        funext q
        by_cases hq : q = i.toNatClampNeg
        · subst hq
          simp [updV, va_up, va_rf]
        · simp [updV, va_up, hq]
      · obtain ⟨t0, ht⟩ := vt_ak_at (ca := ca) (a := 2) (ty := .object "RuleEngine$Rule") rfl
        obtain ⟨hy0, hey⟩ := vt_obj (r := y) (a := 3) hR hk.1.2
        exact va_astq (D := D) (r := ("RuleEngine$Rule", vt_T3, 10)) hx hb Wd.1 hR.2.2 vt_ws_D hS r t0 y 3 he ht hey rfl hk.2 (vt_dc_of hd) (fun H1 locs1 hP1 hD1 hS1 => key H1 locs1 hP1 hS1)
    · rw [if_neg hk] at hn
      cases hn
  · cases hn
theorem sm_alen (C : vt_Ctx m p Rm s mm args meth c) (Wd : vt_Wd base b D ca (vh_X h) (vh_L h) s) {w a b1 c1 e1 : Nat} {v : Int} {pc' : Nat} {ls' st' : List Value} {h' : vt_H} {cells' slots' : Nat} (hc : cells' = cells + (vh_n h' - vh_n h)) (hs : slots' = slots + (vh_u h' - vh_u h)) (hbc : cells' ≤ Rm.cells) (hbs : slots' ≤ Rm.slots) (hn : vn_alen pc ls st h = some (pc', ls', st', h')) (hok : vt_okb m pc (29, w, v, a, b1, c1, e1) = true) (kk : vt_Go p l e Rm s mm args below meth c Qf base b D ca m pc' ls' st' h' cells' slots') : vt_Go p l e Rm s mm args below meth c Qf base b D ca m pc ls st h cells slots := by
  obtain ⟨hx, hb, hml, hr, hown, hts, hlk, hnm, hfr, hlo⟩ := C
  have hd := vt_dc_of (m := m) (pc := pc) (x := .arraylength) (n := 1) hok
  unfold vn_alen at hn
  split at hn
  · rename_i r t
    by_cases hk : 0 < vh_K h r ∧ vh_K h r < 100
    · rw [if_pos hk] at hn
      cases hn
      simp only [Nat.sub_self, Nat.add_zero] at hc hs
      replace hc := hc.symm; replace hs := hs.symm; subst hc; subst hs
      intro H locs lsA hZ hR hS hL
      obtain ⟨ty, hty⟩ := Option.isSome_iff_exists.mp (hR.2.1 r hk.2 hk.1)
      obtain ⟨t0, ht⟩ := vt_ak_at (ca := ca) hty
      by_cases h1 : vh_K h r = 1
      · obtain ⟨hr0, he⟩ := vt_arI hR h1
        rw [h1] at ht
        exact va_alen (D := D) hx hb Wd.1 hR.2.2 r t0 he ht rfl hd (kk H locs lsA hZ hR hS hL)
      · by_cases h4 : vh_K h r = 4
        · obtain ⟨hr0, he⟩ := vt_arZ hR h4
          rw [h4] at ht
          exact va_alen (D := D) hx hb Wd.1 hR.2.2 r t0 he ht rfl hd (kk H locs lsA hZ hR hS hL)
        obtain ⟨hr0, he⟩ := vt_arR hR rfl (by omega) hk.2 h4
        exact va_alen (D := D) hx hb Wd.1 hR.2.2 r t0 he ht rfl hd (kk H locs lsA hZ hR hS hL)
    · rw [if_neg hk] at hn
      cases hn
  · cases hn
    simp only [Nat.sub_self, Nat.add_zero] at hc hs
    replace hc := hc.symm; replace hs := hs.symm; subst hc; subst hs
    intro H locs lsA hZ hR hS hL
    exact va_slen hx hb Wd.2.2.2.1 (Nat.lt_of_lt_of_le Wd.2.1 Wd.2.2.1) (Nat.not_le.mpr Wd.2.1) hS hd (kk H locs lsA hZ hR hS hL)
  · cases hn
/-- a new cell comes: it lies behind all others -/
theorem vt_born {H1 : Heap} {q k z w : Nat} {x : va_E} (hz1 : H1.size ≤ s.heap.size + (cells + 1)) (hZ : s.heap.size + cells = base + vh_n h) (hR : (∀ k, vh_n h ≤ k → vh_K h k = 0) ∧ (∀ k, vh_K h k < 100 → 0 < vh_K h k → (vt_ak (vh_K h k)).isSome = true)) (hP1 : va_P D vt_cl (vt_ws base ca h ++ [(q, x)]) H1) (hD1 : va_D (fun q => base ≤ q) (vt_ws base ca h ++ [(q, x)])) (hk : k < 100 → 0 < k → (vt_ak k).isSome = true) (hx : vt_E base ca (vh_new h k z w) (vh_n h) = x) : q = base + vh_n h ∧ vt_Rel base D ca (vh_new h k z w) H1 := by
  have hl : (vt_ws base ca h).length = vh_n h := by simp [vt_ws]
  have hq : (vt_ws base ca h ++ [(q, x)])[vh_n h]? = some (q, x) := by rw [← hl]; simp
  have h1 : base ≤ q := hD1.2 _ _ hq
  have h2 : q < H1.size := (hP1 _ _ hq).lt
  have h3 : q = base + vh_n h := by
    rcases Nat.lt_or_ge q (base + vh_n h) with g | g
    · exfalso
      have hi : (vt_ws base ca h ++ [(q, x)])[q - base]? = some (base + (q - base), vt_E base ca h (q - base)) := by
        rw [List.getElem?_append_left (by rw [hl]; omega)]
        exact vt_ws_at (by omega)
      have := hD1.1 _ _ _ _ hi hq (by show base + (q - base) = q; omega)
      omega
    · omega
  refine ⟨h3, fun j hj => ?_, fun j => ?_, ?_⟩
  · rw [vh_n_new] at hj
    rw [vh_K_new, if_neg (by omega)]
    exact hR.1 j (by omega)
  · rw [vh_K_new]
    by_cases e : j = vh_n h
    · rw [if_pos e]; exact hk
    · rw [if_neg e]; exact hR.2 j
  · rw [h3, ← hx, vt_ws_push rfl (fun j hj => vt_E_new hj)] at hP1
    exact hP1
theorem sm_newa (C : vt_Ctx m p Rm s mm args meth c) (Wd : vt_Wd base b D ca (vh_X h) (vh_L h) s) {w a b1 c1 e1 : Nat} {v : Int} {pc' : Nat} {ls' st' : List Value} {h' : vt_H} {cells' slots' : Nat} (hc : cells' = cells + (vh_n h' - vh_n h)) (hs : slots' = slots + (vh_u h' - vh_u h)) (hbc : cells' ≤ Rm.cells) (hbs : slots' ≤ Rm.slots) (hn : vn_newa 1 2 pc ls st h = some (pc', ls', st', h')) (hok : vt_okb m pc (30, w, v, a, b1, c1, e1) = true) (kk : vt_Go p l e Rm s mm args below meth c Qf base b D ca m pc' ls' st' h' cells' slots') : vt_Go p l e Rm s mm args below meth c Qf base b D ca m pc ls st h cells slots := by
  obtain ⟨hx, hb, hml, hr, hown, hts, hlk, hnm, hfr, hlo⟩ := C
  have hd := vt_dc_of (m := m) (pc := pc) (x := .newarray .int) (n := 2) hok
  unfold vn_newa at hn
  split at hn
  · rename_i i t
    by_cases hk : ¬ i < 0 ∧ i.toNatClampNeg ≤ 100000000
    · rw [if_pos hk] at hn
      cases hn
      simp only [vh_n_new, vh_u_new, Nat.add_sub_cancel_left] at hc hs
      replace hc := hc.symm; replace hs := hs.symm; subst hc; subst hs
      intro H locs lsA hZ hR hS hL
      refine va_newa (D := D) (ty := .int) (a0 := (i.toNatClampNeg, .inl (fun _ => 0))) hx hb (atype := .int) (hts _ vt_wArr) rfl Wd.1 hR.2.2 vt_ws_D hS (fun q hq => Nat.le_trans Wd.2.2.1 hq) (fun cA => rfl) hk.1 rfl (by show i.toNatClampNeg * 4 ≤ _; omega) hbc hbs hd (fun q cA H1 hK1 hP1 hD1 hS1 => ?_)
      refine vt_cap (fun hz1 => ?_)
      obtain ⟨t0, ht⟩ := vt_ak_at (ca := ca) (a := 1) (ty := .int) rfl
      have hcA : cA = ca 1 := by
        have g1 := (Wd.1.2 t0 _ ht).2
        have g2 := (hK1.2 (vt_tys ca).length (cA, .int) (by simp)).2
        exact Option.some.inj (Eq.trans (Eq.symm g2) g1)
      subst hcA
      obtain ⟨rfl, hR1⟩ := vt_born (k := 1) (z := i.toNatClampNeg) (w := i.toNatClampNeg) hz1 hZ ⟨hR.1, hR.2.1⟩ hP1 hD1 (fun _ _ => rfl) (by
        unfold vt_E
        rw [vh_K_new, if_pos rfl, if_neg (by omega), if_pos (Or.inl rfl), vh_Z_new, if_pos rfl]
        congr 4
        funext j
        rw [vh_I_new, if_pos rfl])
      exact kk H1 locs lsA (by rw [vh_n_new]; omega) hR1 hS1 hL
    · rw [if_neg hk] at hn
      cases hn
  · cases hn
theorem sm_anew (C : vt_Ctx m p Rm s mm args meth c) (Wd : vt_Wd base b D ca (vh_X h) (vh_L h) s) {w a b1 c1 e1 : Nat} {v : Int} {pc' : Nat} {ls' st' : List Value} {h' : vt_H} {cells' slots' : Nat} (hc : cells' = cells + (vh_n h' - vh_n h)) (hs : slots' = slots + (vh_u h' - vh_u h)) (hbc : cells' ≤ Rm.cells) (hbs : slots' ≤ Rm.slots) (hn : vn_newa a 3 pc ls st h = some (pc', ls', st', h')) (hok : vt_okb m pc (31, w, v, a, b1, c1, e1) = true) (kk : vt_Go p l e Rm s mm args below meth c Qf base b D ca m pc' ls' st' h' cells' slots') : vt_Go p l e Rm s mm args below meth c Qf base b D ca m pc ls st h cells slots := by
  obtain ⟨hx, hb, hml, hr, hown, hts, hlk, hnm, hfr, hlo⟩ := C
  simp only [vt_okb] at hok
  rw [Bool.and_eq_true] at hok
  obtain ⟨hd, hok⟩ := hok
  unfold vt_okA at hok
  rw [Bool.and_eq_true, decide_eq_true_eq] at hok
  obtain ⟨rfl, hok⟩ := hok
  unfold vn_newa at hn
  split at hn
  · rename_i i t
    by_cases hk : ¬ i < 0 ∧ i.toNatClampNeg ≤ 100000000
    · rw [if_pos hk] at hn
      cases hn
      simp only [vh_n_new, vh_u_new, Nat.add_sub_cancel_left] at hc hs
      replace hc := hc.symm; replace hs := hs.symm; subst hc; subst hs
      intro H locs lsA hZ hR hS hL
      refine va_newq (D := D) (C := "RuleEngine$Rule") hx hb hown (hts _ (vt_wd_of hok)) Wd.2.2.2.2.2.1 Wd.1 hR.2.2 vt_ws_D hS (fun q hq => Nat.le_trans Wd.2.2.1 hq) hk.1 rfl (by omega) hbc hbs (vt_dc_of hd) (fun q cA H1 hK1 hP1 hD1 hS1 => ?_)
      refine vt_cap (fun hz1 => ?_)
      have hak : vt_ak 2 = some (.object "RuleEngine$Rule") := rfl
      obtain ⟨t0, ht⟩ := vt_ak_at (ca := ca) hak
      have hcA : cA = ca 2 := by
        obtain ⟨_, _, _, _, _, g1⟩ := (Wd.1.2 t0 _ ht).2
        obtain ⟨_, _, _, _, _, g2⟩ := (hK1.2 (vt_tys ca).length (cA, .object "RuleEngine$Rule") (by simp)).2
        exact Option.some.inj (Eq.trans (Eq.symm g2) g1)
      subst hcA
      obtain ⟨rfl, hR1⟩ := vt_born (k := 2) (z := i.toNatClampNeg) (w := i.toNatClampNeg) hz1 hZ ⟨hR.1, hR.2.1⟩ hP1 hD1 (fun _ _ => rfl) (by
        unfold vt_E
        rw [vh_K_new, if_pos rfl, if_neg (by omega), if_neg (by omega), vh_Z_new, if_pos rfl]
        congr 7
        funext j
        rw [vh_R_new, if_pos rfl]; rfl)
      exact kk H1 locs lsA (by rw [vh_n_new]; omega) hR1 hS1 hL
    · rw [if_neg hk] at hn
      cases hn
  · cases hn
theorem sm_new (C : vt_Ctx m p Rm s mm args meth c) (Wd : vt_Wd base b D ca (vh_X h) (vh_L h) s) {w a b1 c1 e1 : Nat} {v : Int} {pc' : Nat} {ls' st' : List Value} {h' : vt_H} {cells' slots' : Nat} (hc : cells' = cells + (vh_n h' - vh_n h)) (hs : slots' = slots + (vh_u h' - vh_u h)) (hbc : cells' ≤ Rm.cells) (hbs : slots' ≤ Rm.slots) (hn : vn_new a b1 pc ls st h = some (pc', ls', st', h')) (hok : vt_okb m pc (32, w, v, a, b1, c1, e1) = true) (kk : vt_Go p l e Rm s mm args below meth c Qf base b D ca m pc' ls' st' h' cells' slots') : vt_Go p l e Rm s mm args below meth c Qf base b D ca m pc ls st h cells slots := by
  obtain ⟨hx, hb, hml, hr, hown, hts, hlk, hnm, hfr, hlo⟩ := C
  simp only [vt_okb] at hok
  rw [Bool.and_eq_true] at hok
  obtain ⟨hd, hok⟩ := hok
  unfold vt_okN at hok
  cases hn
  simp only [vh_n_new, vh_u_new, Nat.add_sub_cancel_left] at hc hs
  replace hc := hc.symm; replace hs := hs.symm; subst hc; subst hs
  intro H locs lsA hZ hR hS hL
  split at hok
  · rename_i C T N hcl
    simp only [Bool.and_eq_true, decide_eq_true_eq] at hok
    obtain ⟨rfl, hlk2⟩ := hok
    obtain ⟨k1, k2, k3⟩ := vt_clt hcl
    obtain ⟨k4, k5⟩ := vt_cli hcl
    refine va_new (D := D) (fs := vt_fs base (vh_new h (100 + a) 0 b1) (vh_n h) a) hx hb hts (vt_clw hcl) (vt_ty a) k1 hown (hts _ (vt_wd_of hlk2)) (hts _ k4) (hts _ k5) Wd.1 hR.2.2 vt_ws_D hS (fun q hq => Nat.le_trans Wd.2.2.1 hq) hcl (fun j hj => ?_) hbc hbs (vt_dc_of hd) (fun q H1 hP1 hD1 hS1 => ?_)
    · have e := k3 j hj
      unfold vp_V
      rw [List.getD_eq_getElem?_getD, vt_fs_at (by rw [vt_nf_of hcl]; exact hj), e]
      unfold vt_fv
      rw [vh_R_new, vh_I_new, if_pos rfl, if_pos rfl]
      cases vt_ref a j <;> rfl
    · refine vt_cap (fun hz1 => ?_)
      obtain ⟨rfl, hR1⟩ := vt_born (k := 100 + a) (z := 0) (w := b1) hz1 hZ ⟨hR.1, hR.2.1⟩ hP1 hD1 (fun g => by omega) (by
        unfold vt_E
        rw [vh_K_new, if_pos rfl, if_pos (by omega), Nat.add_sub_cancel_left])
      exact kk H1 locs lsA (by rw [vh_n_new]; omega) hR1 hS1 hL
  · cases hok
theorem vt_sum {st : List Value} (hc : ∀ x ∈ st, x.category = 1) : ((st.map (vt_tr base b)).map fun v => v.category).sum = st.length := by
  induction st with
  | nil => rfl
  | cons x t ih =>
    simp only [List.map_cons, List.sum_cons, List.length_cons, vt_tr_cat]
    rw [ih (fun y hy => hc y (List.mem_cons_of_mem _ hy)), hc x List.mem_cons_self]
    omega
theorem vt_sum_le {st : List Value} : ((st.map (vt_tr base b)).map fun v => v.category).sum ≤ 2 * st.length := by
  induction st with
  | nil => exact Nat.le_refl _
  | cons x t ih =>
    simp only [List.map_cons, List.sum_cons, List.length_cons, vt_tr_cat]
    have : x.category ≤ 2 := by cases x <;> simp [Value.category]
    omega
theorem sm_copy (C : vt_Ctx m p Rm s mm args meth c) (Wd : vt_Wd base b D ca (vh_X h) (vh_L h) s) {w a b1 c1 e1 : Nat} {v : Int} {pc' : Nat} {ls' st' : List Value} {h' : vt_H} {cells' slots' : Nat} (hc : cells' = cells + (vh_n h' - vh_n h)) (hs : slots' = slots + (vh_u h' - vh_u h)) (hbc : cells' ≤ Rm.cells) (hbs : slots' ≤ Rm.slots) (hn : vn_copy pc ls st h = some (pc', ls', st', h')) (hok : vt_okb m pc (34, w, v, a, b1, c1, e1) = true) (kk : vt_Go p l e Rm s mm args below meth c Qf base b D ca m pc' ls' st' h' cells' slots') : vt_Go p l e Rm s mm args below meth c Qf base b D ca m pc ls st h cells slots := by
  obtain ⟨hx, hb, hml, hr, hown, hts, hlk, hnm, hfr, hlo⟩ := C
  simp only [vt_okb] at hok
  rw [Bool.and_eq_true] at hok
  obtain ⟨hd, hl⟩ := hok
  unfold vn_copy at hn
  split at hn
  · rename_i n dp r sp r0 t
    by_cases hk : (vh_K h r = 1 ∧ vh_K h r0 = 1 ∧ t.length ≤ 8) ∧ ¬ sp < 0 ∧ ¬ dp < 0 ∧ ¬ n < 0 ∧ sp.toNatClampNeg + n.toNatClampNeg ≤ vh_Z h r0 ∧ dp.toNatClampNeg + n.toNatClampNeg ≤ vh_Z h r
    · rw [if_pos hk] at hn
      cases hn
      simp only [vh_n_cp, vh_u_cp, Nat.sub_self, Nat.add_zero] at hc hs
      replace hc := hc.symm; replace hs := hs.symm; subst hc; subst hs
      obtain ⟨⟨g1, g2, g3⟩, g4, g5, g6, g7, g8⟩ := hk
      intro H locs lsA hZ hR hS hL
      obtain ⟨hr0, he⟩ := vt_arI hR g1
      obtain ⟨hr1, he0⟩ := vt_arI hR g2
      obtain ⟨t0, ht⟩ := vt_ak_at (ca := ca) (a := 1) (ty := .int) rfl
      refine va_copyi (D := D) (ty := .int) hx hb (hml.trans hL.1.symm) hown (hts _ (vt_wd_of hl)) (hts _ vt_wCopy.1) (hts _ vt_wCopy.2.1) (hts _ vt_wCopy.2.2) Wd.1 hR.2.2 vt_ws_D hS r0 r t0 t0 he0 he ht ht rfl g4 g5 g6 g7 g8 (fun _ _ => rfl) (by omega) ?_ (vt_dc_of hd) (fun H1 locs1 hP1 hD1 hS1 => ?_)
      · have := vt_sum_le (base := base) (b := b) (st := st')
        have : nativeFrameWords "java/lang/System" "arraycopy" 5 ≤ 7 := by decide +kernel
        omega
      · refine kk H1 locs1 lsA hZ ⟨hR.1, hR.2.1, ?_⟩ hS1 hL
        have e : (.inl (ca 1, vh_Z h r, .inl (va_cpy (vh_I h r0) (vh_I h r) sp.toNatClampNeg dp.toNatClampNeg n.toNatClampNeg)) : va_E) = vt_E base ca (vh_cp h r0 sp.toNatClampNeg r dp.toNatClampNeg n.toNatClampNeg) r := by
          unfold vt_E
          rw [vh_K_cp, g1, if_neg (by omega), if_pos (Or.inl rfl), vh_Z_cp]
          congr 4
          funext j
          rw [vh_I_cp, if_pos rfl]
        rw [e, vt_ws_set (h := h) (h' := vh_cp h r0 sp.toNatClampNeg r dp.toNatClampNeg n.toNatClampNeg) rfl (fun j hj => vt_E_cp hj)] at hP1
        exact hP1
    · rw [if_neg hk] at hn
      cases hn
  · cases hn
theorem sm_oinit (C : vt_Ctx m p Rm s mm args meth c) (Wd : vt_Wd base b D ca (vh_X h) (vh_L h) s) {w a b1 c1 e1 : Nat} {v : Int} {pc' : Nat} {ls' st' : List Value} {h' : vt_H} {cells' slots' : Nat} (hc : cells' = cells + (vh_n h' - vh_n h)) (hs : slots' = slots + (vh_u h' - vh_u h)) (hbc : cells' ≤ Rm.cells) (hbs : slots' ≤ Rm.slots) (hn : vn_oinit pc ls st h = some (pc', ls', st', h')) (hok : vt_okb m pc (35, w, v, a, b1, c1, e1) = true) (kk : vt_Go p l e Rm s mm args below meth c Qf base b D ca m pc' ls' st' h' cells' slots') : vt_Go p l e Rm s mm args below meth c Qf base b D ca m pc ls st h cells slots := by
  obtain ⟨hx, hb, hml, hr, hown, hts, hlk, hnm, hfr, hlo⟩ := C
  simp only [vt_okb] at hok
  rw [Bool.and_eq_true] at hok
  obtain ⟨hd, hl⟩ := hok
  unfold vn_oinit at hn
  split at hn
  · rename_i r t
    by_cases hk : t.length ≤ 8
    · rw [if_pos hk] at hn
      cases hn
      simp only [Nat.sub_self, Nat.add_zero] at hc hs
      replace hc := hc.symm; replace hs := hs.symm; subst hc; subst hs
      intro H locs lsA hZ hR hS hL
      refine W.objInit hx hb hown (hts _ (vt_wd_of hl)) (hts _ vt_wObj.1) (hts _ vt_wObj.2) rfl (hL.1.trans hml.symm) rfl (vt_dc_of hd) (by omega) ?_ (kk H locs lsA hZ hR hS hL)
      have := vt_sum_le (base := base) (b := b) (st := st')
      show 2 * 0 + _ + 12 ≤ _
      omega
    · rw [if_neg hk] at hn
      cases hn
  · cases hn
theorem sm_zald (C : vt_Ctx m p Rm s mm args meth c) (Wd : vt_Wd base b D ca (vh_X h) (vh_L h) s) {w a b1 c1 e1 : Nat} {v : Int} {pc' : Nat} {ls' st' : List Value} {h' : vt_H} {cells' slots' : Nat} (hc : cells' = cells + (vh_n h' - vh_n h)) (hs : slots' = slots + (vh_u h' - vh_u h)) (hbc : cells' ≤ Rm.cells) (hbs : slots' ≤ Rm.slots) (hn : vn_zald pc ls st h = some (pc', ls', st', h')) (hok : vt_okb m pc (36, w, v, a, b1, c1, e1) = true) (kk : vt_Go p l e Rm s mm args below meth c Qf base b D ca m pc' ls' st' h' cells' slots') : vt_Go p l e Rm s mm args below meth c Qf base b D ca m pc ls st h cells slots := by
  obtain ⟨hx, hb, hml, hr, hown, hts, hlk, hnm, hfr, hlo⟩ := C
  have hd := vt_dc_of (m := m) (pc := pc) (x := .baload) (n := 1) hok
  unfold vn_zald at hn
  split at hn
  · rename_i i r t
    by_cases hk : vh_K h r = 4 ∧ ¬ (i < 0 ∨ vh_Z h r ≤ i.toNatClampNeg)
    · rw [if_pos hk] at hn
      cases hn
      simp only [Nat.sub_self, Nat.add_zero] at hc hs
      replace hc := hc.symm; replace hs := hs.symm; subst hc; subst hs
      intro H locs lsA hZ hR hS hL
      obtain ⟨hr0, he⟩ := vt_arZ hR hk.1
      obtain ⟨t0, ht⟩ := vt_ak_at (ca := ca) (a := 4) (ty := .boolean) rfl
      exact va_zald (D := D) hx hb Wd.1 hR.2.2 r t0 he ht hk.2 hd (kk H locs lsA hZ hR hS hL)
    · rw [if_neg hk] at hn
      cases hn
  · cases hn
theorem sm_zast (C : vt_Ctx m p Rm s mm args meth c) (Wd : vt_Wd base b D ca (vh_X h) (vh_L h) s) {w a b1 c1 e1 : Nat} {v : Int} {pc' : Nat} {ls' st' : List Value} {h' : vt_H} {cells' slots' : Nat} (hc : cells' = cells + (vh_n h' - vh_n h)) (hs : slots' = slots + (vh_u h' - vh_u h)) (hbc : cells' ≤ Rm.cells) (hbs : slots' ≤ Rm.slots) (hn : vn_zast pc ls st h = some (pc', ls', st', h')) (hok : vt_okb m pc (37, w, v, a, b1, c1, e1) = true) (kk : vt_Go p l e Rm s mm args below meth c Qf base b D ca m pc' ls' st' h' cells' slots') : vt_Go p l e Rm s mm args below meth c Qf base b D ca m pc ls st h cells slots := by
  obtain ⟨hx, hb, hml, hr, hown, hts, hlk, hnm, hfr, hlo⟩ := C
  have hd := vt_dc_of (m := m) (pc := pc) (x := .bastore) (n := 1) hok
  unfold vn_zast at hn
  split at hn
  · rename_i x i r t
    by_cases hk : (vh_K h r = 4 ∧ (x = 0 ∨ x = 1)) ∧ ¬ (i < 0 ∨ vh_Z h r ≤ i.toNatClampNeg)
    · rw [if_pos hk] at hn
      cases hn
      simp only [vh_n_wI, vh_u_wI, Nat.sub_self, Nat.add_zero] at hc hs
      replace hc := hc.symm; replace hs := hs.symm; subst hc; subst hs
      intro H locs lsA hZ hR hS hL
      obtain ⟨hr0, he⟩ := vt_arZ hR hk.1.1
      obtain ⟨t0, ht⟩ := vt_ak_at (ca := ca) (a := 4) (ty := .boolean) rfl
      refine va_zast (D := D) hx hb Wd.1 hR.2.2 vt_ws_D hS r t0 he ht hk.2 hd (fun H1 locs1 hP1 hD1 hS1 => ?_)
      refine kk H1 locs1 lsA hZ ⟨hR.1, hR.2.1, ?_⟩ hS1 hL
      have hnx : vp_nar .boolean x = x := by rcases hk.1.2 with rfl | rfl <;> rfl
      rw [hnx] at hP1
      have e : (.inl (ca 4, vh_Z h r, .inl (upd (vh_I h r) i.toNatClampNeg x)) : va_E) = vt_E base ca (vh_wI h r i.toNatClampNeg x) r := by
        unfold vt_E
        rw [vh_K_wI, hk.1.1, if_neg (by omega), if_pos (Or.inr rfl), vh_Z_wI]
        congr 4
        funext j
        simp [upd, vh_I_wI]
      rw [e, vt_ws_set (h := h) (h' := vh_wI h r i.toNatClampNeg x) rfl (fun j hj => vt_E_wI hj)] at hP1
      exact hP1
    · rw [if_neg hk] at hn
      cases hn
  · cases hn
theorem sm_sw (C : vt_Ctx m p Rm s mm args meth c) (Wd : vt_Wd base b D ca (vh_X h) (vh_L h) s) {w a b1 c1 e1 : Nat} {v : Int} {pc' : Nat} {ls' st' : List Value} {h' : vt_H} {cells' slots' : Nat} (hc : cells' = cells + (vh_n h' - vh_n h)) (hs : slots' = slots + (vh_u h' - vh_u h)) (hbc : cells' ≤ Rm.cells) (hbs : slots' ≤ Rm.slots) (hn : vn_sw a b1 ls st h = some (pc', ls', st', h')) (hok : vt_okb m pc (38, w, v, a, b1, c1, e1) = true) (kk : vt_Go p l e Rm s mm args below meth c Qf base b D ca m pc' ls' st' h' cells' slots') : vt_Go p l e Rm s mm args below meth c Qf base b D ca m pc ls st h cells slots := by
  obtain ⟨hx, hb, hml, hr, hown, hts, hlk, hnm, hfr, hlo⟩ := C
  simp only [vt_okb] at hok
  unfold vt_okW at hok
  rw [Bool.and_eq_true, decide_eq_true_eq] at hok
  obtain ⟨rfl, hd⟩ := hok
  have hd := vt_dc_of hd
  unfold vn_sw at hn
  split at hn
  · rename_i x t
    cases hn
    simp only [Nat.sub_self, Nat.add_zero] at hc hs
    replace hc := hc.symm; replace hs := hs.symm; subst hc; subst hs
    intro H locs lsA hZ hR hS hL
    have k := kk H locs lsA hZ hR hS hL
    rcases pk_ix x (n := 15) (by omega) with q | q | ⟨j, hj, rfl⟩
    · rw [if_pos (Or.inl q)] at k
      exact lv_tableOut hx hb hd (Or.inl (by have := Int32.lt_iff_toInt_lt.mp q; simpa using this)) (by omega) k
    · rw [if_pos (Or.inr q)] at k
      exact lv_tableOut hx hb hd (Or.inr (by have := Int32.le_iff_toInt_le.mp q; rw [nI_toInt (by omega)] at this; omega)) (by omega) k
    · have hn1 : ¬ (nI j < 0 ∨ nI 15 ≤ nI j) := by
        rintro (z | z)
        · exact nI_pos (by omega) z
        · exact nI_ge hj (by omega) z
      rw [if_neg hn1, nI_clamp (by omega)] at k
      have hto : (nI j).toInt = (j : Int) := nI_toInt (by omega)
      refine lv_tableIn (off := ((vt_sw.getD j 0 : Nat) : Int) - (pc : Int)) hx hb hd (by rw [hto]; omega) (by rw [hto]; omega) ?_ (by omega) k
      rw [hto]
      have : (((j : Nat) : Int) - 0).toNat = j := by omega
      rw [this]
      have hl : j < vt_sw.length := by show j < 15; exact hj
      simp [List.getElem?_eq_getElem hl, List.getD_eq_getElem?_getD]
  · cases hn
theorem sm_newz (C : vt_Ctx m p Rm s mm args meth c) (Wd : vt_Wd base b D ca (vh_X h) (vh_L h) s) {w a b1 c1 e1 : Nat} {v : Int} {pc' : Nat} {ls' st' : List Value} {h' : vt_H} {cells' slots' : Nat} (hc : cells' = cells + (vh_n h' - vh_n h)) (hs : slots' = slots + (vh_u h' - vh_u h)) (hbc : cells' ≤ Rm.cells) (hbs : slots' ≤ Rm.slots) (hn : vn_newa 4 2 pc ls st h = some (pc', ls', st', h')) (hok : vt_okb m pc (39, w, v, a, b1, c1, e1) = true) (kk : vt_Go p l e Rm s mm args below meth c Qf base b D ca m pc' ls' st' h' cells' slots') : vt_Go p l e Rm s mm args below meth c Qf base b D ca m pc ls st h cells slots := by
  obtain ⟨hx, hb, hml, hr, hown, hts, hlk, hnm, hfr, hlo⟩ := C
  have hd := vt_dc_of (m := m) (pc := pc) (x := .newarray .boolean) (n := 2) hok
  unfold vn_newa at hn
  split at hn
  · rename_i i t
    by_cases hk : ¬ i < 0 ∧ i.toNatClampNeg ≤ 100000000
    · rw [if_pos hk] at hn
      cases hn
      simp only [vh_n_new, vh_u_new, Nat.add_sub_cancel_left] at hc hs
      replace hc := hc.symm; replace hs := hs.symm; subst hc; subst hs
      intro H locs lsA hZ hR hS hL
      refine va_newa (D := D) (ty := .boolean) (a0 := (i.toNatClampNeg, .inl (fun _ => 0))) hx hb (atype := .boolean) (hts _ vt_wArz) rfl Wd.1 hR.2.2 vt_ws_D hS (fun q hq => Nat.le_trans Wd.2.2.1 hq) (fun cA => rfl) hk.1 rfl (by show i.toNatClampNeg * 1 ≤ _; omega) hbc hbs hd (fun q cA H1 hK1 hP1 hD1 hS1 => ?_)
      refine vt_cap (fun hz1 => ?_)
      obtain ⟨t0, ht⟩ := vt_ak_at (ca := ca) (a := 4) (ty := .boolean) rfl
      have hcA : cA = ca 4 := by
        have g1 := (Wd.1.2 t0 _ ht).2
        have g2 := (hK1.2 (vt_tys ca).length (cA, .boolean) (by simp)).2
        exact Option.some.inj (Eq.trans (Eq.symm g2) g1)
      subst hcA
      obtain ⟨rfl, hR1⟩ := vt_born (k := 4) (z := i.toNatClampNeg) (w := i.toNatClampNeg) hz1 hZ ⟨hR.1, hR.2.1⟩ hP1 hD1 (fun _ _ => rfl) (by
        unfold vt_E
        rw [vh_K_new, if_pos rfl, if_neg (by omega), if_pos (Or.inr rfl), vh_Z_new, if_pos rfl]
        congr 4
        funext j
        rw [vh_I_new, if_pos rfl])
      exact kk H1 locs lsA (by rw [vh_n_new]; omega) hR1 hS1 hL
    · rw [if_neg hk] at hn
      cases hn
  · cases hn
theorem sm_max (C : vt_Ctx m p Rm s mm args meth c) (Wd : vt_Wd base b D ca (vh_X h) (vh_L h) s) {w a b1 c1 e1 : Nat} {v : Int} {pc' : Nat} {ls' st' : List Value} {h' : vt_H} {cells' slots' : Nat} (hc : cells' = cells + (vh_n h' - vh_n h)) (hs : slots' = slots + (vh_u h' - vh_u h)) (hbc : cells' ≤ Rm.cells) (hbs : slots' ≤ Rm.slots) (hn : vn_max pc ls st h = some (pc', ls', st', h')) (hok : vt_okb m pc (41, w, v, a, b1, c1, e1) = true) (kk : vt_Go p l e Rm s mm args below meth c Qf base b D ca m pc' ls' st' h' cells' slots') : vt_Go p l e Rm s mm args below meth c Qf base b D ca m pc ls st h cells slots := by
  obtain ⟨hx, hb, hml, hr, hown, hts, hlk, hnm, hfr, hlo⟩ := C
  simp only [vt_okb] at hok
  rw [Bool.and_eq_true] at hok
  obtain ⟨hd, hl⟩ := hok
  unfold vn_max at hn
  split at hn
  · rename_i y x t
    by_cases hk : t.length ≤ 8
    · rw [if_pos hk] at hn
      cases hn
      simp only [Nat.sub_self, Nat.add_zero] at hc hs
      replace hc := hc.symm; replace hs := hs.symm; subst hc; subst hs
      intro H locs lsA hZ hR hS hL
      refine va_mmax hx hb (hml.trans hL.1.symm) hown (hts _ (vt_wd_of hl)) (hts _ vt_wMax.1) (hts _ vt_wMax.2.1) (hts _ vt_wMax.2.2) (by omega) ?_ hbc hbs (vt_dc_of hd) (kk H locs lsA hZ hR hS hL)
      have := vt_sum_le (base := base) (b := b) (st := t)
      omega
    · rw [if_neg hk] at hn
      cases hn
  · cases hn
theorem vr_outer (c : ClassId) (N h0 : Nat) : ∀ i : Nat, Jvm.Free.Multi.outerC c N h0 i = arrV c N (fun j => va_rf (if j < i then some (h0 + 1 + j) else none))
  | 0 => by
    show ({ cls := c, slots := Array.replicate N .null, vm := .none } : Cell) = _
    rw [arrV_new]
    refine congrArg (arrV c N) (funext fun j => ?_)
    simp [va_rf]
  | i + 1 => by
    show (Jvm.Free.Multi.outerC c N h0 i).setSlot i (.ref (h0 + 1 + i)) = _
    rw [vr_outer c N h0 i, arrV_store]
    refine congrArg (arrV c N) (funext fun j => ?_)
    by_cases e : j = i
    · subst e
      simp [updV, va_rf]
    · by_cases h : j < i
      · simp [updV, e, h, Nat.lt_succ_of_lt h]
      · simp [updV, e, h, show ¬ j < i + 1 by omega]
theorem vt_E_mul {n k : Nat} {j : Nat} (hj : j < vh_n h) : vt_E base ca (vh_mul h n k) j = vt_E base ca h j := by
  have e1 : vh_K (vh_mul h n k) j = vh_K h j := if_pos hj
  have e2 : vh_Z (vh_mul h n k) j = vh_Z h j := if_pos hj
  have e3 : vh_I (vh_mul h n k) j = vh_I h j := funext fun q => if_pos (Or.inl hj)
  have e4 : vh_R (vh_mul h n k) j = vh_R h j := funext fun q => if_pos (Or.inl hj)
  unfold vt_E vt_fs vt_fv
  rw [e1, e2, e3, e4]
theorem sm_multi (C : vt_Ctx m p Rm s mm args meth c) (Wd : vt_Wd base b D ca (vh_X h) (vh_L h) s) {w a b1 c1 e1 : Nat} {v : Int} {pc' : Nat} {ls' st' : List Value} {h' : vt_H} {cells' slots' : Nat} (hc : cells' = cells + (vh_n h' - vh_n h)) (hs : slots' = slots + (vh_u h' - vh_u h)) (hbc : cells' ≤ Rm.cells) (hbs : slots' ≤ Rm.slots) (hn : vn_multi pc ls st h = some (pc', ls', st', h')) (hok : vt_okb m pc (33, w, v, a, b1, c1, e1) = true) (kk : vt_Go p l e Rm s mm args below meth c Qf base b D ca m pc' ls' st' h' cells' slots') : vt_Go p l e Rm s mm args below meth c Qf base b D ca m pc ls st h cells slots := by
  obtain ⟨hx, hb, hml, hr, hown, hts, hlk, hnm, hfr, hlo⟩ := C
  have hd : decode (vt_m m).2.1 pc = .ok (.multianewarray c1 2, 4) ∧ Jvm.Cond.classLink (vt_own m) c1 "[[I" ∈ vt_T := by
    simp only [vt_okb, Bool.and_eq_true] at hok
    exact ⟨vt_dc_of hok.1, vt_wd_of hok.2⟩
  unfold vn_multi at hn
  split at hn
  · rename_i kk0 nn t
    by_cases hk : (¬ kk0 < 0 ∧ kk0.toNatClampNeg ≤ 1000000) ∧ ¬ nn < 0 ∧ nn.toNatClampNeg ≤ 1000000
    · rw [if_pos hk] at hn
      cases hn
      have en : vh_n (vh_mul h nn.toNatClampNeg kk0.toNatClampNeg) = vh_n h + (1 + nn.toNatClampNeg) := rfl
      have eu : vh_u (vh_mul h nn.toNatClampNeg kk0.toNatClampNeg) = vh_u h + (nn.toNatClampNeg + nn.toNatClampNeg * kk0.toNatClampNeg) := rfl
      rw [en, Nat.add_sub_cancel_left] at hc
      rw [eu, Nat.add_sub_cancel_left] at hs
      replace hc := hc.symm; replace hs := hs.symm; subst hc; subst hs
      intro H locs lsA hZ hR hS hL
      refine vt_cap (fun hz => ?_)
      have hsz : H.size = base + vh_n h := vt_size (by omega) (Nat.le_trans Wd.2.2.1 hS.1) hR
      obtain ⟨t3, ht3⟩ := vt_ak_at (ca := ca) (a := 3) (ty := .array .int) rfl
      obtain ⟨t1, ht1⟩ := vt_ak_at (ca := ca) (a := 1) (ty := .int) rfl
      have g3 : s.vm.findClass ("[" ++ (FieldType.array .int).toString) = some (ca 3) := (Wd.1.2 t3 _ ht3).2
      have g1 : s.vm.findClass ("[" ++ FieldType.int.toString) = some (ca 1) := (Wd.1.2 t1 _ ht1).2
      intro T hT X
      obtain ⟨vm₁, cA, comp, -, fA, fC, -, -, X', step⟩ := X.multianewarray2F hx hown (ty := .int) (hts _ hd.2) Wd.2.2.2.2.2.2 (hts _ vt_wArr) (g := F0 mm pc lsA (.int kk0 :: .int nn :: t.map (vt_tr base b))) rfl (by rw [hb]; exact hd.1) rfl hk.2.1 hk.1.1 (by omega) (by show kk0.toNatClampNeg * 4 ≤ _; omega) (by omega) rfl rfl hbc hbs
      have e3 : cA = ca 3 := Option.some.inj (fA.symm.trans g3)
      have e1 : comp = ca 1 := Option.some.inj (Eq.trans (Eq.symm fC) g1)
      subst e3; subst e1
      generalize hF : Jvm.Free.Multi.fill (T.setVm vm₁) (ca 3) (ca 1) nn.toNatClampNeg kk0.toNatClampNeg (defaultValue .int) nn.toNatClampNeg = F at X' step
      have hTh : (T.setVm vm₁).heap = H := hT
      obtain ⟨f1, f2, -, -⟩ := Jvm.Free.Multi.fill_facts (T.setVm vm₁) (ca 3) (ca 1) nn.toNatClampNeg kk0.toNatClampNeg (defaultValue .int) nn.toNatClampNeg
      rw [hF, hTh] at f1 f2
      have hold : ∀ x : Nat, x < H.size → F.heap[x]? = H[x]? := fun x hx => by
        have := Jvm.Free.Multi.fill_old (T.setVm vm₁) (ca 3) (ca 1) nn.toNatClampNeg kk0.toNatClampNeg (defaultValue .int) (a := x) (by rw [hTh]; exact hx) nn.toNatClampNeg
        rw [hF, hTh] at this
        exact this
      have hrow : ∀ j : Nat, j < nn.toNatClampNeg → F.heap[H.size + 1 + j]? = some (Jvm.Free.Multi.innerC (ca 1) kk0.toNatClampNeg (defaultValue .int)) := fun j hj => by
        have := Jvm.Free.Multi.fill_inner (T.setVm vm₁) (ca 3) (ca 1) nn.toNatClampNeg kk0.toNatClampNeg (defaultValue .int) nn.toNatClampNeg j hj
        rw [hF, hTh] at this
        exact this
      rw [vr_outer] at f2
      have hR1 : vt_Rel base D ca (vh_mul h nn.toNatClampNeg kk0.toNatClampNeg) F.heap := by
        refine ⟨fun j hj => ?_, fun j h1 h2 => ?_, fun j q hq => ?_⟩
        · rw [en] at hj
          show (if j < vh_n h then vh_K h j else if j = vh_n h then 3 else if j ≤ vh_n h + nn.toNatClampNeg then 1 else vh_K h j) = 0
          rw [if_neg (by omega), if_neg (by omega), if_neg (by omega)]
          exact hR.1 j (by omega)
        · have hK : vh_K (vh_mul h nn.toNatClampNeg kk0.toNatClampNeg) j = (if j < vh_n h then vh_K h j else if j = vh_n h then 3 else if j ≤ vh_n h + nn.toNatClampNeg then 1 else vh_K h j) := rfl
          rw [hK] at h1 h2 ⊢
          by_cases q1 : j < vh_n h
          · rw [if_pos q1] at h1 h2 ⊢
            exact hR.2.1 j h1 h2
          · rw [if_neg q1] at h1 h2 ⊢
            by_cases q2 : j = vh_n h
            · rw [if_pos q2]; rfl
            · rw [if_neg q2] at h1 h2 ⊢
              by_cases q3 : j ≤ vh_n h + nn.toNatClampNeg
              · rw [if_pos q3]; rfl
              · rw [if_neg q3] at h1 h2 ⊢
                exact hR.2.1 j h1 h2
        · obtain ⟨hj, rfl⟩ := vt_ws_of hq
          rw [en] at hj
          by_cases q1 : j < vh_n h
          · rw [vt_E_mul q1]
            exact (hR.2.2 j _ (vt_ws_at q1)).kept (hold _ (by show base + j < _; omega))
          · by_cases q2 : j = vh_n h
            · subst q2
              have e : vt_E base ca (vh_mul h nn.toNatClampNeg kk0.toNatClampNeg) (vh_n h) = .inl (ca 3, nn.toNatClampNeg, .inr (.inr (.inr (.inr (fun i => if i < nn.toNatClampNeg then some (base + vh_n h + 1 + i) else none))))) := by
                have hK : vh_K (vh_mul h nn.toNatClampNeg kk0.toNatClampNeg) (vh_n h) = 3 := by
                  show (if vh_n h < vh_n h then _ else if vh_n h = vh_n h then 3 else _) = 3
                  rw [if_neg (by omega), if_pos rfl]
                have hZ1 : vh_Z (vh_mul h nn.toNatClampNeg kk0.toNatClampNeg) (vh_n h) = nn.toNatClampNeg := by
                  show (if vh_n h < vh_n h then _ else if vh_n h = vh_n h then nn.toNatClampNeg else _) = _
                  rw [if_neg (by omega), if_pos rfl]
                have hRr : ∀ q, (vh_R (vh_mul h nn.toNatClampNeg kk0.toNatClampNeg) (vh_n h) q).map (base + ·) = if q < nn.toNatClampNeg then some (base + vh_n h + 1 + q) else none := fun q => by
                  show ((if vh_n h < vh_n h ∨ vh_n h < vh_n h then vh_R h (vh_n h) q else if q < nn.toNatClampNeg then some (vh_n h + 1 + q) else none).map (base + ·)) = _
                  rw [if_neg (by omega)]
                  by_cases z : q < nn.toNatClampNeg
                  · rw [if_pos z, if_pos z]; simp only [Option.map_some]; congr 1; omega
                  · rw [if_neg z, if_neg z]; rfl
                unfold vt_E
                rw [hK, if_neg (by omega), if_neg (by omega), hZ1]
                simp only [hRr]
              rw [e]
              show F.heap[base + vh_n h]? = some (vp_cell (ca 3) _)
              rw [vp_cell_q, ← hsz]
              exact f2
            · have e : vt_E base ca (vh_mul h nn.toNatClampNeg kk0.toNatClampNeg) j = .inl (ca 1, kk0.toNatClampNeg, .inl (fun _ => 0)) := by
                have hK : vh_K (vh_mul h nn.toNatClampNeg kk0.toNatClampNeg) j = 1 := by
                  show (if j < vh_n h then _ else if j = vh_n h then 3 else if j ≤ vh_n h + nn.toNatClampNeg then 1 else _) = 1
                  rw [if_neg q1, if_neg q2, if_pos (by omega)]
                have hZ1 : vh_Z (vh_mul h nn.toNatClampNeg kk0.toNatClampNeg) j = kk0.toNatClampNeg := by
                  show (if j < vh_n h then _ else if j = vh_n h then _ else if j ≤ vh_n h + nn.toNatClampNeg then kk0.toNatClampNeg else _) = _
                  rw [if_neg q1, if_neg q2, if_pos (by omega)]
                have hI1 : vh_I (vh_mul h nn.toNatClampNeg kk0.toNatClampNeg) j = fun _ => 0 := funext fun q => by
                  show (if j < vh_n h ∨ vh_n h + nn.toNatClampNeg < j then vh_I h j q else 0) = 0
                  rw [if_neg (by omega)]
                unfold vt_E
                rw [hK, if_neg (by omega), if_pos (Or.inl rfl), hZ1, hI1]
              rw [e]
              show F.heap[base + j]? = some (vp_cell (ca 1) _)
              have := hrow (j - vh_n h - 1) (by omega)
              rw [show H.size + 1 + (j - vh_n h - 1) = base + j by omega] at this
              rw [this, vp_cell_i]
              show some ({ cls := ca 1, slots := Array.replicate kk0.toNatClampNeg (defaultValue .int), vm := .none } : Cell) = _
              rw [arrV_new]
              rfl
      have hS1 : va_S (fun q => base ≤ q) s.heap F.heap locs := ⟨by rw [f1]; have := hS.1; omega, fun x h1 h2 => (hold x (Nat.lt_of_lt_of_le h1 hS.1)).trans (hS.2.1 x h1 h2), hS.2.2⟩
      have k := kk F.heap locs lsA (by rw [en]; omega) hR1 hS1 hL
      rw [show cells + (1 + nn.toNatClampNeg) = cells + 1 + nn.toNatClampNeg by omega, show slots + (nn.toNatClampNeg + nn.toNatClampNeg * kk0.toNatClampNeg) = slots + nn.toNatClampNeg + nn.toNatClampNeg * kk0.toNatClampNeg by omega] at k
      obtain ⟨tt, a1, b2⟩ := k F rfl X'
      refine ⟨tt, step tt ?_, b2⟩
      have e : T.heap.size = base + vh_n h := by rw [hT]; exact hsz
      rw [e]
      exact a1
    · rw [if_neg hk] at hn
      cases hn
  · cases hn
/-- all ways of one instruction that is no call and no return -/
theorem sm_all (C : vt_Ctx m p Rm s mm args meth c) (Wd : vt_Wd base b D ca (vh_X h) (vh_L h) s) {w a b1 c1 e1 : Nat} {v : Int} {pc' : Nat} {ls' st' : List Value} {h' : vt_H} {cells' slots' : Nat} (hc : cells' = cells + (vh_n h' - vh_n h)) (hs : slots' = slots + (vh_u h' - vh_u h)) (hbc : cells' ≤ Rm.cells) (hbs : slots' ≤ Rm.slots) {op : Nat} (hn : vt_nx (op, w, v, a, b1, c1, e1) pc ls st h = some (pc', ls', st', h')) (hok : vt_okb m pc (op, w, v, a, b1, c1, e1) = true) (kk : vt_Go p l e Rm s mm args below meth c Qf base b D ca m pc' ls' st' h' cells' slots') : vt_Go p l e Rm s mm args below meth c Qf base b D ca m pc ls st h cells slots := by
  unfold vt_nx at hn
  dsimp only at hn
  split at hn
  · exact sm_const C Wd hc hs hbc hbs hn hok kk
  · exact sm_iload C Wd hc hs hbc hbs hn hok kk
  · exact sm_aload C Wd hc hs hbc hbs hn hok kk
  · exact sm_istore C Wd hc hs hbc hbs hn hok kk
  · exact sm_astore C Wd hc hs hbc hbs hn hok kk
  · exact sm_iinc C Wd hc hs hbc hbs hn hok kk
  · exact sm_bin C Wd hc hs hbc hbs hn hok kk
  · exact sm_div C Wd hc hs hbc hbs hn hok kk
  · exact sm_rem C Wd hc hs hbc hbs hn hok kk
  · exact sm_neg C Wd hc hs hbc hbs hn hok kk
  · exact sm_dup C Wd hc hs hbc hbs hn hok kk
  · exact sm_pop C Wd hc hs hbc hbs hn hok kk
  · exact sm_dupx1 C Wd hc hs hbc hbs hn hok kk
  · exact sm_dupx2 C Wd hc hs hbc hbs hn hok kk
  · exact sm_dup2 C Wd hc hs hbc hbs hn hok kk
  · exact sm_if C Wd hc hs hbc hbs hn hok kk
  · exact sm_icmp C Wd hc hs hbc hbs hn hok kk
  · exact sm_goto C Wd hc hs hbc hbs hn hok kk
  · exact sm_ifnull C Wd hc hs hbc hbs hn hok kk
  · exact sm_ifnonnull C Wd hc hs hbc hbs hn hok kk
  · exact sm_null C Wd hc hs hbc hbs hn hok kk
  · exact sm_getI C Wd hc hs hbc hbs hn hok kk
  · exact sm_getR C Wd hc hs hbc hbs hn hok kk
  · exact sm_putI C Wd hc hs hbc hbs hn hok kk
  · exact sm_putR C Wd hc hs hbc hbs hn hok kk
  · exact sm_iald C Wd hc hs hbc hbs hn hok kk
  · exact sm_iast C Wd hc hs hbc hbs hn hok kk
  · exact sm_aald C Wd hc hs hbc hbs hn hok kk
  · exact sm_aast C Wd hc hs hbc hbs hn hok kk
  · exact sm_alen C Wd hc hs hbc hbs hn hok kk
  · exact sm_newa C Wd hc hs hbc hbs hn hok kk
  · exact sm_anew C Wd hc hs hbc hbs hn hok kk
  · exact sm_new C Wd hc hs hbc hbs hn hok kk
  · exact sm_multi C Wd hc hs hbc hbs hn hok kk
  · exact sm_copy C Wd hc hs hbc hbs hn hok kk
  · exact sm_oinit C Wd hc hs hbc hbs hn hok kk
  · exact sm_zald C Wd hc hs hbc hbs hn hok kk
  · exact sm_zast C Wd hc hs hbc hbs hn hok kk
  · exact sm_sw C Wd hc hs hbc hbs hn hok kk
  · exact sm_newz C Wd hc hs hbc hbs hn hok kk
  · exact sm_max C Wd hc hs hbc hbs hn hok kk
  · cases hn
end SM
/-- where a method ends with v -/
def vt_ret (m pc : Nat) (v : Option Value) : Prop := vt_okb m pc (vt_i m pc) = true ∧ match v with
  | none => (vt_i m pc).1 = 51
  | some (.int x) => (vt_i m pc).1 = 50 ∧ ((vt_m m).2.2.2 = some .boolean → x = 0 ∨ x = 1)
  | some v => (vt_i m pc).1 = 52 ∧ vt_rv v = true
/-- the machine, from here, comes to the small machine's end -/
def vt_Ex (m pc : Nat) (ls st : List Value) (h : vt_H) (v : Option Value) (h' : vt_H) : Prop :=
  ∀ (p : Program) (l : Launch) (e : Env) (Rm : Room) (s : State) (mm : MethodId) (args : Array Value) (below : List Frame) (meth : Method) (c : Code) (Qf : State → Prop) (base b : Nat) (D : va_G) (ca : Nat → ClassId) (cells slots : Nat),
  vt_Ctx m p Rm s mm args meth c → vt_Wd base b D ca (vh_X h) (vh_L h) s → cells + (vh_n h' - vh_n h) ≤ Rm.cells → slots + (vh_u h' - vh_u h) ≤ Rm.slots →
  (∀ (pc' : Nat) (ls' : List Value), vt_ret m pc' v → vt_Go p l e Rm s mm args below meth c Qf base b D ca m pc' ls' v.toList h' (cells + (vh_n h' - vh_n h)) (slots + (vh_u h' - vh_u h))) → vt_Go p l e Rm s mm args below meth c Qf base b D ca m pc ls st h cells slots
theorem vt_args {base b : Nat} : ∀ (as : List Value) (j i : Nat) (v : Value), (∀ x ∈ as, x.category = 1) → as[i]? = some v → (j + i, vt_tr base b v) ∈ lv_args j (as.map (vt_tr base b)) := by
  intro as
  induction as with
  | nil => intro j i v _ h; simp at h
  | cons x t ih =>
    intro j i v hc h
    have hx : ¬ (vt_tr base b x).category = 2 := by rw [vt_tr_cat, hc x List.mem_cons_self]; decide
    rw [List.map_cons, lv_args, if_neg hx]
    cases i with
    | zero =>
      simp at h
      subst h
      exact List.mem_cons_self
    | succ i =>
      have h : t[i]? = some v := by simpa using h
      have := ih (j + 1) i v (fun y hy => hc y (List.mem_cons_of_mem _ hy)) h
      rw [show j + (i + 1) = j + 1 + i by omega]
      exact List.mem_cons_of_mem _ this
theorem vt_slen {base b : Nat} {as : List Value} (hc : ∀ x ∈ as, x.category = 1) : (lg_sl (as.map (vt_tr base b))).length = as.length := by
  induction as with
  | nil => rfl
  | cons x t ih =>
    have hx : ¬ (vt_tr base b x).category = 2 := by rw [vt_tr_cat, hc x List.mem_cons_self]; decide
    have := ih (fun y hy => hc y (List.mem_cons_of_mem _ hy))
    simp only [lg_sl, List.map_cons, List.flatMap_cons, if_neg hx, List.length_append, List.length_cons, List.length_nil] at this ⊢
    omega
/-- the locals at a method's entry -/
theorem vt_entry {base b m : Nat} {as : List Value} (hc : ∀ x ∈ as, x.category = 1) (hl : as.length ≤ (vt_m m).2.2.1) : vt_L base b m ((lg_sl (as.map (vt_tr base b)) ++ List.replicate ((vt_m m).2.2.1 - (lg_sl (as.map (vt_tr base b))).length) Slot.unset).toArray) (as ++ List.replicate ((vt_m m).2.2.1 - as.length) vt_un) := by
  obtain ⟨h1, h2, h3⟩ := lv_entry (as.map (vt_tr base b)) (n := (vt_m m).2.2.1) (by rw [vt_slen hc]; exact hl)
  refine ⟨h1, h2, by simp; omega, fun x hx => ?_, fun i v hv hu => ?_⟩
  · rcases List.mem_append.mp hx with q | q
    · exact hc x q
    · rw [List.eq_of_mem_replicate q]; rfl
  · rcases Nat.lt_or_ge i as.length with q | q
    · rw [List.getElem?_append_left q] at hv
      have := h3 (0 + i, vt_tr base b v) (vt_args as 0 i v hc hv)
      rw [Nat.zero_add] at this
      exact this
    · rw [List.getElem?_append_right q] at hv
      exact absurd (List.eq_of_mem_replicate (List.mem_of_getElem? hv)) hu
def vt_ws0 (m : Nat) : List Jvm.Cond := .code (vt_m m).1 (vt_m m).2.1 (vt_m m).2.2.1 (vt_m m).2.2.2 :: vt_T
def vt_rm (m : Nat) (h h' : vt_H) : Room := { frames := vt_dp m + 1, cells := vh_n h' - vh_n h, slots := vh_u h' - vh_u h, locals := 40 * (vt_dp m + 1) }
def vt_Pc (base b : Nat) (D : va_G) (ca : Nat → ClassId) (h : vt_H) (as : List Value) : Array Value → State → Prop := fun w U => w = (as.map (vt_tr base b)).toArray ∧ U.heap.size = base + vh_n h ∧ vt_Rel base D ca h U.heap ∧ va_K D vt_cl (vt_tys ca) U ∧ va_X b (vh_L h) (vh_X h) U U.heap ∧ vt_Tx U
def vt_Qc (base b : Nat) (D : va_G) (ca : Nat → ClassId) (v : Option Value) (h' : vt_H) : Array Value → State → Outcome → State → Prop := fun _ st o t => o = .returned (v.map (vt_tr base b)) ∧ vt_Rel base D ca h' t.heap ∧ va_F (fun q => base ≤ q) st t
/-- a method's contract out of the small machine's run -/
theorem vt_met (l : Launch) {m : Nat} {as : List Value} {h h' : vt_H} {v : Option Value} {base b : Nat} {D : va_G} {ca : Nat → ClassId} (hy : plainName (vt_m m).1.cls = true) (hb0 : b < base) (hc : ∀ x ∈ as, x.category = 1) (hl : as.length ≤ (vt_m m).2.2.1) (hE : vt_Ex m 0 (as ++ List.replicate ((vt_m m).2.2.1 - as.length) vt_un) [] h v h') :
    Met l (vt_m m).1 (vt_ws0 m) (vt_rm m h h') (vt_Pc base b D ca h as) (vt_Qc base b D ca v h') (vh_n h' - vh_n h) (vh_u h' - vh_u h) (fun q => base ≤ q) := by
  refine Met.ofW (cc := (vt_m m).2.1) (maxL := (vt_m m).2.2.1) (ret := (vt_m m).2.2.2) hy rfl ?_
  intro p e s mm args below meth c s₁ B hml hv
  obtain ⟨rfl, hz, hR, hK, hX, hTx⟩ := hv
  have hts := atoms_spec (ws := vt_ws0 m) B.pre
  have hown : s.vm.findClass (vt_m m).1.cls = some mm.cls := findClass_of_methodNamed B.named
  have hnm : (vt_m m).1.name = "<init>" → meth.name = "<init>" := fun q => ((name_of_methodNamed B.named B.method).1).trans q
  have hCx : vt_Ctx m p (vt_rm m h h') s mm (as.map (vt_tr base b)).toArray meth c := ⟨B.exec, B.bytes, hml, B.returns, hown, fun w hw => hts w (List.mem_cons_of_mem _ hw), B.notSynchronized, hnm, Nat.le_refl _, Nat.le_refl _⟩
  rw [lg_entry_eq]
  have g := hE p l e (vt_rm m h h') s mm (as.map (vt_tr base b)).toArray below meth c (MQ below (vt_Qc base b D ca v h') (as.map (vt_tr base b)).toArray s (vh_n h' - vh_n h) (vh_u h' - vh_u h) (fun q => base ≤ q)) base b D ca 0 0 hCx ⟨hK, hb0, by omega, hX, hTx⟩ (by rw [Nat.zero_add]; exact Nat.le_refl _) (by rw [Nat.zero_add]; exact Nat.le_refl _) ?_
  · exact g s.heap [] _ (by omega) hR va_S.rf (vt_entry hc hl)
  · intro pc' ls' hret
    rw [Nat.zero_add, Nat.zero_add]
    intro H locs lsA hZ hR1 hS hL
    obtain ⟨hok, hret⟩ := hret
    generalize hi : vt_i m pc' = i at hok hret
    obtain ⟨op, w, v0, a, b1, c1, e1⟩ := i
    have hq : ∀ t : State, t.heap = H → s.WarmedH t.vm → vt_Qc base b D ca v h' (as.map (vt_tr base b)).toArray s (.returned (v.map (vt_tr base b))) t := fun t ht _ => ⟨rfl, by rw [ht]; exact hR1, hS.F ht⟩
    have hr := B.returns
    have hlocks : meth.locks = false := B.notSynchronized
    cases v with
    | none =>
      dsimp only at hret
      subst hret
      simp only [vt_okb] at hok
      simp only [Bool.and_eq_true, decide_eq_true_eq] at hok
      exact W.vret B.exec B.bytes (hr.trans hok.2) hq hS.2.2 (vt_dc_of hok.1)
    | some v1 =>
      cases v1 with
      | int x =>
        dsimp only at hret
        obtain ⟨rfl, hbo⟩ := hret
        simp only [vt_okb] at hok
        simp only [Bool.and_eq_true, Bool.or_eq_true, decide_eq_true_eq] at hok
        obtain ⟨hd, q | q⟩ := hok
        · exact W.iret B.exec B.bytes (hr.trans q) hq hS.2.2 (vt_dc_of hd)
        · exact W.zret B.exec B.bytes (hr.trans q) (by rcases hbo q with rfl | rfl <;> rfl) hq hS.2.2 (vt_dc_of hd)
      | _ =>
        dsimp only at hret
        obtain ⟨rfl, hrv⟩ := hret
        simp only [vt_okb] at hok
        rw [Bool.and_eq_true] at hok
        obtain ⟨hd, hok⟩ := hok
        split at hok
        · rename_i ty hty
          refine W.aret B.exec B.bytes (hr.trans hty) ?_ ?_ hq hS.2.2 (vt_dc_of hd)
          · cases ty <;> simp [vt_isobj] at hok ⊢
          · first | (simp [vt_rv] at hrv; done) | exact Or.inl rfl | exact Or.inr ⟨_, rfl⟩
        · cases hok
theorem vt_good (m : Nat) (hm : Jvm.Cond.code (vt_m m).1 (vt_m m).2.1 (vt_m m).2.2.1 (vt_m m).2.2.2 ∈ vt_T) : GoodIn vt_T (vt_ws0 m) := by
  intro w hw
  rcases List.mem_cons.mp hw with rfl | hw
  · exact ⟨hm, vt_T_good _ hm⟩
  · exact ⟨hw, vt_T_good _ hw⟩
/-- behind a call -/
theorem vt_callR {p : Program} {l : Launch} {e : Env} {Rm : Room} {s : State} {mm : MethodId} {args : Array Value} {below : List Frame} {meth : Method} {c : Code} {Qf : State → Prop} {base pc : Nat} {H : Heap} {locs : List Loc} {cells slots mc ms : Nat} {lsA : Array Slot} {st0 rest : List Value} {Qa : State → Outcome → State → Prop}
    (hr : va_Run p l e Rm s mm args below meth c H locs cells slots mc ms (F0 mm pc lsA st0) rest Qa (fun q => base ≤ q))
    (kk : ∀ (v : Option Value) (st₀ t : State) (L : List Loc), st₀.heap = H → Qa st₀ (.returned v) t → (∀ q ∈ L, base ≤ q.base) → W p l e Rm s mm args below meth c t.heap (locs ++ L) (cells + mc) (slots + ms) Qf (F0 mm (pc + 3) lsA (v.toList ++ rest))) : W p l e Rm s mm args below meth c H locs cells slots Qf (F0 mm pc lsA st0) := by
  intro T hT X
  obtain ⟨v, st₀, t, T', L, h0, X', hL, e1, e2, hq, st⟩ := hr T hT X
  obtain ⟨t2, a1, b1⟩ := kk v st₀ t L h0 hq hL T' e1 X'
  exact ⟨t2, st t2 a1, b1⟩
/-- an instruction makes no cell less, and leaves the script -/
theorem vt_nx_up {i : vt_I} {pc : Nat} {ls st : List Value} {h : vt_H} {pc' : Nat} {ls' st' : List Value} {h' : vt_H} (hn : vt_nx i pc ls st h = some (pc', ls', st', h')) : vh_n h ≤ vh_n h' ∧ vh_u h ≤ vh_u h' ∧ vh_X h' = vh_X h ∧ vh_L h' = vh_L h := by
  obtain ⟨op, w, v, a, b, c, e⟩ := i
  unfold vt_nx at hn
  dsimp only at hn
  split at hn <;> (try unfold vn_iload at hn) <;> (try unfold vn_aload at hn) <;> (try unfold vn_istore at hn) <;> (try unfold vn_astore at hn) <;> (try unfold vn_iinc at hn) <;> (try unfold vn_bin at hn) <;> (try unfold vn_div at hn) <;> (try unfold vn_rem at hn) <;> (try unfold vn_neg at hn) <;> (try unfold vn_dup at hn) <;> (try unfold vn_pop at hn) <;> (try unfold vn_dupx1 at hn) <;> (try unfold vn_dupx2 at hn) <;> (try unfold vn_dup2 at hn) <;> (try unfold vn_if at hn) <;> (try unfold vn_icmp at hn) <;> (try unfold vn_ifnull at hn) <;> (try unfold vn_null at hn) <;> (try unfold vn_getI at hn) <;> (try unfold vn_getR at hn) <;> (try unfold vn_putI at hn) <;> (try unfold vn_putR at hn) <;> (try unfold vn_iald at hn) <;> (try unfold vn_iast at hn) <;> (try unfold vn_aald at hn) <;> (try unfold vn_aast at hn) <;> (try unfold vn_alen at hn) <;> (try unfold vn_newa at hn) <;> (try unfold vn_new at hn) <;> (try unfold vn_copy at hn) <;> (try unfold vn_oinit at hn) <;> (try unfold vn_zald at hn) <;> (try unfold vn_zast at hn) <;> (try unfold vn_sw at hn) <;> (try unfold vn_max at hn) <;> (try unfold vn_multi at hn) <;> (repeat' split at hn) <;> first | (cases hn; done) | (cases hn; exact ⟨Nat.le_refl _, Nat.le_refl _, rfl, rfl⟩) | (cases hn; exact ⟨Nat.le_add_right _ _, Nat.le_add_right _ _, rfl, rfl⟩)
section SC
variable {p : Program} {l : Launch} {e : Env} {Rm : Room} {s : State} {mm : MethodId} {args : Array Value} {below : List Frame} {meth : Method} {c : Code} {Qf : State → Prop} {base b : Nat} {D : va_G} {ca : Nat → ClassId} {m pc : Nat} {ls st : List Value} {h : vt_H} {cells slots : Nat}
theorem sm_call {w : Nat} {v : Int} {a b1 c1 e1 : Nat} {r1 : Option Value} {h1 : vt_H} (C : vt_Ctx m p Rm s mm args meth c) (Wd : vt_Wd base b D ca (vh_X h) (vh_L h) s) (hok : vt_okb m pc (40, w, v, a, b1, c1, e1) = true) (hb1 : b1 ≤ st.length) (hrest : (st.drop b1).length ≤ 8) (hcr : ∀ x ∈ st.drop b1, x.category = 1) (hca : ∀ x ∈ st.take b1, x.category = 1) (hrc : vt_rcv v b1 st h)
    (hE : vt_Ex a 0 ((st.take b1).reverse ++ List.replicate ((vt_m a).2.2.1 - b1) vt_un) [] h r1 h1) (hn1 : vh_n h ≤ vh_n h1) (hbc : cells + (vh_n h1 - vh_n h) ≤ Rm.cells) (hbs : slots + (vh_u h1 - vh_u h) ≤ Rm.slots)
    (kk : vt_Go p l e Rm s mm args below meth c Qf base b D ca m (pc + 3) ls (r1.toList ++ st.drop b1) h1 (cells + (vh_n h1 - vh_n h)) (slots + (vh_u h1 - vh_u h))) : vt_Go p l e Rm s mm args below meth c Qf base b D ca m pc ls st h cells slots := by
  obtain ⟨hx, hb, hml, hr, hown, hts, hlk, hnm, hfr, hlo⟩ := C
  intro H locs lsA hZ hR hS hL
  refine vt_cap (fun hz => ?_)
  have hsz : H.size = base + vh_n h := vt_size (by omega) (Nat.le_trans Wd.2.2.1 hS.1) hR
  simp only [vt_okb] at hok
  unfold vt_okC at hok
  simp only [Bool.and_eq_true, decide_eq_true_eq] at hok
  obtain ⟨⟨hdp, ha0, ha1, ha41, ho1⟩, hlw, hok⟩ := hok
  obtain ⟨hmk, g1⟩ := vt_mok a ha0 ha1 ha41
  unfold vt_okM at hmk
  revert hmk hok
  generalize hmx : vt_mx a = mx
  obtain ⟨mk, np, p1, p2, p3, p4⟩ := mx
  intro hok hmk
  dsimp only at hmk hok
  simp only [Bool.and_eq_true, decide_eq_true_eq] at hmk
  obtain ⟨hw2, ⟨g3, hpl, ho2⟩, hmk⟩ := hmk
  have g2 := vt_wd_of hw2
  have hlen : (st.take b1).reverse.length = b1 := by rw [List.length_reverse, List.length_take]; omega
  have hE : vt_Ex a 0 ((st.take b1).reverse ++ List.replicate ((vt_m a).2.2.1 - (st.take b1).reverse.length) vt_un) [] h r1 h1 := by rw [hlen]; exact hE
  have hM := vt_met l (base := base) (b := b) (D := D) (ca := ca) hpl Wd.2.1 (fun x hx => hca x (List.mem_reverse.mp hx)) (by rw [hlen]; exact ho1) hE
  have hFB : FrameBlind (vt_Pc base b D ca h (st.take b1).reverse) := fun A U g mk q => by
    obtain ⟨q0, q1, q2, q3, q4, q5⟩ := q
    exact ⟨q0, q1, q2, va_K.moved (u := U) (U := U.calling g mk A) (Vm.Alike.refl U.vm) q3, va_X.moved (u := U) (U := U.calling g mk A) (Vm.Alike.refl U.vm) q4, vt_Tx.same rfl q5⟩
  have hbk : H[b]? = s.heap[b]? := hS.2.1 b (Nat.lt_of_lt_of_le Wd.2.1 Wd.2.2.1) (Nat.not_le.mpr Wd.2.1)
  have hPU : ∀ U : State, U.heap = H → s.WarmedH U.vm → vt_Pc base b D ca h (st.take b1).reverse ((st.take b1).reverse.map (vt_tr base b)).toArray U := fun U hU hW => ⟨rfl, by rw [hU]; exact hsz, by rw [hU]; exact hR, va_K.moved hW.alike Wd.1, va_X.moved hW.alike (va_X.kept Wd.2.2.2.1 (by rw [hU]; exact hbk)), vt_Tx.moved hW Wd.2.2.2.2⟩
  have hrt : (((st.drop b1).map (vt_tr base b)).map fun v => v.category).sum ≤ 8 := by rw [vt_sum hcr]; exact hrest
  have hroom : (vt_rm a h h1).frames + 1 ≤ Rm.frames ∧ 8 + ((vt_m a).2.2.1 + 11) + (vt_rm a h h1).locals ≤ Rm.locals := by
    refine ⟨by show vt_dp a + 1 + 1 ≤ Rm.frames; omega, ?_⟩
    show 8 + ((vt_m a).2.2.1 + 11) + 40 * (vt_dp a + 1) ≤ Rm.locals
    omega
  have fin : ∀ {A : Array Value}, va_Run p l e Rm s mm args below meth c H locs cells slots (vh_n h1 - vh_n h) (vh_u h1 - vh_u h) (F0 mm pc lsA (st.map (vt_tr base b))) ((st.drop b1).map (vt_tr base b)) (vt_Qc base b D ca r1 h1 A) (fun q => base ≤ q) → W p l e Rm s mm args below meth c H locs cells slots Qf (F0 mm pc lsA (st.map (vt_tr base b))) := by
    intro A hrun
    refine vt_callR hrun (fun v st₀ t L h0 hq hL2 => ?_)
    obtain ⟨hv, hR1, hF1⟩ := hq
    have hv : v = r1.map (vt_tr base b) := Outcome.returned.inj hv
    subst hv
    have hS1 : va_S (fun q => base ≤ q) s.heap t.heap (locs ++ L) := by
      refine ⟨Nat.le_trans hS.1 (by rw [← h0]; exact hF1.1), fun q g1 g2 => ?_, fun q hq => ?_⟩
      · rw [hF1.2 q (by rw [h0]; exact Nat.lt_of_lt_of_le g1 hS.1) g2, h0]
        exact hS.2.1 q g1 g2
      · rcases List.mem_append.mp hq with g | g
        · exact hS.2.2 q g
        · exact hL2 q g
    have k := kk t.heap (locs ++ L) lsA (by omega) hR1 hS1 hL
    rw [List.map_append] at k
    cases r1 <;> exact k
  have hspl : st.map (vt_tr base b) = ((st.take b1).reverse.map (vt_tr base b)).reverse ++ (st.drop b1).map (vt_tr base b) := by
    rw [List.map_reverse, List.reverse_reverse, ← List.map_append, List.take_append_drop]
  have hspv : 0 < b1 → 100 ≤ v → ∃ r, vh_K h r = v.toNat ∧ (st.take b1).reverse.map (vt_tr base b) = .ref (base + r) :: (st.take (b1 - 1)).reverse.map (vt_tr base b) ∧ st.map (vt_tr base b) = ((st.take (b1 - 1)).reverse.map (vt_tr base b)).reverse ++ .ref (base + r) :: (st.drop b1).map (vt_tr base b) := by
    intro g1 g2
    unfold vt_rcv at hrc
    rw [if_neg (by omega)] at hrc
    obtain ⟨r, hr1, hr2⟩ := hrc
    have e1 : st.take b1 = st.take (b1 - 1) ++ [.ref r] := by
      have : b1 = b1 - 1 + 1 := by omega
      rw [this, List.take_add_one, Nat.add_sub_cancel, hr1]
      rfl
    refine ⟨r, by omega, ?_, ?_⟩
    · rw [e1, List.reverse_append, List.map_append]
      rfl
    · rw [List.map_reverse, List.reverse_reverse]
      conv => lhs; rw [← List.take_append_drop b1 st, e1]
      simp [vt_tr]
  split at hok <;> simp only [Bool.and_eq_true, decide_eq_true_eq] at hok
  · obtain ⟨hd, hv0, hbn⟩ := hok
    subst hbn
    split at hlw
    · exact fin (va_runS ⟨hx, hb, hml, hown, hts⟩ hM ⟨callB_of b1 hts (vt_good a g1) rfl rfl rfl (hts _ g2) (hts _ (vt_wd_of hlw)) g3 hroom, hts _ (vt_wd_of hmk)⟩ ⟨hFB, hPU⟩ rfl (by rw [List.length_map]; exact hlen) hL.1 hspl (lv_room hrt) (vt_dc_of hd) ⟨hbc, hbs⟩)
    · exact fin (va_runSN ⟨hx, hb, hml, hown, hts⟩ hM ⟨va_cnB b1 hts (vt_good a g1) rfl rfl rfl (Wd.2.2.2.2.1 _ (List.mem_of_getElem? (of_decide_eq_true hlw))) (hts _ g2) g3 hroom, hts _ (vt_wd_of hmk), trivial⟩ ⟨hFB, hPU⟩ rfl (by rw [List.length_map]; exact hlen) hL.1 hspl (lv_room hrt) (vt_dc_of hd) ⟨hbc, hbs⟩)
  · obtain ⟨hd, hv1, hbn⟩ := hok
    unfold vt_okV at hv1
    rw [Bool.and_eq_true, decide_eq_true_eq] at hv1
    obtain ⟨hv1, hv2⟩ := hv1
    simp only [Bool.and_eq_true] at hmk
    obtain ⟨r, hr1, hr2, hr3⟩ := hspv (by omega) hv1
    split at hv2
    · rename_i C T N hcl
      have hCe := of_decide_eq_true hv2
      rw [hr2] at hPU
      have hob := vt_obj (r := r) (a := (v - 100).toNat) hR (by omega)
      have hrv : ∃ cellB : Cell, H[base + r]? = some cellB ∧ cellB.vm.isStatics = false ∧ s.vm.findClass (vt_m a).1.cls = some cellB.cls := by
        rw [← hCe]
        exact va_recv (q := (C, T, N)) Wd.1 hR.2.2 hcl hob.2
      have hnl : ((st.take (b1 - 1)).reverse.map (vt_tr base b)).length = np := by rw [List.length_map, List.length_reverse, List.length_take]; omega
      split at hlw
      · exact fin (va_runV (C := (vt_m a).1.cls) (b := base + r) (As := (st.take (b1 - 1)).reverse.map (vt_tr base b)) ⟨hx, hb, hml, hown, hts⟩ hM ⟨callB_of np hts (vt_good a g1) rfl rfl rfl (hts _ g2) (hts _ (vt_wd_of hlw)) g3 hroom, hts _ (vt_wd_of hmk.1), hts _ (vt_wd_of hmk.2)⟩ ⟨hFB, hrv, hPU⟩ rfl hnl hL.1 hr3 (lv_room hrt) (vt_dc_of hd) ⟨hbc, hbs⟩)
      · exact fin (va_runVN (C := (vt_m a).1.cls) (b := base + r) (As := (st.take (b1 - 1)).reverse.map (vt_tr base b)) ⟨hx, hb, hml, hown, hts⟩ hM ⟨va_cnB np hts (vt_good a g1) rfl rfl rfl (Wd.2.2.2.2.1 _ (List.mem_of_getElem? (of_decide_eq_true hlw))) (hts _ g2) g3 hroom, hts _ (vt_wd_of hmk.1), hts _ (vt_wd_of hmk.2)⟩ ⟨hFB, hrv, hPU⟩ rfl hnl hL.1 hr3 (lv_room hrt) (vt_dc_of hd) ⟨hbc, hbs⟩)
    · cases hv2
  · obtain ⟨hd, hv1, hbn⟩ := hok
    split at hmk
    · exact absurd rfl (by assumption)
    · exact absurd rfl (by assumption)
    · simp only [Bool.and_eq_true, decide_eq_true_eq] at hmk
      obtain ⟨g4, g6, g7⟩ := hmk
      obtain ⟨r, hr1, hr2, hr3⟩ := hspv (by omega) hv1
      rw [hr2] at hPU
      have hw0 : vt_ws0 a = Jvm.Cond.code (vt_m a).1 (vt_m a).2.1 (vt_m a).2.2.1 none :: vt_T := by unfold vt_ws0; rw [g7]
      have hnl : ((st.take (b1 - 1)).reverse.map (vt_tr base b)).length = np := by rw [List.length_map, List.length_reverse, List.length_take]; omega
      split at hlw
      · exact fin (va_runI (b := base + r) (As := (st.take (b1 - 1)).reverse.map (vt_tr base b)) ⟨hx, hb, hml, hown, hts⟩ hM ⟨callB_of np hts (vt_good a g1) hw0 rfl rfl (hts _ g2) (hts _ (vt_wd_of hlw)) g3 hroom, g6, hts _ (vt_wd_of g4)⟩ ⟨hFB, hPU⟩ rfl hnl hL.1 hr3 (lv_room hrt) (vt_dc_of hd) ⟨hbc, hbs⟩)
      · exact fin (va_runIN (b := base + r) (As := (st.take (b1 - 1)).reverse.map (vt_tr base b)) ⟨hx, hb, hml, hown, hts⟩ hM ⟨va_cnB np hts (vt_good a g1) hw0 rfl rfl (Wd.2.2.2.2.1 _ (List.mem_of_getElem? (of_decide_eq_true hlw))) (hts _ g2) g3 hroom, g6, hts _ (vt_wd_of g4)⟩ ⟨hFB, hPU⟩ rfl hnl hL.1 hr3 (lv_room hrt) (vt_dc_of hd) ⟨hbc, hbs⟩)
    · cases hmk
end SC
