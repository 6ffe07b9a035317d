/-! ===== what a module knows of the machine, and the two judgements ===== -/
abbrev tbA : List Int32 := [-1, 0, 0, 0, 1, 2, 0]
abbrev tbB : List Int32 := [10, 11, 12, 13, 20, 0, 0, 21, 0, 30, 0, 0, 0, 0, 40, 0, 50, 0, 51, 0, 0, 60, 0, 0, 70, 71, 0, 0]
abbrev tbN : List Int32 := [99, 98, 112, 108, 116, 115]
def sttL : List (String × String × String × FieldType × List Int32) := [("RopeTreaty", "ABOVE", "[I", .int, tbA), ("RopeTreaty$Throat", "BODIES", "[I", .int, tbB), ("RopeTreaty$Reader", "NAMES", "[C", .char, tbN)]
def Stt (sh : List ShE) (ad : Nat → Nat) (U : State) : Prop := ∀ (k : Nat) (q : String × String × String × FieldType × List Int32), sttL[k]? = some q → va_Z q.1 q.2.1 q.2.2.1 (.ref (ad (900 + k))) (fA sh ad) U U.heap ∧ va_T q.2.2.2.1 (ad (900 + k)) q.2.2.2.2.length (fun j => .int (q.2.2.2.2.getD j 0)) (fA sh ad) U U.heap
theorem Stt.to {sh : List ShE} {ad : Nat → Nat} {u U : State} (hvm : u.vm.Alike U.vm) (hh : ∀ a : Nat, a < u.heap.size → ¬ fA sh ad a → U.heap[a]? = u.heap[a]?) (h : Stt sh ad u) : Stt sh ad U := fun k q hq => ⟨((h k q hq).1.kept hh).moved hvm, ((h k q hq).2.kept hh).moved hvm⟩
def nstM : List (String × Nat × MethodName × String) := [("RopeTreaty$Throat", 44, ⟨"RopeTreaty", "isWithin", "(II)Z"⟩, "RopeTreaty"), ("RopeTreaty$Rope", 152, ⟨"RopeTreaty", "isWithin", "(II)Z"⟩, "RopeTreaty")]
def Nst (U : State) : Prop := (∀ q ∈ nstM, va_Nw (.methodLinkNest q.1 q.2.1 q.2.2.1 q.2.2.2) U) ∧ va_Nw (.fieldLinkNest "RopeTreaty$Throat" 51 "RopeTreaty" "ABOVE" "[I" "RopeTreaty") U
theorem Nst.warm {s U : State} (hW : s.WarmedH U.vm) (h : Nst s) : Nst U := ⟨fun q hq => (h.1 q hq).warmM hW, h.2.warmF hW⟩
theorem Nst.same {s U : State} (e : s.vm = U.vm) (h : Nst s) : Nst U := ⟨fun q hq => (h.1 q hq).same rfl e, h.2.same rfl e⟩
def Tys (ca : Nat → ClassId) : List (ClassId × FieldType) := [(ca 0, .int), (ca 1, .object RX4), (ca 2, .object RX2)]
def Kx (sh : List ShE) (D : va_G) (ca : Nat → ClassId) (ad : Nat → Nat) (U : State) : Prop := va_K D vwCl (Tys ca) U ∧ adI sh ad ∧ Stt sh ad U ∧ Nst U
theorem Kx.warm {sh : List ShE} {D : va_G} {ca : Nat → ClassId} {ad : Nat → Nat} {s U : State} (h : Kx sh D ca ad s) (hW : s.WarmedH U.vm) (hh : ∀ a : Nat, a < s.heap.size → ¬ fA sh ad a → U.heap[a]? = s.heap[a]?) : Kx sh D ca ad U := ⟨va_K.moved hW.alike h.1, h.2.1, h.2.2.1.to hW.alike hh, h.2.2.2.warm hW⟩
theorem Kx.calling {sh : List ShE} {D : va_G} {ca : Nat → ClassId} {ad : Nat → Nat} {U : State} (h : Kx sh D ca ad U) (g : JFrame) (mk : MethodId) (a : Array Value) : Kx sh D ca ad (U.calling g mk a) := ⟨va_K.moved (u := U) (U := U.calling g mk a) (Vm.Alike.refl U.vm) h.1, h.2.1, h.2.2.1.to (u := U) (U := U.calling g mk a) (Vm.Alike.refl U.vm) (fun _ _ _ => rfl), h.2.2.2.same rfl⟩
abbrev Md : Type := MethodName × ByteArray × Nat × Option FieldType
def mws (md : Md) : List Cond := Cond.code md.1 md.2.1 md.2.2.1 md.2.2.2 :: tblG
def rmd (d : Nat) : Room := { frames := d, cells := 0, slots := 0, locals := 60 * d }
def cvv (ad : Nat → Nat) (v : Value) : Value := match v with
  | .ref k => .ref (ad k)
  | v => v
def cvq (ad : Nat → Nat) (q : Nat × Value) : Nat × Value := (q.1, cvv ad q.2)
def rvv (rt : Option FieldType) (r : Int32) : Option Value := match rt with
  | none => none
  | some _ => some (.int r)
def Pxx (sh : List ShE) (D : va_G) (ca : Nat → ClassId) (ad : Nat → Nat) (σ : St) (U : State) : Prop := va_P D vwCl (shW sh ad ca σ) U.heap ∧ Kx sh D ca ad U
def Qxx (rt : Option FieldType) (r : Int32) (σ' : St) (sh : List ShE) (D : va_G) (ca : Nat → ClassId) (ad : Nat → Nat) : Array Value → State → Outcome → State → Prop := fun _ st oc t => oc = .returned (rvv rt r) ∧ va_P D vwCl (shW sh ad ca σ') t.heap ∧ va_F (fA sh ad) st t
/-- what a method answers: at every room of d frames or more -/
def Spc (l : Launch) (sh : List ShE) (d : Nat) (md : Md) (args : List Value) (σ : St) (X : Option (Int32 × St)) : Prop :=
  ∀ (r : Int32) (σ' : St), X = some (r, σ') → ∀ d' : Nat, d ≤ d' → ∀ (D : va_G) (ca : Nat → ClassId) (ad : Nat → Nat), Met l md.1 (mws md) (rmd d') (va_Pc (args.map (cvv ad)) (Pxx sh D ca ad σ)) (Qxx md.2.2.2 r σ' sh D ca ad) 0 0 (fA sh ad)
def Cxx (sh : List ShE) (md : Md) (D : va_G) (ca : Nat → ClassId) (ad : Nat → Nat) (p : Program) (s : State) (m : MethodId) (args : Array Value) (meth : Method) (c : Code) : Prop :=
  p.tables.exec = Jvm.exec ∧ c.code = md.2.1 ∧ c.maxLocals = md.2.2.1 ∧ meth.sig.returnType = md.2.2.2 ∧ meth.locks = false ∧ s.vm.findClass md.1.cls = some m.cls ∧ (∀ w ∈ tblG, w.before args s = true) ∧ Kx sh D ca ad s
/-- what a method answers from a place within it on -/
def Ux (l : Launch) (sh : List ShE) (d : Nat) (md : Md) (pc : Nat) (L : List (Nat × Value)) (S : List Value) (σ : St) (X : Option (Int32 × St)) : Prop :=
  ∀ (r : Int32) (σ' : St), X = some (r, σ') → ∀ d' : Nat, d ≤ d' → ∀ (D : va_G) (ca : Nat → ClassId) (ad : Nat → Nat) (p : Program) (e : Env) (s : State) (m : MethodId) (args : Array Value) (below : List Frame) (meth : Method) (c : Code), Cxx sh md D ca ad p s m args meth c →
    ∀ (H : Heap) (locs : List Loc) (ls : Array Slot), va_P D vwCl (shW sh ad ca σ) H → va_S (fA sh ad) s.heap H locs → lv_has ls md.2.2.1 (L.map (cvq ad)) →
    W p l e (rmd d') s m args below meth c H locs 0 0 (MQ below (Qxx md.2.2.2 r σ' sh D ca ad) args s 0 0 (fA sh ad)) (F0 m pc ls (S.map (cvv ad)))
theorem cvv_cat (ad : Nat → Nat) (v : Value) : (cvv ad v).category = v.category := by cases v <;> rfl
theorem lg_sl_cv (ad : Nat → Nat) (vs : List Value) : (lg_sl (vs.map (cvv ad))).length = (lg_sl vs).length := by
  induction vs with
  | nil => rfl
  | cons v vs ih =>
    unfold lg_sl at ih ⊢
    rw [List.map_cons, List.flatMap_cons, List.flatMap_cons, List.length_append, List.length_append, ih, cvv_cat]
    split <;> rfl
theorem lv_args_cv (ad : Nat → Nat) (vs : List Value) : ∀ i : Nat, lv_args i (vs.map (cvv ad)) = (lv_args i vs).map (cvq ad) := by
  induction vs with
  | nil => intro i; rfl
  | cons v vs ih =>
    intro i
    rw [List.map_cons, lv_args, lv_args, List.map_cons, ih, cvv_cat]
    rfl
theorem Spc_of_Ux {l : Launch} {sh : List ShE} {d : Nat} {md : Md} {args : List Value} {σ : St} {X : Option (Int32 × St)} (L : List (Nat × Value)) (hcls : plainName md.1.cls = true) (hL : lv_args 0 args = L) (hn : (lg_sl args).length ≤ md.2.2.1) (h : Ux l sh d md 0 L [] σ X) : Spc l sh d md args σ X := by
  intro r σ' hX d' hd' D ca ad
  refine Met.ofW (cc := md.2.1) (maxL := md.2.2.1) (ret := md.2.2.2) hcls rfl ?_
  intro p e s m args' below meth c s₁ B hml hv
  obtain ⟨rfl, hP, hK⟩ := hv
  have hx := B.exec
  have hb := B.bytes
  have hr := B.returns
  have hts := atoms_spec (ws := mws md) B.pre
  have hown : s.vm.findClass md.1.cls = some m.cls := findClass_of_methodNamed B.named
  have hlocks := B.notSynchronized
  have hl := lv_entry (args.map (cvv ad)) (n := md.2.2.1) (by rw [lg_sl_cv]; exact hn)
  rw [lg_entry_eq]
  generalize (lg_sl (args.map (cvv ad)) ++ List.replicate (md.2.2.1 - (lg_sl (args.map (cvv ad))).length) Slot.unset).toArray = ls at hl ⊢
  rw [lv_args_cv, hL] at hl
  exact h r σ' hX d' hd' D ca ad p e s m _ below meth c ⟨hx, hb, hml, hr, hlocks, hown, fun w hw => hts w (List.mem_cons_of_mem _ hw), hK⟩ s.heap [] ls hP va_S.rf hl
theorem Spc.mono {l : Launch} {sh : List ShE} {d d1 : Nat} {md : Md} {args : List Value} {σ : St} {X : Option (Int32 × St)} (h : Spc l sh d md args σ X) (hd : d ≤ d1) : Spc l sh d1 md args σ X := fun r σ' hX d' hd' => h r σ' hX d' (Nat.le_trans hd hd')
/-! locals -/
def lvk (L : List (Nat × Value)) (i : Nat) : Option Value := match L with
  | [] => none
  | q :: L => if q.1 = i then some q.2 else lvk L i
def lst (L : List (Nat × Value)) (i : Nat) (v : Value) : List (Nat × Value) := (i, v) :: L.filter (fun q => !(q.1 == i) && !(q.1 + 1 == i && q.2.category == 2))
theorem lvk_at {L : List (Nat × Value)} {i : Nat} {v : Value} (h : lvk L i = some v) : ∃ k : Nat, L[k]? = some (i, v) := by
  induction L with
  | nil => cases h
  | cons q L ih =>
    unfold lvk at h
    split at h
    · rename_i e
      cases h
      exact ⟨0, by subst e; rfl⟩
    · obtain ⟨k, hk⟩ := ih h
      exact ⟨k + 1, hk⟩
theorem lvk_cv {L : List (Nat × Value)} {ad : Nat → Nat} {i : Nat} {v : Value} (h : lvk L i = some v) : ∃ k : Nat, (L.map (cvq ad))[k]? = some (i, cvv ad v) := by
  obtain ⟨k, hk⟩ := lvk_at h
  exact ⟨k, by rw [List.getElem?_map, hk]; rfl⟩
theorem lx_at {ls : Array Slot} {n : Nat} {L : List (Nat × Value)} {ad : Nat → Nat} {i : Nat} {v : Value} (hl : lv_has ls n (L.map (cvq ad))) (h : lvk L i = some v) : ls[i]? = some (.val (cvv ad v)) := by
  obtain ⟨k, hk⟩ := lvk_cv (ad := ad) h
  exact lv_at hl k hk
theorem lst_cv {L L' : List (Nat × Value)} {ad : Nat → Nat} {i : Nat} {v : Value} (h : lst L i v = L') : (i, cvv ad v) :: (L.map (cvq ad)).filter (fun q => !(q.1 == i) && !(q.1 + 1 == i && q.2.category == 2)) = L'.map (cvq ad) := by
  subst h
  unfold lst
  rw [List.map_cons, List.filter_map]
  congr 2
  congr 1
  funext q
  simp [cvq, cvv_cat]
/-! results -/
def grd (b : Bool) (X : Option (Int32 × St)) : Option (Int32 × St) := match b with
  | true => X
  | false => none
def bnd (x : Option (Int32 × St)) (K : Int32 → St → Option (Int32 × St)) : Option (Int32 × St) := match x with
  | none => none
  | some q => K q.1 q.2
def nam (x : Int32) (K : Int32 → Option (Int32 × St)) : Option (Int32 × St) := K x
def inb (i : Int32) (n : Nat) : Bool := decide (0 ≤ i.toInt ∧ i.toInt < n)
def isB (v : Int32) : Bool := decide (v = 0 ∨ v = 1)
def nz (v : Int32) : Bool := decide (¬ v = 0)
def cpb (sp dp n : Int32) (n0 n1 : Nat) : Bool := decide (0 ≤ sp.toInt ∧ 0 ≤ dp.toInt ∧ 0 ≤ n.toInt ∧ sp.toInt + n.toInt ≤ n0 ∧ dp.toInt + n.toInt ≤ n1)
theorem grd_some {b : Bool} {X : Option (Int32 × St)} {q : Int32 × St} (h : grd b X = some q) : b = true ∧ X = some q := by
  cases b with
  | true => exact ⟨rfl, h⟩
  | false => cases h
theorem bnd_some {x : Option (Int32 × St)} {K : Int32 → St → Option (Int32 × St)} {q : Int32 × St} (h : bnd x K = some q) : ∃ r1 σ1, x = some (r1, σ1) ∧ K r1 σ1 = some q := by
  cases x with
  | none => cases h
  | some y => exact ⟨y.1, y.2, rfl, h⟩
theorem inb_in {i : Int32} {n : Nat} (h : inb i n = true) : vp_in i n := vp_in_iff.mpr (of_decide_eq_true h)
theorem nz_ne {v : Int32} (h : nz v = true) : ¬ v = 0 := of_decide_eq_true h
theorem isB_n {v : Int32} (h : isB v = true) : narrow .boolean (.int v) = .int v ∧ fits .boolean (.int v) = true := by
  rcases of_decide_eq_true h with rfl | rfl
  · decide +kernel
  · decide +kernel
