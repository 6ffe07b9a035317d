/-! ===== the start: what the Statement gives, the two constructors, the loop ===== -/
theorem stt_of {args : Array Value} {s : State} {C n d : String} {ty : FieldType} {tab : List Int32} {A : Nat → Prop} (hl : (Cond.laysStatic C n d).before args s = true) (hini : (Cond.initialized C).before args s = true) (harr : (Cond.arrayOf (.static C n d) ty).before args s = true) (hlen : (Cond.eq (.length (.static C n d)) (.int (Int32.ofNat tab.length))).before args s = true) (hel : ∀ j : Nat, j < tab.length → (Cond.eq (.elem (.static C n d) (.int (Int32.ofNat j))) (.int (tab.getD j 0))).before args s = true) (hN : tab.length < 2 ^ 31) (hA : ∀ a : Nat, a < s.heap.size → ¬ A a) : ∃ t : Nat, va_Z C n d (.ref t) A s s.heap ∧ va_T ty t tab.length (fun j => .int (tab.getD j 0)) A s s.heap := by
  obtain ⟨t, hv, hT⟩ := va_Tof hN harr (va_eqt hlen) (fun j hj => va_eqt (hel j hj)) hA
  exact ⟨t, va_Zref hl hini hv hA, hT⟩
abbrev gvn : List Cond := flatC (Jvm.Cond.and given_1 narrow_1)
theorem el_of {args : Array Value} {s : State} {C n d : String} {tab : List Int32} (h : ∀ c ∈ gvn, c.before args s = true) (hd : (List.range tab.length).all (fun j => decide (Cond.eq (.elem (.static C n d) (.int (Int32.ofNat j))) (.int (tab.getD j 0)) ∈ gvn)) = true) : ∀ j : Nat, j < tab.length → (Cond.eq (.elem (.static C n d) (.int (Int32.ofNat j))) (.int (tab.getD j 0))).before args s = true := fun j hj => h _ (of_decide_eq_true (List.all_eq_true.mp hd j (List.mem_range.mpr hj)))
theorem sA_all : (List.range tbA.length).all (fun j => decide (Cond.eq (.elem (.static "RopeTreaty" "ABOVE" "[I") (.int (Int32.ofNat j))) (.int (tbA.getD j 0)) ∈ gvn)) = true := by decide +kernel
theorem sB_all : (List.range tbB.length).all (fun j => decide (Cond.eq (.elem (.static "RopeTreaty$Throat" "BODIES" "[I") (.int (Int32.ofNat j))) (.int (tbB.getD j 0)) ∈ gvn)) = true := by decide +kernel
theorem sN_all : (List.range tbN.length).all (fun j => decide (Cond.eq (.elem (.static "RopeTreaty$Reader" "NAMES" "[C") (.int (Int32.ofNat j))) (.int (tbN.getD j 0)) ∈ gvn)) = true := by decide +kernel
theorem up_two {ad : Nat → Nat} {a b x y : Nat} (h1 : ad x = a) (h2 : ad y = b) : va_up (va_up (fun _ => none) 0 (some a)) 1 (some b) = fun i => (([x, y] : List Nat)[i]?).map ad := by
  subst h1; subst h2
  funext i
  match i with
  | 0 => rfl
  | 1 => rfl
  | n + 2 => rfl
theorem up_four {ad : Nat → Nat} {a b c d x y z w : Nat} (h1 : ad x = a) (h2 : ad y = b) (h3 : ad z = c) (h4 : ad w = d) : va_up (va_up (va_up (va_up (fun _ => none) 0 (some a)) 1 (some b)) 2 (some c)) 3 (some d) = fun i => (([x, y, z, w] : List Nat)[i]?).map ad := by
  subst h1; subst h2; subst h3; subst h4
  funext i
  match i with
  | 0 => rfl
  | 1 => rfl
  | 2 => rfl
  | 3 => rfl
  | n + 4 => rfl
def σC0 : St := (fun o k => if k = 0 then (if o = 3 then 20 else if o = 9 then 20 else if o = 66 then 20 else if o = 6 then 99 else if o = 12 then 99 else if o = 69 then 99 else 0) else if k = 11 then (if o = 15 then -1 else if o = 24 then -1 else if o = 33 then -1 else 0) else if k = 12 then (if o = 15 then 30 else if o = 24 then 30 else if o = 33 then 30 else 0) else if k = 14 then (if o = 15 then 1 else if o = 24 then 1 else if o = 33 then 1 else 0) else 0, fun a => if a = 21 then upd (upd (fun _ => 0) 0 99) 1 99 else if a = 30 then upd (upd (fun _ => 0) 0 99) 1 99 else if a = 39 then upd (upd (fun _ => 0) 0 99) 1 99 else fun _ => 0)
def σM0 : St := (fun _ _ => 0, fun a => if a = 1 then upd (upd (upd (upd (upd (fun _ => 0) 1 (1 : Int32)) 3 (-1)) 5 (99 : Int32)) 6 (99 : Int32)) 7 (30 : Int32) else fun _ => 0)
theorem at_shW {D : va_G} {sh : List ShE} {ad : Nat → Nat} {ca : Nat → ClassId} {σ : St} {H : Heap} (h : ∀ k, k < sh.length → ∃ e, sh[k]? = some e ∧ va_at D vwCl (ad k, shE ad ca σ k e) H) : va_P D vwCl (shW sh ad ca σ) H := by
  intro k q hq
  obtain ⟨e, he, hv⟩ := h k (shW_at hq).1
  rw [shW_get he] at hq
  cases hq
  exact hv
theorem ad_inj {A : Nat → Prop} {ws : va_W} {n : Nat} {ad : Nat → Nat} (pl : List Nat) (hD : va_D A ws) (h : ∀ o, o < n → ∃ e, ws[pl.getD o 0]? = some (ad o, e)) (hp : (List.range n).all (fun o => (List.range n).all (fun o' => decide (pl.getD o 0 = pl.getD o' 0 → o = o'))) = true) : ∀ o o' : Nat, o < n → o' < n → ad o = ad o' → o = o' := by
  intro o o' h1 h2 he
  obtain ⟨e1, g1⟩ := h o h1
  obtain ⟨e2, g2⟩ := h o' h2
  exact of_decide_eq_true (List.all_eq_true.mp (List.all_eq_true.mp hp o (List.mem_range.mpr h1)) o' (List.mem_range.mpr h2)) (hD.1 _ _ _ _ g1 g2 he)
theorem lx_75 : Cond.initialized "RopeTreaty" ∈ lw_tbl := List.mem_of_getElem? (i := 75) (by decide +kernel)
theorem lx_79 : Cond.initialized "RopeTreaty$Reader" ∈ lw_tbl := List.mem_of_getElem? (i := 79) (by decide +kernel)
theorem lx_81 : Cond.initialized "RopeTreaty$Throat" ∈ lw_tbl := List.mem_of_getElem? (i := 81) (by decide +kernel)
theorem lx_82 : Cond.initialized "RopeTreatyModel" ∈ lw_tbl := List.mem_of_getElem? (i := 82) (by decide +kernel)
theorem lx_86 : Cond.classLink "RopeTreatyLaw" (7 : Nat) "RopeTreaty" ∈ lw_tbl := List.mem_of_getElem? (i := 86) (by decide +kernel)
theorem lx_87 : Cond.instantiable "RopeTreaty" (12 : Nat) ∈ lw_tbl := List.mem_of_getElem? (i := 87) (by decide +kernel)
theorem lx_88 : Cond.methodLink "RopeTreatyLaw" (9 : Nat) ⟨"RopeTreaty", "<init>", "()V"⟩ ∈ lw_tbl := List.mem_of_getElem? (i := 88) (by decide +kernel)
theorem lx_89 : Cond.instanceMethod ⟨"RopeTreaty", "<init>", "()V"⟩ ∈ lw_tbl := List.mem_of_getElem? (i := 89) (by decide +kernel)
theorem lx_95 : Cond.instantiable "RopeTreaty$Rope" (15 : Nat) ∈ lw_tbl := List.mem_of_getElem? (i := 95) (by decide +kernel)
theorem lx_96 : Cond.methodLinkNest "RopeTreaty" (9 : Nat) ⟨"RopeTreaty$Rope", "<init>", "()V"⟩ "RopeTreaty" ∈ lw_tbl := List.mem_of_getElem? (i := 96) (by decide +kernel)
theorem lx_101 : Cond.arrayOver (Jvm.ClassFile.FieldType.object "RopeTreaty$Text") ∈ lw_tbl := List.mem_of_getElem? (i := 101) (by decide +kernel)
theorem lx_102 : Cond.instantiable "RopeTreaty$Text" (4 : Nat) ∈ lw_tbl := List.mem_of_getElem? (i := 102) (by decide +kernel)
theorem lx_121 : Cond.arrayClass Jvm.ClassFile.FieldType.int ∈ lw_tbl := List.mem_of_getElem? (i := 121) (by decide +kernel)
theorem lx_183 : Cond.instantiable "RopeTreaty$Tape" (2 : Nat) ∈ lw_tbl := List.mem_of_getElem? (i := 183) (by decide +kernel)
theorem lx_184 : Cond.methodLinkNest "RopeTreaty" (24 : Nat) ⟨"RopeTreaty$Tape", "<init>", "()V"⟩ "RopeTreaty" ∈ lw_tbl := List.mem_of_getElem? (i := 184) (by decide +kernel)
theorem lx_199 : Cond.instantiable "RopeTreaty$Reader" (7 : Nat) ∈ lw_tbl := List.mem_of_getElem? (i := 199) (by decide +kernel)
theorem lx_200 : Cond.methodLinkNest "RopeTreaty" (34 : Nat) ⟨"RopeTreaty$Reader", "<init>", "()V"⟩ "RopeTreaty" ∈ lw_tbl := List.mem_of_getElem? (i := 200) (by decide +kernel)
theorem lx_229 : Cond.instantiable "RopeTreaty$Row" (3 : Nat) ∈ lw_tbl := List.mem_of_getElem? (i := 229) (by decide +kernel)
theorem lx_230 : Cond.methodLinkNest "RopeTreaty" (41 : Nat) ⟨"RopeTreaty$Row", "<init>", "()V"⟩ "RopeTreaty" ∈ lw_tbl := List.mem_of_getElem? (i := 230) (by decide +kernel)
theorem lx_249 : Cond.arrayOver (Jvm.ClassFile.FieldType.object "RopeTreaty$Row") ∈ lw_tbl := List.mem_of_getElem? (i := 249) (by decide +kernel)
theorem lx_251 : Cond.instantiable "RopeTreaty$Throat" (6 : Nat) ∈ lw_tbl := List.mem_of_getElem? (i := 251) (by decide +kernel)
theorem lx_252 : Cond.methodLinkNest "RopeTreaty" (55 : Nat) ⟨"RopeTreaty$Throat", "<init>", "()V"⟩ "RopeTreaty" ∈ lw_tbl := List.mem_of_getElem? (i := 252) (by decide +kernel)
theorem lx_409 : Cond.laysStatic "RopeTreaty" "ABOVE" "[I" ∈ lw_tbl := List.mem_of_getElem? (i := 409) (by decide +kernel)
theorem lx_510 : Cond.laysStatic "RopeTreaty$Reader" "NAMES" "[C" ∈ lw_tbl := List.mem_of_getElem? (i := 510) (by decide +kernel)
theorem lx_671 : Cond.methodLinkNest "RopeTreaty$Throat" (44 : Nat) ⟨"RopeTreaty", "isWithin", "(II)Z"⟩ "RopeTreaty" ∈ lw_tbl := List.mem_of_getElem? (i := 671) (by decide +kernel)
theorem lx_673 : Cond.laysStatic "RopeTreaty$Throat" "BODIES" "[I" ∈ lw_tbl := List.mem_of_getElem? (i := 673) (by decide +kernel)
theorem lx_674 : Cond.fieldLinkNest "RopeTreaty$Throat" (51 : Nat) "RopeTreaty" "ABOVE" "[I" "RopeTreaty" ∈ lw_tbl := List.mem_of_getElem? (i := 674) (by decide +kernel)
theorem lx_723 : Cond.methodLinkNest "RopeTreaty$Rope" (152 : Nat) ⟨"RopeTreaty", "isWithin", "(II)Z"⟩ "RopeTreaty" ∈ lw_tbl := List.mem_of_getElem? (i := 723) (by decide +kernel)
theorem lx_767 : Cond.classLink "RopeTreatyLaw" (10 : Nat) "RopeTreatyModel" ∈ lw_tbl := List.mem_of_getElem? (i := 767) (by decide +kernel)
theorem lx_768 : Cond.instantiable "RopeTreatyModel" (21 : Nat) ∈ lw_tbl := List.mem_of_getElem? (i := 768) (by decide +kernel)
theorem lx_769 : Cond.methodLink "RopeTreatyLaw" (12 : Nat) ⟨"RopeTreatyModel", "<init>", "()V"⟩ ∈ lw_tbl := List.mem_of_getElem? (i := 769) (by decide +kernel)
theorem lx_770 : Cond.instanceMethod ⟨"RopeTreatyModel", "<init>", "()V"⟩ ∈ lw_tbl := List.mem_of_getElem? (i := 770) (by decide +kernel)
theorem lg_90 : Cond.code ⟨"RopeTreaty", "<init>", "()V"⟩ prog_1_method_1_code (2 : Nat) (Option.none : Option Jvm.ClassFile.FieldType) ∈ tblG := wdG (i := 90) (by decide +kernel) rfl
theorem lg_771 : Cond.code ⟨"RopeTreatyModel", "<init>", "()V"⟩ prog_9_method_1_code (1 : Nat) (Option.none : Option Jvm.ClassFile.FieldType) ∈ tblG := wdG (i := 771) (by decide +kernel) rfl
set_option maxRecDepth 100000 in
set_option maxHeartbeats 8000000 in
theorem start_open {p : Program} {e : Env} {s : State} {m : MethodId} {below : List Frame} {meth : Method} {c : Code} (l : Launch) {b L : Nat} {xs : Nat → Int32} (Rl : St → St → Prop) (hops : Ops Rl) (hR0 : Rl σC0 σM0) (hL : L ≤ 3072) (C0 : lw_At p s m meth c b L xs) : W p l e room_1 s m #[Value.ref b] below meth c s.heap [] 0 0 (lw_Z below #[Value.ref b] s) (entryFrame m ([Value.ref b] : List Value).toArray 4) := by
  obtain ⟨hx, hb, hr, hml, hown, hts, hX, hbl, hlocks, hgv⟩ := id C0
  have hA : ∀ q : Nat, s.heap.size ≤ q → (fun q : Nat => s.heap.size ≤ q) q := fun _ h => h
  have hfl := flat_of_before _ hgv
  have hAs : ∀ a : Nat, a < s.heap.size → ¬ (fun q : Nat => s.heap.size ≤ q) a := fun a h => Nat.not_le.mpr h
  obtain ⟨t0, hZ0, hT0⟩ := stt_of (C := "RopeTreaty") (n := "ABOVE") (d := "[I") (ty := .int) (tab := tbA) (hts _ lx_409) (hts _ lx_75) (hfl _ (by decide +kernel)) (hfl _ (by decide +kernel)) (el_of hfl sA_all) (by decide) hAs
  obtain ⟨t1, hZ1, hT1⟩ := stt_of (C := "RopeTreaty$Throat") (n := "BODIES") (d := "[I") (ty := .int) (tab := tbB) (hts _ lx_673) (hts _ lx_81) (hfl _ (by decide +kernel)) (hfl _ (by decide +kernel)) (el_of hfl sB_all) (by decide) hAs
  obtain ⟨t2, hZ2, hT2⟩ := stt_of (C := "RopeTreaty$Reader") (n := "NAMES") (d := "[C") (ty := .char) (tab := tbN) (hts _ lx_510) (hts _ lx_79) (hfl _ (by decide +kernel)) (hfl _ (by decide +kernel)) (el_of hfl sN_all) (by decide) hAs
  obtain ⟨c0, iS0, hKn0⟩ := u_known (C := RX0) (T := TX0) (N := 7) (n := 7) hts (fun w h => (List.mem_filter.mp (fcX0.1 w h)).1) (hts _ lx_199)
  obtain ⟨c1, iS1, hKn1⟩ := u_known (C := RX1) (T := TX1) (N := 15) (n := 15) hts (fun w h => (List.mem_filter.mp (fcX1.1 w h)).1) (hts _ lx_95)
  obtain ⟨c2, iS2, hKn2⟩ := u_known (C := RX2) (T := TX2) (N := 3) (n := 3) hts (fun w h => (List.mem_filter.mp (fcX2.1 w h)).1) (hts _ lx_229)
  obtain ⟨c3, iS3, hKn3⟩ := u_known (C := RX3) (T := TX3) (N := 2) (n := 2) hts (fun w h => (List.mem_filter.mp (fcX3.1 w h)).1) (hts _ lx_183)
  obtain ⟨c4, iS4, hKn4⟩ := u_known (C := RX4) (T := TX4) (N := 4) (n := 4) hts (fun w h => (List.mem_filter.mp (fcX4.1 w h)).1) (hts _ lx_102)
  obtain ⟨c5, iS5, hKn5⟩ := u_known (C := RX5) (T := TX5) (N := 6) (n := 6) hts (fun w h => (List.mem_filter.mp (fcX5.1 w h)).1) (hts _ lx_251)
  obtain ⟨c6, iS6, hKn6⟩ := u_known (C := RX6) (T := TX6) (N := 12) (n := 12) hts (fun w h => (List.mem_filter.mp (fcX6.1 w h)).1) (hts _ lx_87)
  obtain ⟨c7, iS7, hKn7⟩ := u_known (C := RX7) (T := TX7) (N := 21) (n := 21) hts (fun w h => (List.mem_filter.mp (fcX7.1 w h)).1) (hts _ lx_768)
  obtain ⟨cI, kI, cpI, fi1, fi2, fi3⟩ := Cond.arrayClass_spec (hts _ lx_121)
  obtain ⟨cpT, cT, kT, ft1, ft2, ft3, ft4, ft5⟩ := Cond.arrayOver_spec (hts _ lx_101)
  obtain ⟨cpR, cR, kR, fr1, fr2, fr3, fr4, fr5⟩ := Cond.arrayOver_spec (hts _ lx_249)
  obtain ⟨ca, e0, e1, e2⟩ : ∃ ca : Nat → ClassId, ca 0 = cI ∧ ca 1 = cT ∧ ca 2 = cR := ⟨fun k => if k = 0 then cI else if k = 1 then cT else cR, rfl, rfl, rfl⟩
  subst e0; subst e1; subst e2
  obtain ⟨D, hKc⟩ : ∃ D : va_G, ∀ (k : Nat) (q : vw_C), vwCl[k]? = some q → u_Kn s q.1 q.2.1 q.2.2 (D.1 k) (D.2 k) := by
    refine ⟨(fun k => match k with | 0 => c0 | 1 => c1 | 2 => c2 | 3 => c3 | 4 => c4 | 5 => c5 | 6 => c6 | _ => c7, fun k => match k with | 0 => iS0 | 1 => iS1 | 2 => iS2 | 3 => iS3 | 4 => iS4 | 5 => iS5 | 6 => iS6 | _ => iS7), ?_⟩
    intro k q hq
    match k, hq with
    | 0, hq => cases hq; exact hKn0
    | 1, hq => cases hq; exact hKn1
    | 2, hq => cases hq; exact hKn2
    | 3, hq => cases hq; exact hKn3
    | 4, hq => cases hq; exact hKn4
    | 5, hq => cases hq; exact hKn5
    | 6, hq => cases hq; exact hKn6
    | 7, hq => cases hq; exact hKn7
    | k + 8, hq => cases hq
  have hKa : va_K D vwCl (Tys ca) s := by
    refine ⟨hKc, fun k q hq => ?_⟩
    match k, hq with
    | 0, hq => cases hq; exact ⟨fun n z => ⟨fun k h => (by cases h), kI, fi2, cpI, fi3⟩, fi1⟩
    | 1, hq => cases hq; exact ⟨fun n z => ⟨fun k h => (by cases h), kT, ft3, cpT, ft4⟩, kT, cpT, ft3, ft4, ft1, ft5⟩
    | 2, hq => cases hq; exact ⟨fun n z => ⟨fun k h => (by cases h), kR, fr3, cpR, fr4⟩, kR, cpR, fr3, fr4, fr1, fr5⟩
    | k + 3, hq => cases hq
  have hK : CK D ca s := by
    refine ⟨hKa, ?_, va_AO.of (hts _ lx_101), va_AO.of (hts _ lx_249)⟩
    intro q hq
    simp only [nstI, List.mem_cons, List.not_mem_nil, or_false] at hq
    rcases hq with rfl | rfl | rfl | rfl | rfl
    · exact va_Nw.of rfl (hts _ lx_96)
    · exact va_Nw.of rfl (hts _ lx_184)
    · exact va_Nw.of rfl (hts _ lx_200)
    · exact va_Nw.of rfl (hts _ lx_230)
    · exact va_Nw.of rfl (hts _ lx_252)
  have hNs : Nst s := by
    refine ⟨?_, va_Nw.of rfl (hts _ lx_674)⟩
    intro q hq
    simp only [nstM, List.mem_cons, List.not_mem_nil, or_false] at hq
    rcases hq with rfl | rfl
    · exact va_Nw.of rfl (hts _ lx_671)
    · exact va_Nw.of rfl (hts _ lx_723)
  have hS : va_S (fun q : Nat => s.heap.size ≤ q) s.heap s.heap [] := va_S.rf
  have hP : va_P D vwCl [] s.heap := fun k q h => by simp at h
  have hD : va_D (fun q : Nat => s.heap.size ≤ q) [] := ⟨fun i j p q h => by simp at h, fun k q h => by simp at h⟩
  have hl := lv_entry ([.ref b]) (n := 4) (Nat.le_of_ble_eq_true rfl)
  rw [lg_entry_eq]
  generalize (lg_sl ([.ref b]) ++ List.replicate (4 - (lg_sl ([.ref b])).length) Slot.unset).toArray = ls at hl ⊢
  have hl : lv_has ls 4 [(0, .ref b)] := hl
  refine va_new (ci := 6) (fs := [.null, .null, .null, .null, .null, .null, .null, .null, .null, .null, .null, .int 0]) (C := RX6) (T := TX6) (N := 12) (Ts := lw_tbl) hx hb hts (fun w h => (List.mem_filter.mp (fcX6.1 w h)).1) tyX6 tyX6_ok hown (hts _ lx_86) (hts _ lx_87) (hts _ lx_75) hKa hP hD hS hA rfl (fun j hj => by rcases (show j = 0 ∨ j = 1 ∨ j = 2 ∨ j = 3 ∨ j = 4 ∨ j = 5 ∨ j = 6 ∨ j = 7 ∨ j = 8 ∨ j = 9 ∨ j = 10 ∨ j = 11 by omega) with rfl | rfl | rfl | rfl | rfl | rfl | rfl | rfl | rfl | rfl | rfl | rfl <;> rfl) (Nat.le_of_ble_eq_true rfl) (Nat.le_of_ble_eq_true rfl) (dg hd_law_0 0 rfl) (fun qa H hP hD hS => ?_)
  have hP : va_P D vwCl [(qa, .inr (6, [.null, .null, .null, .null, .null, .null, .null, .null, .null, .null, .null, .int 0]))] H := hP
  have hD : va_D (fun q : Nat => s.heap.size ≤ q) [(qa, .inr (6, [.null, .null, .null, .null, .null, .null, .null, .null, .null, .null, .null, .int 0]))] := hD
  refine lv_dup hx hb (dg hd_law_0 1 rfl) rfl ?_
  have hPc := hP.sub (ws' := [(qa, .inr (6, [.null, .null, .null, .null, .null, .null, .null, .null, .null, .null, .null, .int 0]))]) [0] rfl
  have hDc := hD.sub (ws' := [(qa, .inr (6, [.null, .null, .null, .null, .null, .null, .null, .null, .null, .null, .null, .int 0]))]) [0] (by decide) rfl
  have hFc := va_free (wc := [(qa, .inr (6, [.null, .null, .null, .null, .null, .null, .null, .null, .null, .null, .null, .int 0]))]) hD hS hA [0] rfl
  refine va_callv (va_runI (As := []) (rest := [.ref qa]) ⟨hx, hb, hml, hown, hts⟩ (c_Mn l D ca qa H.size) (cwI (Ts := lw_tbl) 0 hts (fun w h => ⟨(List.mem_filter.mp (mws_in (cd := mdI_Mn) lg_90 w h).1).1, (mws_in (cd := mdI_Mn) lg_90 w h).2⟩) rfl rfl rfl (hts _ lx_75) (hts _ lx_88) (hts _ lx_89) rfl ⟨by decide +kernel, by decide +kernel, by decide +kernel⟩ ⟨Nat.le_of_ble_eq_true rfl, Nat.le_of_ble_eq_true rfl⟩) ⟨ck_blind, fun U hU hW => ⟨rfl, by rw [hU], by rw [hU]; exact hPc, hK.warm hW, hDc.weaken (fun _ _ _ _ => trivial)⟩⟩ rfl rfl hl.1 rfl (lv_room (Nat.le_of_ble_eq_true rfl)) (dg hd_law_0 2 rfl) ⟨Nat.le_of_ble_eq_true rfl, Nat.le_of_ble_eq_true rfl⟩) hS (fun q _ h => hFc q h) hFc (fun u t H1 locs ht hvm hw hB hz1 hk1 hS => ?_)
  obtain ⟨a1, a2, a3, a4, a5, a6, a7, a8, a9, a10, a11, a12, a13, a14, a15, a16, a17, a18, a19, a20, a21, a22, a23, a24, a25, a26, a27, a28, a29, a30, a31, a32, a33, a34, a35, a36, a37, a38, a39, a40, a41, a42, a43, a44, a45, a46, a47, a48, a49, a50, a51, a52, a53, a54, a55, a56, a57, a58, a59, a60, a61, a62, a63, a64, a65, a66, a67, a68, a69, a70, a71, hP1, hD1⟩ := hB
  rw [ht] at hP1
  obtain ⟨hP, hD⟩ := va_join (wr := []) (w1 := [(qa, .inr (6, [.ref a1, .ref a17, .ref a33, .ref a49, .ref a51, .ref a53, .ref a56, .ref a58, .ref a60, .ref a61, .ref a63, .int 0])), (a1, .inr (1, [.ref a2, .ref a9, .ref a10, .ref a11, .ref a12, .ref a13, .ref a14, .ref a15, .ref a16, .int 0, .int 0, .int (-1 : Int32), .int (30 : Int32), .int 0, .int (1 : Int32)])), (a2, .inl (ca 1, 2, .inr (.inr (.inr (.inr (va_up (va_up (fun _ => none) 0 (some a3)) 1 (some a6))))))), (a3, .inr (4, [.int (20 : Int32), .ref a4, .ref a5, .int 0])), (a4, .inl (ca 0, 60, .inl (fun _ => 0))), (a5, .inl (ca 0, 60, .inl (fun _ => 0))), (a6, .inr (4, [.int (99 : Int32), .ref a7, .ref a8, .int 0])), (a7, .inl (ca 0, 60, .inl (fun _ => 0))), (a8, .inl (ca 0, 60, .inl (fun _ => 0))), (a9, .inl (ca 0, 6, .inl (fun _ => 0))), (a10, .inl (ca 0, 6, .inl (fun _ => 0))), (a11, .inl (ca 0, 6, .inl (fun _ => 0))), (a12, .inl (ca 0, 6, .inl (fun _ => 0))), (a13, .inl (ca 0, 6, .inl (fun _ => 0))), (a14, .inl (ca 0, 2, .inl (upd (upd (fun _ => 0) 0 (99 : Int32)) 1 (99 : Int32)))), (a15, .inl (ca 0, 6, .inl (fun _ => 0))), (a16, .inl (ca 0, 6, .inl (fun _ => 0))), (a17, .inr (1, [.ref a18, .ref a25, .ref a26, .ref a27, .ref a28, .ref a29, .ref a30, .ref a31, .ref a32, .int 0, .int 0, .int (-1 : Int32), .int (30 : Int32), .int 0, .int (1 : Int32)])), (a18, .inl (ca 1, 2, .inr (.inr (.inr (.inr (va_up (va_up (fun _ => none) 0 (some a19)) 1 (some a22))))))), (a19, .inr (4, [.int (20 : Int32), .ref a20, .ref a21, .int 0])), (a20, .inl (ca 0, 60, .inl (fun _ => 0))), (a21, .inl (ca 0, 60, .inl (fun _ => 0))), (a22, .inr (4, [.int (99 : Int32), .ref a23, .ref a24, .int 0])), (a23, .inl (ca 0, 60, .inl (fun _ => 0))), (a24, .inl (ca 0, 60, .inl (fun _ => 0))), (a25, .inl (ca 0, 6, .inl (fun _ => 0))), (a26, .inl (ca 0, 6, .inl (fun _ => 0))), (a27, .inl (ca 0, 6, .inl (fun _ => 0))), (a28, .inl (ca 0, 6, .inl (fun _ => 0))), (a29, .inl (ca 0, 6, .inl (fun _ => 0))), (a30, .inl (ca 0, 2, .inl (upd (upd (fun _ => 0) 0 (99 : Int32)) 1 (99 : Int32)))), (a31, .inl (ca 0, 6, .inl (fun _ => 0))), (a32, .inl (ca 0, 6, .inl (fun _ => 0))), (a33, .inr (1, [.ref a34, .ref a41, .ref a42, .ref a43, .ref a44, .ref a45, .ref a46, .ref a47, .ref a48, .int 0, .int 0, .int (-1 : Int32), .int (30 : Int32), .int 0, .int (1 : Int32)])), (a34, .inl (ca 1, 2, .inr (.inr (.inr (.inr (va_up (va_up (fun _ => none) 0 (some a35)) 1 (some a38))))))), (a35, .inr (4, [.int (20 : Int32), .ref a36, .ref a37, .int 0])), (a36, .inl (ca 0, 60, .inl (fun _ => 0))), (a37, .inl (ca 0, 60, .inl (fun _ => 0))), (a38, .inr (4, [.int (99 : Int32), .ref a39, .ref a40, .int 0])), (a39, .inl (ca 0, 60, .inl (fun _ => 0))), (a40, .inl (ca 0, 60, .inl (fun _ => 0))), (a41, .inl (ca 0, 6, .inl (fun _ => 0))), (a42, .inl (ca 0, 6, .inl (fun _ => 0))), (a43, .inl (ca 0, 6, .inl (fun _ => 0))), (a44, .inl (ca 0, 6, .inl (fun _ => 0))), (a45, .inl (ca 0, 6, .inl (fun _ => 0))), (a46, .inl (ca 0, 2, .inl (upd (upd (fun _ => 0) 0 (99 : Int32)) 1 (99 : Int32)))), (a47, .inl (ca 0, 6, .inl (fun _ => 0))), (a48, .inl (ca 0, 6, .inl (fun _ => 0))), (a49, .inr (3, [.ref a50, .int 0])), (a50, .inl (ca 0, 60, .inl (fun _ => 0))), (a51, .inr (3, [.ref a52, .int 0])), (a52, .inl (ca 0, 60, .inl (fun _ => 0))), (a53, .inr (0, [.ref a54, .int 0, .ref a55, .int 0, .int 0, .int 0, .int 0])), (a54, .inl (ca 0, 60, .inl (fun _ => 0))), (a55, .inl (ca 0, 60, .inl (fun _ => 0))), (a56, .inr (2, [.ref a57, .int 0, .int 0])), (a57, .inl (ca 0, 24, .inl (fun _ => 0))), (a58, .inr (2, [.ref a59, .int 0, .int 0])), (a59, .inl (ca 0, 24, .inl (fun _ => 0))), (a60, .inl (ca 2, 4, .inr (.inr (.inr (.inr (va_up (va_up (va_up (va_up (fun _ => none) 0 (some a64)) 1 (some a66)) 2 (some a68)) 3 (some a70))))))), (a61, .inr (5, [.ref a62, .int 0, .int 0, .int 0, .int 0, .int 0])), (a62, .inl (ca 0, 30, .inl (fun _ => 0))), (a63, .inl (ca 0, 7, .inl (fun _ => 0))), (a64, .inr (2, [.ref a65, .int 0, .int 0])), (a65, .inl (ca 0, 24, .inl (fun _ => 0))), (a66, .inr (2, [.ref a67, .int 0, .int 0])), (a67, .inl (ca 0, 24, .inl (fun _ => 0))), (a68, .inr (2, [.ref a69, .int 0, .int 0])), (a69, .inl (ca 0, 24, .inl (fun _ => 0))), (a70, .inr (2, [.ref a71, .int 0, .int 0])), (a71, .inl (ca 0, 24, .inl (fun _ => 0)))]) hP hD [0] [] rfl rfl (by decide) (by decide) hk1 hFc hP1 hD1
  generalize H1 = H at hP hS ⊢
  have hP : va_P D vwCl [(qa, .inr (6, [.ref a1, .ref a17, .ref a33, .ref a49, .ref a51, .ref a53, .ref a56, .ref a58, .ref a60, .ref a61, .ref a63, .int 0])), (a1, .inr (1, [.ref a2, .ref a9, .ref a10, .ref a11, .ref a12, .ref a13, .ref a14, .ref a15, .ref a16, .int 0, .int 0, .int (-1 : Int32), .int (30 : Int32), .int 0, .int (1 : Int32)])), (a2, .inl (ca 1, 2, .inr (.inr (.inr (.inr (va_up (va_up (fun _ => none) 0 (some a3)) 1 (some a6))))))), (a3, .inr (4, [.int (20 : Int32), .ref a4, .ref a5, .int 0])), (a4, .inl (ca 0, 60, .inl (fun _ => 0))), (a5, .inl (ca 0, 60, .inl (fun _ => 0))), (a6, .inr (4, [.int (99 : Int32), .ref a7, .ref a8, .int 0])), (a7, .inl (ca 0, 60, .inl (fun _ => 0))), (a8, .inl (ca 0, 60, .inl (fun _ => 0))), (a9, .inl (ca 0, 6, .inl (fun _ => 0))), (a10, .inl (ca 0, 6, .inl (fun _ => 0))), (a11, .inl (ca 0, 6, .inl (fun _ => 0))), (a12, .inl (ca 0, 6, .inl (fun _ => 0))), (a13, .inl (ca 0, 6, .inl (fun _ => 0))), (a14, .inl (ca 0, 2, .inl (upd (upd (fun _ => 0) 0 (99 : Int32)) 1 (99 : Int32)))), (a15, .inl (ca 0, 6, .inl (fun _ => 0))), (a16, .inl (ca 0, 6, .inl (fun _ => 0))), (a17, .inr (1, [.ref a18, .ref a25, .ref a26, .ref a27, .ref a28, .ref a29, .ref a30, .ref a31, .ref a32, .int 0, .int 0, .int (-1 : Int32), .int (30 : Int32), .int 0, .int (1 : Int32)])), (a18, .inl (ca 1, 2, .inr (.inr (.inr (.inr (va_up (va_up (fun _ => none) 0 (some a19)) 1 (some a22))))))), (a19, .inr (4, [.int (20 : Int32), .ref a20, .ref a21, .int 0])), (a20, .inl (ca 0, 60, .inl (fun _ => 0))), (a21, .inl (ca 0, 60, .inl (fun _ => 0))), (a22, .inr (4, [.int (99 : Int32), .ref a23, .ref a24, .int 0])), (a23, .inl (ca 0, 60, .inl (fun _ => 0))), (a24, .inl (ca 0, 60, .inl (fun _ => 0))), (a25, .inl (ca 0, 6, .inl (fun _ => 0))), (a26, .inl (ca 0, 6, .inl (fun _ => 0))), (a27, .inl (ca 0, 6, .inl (fun _ => 0))), (a28, .inl (ca 0, 6, .inl (fun _ => 0))), (a29, .inl (ca 0, 6, .inl (fun _ => 0))), (a30, .inl (ca 0, 2, .inl (upd (upd (fun _ => 0) 0 (99 : Int32)) 1 (99 : Int32)))), (a31, .inl (ca 0, 6, .inl (fun _ => 0))), (a32, .inl (ca 0, 6, .inl (fun _ => 0))), (a33, .inr (1, [.ref a34, .ref a41, .ref a42, .ref a43, .ref a44, .ref a45, .ref a46, .ref a47, .ref a48, .int 0, .int 0, .int (-1 : Int32), .int (30 : Int32), .int 0, .int (1 : Int32)])), (a34, .inl (ca 1, 2, .inr (.inr (.inr (.inr (va_up (va_up (fun _ => none) 0 (some a35)) 1 (some a38))))))), (a35, .inr (4, [.int (20 : Int32), .ref a36, .ref a37, .int 0])), (a36, .inl (ca 0, 60, .inl (fun _ => 0))), (a37, .inl (ca 0, 60, .inl (fun _ => 0))), (a38, .inr (4, [.int (99 : Int32), .ref a39, .ref a40, .int 0])), (a39, .inl (ca 0, 60, .inl (fun _ => 0))), (a40, .inl (ca 0, 60, .inl (fun _ => 0))), (a41, .inl (ca 0, 6, .inl (fun _ => 0))), (a42, .inl (ca 0, 6, .inl (fun _ => 0))), (a43, .inl (ca 0, 6, .inl (fun _ => 0))), (a44, .inl (ca 0, 6, .inl (fun _ => 0))), (a45, .inl (ca 0, 6, .inl (fun _ => 0))), (a46, .inl (ca 0, 2, .inl (upd (upd (fun _ => 0) 0 (99 : Int32)) 1 (99 : Int32)))), (a47, .inl (ca 0, 6, .inl (fun _ => 0))), (a48, .inl (ca 0, 6, .inl (fun _ => 0))), (a49, .inr (3, [.ref a50, .int 0])), (a50, .inl (ca 0, 60, .inl (fun _ => 0))), (a51, .inr (3, [.ref a52, .int 0])), (a52, .inl (ca 0, 60, .inl (fun _ => 0))), (a53, .inr (0, [.ref a54, .int 0, .ref a55, .int 0, .int 0, .int 0, .int 0])), (a54, .inl (ca 0, 60, .inl (fun _ => 0))), (a55, .inl (ca 0, 60, .inl (fun _ => 0))), (a56, .inr (2, [.ref a57, .int 0, .int 0])), (a57, .inl (ca 0, 24, .inl (fun _ => 0))), (a58, .inr (2, [.ref a59, .int 0, .int 0])), (a59, .inl (ca 0, 24, .inl (fun _ => 0))), (a60, .inl (ca 2, 4, .inr (.inr (.inr (.inr (va_up (va_up (va_up (va_up (fun _ => none) 0 (some a64)) 1 (some a66)) 2 (some a68)) 3 (some a70))))))), (a61, .inr (5, [.ref a62, .int 0, .int 0, .int 0, .int 0, .int 0])), (a62, .inl (ca 0, 30, .inl (fun _ => 0))), (a63, .inl (ca 0, 7, .inl (fun _ => 0))), (a64, .inr (2, [.ref a65, .int 0, .int 0])), (a65, .inl (ca 0, 24, .inl (fun _ => 0))), (a66, .inr (2, [.ref a67, .int 0, .int 0])), (a67, .inl (ca 0, 24, .inl (fun _ => 0))), (a68, .inr (2, [.ref a69, .int 0, .int 0])), (a69, .inl (ca 0, 24, .inl (fun _ => 0))), (a70, .inr (2, [.ref a71, .int 0, .int 0])), (a71, .inl (ca 0, 24, .inl (fun _ => 0)))] H := hP
  have hD : va_D (fun q : Nat => s.heap.size ≤ q) [(qa, .inr (6, [.ref a1, .ref a17, .ref a33, .ref a49, .ref a51, .ref a53, .ref a56, .ref a58, .ref a60, .ref a61, .ref a63, .int 0])), (a1, .inr (1, [.ref a2, .ref a9, .ref a10, .ref a11, .ref a12, .ref a13, .ref a14, .ref a15, .ref a16, .int 0, .int 0, .int (-1 : Int32), .int (30 : Int32), .int 0, .int (1 : Int32)])), (a2, .inl (ca 1, 2, .inr (.inr (.inr (.inr (va_up (va_up (fun _ => none) 0 (some a3)) 1 (some a6))))))), (a3, .inr (4, [.int (20 : Int32), .ref a4, .ref a5, .int 0])), (a4, .inl (ca 0, 60, .inl (fun _ => 0))), (a5, .inl (ca 0, 60, .inl (fun _ => 0))), (a6, .inr (4, [.int (99 : Int32), .ref a7, .ref a8, .int 0])), (a7, .inl (ca 0, 60, .inl (fun _ => 0))), (a8, .inl (ca 0, 60, .inl (fun _ => 0))), (a9, .inl (ca 0, 6, .inl (fun _ => 0))), (a10, .inl (ca 0, 6, .inl (fun _ => 0))), (a11, .inl (ca 0, 6, .inl (fun _ => 0))), (a12, .inl (ca 0, 6, .inl (fun _ => 0))), (a13, .inl (ca 0, 6, .inl (fun _ => 0))), (a14, .inl (ca 0, 2, .inl (upd (upd (fun _ => 0) 0 (99 : Int32)) 1 (99 : Int32)))), (a15, .inl (ca 0, 6, .inl (fun _ => 0))), (a16, .inl (ca 0, 6, .inl (fun _ => 0))), (a17, .inr (1, [.ref a18, .ref a25, .ref a26, .ref a27, .ref a28, .ref a29, .ref a30, .ref a31, .ref a32, .int 0, .int 0, .int (-1 : Int32), .int (30 : Int32), .int 0, .int (1 : Int32)])), (a18, .inl (ca 1, 2, .inr (.inr (.inr (.inr (va_up (va_up (fun _ => none) 0 (some a19)) 1 (some a22))))))), (a19, .inr (4, [.int (20 : Int32), .ref a20, .ref a21, .int 0])), (a20, .inl (ca 0, 60, .inl (fun _ => 0))), (a21, .inl (ca 0, 60, .inl (fun _ => 0))), (a22, .inr (4, [.int (99 : Int32), .ref a23, .ref a24, .int 0])), (a23, .inl (ca 0, 60, .inl (fun _ => 0))), (a24, .inl (ca 0, 60, .inl (fun _ => 0))), (a25, .inl (ca 0, 6, .inl (fun _ => 0))), (a26, .inl (ca 0, 6, .inl (fun _ => 0))), (a27, .inl (ca 0, 6, .inl (fun _ => 0))), (a28, .inl (ca 0, 6, .inl (fun _ => 0))), (a29, .inl (ca 0, 6, .inl (fun _ => 0))), (a30, .inl (ca 0, 2, .inl (upd (upd (fun _ => 0) 0 (99 : Int32)) 1 (99 : Int32)))), (a31, .inl (ca 0, 6, .inl (fun _ => 0))), (a32, .inl (ca 0, 6, .inl (fun _ => 0))), (a33, .inr (1, [.ref a34, .ref a41, .ref a42, .ref a43, .ref a44, .ref a45, .ref a46, .ref a47, .ref a48, .int 0, .int 0, .int (-1 : Int32), .int (30 : Int32), .int 0, .int (1 : Int32)])), (a34, .inl (ca 1, 2, .inr (.inr (.inr (.inr (va_up (va_up (fun _ => none) 0 (some a35)) 1 (some a38))))))), (a35, .inr (4, [.int (20 : Int32), .ref a36, .ref a37, .int 0])), (a36, .inl (ca 0, 60, .inl (fun _ => 0))), (a37, .inl (ca 0, 60, .inl (fun _ => 0))), (a38, .inr (4, [.int (99 : Int32), .ref a39, .ref a40, .int 0])), (a39, .inl (ca 0, 60, .inl (fun _ => 0))), (a40, .inl (ca 0, 60, .inl (fun _ => 0))), (a41, .inl (ca 0, 6, .inl (fun _ => 0))), (a42, .inl (ca 0, 6, .inl (fun _ => 0))), (a43, .inl (ca 0, 6, .inl (fun _ => 0))), (a44, .inl (ca 0, 6, .inl (fun _ => 0))), (a45, .inl (ca 0, 6, .inl (fun _ => 0))), (a46, .inl (ca 0, 2, .inl (upd (upd (fun _ => 0) 0 (99 : Int32)) 1 (99 : Int32)))), (a47, .inl (ca 0, 6, .inl (fun _ => 0))), (a48, .inl (ca 0, 6, .inl (fun _ => 0))), (a49, .inr (3, [.ref a50, .int 0])), (a50, .inl (ca 0, 60, .inl (fun _ => 0))), (a51, .inr (3, [.ref a52, .int 0])), (a52, .inl (ca 0, 60, .inl (fun _ => 0))), (a53, .inr (0, [.ref a54, .int 0, .ref a55, .int 0, .int 0, .int 0, .int 0])), (a54, .inl (ca 0, 60, .inl (fun _ => 0))), (a55, .inl (ca 0, 60, .inl (fun _ => 0))), (a56, .inr (2, [.ref a57, .int 0, .int 0])), (a57, .inl (ca 0, 24, .inl (fun _ => 0))), (a58, .inr (2, [.ref a59, .int 0, .int 0])), (a59, .inl (ca 0, 24, .inl (fun _ => 0))), (a60, .inl (ca 2, 4, .inr (.inr (.inr (.inr (va_up (va_up (va_up (va_up (fun _ => none) 0 (some a64)) 1 (some a66)) 2 (some a68)) 3 (some a70))))))), (a61, .inr (5, [.ref a62, .int 0, .int 0, .int 0, .int 0, .int 0])), (a62, .inl (ca 0, 30, .inl (fun _ => 0))), (a63, .inl (ca 0, 7, .inl (fun _ => 0))), (a64, .inr (2, [.ref a65, .int 0, .int 0])), (a65, .inl (ca 0, 24, .inl (fun _ => 0))), (a66, .inr (2, [.ref a67, .int 0, .int 0])), (a67, .inl (ca 0, 24, .inl (fun _ => 0))), (a68, .inr (2, [.ref a69, .int 0, .int 0])), (a69, .inl (ca 0, 24, .inl (fun _ => 0))), (a70, .inr (2, [.ref a71, .int 0, .int 0])), (a71, .inl (ca 0, 24, .inl (fun _ => 0)))] := hD
  refine lv_astore_n (lv' := [(1, .ref qa), (0, .ref b)]) hx hb (dg hd_law_0 3 rfl) rfl hl (by decide) rfl (fun ls hl => ?_)
  refine va_new (ci := 7) (fs := [.null, .null, .null, .int 0, .null, .null, .null, .null, .null, .null, .null, .null, .int 0, .int 0, .int 0, .int 0, .int 0, .null, .null, .int 0, .int 0]) (C := RX7) (T := TX7) (N := 21) (Ts := lw_tbl) hx hb hts (fun w h => (List.mem_filter.mp (fcX7.1 w h)).1) tyX7 tyX7_ok hown (hts _ lx_767) (hts _ lx_768) (hts _ lx_82) hKa hP hD hS hA rfl (fun j hj => by rcases (show j = 0 ∨ j = 1 ∨ j = 2 ∨ j = 3 ∨ j = 4 ∨ j = 5 ∨ j = 6 ∨ j = 7 ∨ j = 8 ∨ j = 9 ∨ j = 10 ∨ j = 11 ∨ j = 12 ∨ j = 13 ∨ j = 14 ∨ j = 15 ∨ j = 16 ∨ j = 17 ∨ j = 18 ∨ j = 19 ∨ j = 20 by omega) with rfl | rfl | rfl | rfl | rfl | rfl | rfl | rfl | rfl | rfl | rfl | rfl | rfl | rfl | rfl | rfl | rfl | rfl | rfl | rfl | rfl <;> rfl) (Nat.le_of_ble_eq_true rfl) (Nat.le_of_ble_eq_true rfl) (dg hd_law_0 4 rfl) (fun qb H hP hD hS => ?_)
  have hP : va_P D vwCl [(qa, .inr (6, [.ref a1, .ref a17, .ref a33, .ref a49, .ref a51, .ref a53, .ref a56, .ref a58, .ref a60, .ref a61, .ref a63, .int 0])), (a1, .inr (1, [.ref a2, .ref a9, .ref a10, .ref a11, .ref a12, .ref a13, .ref a14, .ref a15, .ref a16, .int 0, .int 0, .int (-1 : Int32), .int (30 : Int32), .int 0, .int (1 : Int32)])), (a2, .inl (ca 1, 2, .inr (.inr (.inr (.inr (va_up (va_up (fun _ => none) 0 (some a3)) 1 (some a6))))))), (a3, .inr (4, [.int (20 : Int32), .ref a4, .ref a5, .int 0])), (a4, .inl (ca 0, 60, .inl (fun _ => 0))), (a5, .inl (ca 0, 60, .inl (fun _ => 0))), (a6, .inr (4, [.int (99 : Int32), .ref a7, .ref a8, .int 0])), (a7, .inl (ca 0, 60, .inl (fun _ => 0))), (a8, .inl (ca 0, 60, .inl (fun _ => 0))), (a9, .inl (ca 0, 6, .inl (fun _ => 0))), (a10, .inl (ca 0, 6, .inl (fun _ => 0))), (a11, .inl (ca 0, 6, .inl (fun _ => 0))), (a12, .inl (ca 0, 6, .inl (fun _ => 0))), (a13, .inl (ca 0, 6, .inl (fun _ => 0))), (a14, .inl (ca 0, 2, .inl (upd (upd (fun _ => 0) 0 (99 : Int32)) 1 (99 : Int32)))), (a15, .inl (ca 0, 6, .inl (fun _ => 0))), (a16, .inl (ca 0, 6, .inl (fun _ => 0))), (a17, .inr (1, [.ref a18, .ref a25, .ref a26, .ref a27, .ref a28, .ref a29, .ref a30, .ref a31, .ref a32, .int 0, .int 0, .int (-1 : Int32), .int (30 : Int32), .int 0, .int (1 : Int32)])), (a18, .inl (ca 1, 2, .inr (.inr (.inr (.inr (va_up (va_up (fun _ => none) 0 (some a19)) 1 (some a22))))))), (a19, .inr (4, [.int (20 : Int32), .ref a20, .ref a21, .int 0])), (a20, .inl (ca 0, 60, .inl (fun _ => 0))), (a21, .inl (ca 0, 60, .inl (fun _ => 0))), (a22, .inr (4, [.int (99 : Int32), .ref a23, .ref a24, .int 0])), (a23, .inl (ca 0, 60, .inl (fun _ => 0))), (a24, .inl (ca 0, 60, .inl (fun _ => 0))), (a25, .inl (ca 0, 6, .inl (fun _ => 0))), (a26, .inl (ca 0, 6, .inl (fun _ => 0))), (a27, .inl (ca 0, 6, .inl (fun _ => 0))), (a28, .inl (ca 0, 6, .inl (fun _ => 0))), (a29, .inl (ca 0, 6, .inl (fun _ => 0))), (a30, .inl (ca 0, 2, .inl (upd (upd (fun _ => 0) 0 (99 : Int32)) 1 (99 : Int32)))), (a31, .inl (ca 0, 6, .inl (fun _ => 0))), (a32, .inl (ca 0, 6, .inl (fun _ => 0))), (a33, .inr (1, [.ref a34, .ref a41, .ref a42, .ref a43, .ref a44, .ref a45, .ref a46, .ref a47, .ref a48, .int 0, .int 0, .int (-1 : Int32), .int (30 : Int32), .int 0, .int (1 : Int32)])), (a34, .inl (ca 1, 2, .inr (.inr (.inr (.inr (va_up (va_up (fun _ => none) 0 (some a35)) 1 (some a38))))))), (a35, .inr (4, [.int (20 : Int32), .ref a36, .ref a37, .int 0])), (a36, .inl (ca 0, 60, .inl (fun _ => 0))), (a37, .inl (ca 0, 60, .inl (fun _ => 0))), (a38, .inr (4, [.int (99 : Int32), .ref a39, .ref a40, .int 0])), (a39, .inl (ca 0, 60, .inl (fun _ => 0))), (a40, .inl (ca 0, 60, .inl (fun _ => 0))), (a41, .inl (ca 0, 6, .inl (fun _ => 0))), (a42, .inl (ca 0, 6, .inl (fun _ => 0))), (a43, .inl (ca 0, 6, .inl (fun _ => 0))), (a44, .inl (ca 0, 6, .inl (fun _ => 0))), (a45, .inl (ca 0, 6, .inl (fun _ => 0))), (a46, .inl (ca 0, 2, .inl (upd (upd (fun _ => 0) 0 (99 : Int32)) 1 (99 : Int32)))), (a47, .inl (ca 0, 6, .inl (fun _ => 0))), (a48, .inl (ca 0, 6, .inl (fun _ => 0))), (a49, .inr (3, [.ref a50, .int 0])), (a50, .inl (ca 0, 60, .inl (fun _ => 0))), (a51, .inr (3, [.ref a52, .int 0])), (a52, .inl (ca 0, 60, .inl (fun _ => 0))), (a53, .inr (0, [.ref a54, .int 0, .ref a55, .int 0, .int 0, .int 0, .int 0])), (a54, .inl (ca 0, 60, .inl (fun _ => 0))), (a55, .inl (ca 0, 60, .inl (fun _ => 0))), (a56, .inr (2, [.ref a57, .int 0, .int 0])), (a57, .inl (ca 0, 24, .inl (fun _ => 0))), (a58, .inr (2, [.ref a59, .int 0, .int 0])), (a59, .inl (ca 0, 24, .inl (fun _ => 0))), (a60, .inl (ca 2, 4, .inr (.inr (.inr (.inr (va_up (va_up (va_up (va_up (fun _ => none) 0 (some a64)) 1 (some a66)) 2 (some a68)) 3 (some a70))))))), (a61, .inr (5, [.ref a62, .int 0, .int 0, .int 0, .int 0, .int 0])), (a62, .inl (ca 0, 30, .inl (fun _ => 0))), (a63, .inl (ca 0, 7, .inl (fun _ => 0))), (a64, .inr (2, [.ref a65, .int 0, .int 0])), (a65, .inl (ca 0, 24, .inl (fun _ => 0))), (a66, .inr (2, [.ref a67, .int 0, .int 0])), (a67, .inl (ca 0, 24, .inl (fun _ => 0))), (a68, .inr (2, [.ref a69, .int 0, .int 0])), (a69, .inl (ca 0, 24, .inl (fun _ => 0))), (a70, .inr (2, [.ref a71, .int 0, .int 0])), (a71, .inl (ca 0, 24, .inl (fun _ => 0))), (qb, .inr (7, [.null, .null, .null, .int 0, .null, .null, .null, .null, .null, .null, .null, .null, .int 0, .int 0, .int 0, .int 0, .int 0, .null, .null, .int 0, .int 0]))] H := hP
  have hD : va_D (fun q : Nat => s.heap.size ≤ q) [(qa, .inr (6, [.ref a1, .ref a17, .ref a33, .ref a49, .ref a51, .ref a53, .ref a56, .ref a58, .ref a60, .ref a61, .ref a63, .int 0])), (a1, .inr (1, [.ref a2, .ref a9, .ref a10, .ref a11, .ref a12, .ref a13, .ref a14, .ref a15, .ref a16, .int 0, .int 0, .int (-1 : Int32), .int (30 : Int32), .int 0, .int (1 : Int32)])), (a2, .inl (ca 1, 2, .inr (.inr (.inr (.inr (va_up (va_up (fun _ => none) 0 (some a3)) 1 (some a6))))))), (a3, .inr (4, [.int (20 : Int32), .ref a4, .ref a5, .int 0])), (a4, .inl (ca 0, 60, .inl (fun _ => 0))), (a5, .inl (ca 0, 60, .inl (fun _ => 0))), (a6, .inr (4, [.int (99 : Int32), .ref a7, .ref a8, .int 0])), (a7, .inl (ca 0, 60, .inl (fun _ => 0))), (a8, .inl (ca 0, 60, .inl (fun _ => 0))), (a9, .inl (ca 0, 6, .inl (fun _ => 0))), (a10, .inl (ca 0, 6, .inl (fun _ => 0))), (a11, .inl (ca 0, 6, .inl (fun _ => 0))), (a12, .inl (ca 0, 6, .inl (fun _ => 0))), (a13, .inl (ca 0, 6, .inl (fun _ => 0))), (a14, .inl (ca 0, 2, .inl (upd (upd (fun _ => 0) 0 (99 : Int32)) 1 (99 : Int32)))), (a15, .inl (ca 0, 6, .inl (fun _ => 0))), (a16, .inl (ca 0, 6, .inl (fun _ => 0))), (a17, .inr (1, [.ref a18, .ref a25, .ref a26, .ref a27, .ref a28, .ref a29, .ref a30, .ref a31, .ref a32, .int 0, .int 0, .int (-1 : Int32), .int (30 : Int32), .int 0, .int (1 : Int32)])), (a18, .inl (ca 1, 2, .inr (.inr (.inr (.inr (va_up (va_up (fun _ => none) 0 (some a19)) 1 (some a22))))))), (a19, .inr (4, [.int (20 : Int32), .ref a20, .ref a21, .int 0])), (a20, .inl (ca 0, 60, .inl (fun _ => 0))), (a21, .inl (ca 0, 60, .inl (fun _ => 0))), (a22, .inr (4, [.int (99 : Int32), .ref a23, .ref a24, .int 0])), (a23, .inl (ca 0, 60, .inl (fun _ => 0))), (a24, .inl (ca 0, 60, .inl (fun _ => 0))), (a25, .inl (ca 0, 6, .inl (fun _ => 0))), (a26, .inl (ca 0, 6, .inl (fun _ => 0))), (a27, .inl (ca 0, 6, .inl (fun _ => 0))), (a28, .inl (ca 0, 6, .inl (fun _ => 0))), (a29, .inl (ca 0, 6, .inl (fun _ => 0))), (a30, .inl (ca 0, 2, .inl (upd (upd (fun _ => 0) 0 (99 : Int32)) 1 (99 : Int32)))), (a31, .inl (ca 0, 6, .inl (fun _ => 0))), (a32, .inl (ca 0, 6, .inl (fun _ => 0))), (a33, .inr (1, [.ref a34, .ref a41, .ref a42, .ref a43, .ref a44, .ref a45, .ref a46, .ref a47, .ref a48, .int 0, .int 0, .int (-1 : Int32), .int (30 : Int32), .int 0, .int (1 : Int32)])), (a34, .inl (ca 1, 2, .inr (.inr (.inr (.inr (va_up (va_up (fun _ => none) 0 (some a35)) 1 (some a38))))))), (a35, .inr (4, [.int (20 : Int32), .ref a36, .ref a37, .int 0])), (a36, .inl (ca 0, 60, .inl (fun _ => 0))), (a37, .inl (ca 0, 60, .inl (fun _ => 0))), (a38, .inr (4, [.int (99 : Int32), .ref a39, .ref a40, .int 0])), (a39, .inl (ca 0, 60, .inl (fun _ => 0))), (a40, .inl (ca 0, 60, .inl (fun _ => 0))), (a41, .inl (ca 0, 6, .inl (fun _ => 0))), (a42, .inl (ca 0, 6, .inl (fun _ => 0))), (a43, .inl (ca 0, 6, .inl (fun _ => 0))), (a44, .inl (ca 0, 6, .inl (fun _ => 0))), (a45, .inl (ca 0, 6, .inl (fun _ => 0))), (a46, .inl (ca 0, 2, .inl (upd (upd (fun _ => 0) 0 (99 : Int32)) 1 (99 : Int32)))), (a47, .inl (ca 0, 6, .inl (fun _ => 0))), (a48, .inl (ca 0, 6, .inl (fun _ => 0))), (a49, .inr (3, [.ref a50, .int 0])), (a50, .inl (ca 0, 60, .inl (fun _ => 0))), (a51, .inr (3, [.ref a52, .int 0])), (a52, .inl (ca 0, 60, .inl (fun _ => 0))), (a53, .inr (0, [.ref a54, .int 0, .ref a55, .int 0, .int 0, .int 0, .int 0])), (a54, .inl (ca 0, 60, .inl (fun _ => 0))), (a55, .inl (ca 0, 60, .inl (fun _ => 0))), (a56, .inr (2, [.ref a57, .int 0, .int 0])), (a57, .inl (ca 0, 24, .inl (fun _ => 0))), (a58, .inr (2, [.ref a59, .int 0, .int 0])), (a59, .inl (ca 0, 24, .inl (fun _ => 0))), (a60, .inl (ca 2, 4, .inr (.inr (.inr (.inr (va_up (va_up (va_up (va_up (fun _ => none) 0 (some a64)) 1 (some a66)) 2 (some a68)) 3 (some a70))))))), (a61, .inr (5, [.ref a62, .int 0, .int 0, .int 0, .int 0, .int 0])), (a62, .inl (ca 0, 30, .inl (fun _ => 0))), (a63, .inl (ca 0, 7, .inl (fun _ => 0))), (a64, .inr (2, [.ref a65, .int 0, .int 0])), (a65, .inl (ca 0, 24, .inl (fun _ => 0))), (a66, .inr (2, [.ref a67, .int 0, .int 0])), (a67, .inl (ca 0, 24, .inl (fun _ => 0))), (a68, .inr (2, [.ref a69, .int 0, .int 0])), (a69, .inl (ca 0, 24, .inl (fun _ => 0))), (a70, .inr (2, [.ref a71, .int 0, .int 0])), (a71, .inl (ca 0, 24, .inl (fun _ => 0))), (qb, .inr (7, [.null, .null, .null, .int 0, .null, .null, .null, .null, .null, .null, .null, .null, .int 0, .int 0, .int 0, .int 0, .int 0, .null, .null, .int 0, .int 0]))] := hD
  refine lv_dup hx hb (dg hd_law_0 5 rfl) rfl ?_
  have hPc := hP.sub (ws' := [(qb, .inr (7, [.null, .null, .null, .int 0, .null, .null, .null, .null, .null, .null, .null, .null, .int 0, .int 0, .int 0, .int 0, .int 0, .null, .null, .int 0, .int 0]))]) [72] rfl
  have hDc := hD.sub (ws' := [(qb, .inr (7, [.null, .null, .null, .int 0, .null, .null, .null, .null, .null, .null, .null, .null, .int 0, .int 0, .int 0, .int 0, .int 0, .null, .null, .int 0, .int 0]))]) [72] (by decide) rfl
  have hFc := va_free (wc := [(qb, .inr (7, [.null, .null, .null, .int 0, .null, .null, .null, .null, .null, .null, .null, .null, .int 0, .int 0, .int 0, .int 0, .int 0, .null, .null, .int 0, .int 0]))]) hD hS hA [72] rfl
  refine va_callv (va_runI (As := []) (rest := [.ref qb]) ⟨hx, hb, hml, hown, hts⟩ (c_Mo l D ca qb H.size) (cwI (Ts := lw_tbl) 0 hts (fun w h => ⟨(List.mem_filter.mp (mws_in (cd := mdI_Mo) lg_771 w h).1).1, (mws_in (cd := mdI_Mo) lg_771 w h).2⟩) rfl rfl rfl (hts _ lx_82) (hts _ lx_769) (hts _ lx_770) rfl ⟨by decide +kernel, by decide +kernel, by decide +kernel⟩ ⟨Nat.le_of_ble_eq_true rfl, Nat.le_of_ble_eq_true rfl⟩) ⟨ck_blind, fun U hU hW => ⟨rfl, by rw [hU], by rw [hU]; exact hPc, hK.warm hW, hDc.weaken (fun _ _ _ _ => trivial)⟩⟩ rfl rfl hl.1 rfl (lv_room (Nat.le_of_ble_eq_true rfl)) (dg hd_law_0 6 rfl) ⟨Nat.le_of_ble_eq_true rfl, Nat.le_of_ble_eq_true rfl⟩) hS (fun q _ h => hFc q h) hFc (fun u t H1 locs ht hvm hw hB hz1 hk1 hS => ?_)
  obtain ⟨b1, b2, b3, b4, b5, b6, b7, b8, b9, b10, b11, b12, b13, hP1, hD1⟩ := hB
  rw [ht] at hP1
  obtain ⟨hP, hD⟩ := va_join (wr := [(qa, .inr (6, [.ref a1, .ref a17, .ref a33, .ref a49, .ref a51, .ref a53, .ref a56, .ref a58, .ref a60, .ref a61, .ref a63, .int 0])), (a1, .inr (1, [.ref a2, .ref a9, .ref a10, .ref a11, .ref a12, .ref a13, .ref a14, .ref a15, .ref a16, .int 0, .int 0, .int (-1 : Int32), .int (30 : Int32), .int 0, .int (1 : Int32)])), (a2, .inl (ca 1, 2, .inr (.inr (.inr (.inr (va_up (va_up (fun _ => none) 0 (some a3)) 1 (some a6))))))), (a3, .inr (4, [.int (20 : Int32), .ref a4, .ref a5, .int 0])), (a4, .inl (ca 0, 60, .inl (fun _ => 0))), (a5, .inl (ca 0, 60, .inl (fun _ => 0))), (a6, .inr (4, [.int (99 : Int32), .ref a7, .ref a8, .int 0])), (a7, .inl (ca 0, 60, .inl (fun _ => 0))), (a8, .inl (ca 0, 60, .inl (fun _ => 0))), (a9, .inl (ca 0, 6, .inl (fun _ => 0))), (a10, .inl (ca 0, 6, .inl (fun _ => 0))), (a11, .inl (ca 0, 6, .inl (fun _ => 0))), (a12, .inl (ca 0, 6, .inl (fun _ => 0))), (a13, .inl (ca 0, 6, .inl (fun _ => 0))), (a14, .inl (ca 0, 2, .inl (upd (upd (fun _ => 0) 0 (99 : Int32)) 1 (99 : Int32)))), (a15, .inl (ca 0, 6, .inl (fun _ => 0))), (a16, .inl (ca 0, 6, .inl (fun _ => 0))), (a17, .inr (1, [.ref a18, .ref a25, .ref a26, .ref a27, .ref a28, .ref a29, .ref a30, .ref a31, .ref a32, .int 0, .int 0, .int (-1 : Int32), .int (30 : Int32), .int 0, .int (1 : Int32)])), (a18, .inl (ca 1, 2, .inr (.inr (.inr (.inr (va_up (va_up (fun _ => none) 0 (some a19)) 1 (some a22))))))), (a19, .inr (4, [.int (20 : Int32), .ref a20, .ref a21, .int 0])), (a20, .inl (ca 0, 60, .inl (fun _ => 0))), (a21, .inl (ca 0, 60, .inl (fun _ => 0))), (a22, .inr (4, [.int (99 : Int32), .ref a23, .ref a24, .int 0])), (a23, .inl (ca 0, 60, .inl (fun _ => 0))), (a24, .inl (ca 0, 60, .inl (fun _ => 0))), (a25, .inl (ca 0, 6, .inl (fun _ => 0))), (a26, .inl (ca 0, 6, .inl (fun _ => 0))), (a27, .inl (ca 0, 6, .inl (fun _ => 0))), (a28, .inl (ca 0, 6, .inl (fun _ => 0))), (a29, .inl (ca 0, 6, .inl (fun _ => 0))), (a30, .inl (ca 0, 2, .inl (upd (upd (fun _ => 0) 0 (99 : Int32)) 1 (99 : Int32)))), (a31, .inl (ca 0, 6, .inl (fun _ => 0))), (a32, .inl (ca 0, 6, .inl (fun _ => 0))), (a33, .inr (1, [.ref a34, .ref a41, .ref a42, .ref a43, .ref a44, .ref a45, .ref a46, .ref a47, .ref a48, .int 0, .int 0, .int (-1 : Int32), .int (30 : Int32), .int 0, .int (1 : Int32)])), (a34, .inl (ca 1, 2, .inr (.inr (.inr (.inr (va_up (va_up (fun _ => none) 0 (some a35)) 1 (some a38))))))), (a35, .inr (4, [.int (20 : Int32), .ref a36, .ref a37, .int 0])), (a36, .inl (ca 0, 60, .inl (fun _ => 0))), (a37, .inl (ca 0, 60, .inl (fun _ => 0))), (a38, .inr (4, [.int (99 : Int32), .ref a39, .ref a40, .int 0])), (a39, .inl (ca 0, 60, .inl (fun _ => 0))), (a40, .inl (ca 0, 60, .inl (fun _ => 0))), (a41, .inl (ca 0, 6, .inl (fun _ => 0))), (a42, .inl (ca 0, 6, .inl (fun _ => 0))), (a43, .inl (ca 0, 6, .inl (fun _ => 0))), (a44, .inl (ca 0, 6, .inl (fun _ => 0))), (a45, .inl (ca 0, 6, .inl (fun _ => 0))), (a46, .inl (ca 0, 2, .inl (upd (upd (fun _ => 0) 0 (99 : Int32)) 1 (99 : Int32)))), (a47, .inl (ca 0, 6, .inl (fun _ => 0))), (a48, .inl (ca 0, 6, .inl (fun _ => 0))), (a49, .inr (3, [.ref a50, .int 0])), (a50, .inl (ca 0, 60, .inl (fun _ => 0))), (a51, .inr (3, [.ref a52, .int 0])), (a52, .inl (ca 0, 60, .inl (fun _ => 0))), (a53, .inr (0, [.ref a54, .int 0, .ref a55, .int 0, .int 0, .int 0, .int 0])), (a54, .inl (ca 0, 60, .inl (fun _ => 0))), (a55, .inl (ca 0, 60, .inl (fun _ => 0))), (a56, .inr (2, [.ref a57, .int 0, .int 0])), (a57, .inl (ca 0, 24, .inl (fun _ => 0))), (a58, .inr (2, [.ref a59, .int 0, .int 0])), (a59, .inl (ca 0, 24, .inl (fun _ => 0))), (a60, .inl (ca 2, 4, .inr (.inr (.inr (.inr (va_up (va_up (va_up (va_up (fun _ => none) 0 (some a64)) 1 (some a66)) 2 (some a68)) 3 (some a70))))))), (a61, .inr (5, [.ref a62, .int 0, .int 0, .int 0, .int 0, .int 0])), (a62, .inl (ca 0, 30, .inl (fun _ => 0))), (a63, .inl (ca 0, 7, .inl (fun _ => 0))), (a64, .inr (2, [.ref a65, .int 0, .int 0])), (a65, .inl (ca 0, 24, .inl (fun _ => 0))), (a66, .inr (2, [.ref a67, .int 0, .int 0])), (a67, .inl (ca 0, 24, .inl (fun _ => 0))), (a68, .inr (2, [.ref a69, .int 0, .int 0])), (a69, .inl (ca 0, 24, .inl (fun _ => 0))), (a70, .inr (2, [.ref a71, .int 0, .int 0])), (a71, .inl (ca 0, 24, .inl (fun _ => 0)))]) (w1 := [(qb, .inr (7, [.ref b1, .ref b2, .ref b3, .int 0, .ref b4, .ref b5, .ref b6, .ref b7, .ref b8, .ref b9, .ref b10, .ref b11, .int 0, .int 0, .int 0, .int 0, .int 0, .ref b12, .ref b13, .int 0, .int 0])), (b1, .inl (ca 0, 366, .inl (upd (upd (upd (upd (upd (fun _ => 0) 1 (1 : Int32)) 3 (-1 : Int32)) 5 (99 : Int32)) 6 (99 : Int32)) 7 (30 : Int32)))), (b2, .inl (ca 0, 366, .inl (fun _ => 0))), (b3, .inl (ca 0, 366, .inl (fun _ => 0))), (b4, .inl (ca 0, 7, .inl (fun _ => 0))), (b5, .inl (ca 0, 4, .inl (fun _ => 0))), (b6, .inl (ca 0, 4, .inl (fun _ => 0))), (b7, .inl (ca 0, 96, .inl (fun _ => 0))), (b8, .inl (ca 0, 60, .inl (fun _ => 0))), (b9, .inl (ca 0, 60, .inl (fun _ => 0))), (b10, .inl (ca 0, 3, .inl (fun _ => 0))), (b11, .inl (ca 0, 60, .inl (fun _ => 0))), (b12, .inl (ca 0, 6, .inl (fun _ => 0))), (b13, .inl (ca 0, 30, .inl (fun _ => 0)))]) hP hD [72] [0, 1, 2, 3, 4, 5, 6, 7, 8, 9, 10, 11, 12, 13, 14, 15, 16, 17, 18, 19, 20, 21, 22, 23, 24, 25, 26, 27, 28, 29, 30, 31, 32, 33, 34, 35, 36, 37, 38, 39, 40, 41, 42, 43, 44, 45, 46, 47, 48, 49, 50, 51, 52, 53, 54, 55, 56, 57, 58, 59, 60, 61, 62, 63, 64, 65, 66, 67, 68, 69, 70, 71] rfl rfl (by decide) (by decide) hk1 hFc hP1 hD1
  generalize H1 = H at hP hS ⊢
  have hP : va_P D vwCl [(qa, .inr (6, [.ref a1, .ref a17, .ref a33, .ref a49, .ref a51, .ref a53, .ref a56, .ref a58, .ref a60, .ref a61, .ref a63, .int 0])), (a1, .inr (1, [.ref a2, .ref a9, .ref a10, .ref a11, .ref a12, .ref a13, .ref a14, .ref a15, .ref a16, .int 0, .int 0, .int (-1 : Int32), .int (30 : Int32), .int 0, .int (1 : Int32)])), (a2, .inl (ca 1, 2, .inr (.inr (.inr (.inr (va_up (va_up (fun _ => none) 0 (some a3)) 1 (some a6))))))), (a3, .inr (4, [.int (20 : Int32), .ref a4, .ref a5, .int 0])), (a4, .inl (ca 0, 60, .inl (fun _ => 0))), (a5, .inl (ca 0, 60, .inl (fun _ => 0))), (a6, .inr (4, [.int (99 : Int32), .ref a7, .ref a8, .int 0])), (a7, .inl (ca 0, 60, .inl (fun _ => 0))), (a8, .inl (ca 0, 60, .inl (fun _ => 0))), (a9, .inl (ca 0, 6, .inl (fun _ => 0))), (a10, .inl (ca 0, 6, .inl (fun _ => 0))), (a11, .inl (ca 0, 6, .inl (fun _ => 0))), (a12, .inl (ca 0, 6, .inl (fun _ => 0))), (a13, .inl (ca 0, 6, .inl (fun _ => 0))), (a14, .inl (ca 0, 2, .inl (upd (upd (fun _ => 0) 0 (99 : Int32)) 1 (99 : Int32)))), (a15, .inl (ca 0, 6, .inl (fun _ => 0))), (a16, .inl (ca 0, 6, .inl (fun _ => 0))), (a17, .inr (1, [.ref a18, .ref a25, .ref a26, .ref a27, .ref a28, .ref a29, .ref a30, .ref a31, .ref a32, .int 0, .int 0, .int (-1 : Int32), .int (30 : Int32), .int 0, .int (1 : Int32)])), (a18, .inl (ca 1, 2, .inr (.inr (.inr (.inr (va_up (va_up (fun _ => none) 0 (some a19)) 1 (some a22))))))), (a19, .inr (4, [.int (20 : Int32), .ref a20, .ref a21, .int 0])), (a20, .inl (ca 0, 60, .inl (fun _ => 0))), (a21, .inl (ca 0, 60, .inl (fun _ => 0))), (a22, .inr (4, [.int (99 : Int32), .ref a23, .ref a24, .int 0])), (a23, .inl (ca 0, 60, .inl (fun _ => 0))), (a24, .inl (ca 0, 60, .inl (fun _ => 0))), (a25, .inl (ca 0, 6, .inl (fun _ => 0))), (a26, .inl (ca 0, 6, .inl (fun _ => 0))), (a27, .inl (ca 0, 6, .inl (fun _ => 0))), (a28, .inl (ca 0, 6, .inl (fun _ => 0))), (a29, .inl (ca 0, 6, .inl (fun _ => 0))), (a30, .inl (ca 0, 2, .inl (upd (upd (fun _ => 0) 0 (99 : Int32)) 1 (99 : Int32)))), (a31, .inl (ca 0, 6, .inl (fun _ => 0))), (a32, .inl (ca 0, 6, .inl (fun _ => 0))), (a33, .inr (1, [.ref a34, .ref a41, .ref a42, .ref a43, .ref a44, .ref a45, .ref a46, .ref a47, .ref a48, .int 0, .int 0, .int (-1 : Int32), .int (30 : Int32), .int 0, .int (1 : Int32)])), (a34, .inl (ca 1, 2, .inr (.inr (.inr (.inr (va_up (va_up (fun _ => none) 0 (some a35)) 1 (some a38))))))), (a35, .inr (4, [.int (20 : Int32), .ref a36, .ref a37, .int 0])), (a36, .inl (ca 0, 60, .inl (fun _ => 0))), (a37, .inl (ca 0, 60, .inl (fun _ => 0))), (a38, .inr (4, [.int (99 : Int32), .ref a39, .ref a40, .int 0])), (a39, .inl (ca 0, 60, .inl (fun _ => 0))), (a40, .inl (ca 0, 60, .inl (fun _ => 0))), (a41, .inl (ca 0, 6, .inl (fun _ => 0))), (a42, .inl (ca 0, 6, .inl (fun _ => 0))), (a43, .inl (ca 0, 6, .inl (fun _ => 0))), (a44, .inl (ca 0, 6, .inl (fun _ => 0))), (a45, .inl (ca 0, 6, .inl (fun _ => 0))), (a46, .inl (ca 0, 2, .inl (upd (upd (fun _ => 0) 0 (99 : Int32)) 1 (99 : Int32)))), (a47, .inl (ca 0, 6, .inl (fun _ => 0))), (a48, .inl (ca 0, 6, .inl (fun _ => 0))), (a49, .inr (3, [.ref a50, .int 0])), (a50, .inl (ca 0, 60, .inl (fun _ => 0))), (a51, .inr (3, [.ref a52, .int 0])), (a52, .inl (ca 0, 60, .inl (fun _ => 0))), (a53, .inr (0, [.ref a54, .int 0, .ref a55, .int 0, .int 0, .int 0, .int 0])), (a54, .inl (ca 0, 60, .inl (fun _ => 0))), (a55, .inl (ca 0, 60, .inl (fun _ => 0))), (a56, .inr (2, [.ref a57, .int 0, .int 0])), (a57, .inl (ca 0, 24, .inl (fun _ => 0))), (a58, .inr (2, [.ref a59, .int 0, .int 0])), (a59, .inl (ca 0, 24, .inl (fun _ => 0))), (a60, .inl (ca 2, 4, .inr (.inr (.inr (.inr (va_up (va_up (va_up (va_up (fun _ => none) 0 (some a64)) 1 (some a66)) 2 (some a68)) 3 (some a70))))))), (a61, .inr (5, [.ref a62, .int 0, .int 0, .int 0, .int 0, .int 0])), (a62, .inl (ca 0, 30, .inl (fun _ => 0))), (a63, .inl (ca 0, 7, .inl (fun _ => 0))), (a64, .inr (2, [.ref a65, .int 0, .int 0])), (a65, .inl (ca 0, 24, .inl (fun _ => 0))), (a66, .inr (2, [.ref a67, .int 0, .int 0])), (a67, .inl (ca 0, 24, .inl (fun _ => 0))), (a68, .inr (2, [.ref a69, .int 0, .int 0])), (a69, .inl (ca 0, 24, .inl (fun _ => 0))), (a70, .inr (2, [.ref a71, .int 0, .int 0])), (a71, .inl (ca 0, 24, .inl (fun _ => 0))), (qb, .inr (7, [.ref b1, .ref b2, .ref b3, .int 0, .ref b4, .ref b5, .ref b6, .ref b7, .ref b8, .ref b9, .ref b10, .ref b11, .int 0, .int 0, .int 0, .int 0, .int 0, .ref b12, .ref b13, .int 0, .int 0])), (b1, .inl (ca 0, 366, .inl (upd (upd (upd (upd (upd (fun _ => 0) 1 (1 : Int32)) 3 (-1 : Int32)) 5 (99 : Int32)) 6 (99 : Int32)) 7 (30 : Int32)))), (b2, .inl (ca 0, 366, .inl (fun _ => 0))), (b3, .inl (ca 0, 366, .inl (fun _ => 0))), (b4, .inl (ca 0, 7, .inl (fun _ => 0))), (b5, .inl (ca 0, 4, .inl (fun _ => 0))), (b6, .inl (ca 0, 4, .inl (fun _ => 0))), (b7, .inl (ca 0, 96, .inl (fun _ => 0))), (b8, .inl (ca 0, 60, .inl (fun _ => 0))), (b9, .inl (ca 0, 60, .inl (fun _ => 0))), (b10, .inl (ca 0, 3, .inl (fun _ => 0))), (b11, .inl (ca 0, 60, .inl (fun _ => 0))), (b12, .inl (ca 0, 6, .inl (fun _ => 0))), (b13, .inl (ca 0, 30, .inl (fun _ => 0)))] H := hP
  have hD : va_D (fun q : Nat => s.heap.size ≤ q) [(qa, .inr (6, [.ref a1, .ref a17, .ref a33, .ref a49, .ref a51, .ref a53, .ref a56, .ref a58, .ref a60, .ref a61, .ref a63, .int 0])), (a1, .inr (1, [.ref a2, .ref a9, .ref a10, .ref a11, .ref a12, .ref a13, .ref a14, .ref a15, .ref a16, .int 0, .int 0, .int (-1 : Int32), .int (30 : Int32), .int 0, .int (1 : Int32)])), (a2, .inl (ca 1, 2, .inr (.inr (.inr (.inr (va_up (va_up (fun _ => none) 0 (some a3)) 1 (some a6))))))), (a3, .inr (4, [.int (20 : Int32), .ref a4, .ref a5, .int 0])), (a4, .inl (ca 0, 60, .inl (fun _ => 0))), (a5, .inl (ca 0, 60, .inl (fun _ => 0))), (a6, .inr (4, [.int (99 : Int32), .ref a7, .ref a8, .int 0])), (a7, .inl (ca 0, 60, .inl (fun _ => 0))), (a8, .inl (ca 0, 60, .inl (fun _ => 0))), (a9, .inl (ca 0, 6, .inl (fun _ => 0))), (a10, .inl (ca 0, 6, .inl (fun _ => 0))), (a11, .inl (ca 0, 6, .inl (fun _ => 0))), (a12, .inl (ca 0, 6, .inl (fun _ => 0))), (a13, .inl (ca 0, 6, .inl (fun _ => 0))), (a14, .inl (ca 0, 2, .inl (upd (upd (fun _ => 0) 0 (99 : Int32)) 1 (99 : Int32)))), (a15, .inl (ca 0, 6, .inl (fun _ => 0))), (a16, .inl (ca 0, 6, .inl (fun _ => 0))), (a17, .inr (1, [.ref a18, .ref a25, .ref a26, .ref a27, .ref a28, .ref a29, .ref a30, .ref a31, .ref a32, .int 0, .int 0, .int (-1 : Int32), .int (30 : Int32), .int 0, .int (1 : Int32)])), (a18, .inl (ca 1, 2, .inr (.inr (.inr (.inr (va_up (va_up (fun _ => none) 0 (some a19)) 1 (some a22))))))), (a19, .inr (4, [.int (20 : Int32), .ref a20, .ref a21, .int 0])), (a20, .inl (ca 0, 60, .inl (fun _ => 0))), (a21, .inl (ca 0, 60, .inl (fun _ => 0))), (a22, .inr (4, [.int (99 : Int32), .ref a23, .ref a24, .int 0])), (a23, .inl (ca 0, 60, .inl (fun _ => 0))), (a24, .inl (ca 0, 60, .inl (fun _ => 0))), (a25, .inl (ca 0, 6, .inl (fun _ => 0))), (a26, .inl (ca 0, 6, .inl (fun _ => 0))), (a27, .inl (ca 0, 6, .inl (fun _ => 0))), (a28, .inl (ca 0, 6, .inl (fun _ => 0))), (a29, .inl (ca 0, 6, .inl (fun _ => 0))), (a30, .inl (ca 0, 2, .inl (upd (upd (fun _ => 0) 0 (99 : Int32)) 1 (99 : Int32)))), (a31, .inl (ca 0, 6, .inl (fun _ => 0))), (a32, .inl (ca 0, 6, .inl (fun _ => 0))), (a33, .inr (1, [.ref a34, .ref a41, .ref a42, .ref a43, .ref a44, .ref a45, .ref a46, .ref a47, .ref a48, .int 0, .int 0, .int (-1 : Int32), .int (30 : Int32), .int 0, .int (1 : Int32)])), (a34, .inl (ca 1, 2, .inr (.inr (.inr (.inr (va_up (va_up (fun _ => none) 0 (some a35)) 1 (some a38))))))), (a35, .inr (4, [.int (20 : Int32), .ref a36, .ref a37, .int 0])), (a36, .inl (ca 0, 60, .inl (fun _ => 0))), (a37, .inl (ca 0, 60, .inl (fun _ => 0))), (a38, .inr (4, [.int (99 : Int32), .ref a39, .ref a40, .int 0])), (a39, .inl (ca 0, 60, .inl (fun _ => 0))), (a40, .inl (ca 0, 60, .inl (fun _ => 0))), (a41, .inl (ca 0, 6, .inl (fun _ => 0))), (a42, .inl (ca 0, 6, .inl (fun _ => 0))), (a43, .inl (ca 0, 6, .inl (fun _ => 0))), (a44, .inl (ca 0, 6, .inl (fun _ => 0))), (a45, .inl (ca 0, 6, .inl (fun _ => 0))), (a46, .inl (ca 0, 2, .inl (upd (upd (fun _ => 0) 0 (99 : Int32)) 1 (99 : Int32)))), (a47, .inl (ca 0, 6, .inl (fun _ => 0))), (a48, .inl (ca 0, 6, .inl (fun _ => 0))), (a49, .inr (3, [.ref a50, .int 0])), (a50, .inl (ca 0, 60, .inl (fun _ => 0))), (a51, .inr (3, [.ref a52, .int 0])), (a52, .inl (ca 0, 60, .inl (fun _ => 0))), (a53, .inr (0, [.ref a54, .int 0, .ref a55, .int 0, .int 0, .int 0, .int 0])), (a54, .inl (ca 0, 60, .inl (fun _ => 0))), (a55, .inl (ca 0, 60, .inl (fun _ => 0))), (a56, .inr (2, [.ref a57, .int 0, .int 0])), (a57, .inl (ca 0, 24, .inl (fun _ => 0))), (a58, .inr (2, [.ref a59, .int 0, .int 0])), (a59, .inl (ca 0, 24, .inl (fun _ => 0))), (a60, .inl (ca 2, 4, .inr (.inr (.inr (.inr (va_up (va_up (va_up (va_up (fun _ => none) 0 (some a64)) 1 (some a66)) 2 (some a68)) 3 (some a70))))))), (a61, .inr (5, [.ref a62, .int 0, .int 0, .int 0, .int 0, .int 0])), (a62, .inl (ca 0, 30, .inl (fun _ => 0))), (a63, .inl (ca 0, 7, .inl (fun _ => 0))), (a64, .inr (2, [.ref a65, .int 0, .int 0])), (a65, .inl (ca 0, 24, .inl (fun _ => 0))), (a66, .inr (2, [.ref a67, .int 0, .int 0])), (a67, .inl (ca 0, 24, .inl (fun _ => 0))), (a68, .inr (2, [.ref a69, .int 0, .int 0])), (a69, .inl (ca 0, 24, .inl (fun _ => 0))), (a70, .inr (2, [.ref a71, .int 0, .int 0])), (a71, .inl (ca 0, 24, .inl (fun _ => 0))), (qb, .inr (7, [.ref b1, .ref b2, .ref b3, .int 0, .ref b4, .ref b5, .ref b6, .ref b7, .ref b8, .ref b9, .ref b10, .ref b11, .int 0, .int 0, .int 0, .int 0, .int 0, .ref b12, .ref b13, .int 0, .int 0])), (b1, .inl (ca 0, 366, .inl (upd (upd (upd (upd (upd (fun _ => 0) 1 (1 : Int32)) 3 (-1 : Int32)) 5 (99 : Int32)) 6 (99 : Int32)) 7 (30 : Int32)))), (b2, .inl (ca 0, 366, .inl (fun _ => 0))), (b3, .inl (ca 0, 366, .inl (fun _ => 0))), (b4, .inl (ca 0, 7, .inl (fun _ => 0))), (b5, .inl (ca 0, 4, .inl (fun _ => 0))), (b6, .inl (ca 0, 4, .inl (fun _ => 0))), (b7, .inl (ca 0, 96, .inl (fun _ => 0))), (b8, .inl (ca 0, 60, .inl (fun _ => 0))), (b9, .inl (ca 0, 60, .inl (fun _ => 0))), (b10, .inl (ca 0, 3, .inl (fun _ => 0))), (b11, .inl (ca 0, 60, .inl (fun _ => 0))), (b12, .inl (ca 0, 6, .inl (fun _ => 0))), (b13, .inl (ca 0, 30, .inl (fun _ => 0)))] := hD
  refine lv_astore_n (lv' := [(2, .ref qb), (1, .ref qa), (0, .ref b)]) hx hb (dg hd_law_0 7 rfl) rfl hl (by decide) rfl (fun ls hl => ?_)
  refine lv_iconst (v := 0) hx hb (dg hd_law_0 8 rfl) (by decide) ?_
  refine lv_istore_n (lv' := [(3, .int 0), (2, .ref qb), (1, .ref qa), (0, .ref b)]) hx hb (dg hd_law_0 9 rfl) rfl hl (by decide) rfl (fun ls hl => ?_)
  obtain ⟨aC, haC⟩ : ∃ f : Nat → Nat, f = (fun o => if o = 900 then t0 else if o = 901 then t1 else if o = 902 then t2 else [qa, a2, a34, a3, a4, a5, a6, a7, a8, a35, a36, a37, a38, a39, a40, a1, a9, a10, a11, a12, a13, a14, a15, a16, a17, a25, a26, a27, a28, a29, a30, a31, a32, a33, a41, a42, a43, a44, a45, a46, a47, a48, a49, a50, a51, a52, a53, a54, a55, a56, a57, a58, a59, a60, a64, a65, a66, a67, a68, a69, a70, a71, a61, a62, a63, a18, a19, a20, a21, a22, a23, a24].getD o 0) := ⟨_, rfl⟩
  obtain ⟨aM, haM⟩ : ∃ f : Nat → Nat, f = (fun o => if o = 900 then t0 else if o = 901 then t1 else if o = 902 then t2 else [qb, b1, b2, b3, b4, b5, b6, b7, b8, b9, b10, b11, b12, b13].getD o 0) := ⟨_, rfl⟩
  have hwC : ∀ o, o < 72 → ∃ e, ([(qa, .inr (6, [.ref a1, .ref a17, .ref a33, .ref a49, .ref a51, .ref a53, .ref a56, .ref a58, .ref a60, .ref a61, .ref a63, .int 0])), (a1, .inr (1, [.ref a2, .ref a9, .ref a10, .ref a11, .ref a12, .ref a13, .ref a14, .ref a15, .ref a16, .int 0, .int 0, .int (-1 : Int32), .int (30 : Int32), .int 0, .int (1 : Int32)])), (a2, .inl (ca 1, 2, .inr (.inr (.inr (.inr (va_up (va_up (fun _ => none) 0 (some a3)) 1 (some a6))))))), (a3, .inr (4, [.int (20 : Int32), .ref a4, .ref a5, .int 0])), (a4, .inl (ca 0, 60, .inl (fun _ => 0))), (a5, .inl (ca 0, 60, .inl (fun _ => 0))), (a6, .inr (4, [.int (99 : Int32), .ref a7, .ref a8, .int 0])), (a7, .inl (ca 0, 60, .inl (fun _ => 0))), (a8, .inl (ca 0, 60, .inl (fun _ => 0))), (a9, .inl (ca 0, 6, .inl (fun _ => 0))), (a10, .inl (ca 0, 6, .inl (fun _ => 0))), (a11, .inl (ca 0, 6, .inl (fun _ => 0))), (a12, .inl (ca 0, 6, .inl (fun _ => 0))), (a13, .inl (ca 0, 6, .inl (fun _ => 0))), (a14, .inl (ca 0, 2, .inl (upd (upd (fun _ => 0) 0 (99 : Int32)) 1 (99 : Int32)))), (a15, .inl (ca 0, 6, .inl (fun _ => 0))), (a16, .inl (ca 0, 6, .inl (fun _ => 0))), (a17, .inr (1, [.ref a18, .ref a25, .ref a26, .ref a27, .ref a28, .ref a29, .ref a30, .ref a31, .ref a32, .int 0, .int 0, .int (-1 : Int32), .int (30 : Int32), .int 0, .int (1 : Int32)])), (a18, .inl (ca 1, 2, .inr (.inr (.inr (.inr (va_up (va_up (fun _ => none) 0 (some a19)) 1 (some a22))))))), (a19, .inr (4, [.int (20 : Int32), .ref a20, .ref a21, .int 0])), (a20, .inl (ca 0, 60, .inl (fun _ => 0))), (a21, .inl (ca 0, 60, .inl (fun _ => 0))), (a22, .inr (4, [.int (99 : Int32), .ref a23, .ref a24, .int 0])), (a23, .inl (ca 0, 60, .inl (fun _ => 0))), (a24, .inl (ca 0, 60, .inl (fun _ => 0))), (a25, .inl (ca 0, 6, .inl (fun _ => 0))), (a26, .inl (ca 0, 6, .inl (fun _ => 0))), (a27, .inl (ca 0, 6, .inl (fun _ => 0))), (a28, .inl (ca 0, 6, .inl (fun _ => 0))), (a29, .inl (ca 0, 6, .inl (fun _ => 0))), (a30, .inl (ca 0, 2, .inl (upd (upd (fun _ => 0) 0 (99 : Int32)) 1 (99 : Int32)))), (a31, .inl (ca 0, 6, .inl (fun _ => 0))), (a32, .inl (ca 0, 6, .inl (fun _ => 0))), (a33, .inr (1, [.ref a34, .ref a41, .ref a42, .ref a43, .ref a44, .ref a45, .ref a46, .ref a47, .ref a48, .int 0, .int 0, .int (-1 : Int32), .int (30 : Int32), .int 0, .int (1 : Int32)])), (a34, .inl (ca 1, 2, .inr (.inr (.inr (.inr (va_up (va_up (fun _ => none) 0 (some a35)) 1 (some a38))))))), (a35, .inr (4, [.int (20 : Int32), .ref a36, .ref a37, .int 0])), (a36, .inl (ca 0, 60, .inl (fun _ => 0))), (a37, .inl (ca 0, 60, .inl (fun _ => 0))), (a38, .inr (4, [.int (99 : Int32), .ref a39, .ref a40, .int 0])), (a39, .inl (ca 0, 60, .inl (fun _ => 0))), (a40, .inl (ca 0, 60, .inl (fun _ => 0))), (a41, .inl (ca 0, 6, .inl (fun _ => 0))), (a42, .inl (ca 0, 6, .inl (fun _ => 0))), (a43, .inl (ca 0, 6, .inl (fun _ => 0))), (a44, .inl (ca 0, 6, .inl (fun _ => 0))), (a45, .inl (ca 0, 6, .inl (fun _ => 0))), (a46, .inl (ca 0, 2, .inl (upd (upd (fun _ => 0) 0 (99 : Int32)) 1 (99 : Int32)))), (a47, .inl (ca 0, 6, .inl (fun _ => 0))), (a48, .inl (ca 0, 6, .inl (fun _ => 0))), (a49, .inr (3, [.ref a50, .int 0])), (a50, .inl (ca 0, 60, .inl (fun _ => 0))), (a51, .inr (3, [.ref a52, .int 0])), (a52, .inl (ca 0, 60, .inl (fun _ => 0))), (a53, .inr (0, [.ref a54, .int 0, .ref a55, .int 0, .int 0, .int 0, .int 0])), (a54, .inl (ca 0, 60, .inl (fun _ => 0))), (a55, .inl (ca 0, 60, .inl (fun _ => 0))), (a56, .inr (2, [.ref a57, .int 0, .int 0])), (a57, .inl (ca 0, 24, .inl (fun _ => 0))), (a58, .inr (2, [.ref a59, .int 0, .int 0])), (a59, .inl (ca 0, 24, .inl (fun _ => 0))), (a60, .inl (ca 2, 4, .inr (.inr (.inr (.inr (va_up (va_up (va_up (va_up (fun _ => none) 0 (some a64)) 1 (some a66)) 2 (some a68)) 3 (some a70))))))), (a61, .inr (5, [.ref a62, .int 0, .int 0, .int 0, .int 0, .int 0])), (a62, .inl (ca 0, 30, .inl (fun _ => 0))), (a63, .inl (ca 0, 7, .inl (fun _ => 0))), (a64, .inr (2, [.ref a65, .int 0, .int 0])), (a65, .inl (ca 0, 24, .inl (fun _ => 0))), (a66, .inr (2, [.ref a67, .int 0, .int 0])), (a67, .inl (ca 0, 24, .inl (fun _ => 0))), (a68, .inr (2, [.ref a69, .int 0, .int 0])), (a69, .inl (ca 0, 24, .inl (fun _ => 0))), (a70, .inr (2, [.ref a71, .int 0, .int 0])), (a71, .inl (ca 0, 24, .inl (fun _ => 0))), (qb, .inr (7, [.ref b1, .ref b2, .ref b3, .int 0, .ref b4, .ref b5, .ref b6, .ref b7, .ref b8, .ref b9, .ref b10, .ref b11, .int 0, .int 0, .int 0, .int 0, .int 0, .ref b12, .ref b13, .int 0, .int 0])), (b1, .inl (ca 0, 366, .inl (upd (upd (upd (upd (upd (fun _ => 0) 1 (1 : Int32)) 3 (-1 : Int32)) 5 (99 : Int32)) 6 (99 : Int32)) 7 (30 : Int32)))), (b2, .inl (ca 0, 366, .inl (fun _ => 0))), (b3, .inl (ca 0, 366, .inl (fun _ => 0))), (b4, .inl (ca 0, 7, .inl (fun _ => 0))), (b5, .inl (ca 0, 4, .inl (fun _ => 0))), (b6, .inl (ca 0, 4, .inl (fun _ => 0))), (b7, .inl (ca 0, 96, .inl (fun _ => 0))), (b8, .inl (ca 0, 60, .inl (fun _ => 0))), (b9, .inl (ca 0, 60, .inl (fun _ => 0))), (b10, .inl (ca 0, 3, .inl (fun _ => 0))), (b11, .inl (ca 0, 60, .inl (fun _ => 0))), (b12, .inl (ca 0, 6, .inl (fun _ => 0))), (b13, .inl (ca 0, 30, .inl (fun _ => 0)))] : va_W)[([0, 2, 34, 3, 4, 5, 6, 7, 8, 35, 36, 37, 38, 39, 40, 1, 9, 10, 11, 12, 13, 14, 15, 16, 17, 25, 26, 27, 28, 29, 30, 31, 32, 33, 41, 42, 43, 44, 45, 46, 47, 48, 49, 50, 51, 52, 53, 54, 55, 56, 57, 58, 59, 60, 64, 65, 66, 67, 68, 69, 70, 71, 61, 62, 63, 18, 19, 20, 21, 22, 23, 24] : List Nat).getD o 0]? = some (aC o, e) := by
    subst haC; intro o ho
    match o, ho with
    | 0, _ => exact ⟨_, rfl⟩
    | 1, _ => exact ⟨_, rfl⟩
    | 2, _ => exact ⟨_, rfl⟩
    | 3, _ => exact ⟨_, rfl⟩
    | 4, _ => exact ⟨_, rfl⟩
    | 5, _ => exact ⟨_, rfl⟩
    | 6, _ => exact ⟨_, rfl⟩
    | 7, _ => exact ⟨_, rfl⟩
    | 8, _ => exact ⟨_, rfl⟩
    | 9, _ => exact ⟨_, rfl⟩
    | 10, _ => exact ⟨_, rfl⟩
    | 11, _ => exact ⟨_, rfl⟩
    | 12, _ => exact ⟨_, rfl⟩
    | 13, _ => exact ⟨_, rfl⟩
    | 14, _ => exact ⟨_, rfl⟩
    | 15, _ => exact ⟨_, rfl⟩
    | 16, _ => exact ⟨_, rfl⟩
    | 17, _ => exact ⟨_, rfl⟩
    | 18, _ => exact ⟨_, rfl⟩
    | 19, _ => exact ⟨_, rfl⟩
    | 20, _ => exact ⟨_, rfl⟩
    | 21, _ => exact ⟨_, rfl⟩
    | 22, _ => exact ⟨_, rfl⟩
    | 23, _ => exact ⟨_, rfl⟩
    | 24, _ => exact ⟨_, rfl⟩
    | 25, _ => exact ⟨_, rfl⟩
    | 26, _ => exact ⟨_, rfl⟩
    | 27, _ => exact ⟨_, rfl⟩
    | 28, _ => exact ⟨_, rfl⟩
    | 29, _ => exact ⟨_, rfl⟩
    | 30, _ => exact ⟨_, rfl⟩
    | 31, _ => exact ⟨_, rfl⟩
    | 32, _ => exact ⟨_, rfl⟩
    | 33, _ => exact ⟨_, rfl⟩
    | 34, _ => exact ⟨_, rfl⟩
    | 35, _ => exact ⟨_, rfl⟩
    | 36, _ => exact ⟨_, rfl⟩
    | 37, _ => exact ⟨_, rfl⟩
    | 38, _ => exact ⟨_, rfl⟩
    | 39, _ => exact ⟨_, rfl⟩
    | 40, _ => exact ⟨_, rfl⟩
    | 41, _ => exact ⟨_, rfl⟩
    | 42, _ => exact ⟨_, rfl⟩
    | 43, _ => exact ⟨_, rfl⟩
    | 44, _ => exact ⟨_, rfl⟩
    | 45, _ => exact ⟨_, rfl⟩
    | 46, _ => exact ⟨_, rfl⟩
    | 47, _ => exact ⟨_, rfl⟩
    | 48, _ => exact ⟨_, rfl⟩
    | 49, _ => exact ⟨_, rfl⟩
    | 50, _ => exact ⟨_, rfl⟩
    | 51, _ => exact ⟨_, rfl⟩
    | 52, _ => exact ⟨_, rfl⟩
    | 53, _ => exact ⟨_, rfl⟩
    | 54, _ => exact ⟨_, rfl⟩
    | 55, _ => exact ⟨_, rfl⟩
    | 56, _ => exact ⟨_, rfl⟩
    | 57, _ => exact ⟨_, rfl⟩
    | 58, _ => exact ⟨_, rfl⟩
    | 59, _ => exact ⟨_, rfl⟩
    | 60, _ => exact ⟨_, rfl⟩
    | 61, _ => exact ⟨_, rfl⟩
    | 62, _ => exact ⟨_, rfl⟩
    | 63, _ => exact ⟨_, rfl⟩
    | 64, _ => exact ⟨_, rfl⟩
    | 65, _ => exact ⟨_, rfl⟩
    | 66, _ => exact ⟨_, rfl⟩
    | 67, _ => exact ⟨_, rfl⟩
    | 68, _ => exact ⟨_, rfl⟩
    | 69, _ => exact ⟨_, rfl⟩
    | 70, _ => exact ⟨_, rfl⟩
    | 71, _ => exact ⟨_, rfl⟩
    | k + 72, hk => exact absurd hk (by omega)
  have hwM : ∀ o, o < 14 → ∃ e, ([(qa, .inr (6, [.ref a1, .ref a17, .ref a33, .ref a49, .ref a51, .ref a53, .ref a56, .ref a58, .ref a60, .ref a61, .ref a63, .int 0])), (a1, .inr (1, [.ref a2, .ref a9, .ref a10, .ref a11, .ref a12, .ref a13, .ref a14, .ref a15, .ref a16, .int 0, .int 0, .int (-1 : Int32), .int (30 : Int32), .int 0, .int (1 : Int32)])), (a2, .inl (ca 1, 2, .inr (.inr (.inr (.inr (va_up (va_up (fun _ => none) 0 (some a3)) 1 (some a6))))))), (a3, .inr (4, [.int (20 : Int32), .ref a4, .ref a5, .int 0])), (a4, .inl (ca 0, 60, .inl (fun _ => 0))), (a5, .inl (ca 0, 60, .inl (fun _ => 0))), (a6, .inr (4, [.int (99 : Int32), .ref a7, .ref a8, .int 0])), (a7, .inl (ca 0, 60, .inl (fun _ => 0))), (a8, .inl (ca 0, 60, .inl (fun _ => 0))), (a9, .inl (ca 0, 6, .inl (fun _ => 0))), (a10, .inl (ca 0, 6, .inl (fun _ => 0))), (a11, .inl (ca 0, 6, .inl (fun _ => 0))), (a12, .inl (ca 0, 6, .inl (fun _ => 0))), (a13, .inl (ca 0, 6, .inl (fun _ => 0))), (a14, .inl (ca 0, 2, .inl (upd (upd (fun _ => 0) 0 (99 : Int32)) 1 (99 : Int32)))), (a15, .inl (ca 0, 6, .inl (fun _ => 0))), (a16, .inl (ca 0, 6, .inl (fun _ => 0))), (a17, .inr (1, [.ref a18, .ref a25, .ref a26, .ref a27, .ref a28, .ref a29, .ref a30, .ref a31, .ref a32, .int 0, .int 0, .int (-1 : Int32), .int (30 : Int32), .int 0, .int (1 : Int32)])), (a18, .inl (ca 1, 2, .inr (.inr (.inr (.inr (va_up (va_up (fun _ => none) 0 (some a19)) 1 (some a22))))))), (a19, .inr (4, [.int (20 : Int32), .ref a20, .ref a21, .int 0])), (a20, .inl (ca 0, 60, .inl (fun _ => 0))), (a21, .inl (ca 0, 60, .inl (fun _ => 0))), (a22, .inr (4, [.int (99 : Int32), .ref a23, .ref a24, .int 0])), (a23, .inl (ca 0, 60, .inl (fun _ => 0))), (a24, .inl (ca 0, 60, .inl (fun _ => 0))), (a25, .inl (ca 0, 6, .inl (fun _ => 0))), (a26, .inl (ca 0, 6, .inl (fun _ => 0))), (a27, .inl (ca 0, 6, .inl (fun _ => 0))), (a28, .inl (ca 0, 6, .inl (fun _ => 0))), (a29, .inl (ca 0, 6, .inl (fun _ => 0))), (a30, .inl (ca 0, 2, .inl (upd (upd (fun _ => 0) 0 (99 : Int32)) 1 (99 : Int32)))), (a31, .inl (ca 0, 6, .inl (fun _ => 0))), (a32, .inl (ca 0, 6, .inl (fun _ => 0))), (a33, .inr (1, [.ref a34, .ref a41, .ref a42, .ref a43, .ref a44, .ref a45, .ref a46, .ref a47, .ref a48, .int 0, .int 0, .int (-1 : Int32), .int (30 : Int32), .int 0, .int (1 : Int32)])), (a34, .inl (ca 1, 2, .inr (.inr (.inr (.inr (va_up (va_up (fun _ => none) 0 (some a35)) 1 (some a38))))))), (a35, .inr (4, [.int (20 : Int32), .ref a36, .ref a37, .int 0])), (a36, .inl (ca 0, 60, .inl (fun _ => 0))), (a37, .inl (ca 0, 60, .inl (fun _ => 0))), (a38, .inr (4, [.int (99 : Int32), .ref a39, .ref a40, .int 0])), (a39, .inl (ca 0, 60, .inl (fun _ => 0))), (a40, .inl (ca 0, 60, .inl (fun _ => 0))), (a41, .inl (ca 0, 6, .inl (fun _ => 0))), (a42, .inl (ca 0, 6, .inl (fun _ => 0))), (a43, .inl (ca 0, 6, .inl (fun _ => 0))), (a44, .inl (ca 0, 6, .inl (fun _ => 0))), (a45, .inl (ca 0, 6, .inl (fun _ => 0))), (a46, .inl (ca 0, 2, .inl (upd (upd (fun _ => 0) 0 (99 : Int32)) 1 (99 : Int32)))), (a47, .inl (ca 0, 6, .inl (fun _ => 0))), (a48, .inl (ca 0, 6, .inl (fun _ => 0))), (a49, .inr (3, [.ref a50, .int 0])), (a50, .inl (ca 0, 60, .inl (fun _ => 0))), (a51, .inr (3, [.ref a52, .int 0])), (a52, .inl (ca 0, 60, .inl (fun _ => 0))), (a53, .inr (0, [.ref a54, .int 0, .ref a55, .int 0, .int 0, .int 0, .int 0])), (a54, .inl (ca 0, 60, .inl (fun _ => 0))), (a55, .inl (ca 0, 60, .inl (fun _ => 0))), (a56, .inr (2, [.ref a57, .int 0, .int 0])), (a57, .inl (ca 0, 24, .inl (fun _ => 0))), (a58, .inr (2, [.ref a59, .int 0, .int 0])), (a59, .inl (ca 0, 24, .inl (fun _ => 0))), (a60, .inl (ca 2, 4, .inr (.inr (.inr (.inr (va_up (va_up (va_up (va_up (fun _ => none) 0 (some a64)) 1 (some a66)) 2 (some a68)) 3 (some a70))))))), (a61, .inr (5, [.ref a62, .int 0, .int 0, .int 0, .int 0, .int 0])), (a62, .inl (ca 0, 30, .inl (fun _ => 0))), (a63, .inl (ca 0, 7, .inl (fun _ => 0))), (a64, .inr (2, [.ref a65, .int 0, .int 0])), (a65, .inl (ca 0, 24, .inl (fun _ => 0))), (a66, .inr (2, [.ref a67, .int 0, .int 0])), (a67, .inl (ca 0, 24, .inl (fun _ => 0))), (a68, .inr (2, [.ref a69, .int 0, .int 0])), (a69, .inl (ca 0, 24, .inl (fun _ => 0))), (a70, .inr (2, [.ref a71, .int 0, .int 0])), (a71, .inl (ca 0, 24, .inl (fun _ => 0))), (qb, .inr (7, [.ref b1, .ref b2, .ref b3, .int 0, .ref b4, .ref b5, .ref b6, .ref b7, .ref b8, .ref b9, .ref b10, .ref b11, .int 0, .int 0, .int 0, .int 0, .int 0, .ref b12, .ref b13, .int 0, .int 0])), (b1, .inl (ca 0, 366, .inl (upd (upd (upd (upd (upd (fun _ => 0) 1 (1 : Int32)) 3 (-1 : Int32)) 5 (99 : Int32)) 6 (99 : Int32)) 7 (30 : Int32)))), (b2, .inl (ca 0, 366, .inl (fun _ => 0))), (b3, .inl (ca 0, 366, .inl (fun _ => 0))), (b4, .inl (ca 0, 7, .inl (fun _ => 0))), (b5, .inl (ca 0, 4, .inl (fun _ => 0))), (b6, .inl (ca 0, 4, .inl (fun _ => 0))), (b7, .inl (ca 0, 96, .inl (fun _ => 0))), (b8, .inl (ca 0, 60, .inl (fun _ => 0))), (b9, .inl (ca 0, 60, .inl (fun _ => 0))), (b10, .inl (ca 0, 3, .inl (fun _ => 0))), (b11, .inl (ca 0, 60, .inl (fun _ => 0))), (b12, .inl (ca 0, 6, .inl (fun _ => 0))), (b13, .inl (ca 0, 30, .inl (fun _ => 0)))] : va_W)[([72, 73, 74, 75, 76, 77, 78, 79, 80, 81, 82, 83, 84, 85] : List Nat).getD o 0]? = some (aM o, e) := by
    subst haM; intro o ho
    match o, ho with
    | 0, _ => exact ⟨_, rfl⟩
    | 1, _ => exact ⟨_, rfl⟩
    | 2, _ => exact ⟨_, rfl⟩
    | 3, _ => exact ⟨_, rfl⟩
    | 4, _ => exact ⟨_, rfl⟩
    | 5, _ => exact ⟨_, rfl⟩
    | 6, _ => exact ⟨_, rfl⟩
    | 7, _ => exact ⟨_, rfl⟩
    | 8, _ => exact ⟨_, rfl⟩
    | 9, _ => exact ⟨_, rfl⟩
    | 10, _ => exact ⟨_, rfl⟩
    | 11, _ => exact ⟨_, rfl⟩
    | 12, _ => exact ⟨_, rfl⟩
    | 13, _ => exact ⟨_, rfl⟩
    | k + 14, hk => exact absurd hk (by omega)
  have hPC : va_P D vwCl (shW shC aC ca σC0) H := by
    refine at_shW ?_
    subst haC; intro o ho
    match o, ho with
    | 0, _ => exact ⟨_, rfl, hP 0 _ rfl⟩
    | 1, _ =>
      refine ⟨_, rfl, ?_⟩
      have h := hP 2 _ rfl
      rw [up_two (ad := (fun o => if o = 900 then t0 else if o = 901 then t1 else if o = 902 then t2 else [qa, a2, a34, a3, a4, a5, a6, a7, a8, a35, a36, a37, a38, a39, a40, a1, a9, a10, a11, a12, a13, a14, a15, a16, a17, a25, a26, a27, a28, a29, a30, a31, a32, a33, a41, a42, a43, a44, a45, a46, a47, a48, a49, a50, a51, a52, a53, a54, a55, a56, a57, a58, a59, a60, a64, a65, a66, a67, a68, a69, a70, a71, a61, a62, a63, a18, a19, a20, a21, a22, a23, a24].getD o 0)) (a := a3) (b := a6) (x := 3) (y := 6) rfl rfl] at h
      exact h
    | 2, _ =>
      refine ⟨_, rfl, ?_⟩
      have h := hP 34 _ rfl
      rw [up_two (ad := (fun o => if o = 900 then t0 else if o = 901 then t1 else if o = 902 then t2 else [qa, a2, a34, a3, a4, a5, a6, a7, a8, a35, a36, a37, a38, a39, a40, a1, a9, a10, a11, a12, a13, a14, a15, a16, a17, a25, a26, a27, a28, a29, a30, a31, a32, a33, a41, a42, a43, a44, a45, a46, a47, a48, a49, a50, a51, a52, a53, a54, a55, a56, a57, a58, a59, a60, a64, a65, a66, a67, a68, a69, a70, a71, a61, a62, a63, a18, a19, a20, a21, a22, a23, a24].getD o 0)) (a := a35) (b := a38) (x := 9) (y := 12) rfl rfl] at h
      exact h
    | 3, _ => exact ⟨_, rfl, hP 3 _ rfl⟩
    | 4, _ => exact ⟨_, rfl, hP 4 _ rfl⟩
    | 5, _ => exact ⟨_, rfl, hP 5 _ rfl⟩
    | 6, _ => exact ⟨_, rfl, hP 6 _ rfl⟩
    | 7, _ => exact ⟨_, rfl, hP 7 _ rfl⟩
    | 8, _ => exact ⟨_, rfl, hP 8 _ rfl⟩
    | 9, _ => exact ⟨_, rfl, hP 35 _ rfl⟩
    | 10, _ => exact ⟨_, rfl, hP 36 _ rfl⟩
    | 11, _ => exact ⟨_, rfl, hP 37 _ rfl⟩
    | 12, _ => exact ⟨_, rfl, hP 38 _ rfl⟩
    | 13, _ => exact ⟨_, rfl, hP 39 _ rfl⟩
    | 14, _ => exact ⟨_, rfl, hP 40 _ rfl⟩
    | 15, _ => exact ⟨_, rfl, hP 1 _ rfl⟩
    | 16, _ => exact ⟨_, rfl, hP 9 _ rfl⟩
    | 17, _ => exact ⟨_, rfl, hP 10 _ rfl⟩
    | 18, _ => exact ⟨_, rfl, hP 11 _ rfl⟩
    | 19, _ => exact ⟨_, rfl, hP 12 _ rfl⟩
    | 20, _ => exact ⟨_, rfl, hP 13 _ rfl⟩
    | 21, _ => exact ⟨_, rfl, hP 14 _ rfl⟩
    | 22, _ => exact ⟨_, rfl, hP 15 _ rfl⟩
    | 23, _ => exact ⟨_, rfl, hP 16 _ rfl⟩
    | 24, _ => exact ⟨_, rfl, hP 17 _ rfl⟩
    | 25, _ => exact ⟨_, rfl, hP 25 _ rfl⟩
    | 26, _ => exact ⟨_, rfl, hP 26 _ rfl⟩
    | 27, _ => exact ⟨_, rfl, hP 27 _ rfl⟩
    | 28, _ => exact ⟨_, rfl, hP 28 _ rfl⟩
    | 29, _ => exact ⟨_, rfl, hP 29 _ rfl⟩
    | 30, _ => exact ⟨_, rfl, hP 30 _ rfl⟩
    | 31, _ => exact ⟨_, rfl, hP 31 _ rfl⟩
    | 32, _ => exact ⟨_, rfl, hP 32 _ rfl⟩
    | 33, _ => exact ⟨_, rfl, hP 33 _ rfl⟩
    | 34, _ => exact ⟨_, rfl, hP 41 _ rfl⟩
    | 35, _ => exact ⟨_, rfl, hP 42 _ rfl⟩
    | 36, _ => exact ⟨_, rfl, hP 43 _ rfl⟩
    | 37, _ => exact ⟨_, rfl, hP 44 _ rfl⟩
    | 38, _ => exact ⟨_, rfl, hP 45 _ rfl⟩
    | 39, _ => exact ⟨_, rfl, hP 46 _ rfl⟩
    | 40, _ => exact ⟨_, rfl, hP 47 _ rfl⟩
    | 41, _ => exact ⟨_, rfl, hP 48 _ rfl⟩
    | 42, _ => exact ⟨_, rfl, hP 49 _ rfl⟩
    | 43, _ => exact ⟨_, rfl, hP 50 _ rfl⟩
    | 44, _ => exact ⟨_, rfl, hP 51 _ rfl⟩
    | 45, _ => exact ⟨_, rfl, hP 52 _ rfl⟩
    | 46, _ => exact ⟨_, rfl, hP 53 _ rfl⟩
    | 47, _ => exact ⟨_, rfl, hP 54 _ rfl⟩
    | 48, _ => exact ⟨_, rfl, hP 55 _ rfl⟩
    | 49, _ => exact ⟨_, rfl, hP 56 _ rfl⟩
    | 50, _ => exact ⟨_, rfl, hP 57 _ rfl⟩
    | 51, _ => exact ⟨_, rfl, hP 58 _ rfl⟩
    | 52, _ => exact ⟨_, rfl, hP 59 _ rfl⟩
    | 53, _ =>
      refine ⟨_, rfl, ?_⟩
      have h := hP 60 _ rfl
      rw [up_four (ad := (fun o => if o = 900 then t0 else if o = 901 then t1 else if o = 902 then t2 else [qa, a2, a34, a3, a4, a5, a6, a7, a8, a35, a36, a37, a38, a39, a40, a1, a9, a10, a11, a12, a13, a14, a15, a16, a17, a25, a26, a27, a28, a29, a30, a31, a32, a33, a41, a42, a43, a44, a45, a46, a47, a48, a49, a50, a51, a52, a53, a54, a55, a56, a57, a58, a59, a60, a64, a65, a66, a67, a68, a69, a70, a71, a61, a62, a63, a18, a19, a20, a21, a22, a23, a24].getD o 0)) (a := a64) (b := a66) (c := a68) (d := a70) (x := 54) (y := 56) (z := 58) (w := 60) rfl rfl rfl rfl] at h
      exact h
    | 54, _ => exact ⟨_, rfl, hP 64 _ rfl⟩
    | 55, _ => exact ⟨_, rfl, hP 65 _ rfl⟩
    | 56, _ => exact ⟨_, rfl, hP 66 _ rfl⟩
    | 57, _ => exact ⟨_, rfl, hP 67 _ rfl⟩
    | 58, _ => exact ⟨_, rfl, hP 68 _ rfl⟩
    | 59, _ => exact ⟨_, rfl, hP 69 _ rfl⟩
    | 60, _ => exact ⟨_, rfl, hP 70 _ rfl⟩
    | 61, _ => exact ⟨_, rfl, hP 71 _ rfl⟩
    | 62, _ => exact ⟨_, rfl, hP 61 _ rfl⟩
    | 63, _ => exact ⟨_, rfl, hP 62 _ rfl⟩
    | 64, _ => exact ⟨_, rfl, hP 63 _ rfl⟩
    | 65, _ =>
      refine ⟨_, rfl, ?_⟩
      have h := hP 18 _ rfl
      rw [up_two (ad := (fun o => if o = 900 then t0 else if o = 901 then t1 else if o = 902 then t2 else [qa, a2, a34, a3, a4, a5, a6, a7, a8, a35, a36, a37, a38, a39, a40, a1, a9, a10, a11, a12, a13, a14, a15, a16, a17, a25, a26, a27, a28, a29, a30, a31, a32, a33, a41, a42, a43, a44, a45, a46, a47, a48, a49, a50, a51, a52, a53, a54, a55, a56, a57, a58, a59, a60, a64, a65, a66, a67, a68, a69, a70, a71, a61, a62, a63, a18, a19, a20, a21, a22, a23, a24].getD o 0)) (a := a19) (b := a22) (x := 66) (y := 69) rfl rfl] at h
      exact h
    | 66, _ => exact ⟨_, rfl, hP 19 _ rfl⟩
    | 67, _ => exact ⟨_, rfl, hP 20 _ rfl⟩
    | 68, _ => exact ⟨_, rfl, hP 21 _ rfl⟩
    | 69, _ => exact ⟨_, rfl, hP 22 _ rfl⟩
    | 70, _ => exact ⟨_, rfl, hP 23 _ rfl⟩
    | 71, _ => exact ⟨_, rfl, hP 24 _ rfl⟩
    | k + 72, hk => exact absurd (show k + 72 < 72 from hk) (by omega)
  have hPM : va_P D vwCl (shW shM aM ca σM0) H := by
    refine at_shW ?_
    subst haM; intro o ho
    match o, ho with
    | 0, _ => exact ⟨_, rfl, hP 72 _ rfl⟩
    | 1, _ => exact ⟨_, rfl, hP 73 _ rfl⟩
    | 2, _ => exact ⟨_, rfl, hP 74 _ rfl⟩
    | 3, _ => exact ⟨_, rfl, hP 75 _ rfl⟩
    | 4, _ => exact ⟨_, rfl, hP 76 _ rfl⟩
    | 5, _ => exact ⟨_, rfl, hP 77 _ rfl⟩
    | 6, _ => exact ⟨_, rfl, hP 78 _ rfl⟩
    | 7, _ => exact ⟨_, rfl, hP 79 _ rfl⟩
    | 8, _ => exact ⟨_, rfl, hP 80 _ rfl⟩
    | 9, _ => exact ⟨_, rfl, hP 81 _ rfl⟩
    | 10, _ => exact ⟨_, rfl, hP 82 _ rfl⟩
    | 11, _ => exact ⟨_, rfl, hP 83 _ rfl⟩
    | 12, _ => exact ⟨_, rfl, hP 84 _ rfl⟩
    | 13, _ => exact ⟨_, rfl, hP 85 _ rfl⟩
    | k + 14, hk => exact absurd (show k + 14 < 14 from hk) (by omega)
  have hIC : adI shC aC := ad_inj (n := 72) [0, 2, 34, 3, 4, 5, 6, 7, 8, 35, 36, 37, 38, 39, 40, 1, 9, 10, 11, 12, 13, 14, 15, 16, 17, 25, 26, 27, 28, 29, 30, 31, 32, 33, 41, 42, 43, 44, 45, 46, 47, 48, 49, 50, 51, 52, 53, 54, 55, 56, 57, 58, 59, 60, 64, 65, 66, 67, 68, 69, 70, 71, 61, 62, 63, 18, 19, 20, 21, 22, 23, 24] hD hwC (by decide +kernel)
  have hGC : ∀ o, o < shC.length → s.heap.size ≤ aC o := fun o ho => by obtain ⟨e, he⟩ := hwC o ho; exact hD.2 _ _ he
  have hFC : ∀ q, fA shC aC q → s.heap.size ≤ q := fun q ⟨o, h1, h2⟩ => by rw [h2]; exact hGC o h1
  have hStC : Stt shC aC s := by
    intro k q hq
    match k, hq with
    | 0, hq => cases hq; subst haC; exact ⟨hZ0.narrow hFC, hT0.narrow hFC⟩
    | 1, hq => cases hq; subst haC; exact ⟨hZ1.narrow hFC, hT1.narrow hFC⟩
    | 2, hq => cases hq; subst haC; exact ⟨hZ2.narrow hFC, hT2.narrow hFC⟩
    | k + 3, hq => cases hq
  have hIM : adI shM aM := ad_inj (n := 14) [72, 73, 74, 75, 76, 77, 78, 79, 80, 81, 82, 83, 84, 85] hD hwM (by decide +kernel)
  have hGM : ∀ o, o < shM.length → s.heap.size ≤ aM o := fun o ho => by obtain ⟨e, he⟩ := hwM o ho; exact hD.2 _ _ he
  have hFM : ∀ q, fA shM aM q → s.heap.size ≤ q := fun q ⟨o, h1, h2⟩ => by rw [h2]; exact hGM o h1
  have hStM : Stt shM aM s := by
    intro k q hq
    match k, hq with
    | 0, hq => cases hq; subst haM; exact ⟨hZ0.narrow hFM, hT0.narrow hFM⟩
    | 1, hq => cases hq; subst haM; exact ⟨hZ1.narrow hFM, hT1.narrow hFM⟩
    | 2, hq => cases hq; subst haM; exact ⟨hZ2.narrow hFM, hT2.narrow hFM⟩
    | k + 3, hq => cases hq
  have hdis : ∀ o o', o < shC.length → o' < shM.length → aC o ≠ aM o' := by
    intro o o' h1 h2 he
    obtain ⟨ea, g1⟩ := hwC o h1
    obtain ⟨eb, g2⟩ := hwM o' h2
    have h3 := hD.1 _ _ _ _ g1 g2 he
    have h4 : ([0, 2, 34, 3, 4, 5, 6, 7, 8, 35, 36, 37, 38, 39, 40, 1, 9, 10, 11, 12, 13, 14, 15, 16, 17, 25, 26, 27, 28, 29, 30, 31, 32, 33, 41, 42, 43, 44, 45, 46, 47, 48, 49, 50, 51, 52, 53, 54, 55, 56, 57, 58, 59, 60, 64, 65, 66, 67, 68, 69, 70, 71, 61, 62, 63, 18, 19, 20, 21, 22, 23, 24] : List Nat).getD o 0 < 72 := of_decide_eq_true (List.all_eq_true.mp (by decide +kernel : (List.range 72).all (fun o => decide (([0, 2, 34, 3, 4, 5, 6, 7, 8, 35, 36, 37, 38, 39, 40, 1, 9, 10, 11, 12, 13, 14, 15, 16, 17, 25, 26, 27, 28, 29, 30, 31, 32, 33, 41, 42, 43, 44, 45, 46, 47, 48, 49, 50, 51, 52, 53, 54, 55, 56, 57, 58, 59, 60, 64, 65, 66, 67, 68, 69, 70, 71, 61, 62, 63, 18, 19, 20, 21, 22, 23, 24] : List Nat).getD o 0 < 72)) = true) o (List.mem_range.mpr h1))
    have h5 : 72 ≤ ([72, 73, 74, 75, 76, 77, 78, 79, 80, 81, 82, 83, 84, 85] : List Nat).getD o' 0 := of_decide_eq_true (List.all_eq_true.mp (by decide +kernel : (List.range 14).all (fun o => decide (72 ≤ ([72, 73, 74, 75, 76, 77, 78, 79, 80, 81, 82, 83, 84, 85] : List Nat).getD o 0)) = true) o' (List.mem_range.mpr h2))
    omega
  have hqa : aC 0 = qa := by subst haC; rfl
  have hqb : aM 0 = qb := by subst haM; rfl
  have hC : LC p s m meth c b L xs D ca aC aM := ⟨C0, ⟨hKa, hIC, hStC, hNs⟩, ⟨hKa, hIM, hStM, hNs⟩, hGC, hGM, hdis⟩
  have hlw := law_loop (p := p) (l := l) (e := e) (s := s) (m := m) (below := below) (meth := meth) (c := c) (kc := 86) (ks := 2900) hC (by decide) (by decide) hL hops (L + 1) 0 σC0 σM0 (Nat.zero_le _) (by omega) hR0
  refine W.widen (k := 86) (n := 2900) (Nat.le_of_ble_eq_true rfl) (Nat.le_of_ble_eq_true rfl) ?_
  exact hlw H _ ls hPC hPM hS (by rw [hqa, hqb]; exact lv_sub hl [3, 2, 1, 0] rfl)
