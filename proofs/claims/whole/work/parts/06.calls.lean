/-! ===== calls ===== -/
section Calls
variable {l : Launch} {sh : List ShE} {d : Nat} {md : Md} {pc : Nat} {L : List (Nat × Value)} {S : List Value} {σ : St} {X Y : Option (Int32 × St)}
theorem pxx_blind {sh : List ShE} {D : va_G} {ca : Nat → ClassId} {ad : Nat → Nat} {σ : St} {av : List Value} : FrameBlind (va_Pc av (Pxx sh D ca ad σ)) := fun a U g mk h => ⟨h.1, h.2.1, h.2.2.calling g mk a⟩
theorem pxx_at {sh : List ShE} {D : va_G} {ca : Nat → ClassId} {ad : Nat → Nat} {σ : St} {s U : State} {H : Heap} {locs : List Loc} (hP : va_P D vwCl (shW sh ad ca σ) H) (hS : va_S (fA sh ad) s.heap H locs) (hK : Kx sh D ca ad s) (hU : U.heap = H) (hW : s.WarmedH U.vm) : Pxx sh D ca ad σ U := ⟨by rw [hU]; exact hP, hK.warm hW (fun a h1 h2 => by rw [hU]; exact hS.2.1 a h1 h2)⟩
theorem rmd_ok {d1 d' nL : Nat} (h : d1 + 1 ≤ d') (hn : nL ≤ 40) : (rmd (d' - 1)).frames + 1 ≤ (rmd d').frames ∧ 8 + (nL + 11) + (rmd (d' - 1)).locals ≤ (rmd d').locals := by
  show d' - 1 + 1 ≤ d' ∧ 8 + (nL + 11) + 60 * (d' - 1) ≤ 60 * d'
  omega
theorem cxx_fix {sh : List ShE} {md : Md} {D : va_G} {ca : Nat → ClassId} {ad : Nat → Nat} {p : Program} {s : State} {m : MethodId} {args : Array Value} {meth : Method} {c : Code} (C : Cxx sh md D ca ad p s m args meth c) : CallFix p m c md.2.1 md.2.2.1 s args tblG md.1.cls := ⟨C.1, C.2.1, C.2.2.1, C.2.2.2.2.2.1, C.2.2.2.2.2.2.1⟩
/-- words of an instance method, of a static one -/
def CV (cd : Md) (n : Nat) : Prop := Cond.code cd.1 cd.2.1 cd.2.2.1 cd.2.2.2 ∈ tblG ∧ Cond.instanceMethod cd.1 ∈ tblG ∧ Cond.selects cd.1.cls cd.1 cd.1 ∈ tblG ∧ Cond.initialized cd.1.cls ∈ tblG ∧ (cd.1.cls ≠ "java/lang/invoke/MethodHandle" ∧ cd.1.cls ≠ "java/lang/invoke/VarHandle" ∧ (parseMethodDescriptor cd.1.desc).map (fun d => d.parameters.length) = some n) ∧ cd.2.2.1 ≤ 40
def CS (cd : Md) (n : Nat) : Prop := Cond.code cd.1 cd.2.1 cd.2.2.1 cd.2.2.2 ∈ tblG ∧ Cond.static cd.1 ∈ tblG ∧ Cond.initialized cd.1.cls ∈ tblG ∧ (cd.1.cls ≠ "java/lang/invoke/MethodHandle" ∧ cd.1.cls ≠ "java/lang/invoke/VarHandle" ∧ (parseMethodDescriptor cd.1.desc).map (fun d => d.parameters.length) = some n) ∧ cd.2.2.1 ≤ 40
theorem mws_in {cd : Md} (h : Cond.code cd.1 cd.2.1 cd.2.2.1 cd.2.2.2 ∈ tblG) : GoodIn tblG (mws cd) := tblG_in fun w hw => (List.mem_cons.mp hw).elim (fun e => by rw [e]; exact h) id
theorem after_call {sh : List ShE} {rt : Option FieldType} {r1 : Int32} {σ1 : St} {D : va_G} {ca : Nat → ClassId} {ad : Nat → Nat} {s st₀ t T' : State} {H : Heap} {locs L2 : List Loc} (hS : va_S (fA sh ad) s.heap H locs) (hL : ∀ q ∈ L2, fA sh ad q.base) (h0 : st₀.heap = H) (e1 : T'.heap = t.heap) (hF : va_F (fA sh ad) st₀ t) : va_S (fA sh ad) s.heap T'.heap (locs ++ L2) := by
  refine ⟨Nat.le_trans hS.1 (by rw [e1, ← h0]; exact hF.1), fun q h1 h2 => ?_, fun q hq => (List.mem_append.mp hq).elim (hS.2.2 q) (hL q)⟩
  rw [e1, hF.2 q (by rw [h0]; exact Nat.lt_of_lt_of_le h1 hS.1) h2, h0]
  exact hS.2.1 q h1 h2
theorem ux_callVi {ty : FieldType} {cd : Md} {d1 n index ci o : Nat} {As : List Value} {fs : List (Option Nat)} {q : vw_C} {XX : Option (Int32 × St)} {KK : Int32 → St → Option (Int32 × St)} (hM : Spc l sh d1 cd (.ref o :: As) σ XX) (hdd : d1 + 1 ≤ d) (cv : CV cd n) (hw : Cond.methodLink md.1.cls index cd.1 ∈ tblG) (hrt : cd.2.2.2 = some ty) (hn : As.length = n) (ho : sh[o]? = some (.inr (.inr (ci, fs)))) (hc : vwCl[ci]? = some q) (hq : q.1 = cd.1.cls) (hroom : (S.map fun v => v.category).sum ≤ 8) (hd : decode md.2.1 pc = .ok (.invokevirtual index, 3)) (k : ∀ (r1 : Int32) (σ1 : St), XX = some (r1, σ1) → Ux l sh d md (pc + 3) L (.int r1 :: S) σ1 (KK r1 σ1)) : Ux l sh d md pc L (As.reverse ++ .ref o :: S) σ (bnd XX KK) := by
  intro r σ' hX d' hd' D ca ad p e s m args below meth c C H locs ls hP hS hl
  obtain ⟨r1, σ1, hX1, hK⟩ := bnd_some hX
  have hm1 := hM r1 σ1 hX1 (d' - 1) (by omega) D ca ad
  have hts := C.2.2.2.2.2.2.1
  have hsh : (S.map (cvv ad)).map (fun v => v.category) = S.map (fun v => v.category) := by rw [List.map_map]; congr 1; funext v; exact cvv_cat ad v
  have hrecv := va_recv (cl := vwCl) (tys := Tys ca) (ws := shW sh ad ca σ) (D := D) C.2.2.2.2.2.2.2.1 hP (q0 := o) hc (shW_get ho)
  rw [hq] at hrecv
  have hrun := va_runV (C := cd.1.cls) (n := n) (b := ad o) (As := As.map (cvv ad)) (rest := S.map (cvv ad)) (g := F0 m pc ls ((As.reverse ++ .ref o :: S).map (cvv ad))) (l := l) (e := e) (below := below) (meth := meth) (locs := locs) (cells := 0) (slots := 0) (H := H) (R := rmd d') (cxx_fix C) hm1
    (by
      have hb : CallB (rmd d') s args md.1.cls index cd.1 cd.2.1 cd.2.2.1 cd.2.2.2 (mws cd) (rmd (d' - 1)) 0 0 n := callB_of (Ts := tblG) n hts (mws_in cv.1) rfl rfl rfl (hts _ cv.2.2.2.1) (hts _ hw) cv.2.2.2.2.1 (rmd_ok (d1 := d1) (by omega) cv.2.2.2.2.2)
      exact ⟨hb, hts _ cv.2.1, hts _ cv.2.2.1⟩)
    ⟨pxx_blind, hrecv, fun U hU hW => ⟨rfl, pxx_at hP hS C.2.2.2.2.2.2.2 hU hW⟩⟩ rfl (by rw [List.length_map]; exact hn) hl.1 (by simp [List.map_append, List.map_reverse, cvv]) (by rw [hsh]; exact (show 2 * JFrame.monitorRoom _ + _ ≤ 8 from by first | (simpa [JFrame.monitorRoom] using hroom) | exact hroom)) hd ⟨Nat.zero_le _, Nat.zero_le _⟩
  intro T hT X0
  obtain ⟨v, st₀, t, T', L2, h0, X', hL, e1, e2, ⟨ho, hP1, hF⟩, st⟩ := hrun T hT X0
  rw [hrt] at ho
  cases ho
  obtain ⟨t2, a1, b1⟩ := k r1 σ1 hX1 r σ' hK d' hd' D ca ad p e s m args below meth c C T'.heap (locs ++ L2) ls (by rw [e1]; exact hP1) (after_call (rt := cd.2.2.2) (r1 := r1) (σ1 := σ1) (D := D) (ca := ca) hS hL h0 e1 hF) hl T' rfl X'
  exact ⟨t2, st t2 a1, b1⟩
theorem ux_callSi {ty : FieldType} {cd : Md} {d1 n index : Nat} {As : List Value} {XX : Option (Int32 × St)} {KK : Int32 → St → Option (Int32 × St)}  (hM : Spc l sh d1 cd As σ XX) (hdd : d1 + 1 ≤ d) (cv : CS cd n) (hw : Cond.methodLink md.1.cls index cd.1 ∈ tblG) (hrt : cd.2.2.2 = some ty) (hn : As.length = n) (hroom : (S.map fun v => v.category).sum ≤ 8) (hd : decode md.2.1 pc = .ok (.invokestatic index, 3)) (k : ∀ (r1 : Int32) (σ1 : St), XX = some (r1, σ1) → Ux l sh d md (pc + 3) L (.int r1 :: S) σ1 (KK r1 σ1)) : Ux l sh d md pc L (As.reverse ++ S) σ (bnd XX KK) := by
  intro r σ' hX d' hd' D ca ad p e s m args below meth c C H locs ls hP hS hl
  obtain ⟨r1, σ1, hX1, hK⟩ := bnd_some hX
  have hm1 := hM r1 σ1 hX1 (d' - 1) (by omega) D ca ad
  have hts := C.2.2.2.2.2.2.1
  have hsh : (S.map (cvv ad)).map (fun v => v.category) = S.map (fun v => v.category) := by rw [List.map_map]; congr 1; funext v; exact cvv_cat ad v
  have hrun := va_runS (n := n) (As := As.map (cvv ad)) (rest := S.map (cvv ad)) (g := F0 m pc ls ((As.reverse ++ S).map (cvv ad))) (l := l) (e := e) (below := below) (meth := meth) (locs := locs) (cells := 0) (slots := 0) (H := H) (R := rmd d') (cxx_fix C) hm1
    ⟨callB_of (Ts := tblG) n hts (mws_in cv.1) rfl rfl rfl (hts _ cv.2.2.1) (hts _ hw) cv.2.2.2.1 (rmd_ok (d1 := d1) (by omega) cv.2.2.2.2), hts _ cv.2.1⟩
    ⟨pxx_blind, fun U hU hW => ⟨rfl, pxx_at hP hS C.2.2.2.2.2.2.2 hU hW⟩⟩ rfl (by rw [List.length_map]; exact hn) hl.1 (by simp [List.map_append, List.map_reverse]) (by rw [hsh]; exact (show 2 * JFrame.monitorRoom _ + _ ≤ 8 from by first | (simpa [JFrame.monitorRoom] using hroom) | exact hroom)) hd ⟨Nat.zero_le _, Nat.zero_le _⟩
  intro T hT X0
  obtain ⟨v, st₀, t, T', L2, h0, X', hL, e1, e2, ⟨ho, hP1, hF⟩, st⟩ := hrun T hT X0
  rw [hrt] at ho
  cases ho
  obtain ⟨t2, a1, b1⟩ := k r1 σ1 hX1 r σ' hK d' hd' D ca ad p e s m args below meth c C T'.heap (locs ++ L2) ls (by rw [e1]; exact hP1) (after_call (rt := cd.2.2.2) (r1 := r1) (σ1 := σ1) (D := D) (ca := ca) hS hL h0 e1 hF) hl T' rfl X'
  exact ⟨t2, st t2 a1, b1⟩
theorem ux_callNi {ty : FieldType} {cd : Md} {d1 n index : Nat} {As : List Value} {XX : Option (Int32 × St)} {KK : Int32 → St → Option (Int32 × St)} {host : String} (hM : Spc l sh d1 cd As σ XX) (hdd : d1 + 1 ≤ d) (cv : CS cd n) (hw : (md.1.cls, index, cd.1, host) ∈ nstM) (hrt : cd.2.2.2 = some ty) (hn : As.length = n) (hroom : (S.map fun v => v.category).sum ≤ 8) (hd : decode md.2.1 pc = .ok (.invokestatic index, 3)) (k : ∀ (r1 : Int32) (σ1 : St), XX = some (r1, σ1) → Ux l sh d md (pc + 3) L (.int r1 :: S) σ1 (KK r1 σ1)) : Ux l sh d md pc L (As.reverse ++ S) σ (bnd XX KK) := by
  intro r σ' hX d' hd' D ca ad p e s m args below meth c C H locs ls hP hS hl
  obtain ⟨r1, σ1, hX1, hK⟩ := bnd_some hX
  have hm1 := hM r1 σ1 hX1 (d' - 1) (by omega) D ca ad
  have hts := C.2.2.2.2.2.2.1
  have hsh : (S.map (cvv ad)).map (fun v => v.category) = S.map (fun v => v.category) := by rw [List.map_map]; congr 1; funext v; exact cvv_cat ad v
  have hrun := va_runSN (host := host) (n := n) (As := As.map (cvv ad)) (rest := S.map (cvv ad)) (g := F0 m pc ls ((As.reverse ++ S).map (cvv ad))) (l := l) (e := e) (below := below) (meth := meth) (locs := locs) (cells := 0) (slots := 0) (H := H) (R := rmd d') (cxx_fix C) hm1
    ⟨va_cnB (Ts := tblG) n hts (mws_in cv.1) rfl rfl rfl (C.2.2.2.2.2.2.2.2.2.2.1 _ hw) (hts _ cv.2.2.1) cv.2.2.2.1 (rmd_ok (d1 := d1) (by omega) cv.2.2.2.2), hts _ cv.2.1, trivial⟩
    ⟨pxx_blind, fun U hU hW => ⟨rfl, pxx_at hP hS C.2.2.2.2.2.2.2 hU hW⟩⟩ rfl (by rw [List.length_map]; exact hn) hl.1 (by simp [List.map_append, List.map_reverse]) (by rw [hsh]; exact (show 2 * JFrame.monitorRoom _ + _ ≤ 8 from by first | (simpa [JFrame.monitorRoom] using hroom) | exact hroom)) hd ⟨Nat.zero_le _, Nat.zero_le _⟩
  intro T hT X0
  obtain ⟨v, st₀, t, T', L2, h0, X', hL, e1, e2, ⟨ho, hP1, hF⟩, st⟩ := hrun T hT X0
  rw [hrt] at ho
  cases ho
  obtain ⟨t2, a1, b1⟩ := k r1 σ1 hX1 r σ' hK d' hd' D ca ad p e s m args below meth c C T'.heap (locs ++ L2) ls (by rw [e1]; exact hP1) (after_call (rt := cd.2.2.2) (r1 := r1) (σ1 := σ1) (D := D) (ca := ca) hS hL h0 e1 hF) hl T' rfl X'
  exact ⟨t2, st t2 a1, b1⟩
theorem ux_callVv {cd : Md} {d1 n index ci o : Nat} {As : List Value} {fs : List (Option Nat)} {q : vw_C} {XX : Option (Int32 × St)} {KK : Int32 → St → Option (Int32 × St)} (hM : Spc l sh d1 cd (.ref o :: As) σ XX) (hdd : d1 + 1 ≤ d) (cv : CV cd n) (hw : Cond.methodLink md.1.cls index cd.1 ∈ tblG) (hrt : cd.2.2.2 = none) (hn : As.length = n) (ho : sh[o]? = some (.inr (.inr (ci, fs)))) (hc : vwCl[ci]? = some q) (hq : q.1 = cd.1.cls) (hroom : (S.map fun v => v.category).sum ≤ 8) (hd : decode md.2.1 pc = .ok (.invokevirtual index, 3)) (k : ∀ (r1 : Int32) (σ1 : St), XX = some (r1, σ1) → Ux l sh d md (pc + 3) L S σ1 (KK r1 σ1)) : Ux l sh d md pc L (As.reverse ++ .ref o :: S) σ (bnd XX KK) := by
  intro r σ' hX d' hd' D ca ad p e s m args below meth c C H locs ls hP hS hl
  obtain ⟨r1, σ1, hX1, hK⟩ := bnd_some hX
  have hm1 := hM r1 σ1 hX1 (d' - 1) (by omega) D ca ad
  have hts := C.2.2.2.2.2.2.1
  have hsh : (S.map (cvv ad)).map (fun v => v.category) = S.map (fun v => v.category) := by rw [List.map_map]; congr 1; funext v; exact cvv_cat ad v
  have hrecv := va_recv (cl := vwCl) (tys := Tys ca) (ws := shW sh ad ca σ) (D := D) C.2.2.2.2.2.2.2.1 hP (q0 := o) hc (shW_get ho)
  rw [hq] at hrecv
  have hrun := va_runV (C := cd.1.cls) (n := n) (b := ad o) (As := As.map (cvv ad)) (rest := S.map (cvv ad)) (g := F0 m pc ls ((As.reverse ++ .ref o :: S).map (cvv ad))) (l := l) (e := e) (below := below) (meth := meth) (locs := locs) (cells := 0) (slots := 0) (H := H) (R := rmd d') (cxx_fix C) hm1
    (by
      have hb : CallB (rmd d') s args md.1.cls index cd.1 cd.2.1 cd.2.2.1 cd.2.2.2 (mws cd) (rmd (d' - 1)) 0 0 n := callB_of (Ts := tblG) n hts (mws_in cv.1) rfl rfl rfl (hts _ cv.2.2.2.1) (hts _ hw) cv.2.2.2.2.1 (rmd_ok (d1 := d1) (by omega) cv.2.2.2.2.2)
      exact ⟨hb, hts _ cv.2.1, hts _ cv.2.2.1⟩)
    ⟨pxx_blind, hrecv, fun U hU hW => ⟨rfl, pxx_at hP hS C.2.2.2.2.2.2.2 hU hW⟩⟩ rfl (by rw [List.length_map]; exact hn) hl.1 (by simp [List.map_append, List.map_reverse, cvv]) (by rw [hsh]; exact (show 2 * JFrame.monitorRoom _ + _ ≤ 8 from by first | (simpa [JFrame.monitorRoom] using hroom) | exact hroom)) hd ⟨Nat.zero_le _, Nat.zero_le _⟩
  intro T hT X0
  obtain ⟨v, st₀, t, T', L2, h0, X', hL, e1, e2, ⟨ho, hP1, hF⟩, st⟩ := hrun T hT X0
  rw [hrt] at ho
  cases ho
  obtain ⟨t2, a1, b1⟩ := k r1 σ1 hX1 r σ' hK d' hd' D ca ad p e s m args below meth c C T'.heap (locs ++ L2) ls (by rw [e1]; exact hP1) (after_call (rt := cd.2.2.2) (r1 := r1) (σ1 := σ1) (D := D) (ca := ca) hS hL h0 e1 hF) hl T' rfl X'
  exact ⟨t2, st t2 a1, b1⟩
theorem ux_callSv {cd : Md} {d1 n index : Nat} {As : List Value} {XX : Option (Int32 × St)} {KK : Int32 → St → Option (Int32 × St)}  (hM : Spc l sh d1 cd As σ XX) (hdd : d1 + 1 ≤ d) (cv : CS cd n) (hw : Cond.methodLink md.1.cls index cd.1 ∈ tblG) (hrt : cd.2.2.2 = none) (hn : As.length = n) (hroom : (S.map fun v => v.category).sum ≤ 8) (hd : decode md.2.1 pc = .ok (.invokestatic index, 3)) (k : ∀ (r1 : Int32) (σ1 : St), XX = some (r1, σ1) → Ux l sh d md (pc + 3) L S σ1 (KK r1 σ1)) : Ux l sh d md pc L (As.reverse ++ S) σ (bnd XX KK) := by
  intro r σ' hX d' hd' D ca ad p e s m args below meth c C H locs ls hP hS hl
  obtain ⟨r1, σ1, hX1, hK⟩ := bnd_some hX
  have hm1 := hM r1 σ1 hX1 (d' - 1) (by omega) D ca ad
  have hts := C.2.2.2.2.2.2.1
  have hsh : (S.map (cvv ad)).map (fun v => v.category) = S.map (fun v => v.category) := by rw [List.map_map]; congr 1; funext v; exact cvv_cat ad v
  have hrun := va_runS (n := n) (As := As.map (cvv ad)) (rest := S.map (cvv ad)) (g := F0 m pc ls ((As.reverse ++ S).map (cvv ad))) (l := l) (e := e) (below := below) (meth := meth) (locs := locs) (cells := 0) (slots := 0) (H := H) (R := rmd d') (cxx_fix C) hm1
    ⟨callB_of (Ts := tblG) n hts (mws_in cv.1) rfl rfl rfl (hts _ cv.2.2.1) (hts _ hw) cv.2.2.2.1 (rmd_ok (d1 := d1) (by omega) cv.2.2.2.2), hts _ cv.2.1⟩
    ⟨pxx_blind, fun U hU hW => ⟨rfl, pxx_at hP hS C.2.2.2.2.2.2.2 hU hW⟩⟩ rfl (by rw [List.length_map]; exact hn) hl.1 (by simp [List.map_append, List.map_reverse]) (by rw [hsh]; exact (show 2 * JFrame.monitorRoom _ + _ ≤ 8 from by first | (simpa [JFrame.monitorRoom] using hroom) | exact hroom)) hd ⟨Nat.zero_le _, Nat.zero_le _⟩
  intro T hT X0
  obtain ⟨v, st₀, t, T', L2, h0, X', hL, e1, e2, ⟨ho, hP1, hF⟩, st⟩ := hrun T hT X0
  rw [hrt] at ho
  cases ho
  obtain ⟨t2, a1, b1⟩ := k r1 σ1 hX1 r σ' hK d' hd' D ca ad p e s m args below meth c C T'.heap (locs ++ L2) ls (by rw [e1]; exact hP1) (after_call (rt := cd.2.2.2) (r1 := r1) (σ1 := σ1) (D := D) (ca := ca) hS hL h0 e1 hF) hl T' rfl X'
  exact ⟨t2, st t2 a1, b1⟩
theorem ux_callNv {cd : Md} {d1 n index : Nat} {As : List Value} {XX : Option (Int32 × St)} {KK : Int32 → St → Option (Int32 × St)} {host : String} (hM : Spc l sh d1 cd As σ XX) (hdd : d1 + 1 ≤ d) (cv : CS cd n) (hw : (md.1.cls, index, cd.1, host) ∈ nstM) (hrt : cd.2.2.2 = none) (hn : As.length = n) (hroom : (S.map fun v => v.category).sum ≤ 8) (hd : decode md.2.1 pc = .ok (.invokestatic index, 3)) (k : ∀ (r1 : Int32) (σ1 : St), XX = some (r1, σ1) → Ux l sh d md (pc + 3) L S σ1 (KK r1 σ1)) : Ux l sh d md pc L (As.reverse ++ S) σ (bnd XX KK) := by
  intro r σ' hX d' hd' D ca ad p e s m args below meth c C H locs ls hP hS hl
  obtain ⟨r1, σ1, hX1, hK⟩ := bnd_some hX
  have hm1 := hM r1 σ1 hX1 (d' - 1) (by omega) D ca ad
  have hts := C.2.2.2.2.2.2.1
  have hsh : (S.map (cvv ad)).map (fun v => v.category) = S.map (fun v => v.category) := by rw [List.map_map]; congr 1; funext v; exact cvv_cat ad v
  have hrun := va_runSN (host := host) (n := n) (As := As.map (cvv ad)) (rest := S.map (cvv ad)) (g := F0 m pc ls ((As.reverse ++ S).map (cvv ad))) (l := l) (e := e) (below := below) (meth := meth) (locs := locs) (cells := 0) (slots := 0) (H := H) (R := rmd d') (cxx_fix C) hm1
    ⟨va_cnB (Ts := tblG) n hts (mws_in cv.1) rfl rfl rfl (C.2.2.2.2.2.2.2.2.2.2.1 _ hw) (hts _ cv.2.2.1) cv.2.2.2.1 (rmd_ok (d1 := d1) (by omega) cv.2.2.2.2), hts _ cv.2.1, trivial⟩
    ⟨pxx_blind, fun U hU hW => ⟨rfl, pxx_at hP hS C.2.2.2.2.2.2.2 hU hW⟩⟩ rfl (by rw [List.length_map]; exact hn) hl.1 (by simp [List.map_append, List.map_reverse]) (by rw [hsh]; exact (show 2 * JFrame.monitorRoom _ + _ ≤ 8 from by first | (simpa [JFrame.monitorRoom] using hroom) | exact hroom)) hd ⟨Nat.zero_le _, Nat.zero_le _⟩
  intro T hT X0
  obtain ⟨v, st₀, t, T', L2, h0, X', hL, e1, e2, ⟨ho, hP1, hF⟩, st⟩ := hrun T hT X0
  rw [hrt] at ho
  cases ho
  obtain ⟨t2, a1, b1⟩ := k r1 σ1 hX1 r σ' hK d' hd' D ca ad p e s m args below meth c C T'.heap (locs ++ L2) ls (by rw [e1]; exact hP1) (after_call (rt := cd.2.2.2) (r1 := r1) (σ1 := σ1) (D := D) (ca := ca) hS hL h0 e1 hF) hl T' rfl X'
  exact ⟨t2, st t2 a1, b1⟩
theorem ux_mmax {x y : Int32} {index : Nat} (hdd : 1 ≤ d) (hroom : (S.map fun v => v.category).sum ≤ 8) (hw : Cond.methodLink md.1.cls index Lib.Math.max.name ∈ tblG) (hst : Cond.static Lib.Math.max.name ∈ tblG) (hin : Cond.initialized "java/lang/Math" ∈ tblG) (hco : Cond.code Lib.Math.max.name Lib.Math.max.code 2 (some .int) ∈ tblG) (hd : decode md.2.1 pc = .ok (.invokestatic index, 3)) (k : Ux l sh d md (pc + 3) L (.int (if x < y then y else x) :: S) σ X) : Ux l sh d md pc L (.int y :: .int x :: S) σ X := by
  intro r σ' hX d' hd' D ca ad p e s m args below meth c C H locs ls hP hS hl
  have hts := C.2.2.2.2.2.2.1
  have hsh : (S.map (cvv ad)).map (fun v => v.category) = S.map (fun v => v.category) := by rw [List.map_map]; congr 1; funext v; exact cvv_cat ad v
  refine va_mmax C.1 C.2.1 (by rw [C.2.2.1]; exact hl.1.symm) C.2.2.2.2.2.1 (hts _ hw) (hts _ hst) (hts _ hin) (hts _ hco) (show 1 ≤ d' by omega) (by rw [hsh]; show _ ≤ 60 * d'; omega) (Nat.zero_le _) (Nat.zero_le _) hd ?_
  exact k r σ' hX d' hd' D ca ad p e s m args below meth c C H locs ls hP hS hl
theorem ux_mmin {x y : Int32} {index : Nat} (hdd : 1 ≤ d) (hroom : (S.map fun v => v.category).sum ≤ 8) (hw : Cond.methodLink md.1.cls index Lib.Math.min.name ∈ tblG) (hst : Cond.static Lib.Math.min.name ∈ tblG) (hin : Cond.initialized "java/lang/Math" ∈ tblG) (hco : Cond.code Lib.Math.min.name Lib.Math.min.code 2 (some .int) ∈ tblG) (hd : decode md.2.1 pc = .ok (.invokestatic index, 3)) (k : Ux l sh d md (pc + 3) L (.int (if y < x then y else x) :: S) σ X) : Ux l sh d md pc L (.int y :: .int x :: S) σ X := by
  intro r σ' hX d' hd' D ca ad p e s m args below meth c C H locs ls hP hS hl
  have hts := C.2.2.2.2.2.2.1
  have hsh : (S.map (cvv ad)).map (fun v => v.category) = S.map (fun v => v.category) := by rw [List.map_map]; congr 1; funext v; exact cvv_cat ad v
  refine va_mmin C.1 C.2.1 (by rw [C.2.2.1]; exact hl.1.symm) C.2.2.2.2.2.1 (hts _ hw) (hts _ hst) (hts _ hin) (hts _ hco) (show 1 ≤ d' by omega) (by rw [hsh]; show _ ≤ 60 * d'; omega) (Nat.zero_le _) (Nat.zero_le _) hd ?_
  exact k r σ' hX d' hd' D ca ad p e s m args below meth c C H locs ls hP hS hl
theorem cpb_some {sp dp n : Int32} {n0 n1 : Nat} (h : cpb sp dp n n0 n1 = true) : ¬ sp < 0 ∧ ¬ dp < 0 ∧ ¬ n < 0 ∧ sp.toNatClampNeg + n.toNatClampNeg ≤ n0 ∧ dp.toNatClampNeg + n.toNatClampNeg ≤ n1 := by
  obtain ⟨h1, h2, h3, h4, h5⟩ := of_decide_eq_true h
  have z : (0 : Int32).toInt = 0 := rfl
  have c : ∀ x : Int32, 0 ≤ x.toInt → (x.toNatClampNeg : Int) = x.toInt := fun x hx => by
    show ((x.toInt.toNat : Nat) : Int) = x.toInt
    omega
  have l : ∀ x : Int32, 0 ≤ x.toInt → ¬ x < 0 := fun x hx q => by
    have := Int32.lt_iff_toInt_lt.mp q
    rw [z] at this
    omega
  refine ⟨l _ h1, l _ h2, l _ h3, ?_, ?_⟩
  · have := c sp h1
    have := c n h3
    omega
  · have := c dp h2
    have := c n h3
    omega
theorem acopy_words : nativeFrameWords "java/lang/System" "arraycopy" 5 ≤ 100 := by decide +kernel
theorem ux_acopy {sp dp n : Int32} {a0 a1 n0 n1 index : Nat} (hdd : 2 ≤ d) (hroom : (S.map fun v => v.category).sum ≤ 8) (hw : Cond.methodLink md.1.cls index arraycopyName ∈ tblG) (hnat : Cond.native arraycopyName ∈ tblG) (hst : Cond.static arraycopyName ∈ tblG) (hin : Cond.initialized "java/lang/System" ∈ tblG) (h0 : sh[a0]? = some (.inl n0)) (h1 : sh[a1]? = some (.inl n1)) (hd : decode md.2.1 pc = .ok (.invokestatic index, 3)) (k : Ux l sh d md (pc + 3) L S (sC σ a0 sp.toNatClampNeg a1 dp.toNatClampNeg n.toNatClampNeg) X) : Ux l sh d md pc L (.int n :: .int dp :: .ref a1 :: .int sp :: .ref a0 :: S) σ (grd (cpb sp dp n n0 n1) X) := by
  intro r σ' hX d' hd' D ca ad p e s m args below meth c C H locs ls hP hS hl
  have hts := C.2.2.2.2.2.2.1
  have hsh : (S.map (cvv ad)).map (fun v => v.category) = S.map (fun v => v.category) := by rw [List.map_map]; congr 1; funext v; exact cvv_cat ad v
  obtain ⟨g1, g2, g3, g4, g5⟩ := cpb_some (grd_some hX).1
  have hloc : (S.map fun v => v.category).sum + (nativeFrameWords "java/lang/System" "arraycopy" 5 + 11) ≤ (rmd d').locals := by
    show _ ≤ 60 * d'
    have := acopy_words
    omega
  refine va_copyi (cl := vwCl) (tys := Tys ca) (ws := shW sh ad ca σ) (D := D) (A := fA sh ad) C.1 C.2.1 (by rw [C.2.2.1]; exact hl.1.symm) C.2.2.2.2.2.1 (hts _ hw) (hts _ hnat) (hts _ hst) (hts _ hin) C.2.2.2.2.2.2.2.1 hP (shW_D σ C.2.2.2.2.2.2.2.2.1) hS a0 a1 0 0 (shW_get h0) (shW_get h1) rfl rfl rfl g1 g2 g3 g4 g5 (fun _ _ => rfl) (show 1 ≤ d' by omega) (by rw [hsh]; exact hloc) hd (fun H locs hP _ hS => ?_)
  have hP : va_P D vwCl (shW sh ad ca (sC σ a0 sp.toNatClampNeg a1 dp.toNatClampNeg n.toNatClampNeg)) H := by rw [← shW_cpy h1]; exact hP
  exact k r σ' (grd_some hX).2 d' hd' D ca ad p e s m args below meth c C H locs ls hP hS hl
end Calls
