/-! ===== the law's own judgement: both modules stand beside each other ===== -/
theorem shC_0 : shC[0]? = some (.inr (.inr (6, [some 15, some 24, some 33, some 42, some 44, some 46, some 49, some 51, some 53, some 62, some 64, none]))) := rfl
theorem shM_0 : shM[0]? = some (.inr (.inr (7, [some 1, some 2, some 3, none, some 4, some 5, some 6, some 7, some 8, some 9, some 10, some 11, none, none, none, none, none, some 12, some 13, none, none]))) := rfl
section LawJ
variable {p : Program} {l : Launch} {e : Env} {s : State} {m : MethodId} {below : List Frame} {meth : Method} {c : Code} {b N : Nat} {xs : Nat → Int32}
/-- what stands at the law's entry and behind its two constructors -/
def LC (p : Program) (s : State) (m : MethodId) (meth : Method) (c : Code) (b N : Nat) (xs : Nat → Int32) (D : va_G) (ca : Nat → ClassId) (aC aM : Nat → Nat) : Prop :=
  lw_At p s m meth c b N xs ∧ Kx shC D ca aC s ∧ Kx shM D ca aM s ∧ (∀ o, o < shC.length → s.heap.size ≤ aC o) ∧ (∀ o, o < shM.length → s.heap.size ≤ aM o) ∧ ∀ o o', o < shC.length → o' < shM.length → aC o ≠ aM o'
variable {D : va_G} {ca : Nat → ClassId} {aC aM : Nat → Nat} {kc ks : Nat}
def LU (p : Program) (l : Launch) (e : Env) (s : State) (m : MethodId) (below : List Frame) (meth : Method) (c : Code) (b : Nat) (D : va_G) (ca : Nat → ClassId) (aC aM : Nat → Nat) (kc ks : Nat) (pc : Nat) (L : List (Nat × Value)) (S : List Value) (σ τ : St) : Prop :=
  ∀ (H : Heap) (locs : List Loc) (ls : Array Slot), va_P D vwCl (shW shC aC ca σ) H → va_P D vwCl (shW shM aM ca τ) H → va_S (fun q : Nat => s.heap.size ≤ q) s.heap H locs → lv_has ls 4 L → W p l e room_1 s m #[Value.ref b] below meth c H locs kc ks (lw_Z below #[Value.ref b] s) (F0 m pc ls S)
variable {pc : Nat} {L : List (Nat × Value)} {S : List Value} {σ τ : St}
theorem lu_iconst (C : LC p s m meth c b N xs D ca aC aM) {n : Int} (v : Int32) (hd : decode code pc = .ok (.iconst n, 1)) (hv : Int32.ofInt n = v) (k : LU p l e s m below meth c b D ca aC aM kc ks (pc + 1) L (.int v :: S) σ τ) : LU p l e s m below meth c b D ca aC aM kc ks pc L S σ τ := fun H locs ls hP hQ hS hl => lv_iconst C.1.1 C.1.2.1 hd hv (k H locs ls hP hQ hS hl)
theorem lu_bipush (C : LC p s m meth c b N xs D ca aC aM) {n : Int} (v : Int32) (hd : decode code pc = .ok (.bipush n, 2)) (hv : (Int8.ofInt n).toInt32 = v) (k : LU p l e s m below meth c b D ca aC aM kc ks (pc + 2) L (.int v :: S) σ τ) : LU p l e s m below meth c b D ca aC aM kc ks pc L S σ τ := fun H locs ls hP hQ hS hl => lv_bipush C.1.1 C.1.2.1 hd hv (k H locs ls hP hQ hS hl)
theorem lu_iload (C : LC p s m meth c b N xs D ca aC aM) {j : Fin 4} {x : Int32} (hd : decode code pc = .ok (.iload_n j, 1)) (hi : lvk L j.val = some (.int x)) (k : LU p l e s m below meth c b D ca aC aM kc ks (pc + 1) L (.int x :: S) σ τ) : LU p l e s m below meth c b D ca aC aM kc ks pc L S σ τ := fun H locs ls hP hQ hS hl => lv_iload_n C.1.1 C.1.2.1 hd rfl (lvk_at0 hl hi) (k H locs ls hP hQ hS hl)
theorem lu_aload (C : LC p s m meth c b N xs D ca aC aM) {j : Fin 4} {x : Nat} (hd : decode code pc = .ok (.aload_n j, 1)) (hi : lvk L j.val = some (.ref x)) (k : LU p l e s m below meth c b D ca aC aM kc ks (pc + 1) L (.ref x :: S) σ τ) : LU p l e s m below meth c b D ca aC aM kc ks pc L S σ τ := fun H locs ls hP hQ hS hl => lv_aload_n C.1.1 C.1.2.1 hd rfl (lvk_at0 hl hi) (k H locs ls hP hQ hS hl)
theorem lu_iadd (C : LC p s m meth c b N xs D ca aC aM) {x y : Int32} (hd : decode code pc = .ok (.iadd, 1)) (k : LU p l e s m below meth c b D ca aC aM kc ks (pc + 1) L (.int (x + y) :: S) σ τ) : LU p l e s m below meth c b D ca aC aM kc ks pc L (.int y :: .int x :: S) σ τ := fun H locs ls hP hQ hS hl => lv_iadd C.1.1 C.1.2.1 hd (k H locs ls hP hQ hS hl)
theorem lu_isub (C : LC p s m meth c b N xs D ca aC aM) {x y : Int32} (hd : decode code pc = .ok (.isub, 1)) (k : LU p l e s m below meth c b D ca aC aM kc ks (pc + 1) L (.int (x - y) :: S) σ τ) : LU p l e s m below meth c b D ca aC aM kc ks pc L (.int y :: .int x :: S) σ τ := fun H locs ls hP hQ hS hl => lv_isub C.1.1 C.1.2.1 hd (k H locs ls hP hQ hS hl)
theorem lu_iand (C : LC p s m meth c b N xs D ca aC aM) {x y : Int32} (hd : decode code pc = .ok (.iand, 1)) (k : LU p l e s m below meth c b D ca aC aM kc ks (pc + 1) L (.int (x &&& y) :: S) σ τ) : LU p l e s m below meth c b D ca aC aM kc ks pc L (.int y :: .int x :: S) σ τ := fun H locs ls hP hQ hS hl => lv_iand C.1.1 C.1.2.1 hd (k H locs ls hP hQ hS hl)
theorem lu_i2l (C : LC p s m meth c b N xs D ca aC aM) {x : Int32} (hd : decode code pc = .ok (.i2l, 1)) (k : LU p l e s m below meth c b D ca aC aM kc ks (pc + 1) L (.long x.toInt64 :: S) σ τ) : LU p l e s m below meth c b D ca aC aM kc ks pc L (.int x :: S) σ τ := fun H locs ls hP hQ hS hl => lv_i2l C.1.1 C.1.2.1 hd rfl (k H locs ls hP hQ hS hl)
theorem lu_lshl (C : LC p s m meth c b N xs D ca aC aM) {x : Int64} {y : Int32} (hd : decode code pc = .ok (.lshl, 1)) (k : LU p l e s m below meth c b D ca aC aM kc ks (pc + 1) L (.long (x <<< (y.toInt64 &&& 63)) :: S) σ τ) : LU p l e s m below meth c b D ca aC aM kc ks pc L (.int y :: .long x :: S) σ τ := fun H locs ls hP hQ hS hl => lv_lshl C.1.1 C.1.2.1 hd rfl (k H locs ls hP hQ hS hl)
theorem lu_land (C : LC p s m meth c b N xs D ca aC aM) {x y : Int64} (hd : decode code pc = .ok (.land, 1)) (k : LU p l e s m below meth c b D ca aC aM kc ks (pc + 1) L (.long (x &&& y) :: S) σ τ) : LU p l e s m below meth c b D ca aC aM kc ks pc L (.long y :: .long x :: S) σ τ := fun H locs ls hP hQ hS hl => lv_land C.1.1 C.1.2.1 hd (k H locs ls hP hQ hS hl)
theorem lu_lor (C : LC p s m meth c b N xs D ca aC aM) {x y : Int64} (hd : decode code pc = .ok (.lor, 1)) (k : LU p l e s m below meth c b D ca aC aM kc ks (pc + 1) L (.long (x ||| y) :: S) σ τ) : LU p l e s m below meth c b D ca aC aM kc ks pc L (.long y :: .long x :: S) σ τ := fun H locs ls hP hQ hS hl => lv_lor C.1.1 C.1.2.1 hd (k H locs ls hP hQ hS hl)
theorem lu_ldc2 (C : LC p s m meth c b N xs D ca aC aM) {index : Nat} (v : Int64) (hw : Cond.constantLong R_law index v ∈ lw_tbl) (hd : decode code pc = .ok (.ldc2_w index, 3)) (k : LU p l e s m below meth c b D ca aC aM kc ks (pc + 3) L (.long v :: S) σ τ) : LU p l e s m below meth c b D ca aC aM kc ks pc L S σ τ := fun H locs ls hP hQ hS hl => lv_ldc2 C.1.1 C.1.2.1 C.1.2.2.2.2.1 (C.1.2.2.2.2.2.1 _ hw) hd (k H locs ls hP hQ hS hl)
theorem lu_sld (C : LC p s m meth c b N xs D ca aC aM) {i : Int32} (hin : vp_in i N) (hd : decode code pc = .ok (.iaload, 1)) (k : LU p l e s m below meth c b D ca aC aM kc ks (pc + 1) L (.int (xs i.toNatClampNeg) :: S) σ τ) : LU p l e s m below meth c b D ca aC aM kc ks pc L (.int i :: .ref b :: S) σ τ := fun H locs ls hP hQ hS hl => va_sld C.1.1 C.1.2.1 C.1.2.2.2.2.2.2.1 C.1.2.2.2.2.2.2.2.1 (Nat.not_le.mpr C.1.2.2.2.2.2.2.2.1) hS hin hd (k H locs ls hP hQ hS hl)
theorem lu_slen (C : LC p s m meth c b N xs D ca aC aM) (hd : decode code pc = .ok (.arraylength, 1)) (k : LU p l e s m below meth c b D ca aC aM kc ks (pc + 1) L (.int (nI N) :: S) σ τ) : LU p l e s m below meth c b D ca aC aM kc ks pc L (.ref b :: S) σ τ := fun H locs ls hP hQ hS hl => va_slen C.1.1 C.1.2.1 C.1.2.2.2.2.2.2.1 C.1.2.2.2.2.2.2.2.1 (Nat.not_le.mpr C.1.2.2.2.2.2.2.2.1) hS hd (k H locs ls hP hQ hS hl)
theorem lu_goto (C : LC p s m meth c b N xs D ca aC aM) {off : Int} (tgt : Nat) (hd : decode code pc = .ok (.goto off, 3)) (ht : (pc : Int) + off = (tgt : Int)) (k : LU p l e s m below meth c b D ca aC aM kc ks tgt L S σ τ) : LU p l e s m below meth c b D ca aC aM kc ks pc L S σ τ := fun H locs ls hP hQ hS hl => lv_goto C.1.1 C.1.2.1 hd ht (k H locs ls hP hQ hS hl)
theorem lu_gt (C : LC p s m meth c b N xs D ca aC aM) {x y : Int32} {off : Int} (tgt : Nat) (hd : decode code pc = .ok (.if_icmp .gt off, 3)) (ht : (pc : Int) + off = (tgt : Int)) (kt : y < x → LU p l e s m below meth c b D ca aC aM kc ks tgt L S σ τ) (kf : ¬ y < x → LU p l e s m below meth c b D ca aC aM kc ks (pc + 3) L S σ τ) : LU p l e s m below meth c b D ca aC aM kc ks pc L (.int y :: .int x :: S) σ τ := fun H locs ls hP hQ hS hl => lv_icmp_gt C.1.1 C.1.2.1 hd ht (fun h => kt h H locs ls hP hQ hS hl) (fun h => kf h H locs ls hP hQ hS hl)
theorem lu_eq (C : LC p s m meth c b N xs D ca aC aM) {x : Int32} {off : Int} (tgt : Nat) (hd : decode code pc = .ok (.if_icmp .eq off, 3)) (ht : (pc : Int) + off = (tgt : Int)) (kt : LU p l e s m below meth c b D ca aC aM kc ks tgt L S σ τ) : LU p l e s m below meth c b D ca aC aM kc ks pc L (.int x :: .int x :: S) σ τ := fun H locs ls hP hQ hS hl => lv_icmp_eq C.1.1 C.1.2.1 hd ht (fun _ => kt H locs ls hP hQ hS hl) (fun h => absurd rfl h)
theorem lu_tabIn (C : LC p s m meth c b N xs D ca aC aM) {dflt lo hi : Int} {offs : Array Int} {len : Nat} {x : Int32} {off : Int} (tgt : Nat) (hd : decode code pc = .ok (.tableswitch dflt lo hi offs, len)) (h1 : ¬ x.toInt < lo) (h2 : ¬ hi < x.toInt) (ho : offs[(x.toInt - lo).toNat]? = some off) (ht : (pc : Int) + off = (tgt : Int)) (k : LU p l e s m below meth c b D ca aC aM kc ks tgt L S σ τ) : LU p l e s m below meth c b D ca aC aM kc ks pc L (.int x :: S) σ τ := fun H locs ls hP hQ hS hl => lv_tableIn C.1.1 C.1.2.1 hd h1 h2 ho ht (k H locs ls hP hQ hS hl)
theorem lu_tabOut (C : LC p s m meth c b N xs D ca aC aM) {dflt lo hi : Int} {offs : Array Int} {len : Nat} {x : Int32} (tgt : Nat) (hd : decode code pc = .ok (.tableswitch dflt lo hi offs, len)) (h : x.toInt < lo ∨ hi < x.toInt) (ht : (pc : Int) + dflt = (tgt : Int)) (k : LU p l e s m below meth c b D ca aC aM kc ks tgt L S σ τ) : LU p l e s m below meth c b D ca aC aM kc ks pc L (.int x :: S) σ τ := fun H locs ls hP hQ hS hl => lv_tableOut C.1.1 C.1.2.1 hd h ht (k H locs ls hP hQ hS hl)
theorem lu_iinc (C : LC p s m meth c b N xs D ca aC aM) {i : Nat} {n : Int} {x : Int32} (v : Int32) (L' : List (Nat × Value)) (hd : decode code pc = .ok (.iinc i n, 3)) (hi : lvk L i = some (.int x)) (hv : x + Int32.ofInt n = v) (hn : i < 4) (hL : lst L i (.int v) = L') (k : LU p l e s m below meth c b D ca aC aM kc ks (pc + 3) L' S σ τ) : LU p l e s m below meth c b D ca aC aM kc ks pc L S σ τ := by
  intro H locs ls hP hQ hS hl
  obtain ⟨q, hq⟩ := lvk_at hi
  exact lv_iinc C.1.1 C.1.2.1 hd hl hq hv hn hL (fun ls hl => k H locs ls hP hQ hS hl)
theorem lu_ret (C : LC p s m meth c b N xs D ca aC aM) (hk : kc ≤ 600000) (hs : ks ≤ 7302249) (hd : decode code pc = .ok (.ireturn, 1)) : LU p l e s m below meth c b D ca aC aM kc ks pc L [.int 1] σ τ := by
  intro H locs ls hP hQ hS hl
  refine va_forget (fun q hq => hS.2.2 q hq) ?_
  refine W.widen (k := 600000) (n := 7302249) hk hs ?_
  exact lw_ret C.1.1 C.1.2.1 C.1.2.2.1 C.1.2.2.2.2.2.2.2.2.1 hd
theorem law_fix (C : LC p s m meth c b N xs D ca aC aM) : CallFix p m c code 4 s #[Value.ref b] lw_tbl R_law := ⟨C.1.1, C.1.2.1, C.1.2.2.2.1, C.1.2.2.2.2.1, C.1.2.2.2.2.2.1⟩
theorem law_rm {d nL : Nat} (h : d ≤ 1000) (hn : nL ≤ 40) : (rmd d).frames + 1 ≤ room_1.frames ∧ 8 + (nL + 11) + (rmd d).locals ≤ room_1.locals := by
  show d + 1 ≤ 2048 ∧ 8 + (nL + 11) + 60 * d ≤ 84000
  omega
theorem after_law {H : Heap} {locs L2 : List Loc} {st₀ t T' : State} {A : Nat → Prop} (hA : ∀ q, A q → s.heap.size ≤ q) (hS : va_S (fun q : Nat => s.heap.size ≤ q) s.heap H locs) (hL : ∀ q ∈ L2, A q.base) (h0 : st₀.heap = H) (e1 : T'.heap = t.heap) (hF : va_F A st₀ t) : va_S (fun q : Nat => s.heap.size ≤ q) s.heap T'.heap (locs ++ L2) := by
  refine ⟨Nat.le_trans hS.1 (by rw [e1, ← h0]; exact hF.1), fun q h1 h2 => ?_, fun q hq => (List.mem_append.mp hq).elim (hS.2.2 q) (fun h => hA _ (hL q h))⟩
  rw [e1, hF.2 q (by rw [h0]; exact Nat.lt_of_lt_of_le h1 hS.1) (fun h => h2 (hA q h)), h0]
  exact hS.2.1 q h1 h2
theorem other_kept {sh sh' : List ShE} {ad ad' : Nat → Nat} {σ : St} {H H1 : Heap} (hdis : ∀ o o', o < sh.length → o' < sh'.length → ad o ≠ ad' o') (hP : va_P D vwCl (shW sh ad ca σ) H) (hk : ∀ q : Nat, q < H.size → ¬ fA sh' ad' q → H1[q]? = H[q]?) : va_P D vwCl (shW sh ad ca σ) H1 := by
  refine hP.kept fun k q hq => hk q.1 (hP k q hq).lt ?_
  obtain ⟨h1, h2⟩ := shW_at hq
  rintro ⟨o', h3, h4⟩
  exact hdis k o' h1 h3 (by rw [← h2, h4])
theorem pxx_law {sh : List ShE} {ad : Nat → Nat} {σ : St} {H : Heap} {locs : List Loc} {U : State} (hP : va_P D vwCl (shW sh ad ca σ) H) (hS : va_S (fun q : Nat => s.heap.size ≤ q) s.heap H locs) (hK : Kx sh D ca ad s) (hU : U.heap = H) (hW : s.WarmedH U.vm) : Pxx sh D ca ad σ U := ⟨by rw [hU]; exact hP, hK.warm hW (fun a h1 _ => by rw [hU]; exact hS.2.1 a h1 (Nat.not_le.mpr h1))⟩
theorem law_cw {own : String} {cd : Md} {n index d : Nat} (hown : own = R_law) (hts : ∀ w ∈ lw_tbl, w.before #[Value.ref b] s = true) (cv : CV cd n) (hw : Cond.methodLink own index cd.1 ∈ lw_tbl) (hd : d ≤ 1000) : CallW room_1 s #[Value.ref b] own cd.1.cls index cd.1 cd.2.1 cd.2.2.1 cd.2.2.2 (mws cd) (rmd d) 0 0 n := by
  have hg : ∀ w ∈ tblG, w ∈ lw_tbl := fun w h => (List.mem_filter.mp h).1
  have hG : GoodIn lw_tbl (mws cd) := fun w hw => ⟨hg _ ((mws_in cv.1 w hw).1), (mws_in cv.1 w hw).2⟩
  exact ⟨callB_of (Ts := lw_tbl) n hts hG rfl rfl rfl (hts _ (hg _ cv.2.2.2.1)) (hts _ hw) cv.2.2.2.2.1 (law_rm hd cv.2.2.2.2.2), hts _ (hg _ cv.2.1), hts _ (hg _ cv.2.2.1)⟩
set_option maxHeartbeats 2000000 in
theorem lu_callC (C : LC p s m meth c b N xs D ca aC aM) {ty : FieldType} {cd : Md} {d n index : Nat} {As : List Value} {X : Option (Int32 × St)} {r : Int32} {σ' : St} (hM : Spc l shC d cd (.ref 0 :: As) σ X) (hX : X = some (r, σ')) (hdd : d ≤ 1000) (cv : CV cd n) (hcl : cd.1.cls = RX6) (hw : Cond.methodLink R_law index cd.1 ∈ lw_tbl) (hrt : cd.2.2.2 = some ty) (hn : As.length = n) (hAs : As.map (cvv aC) = As) (hroom : (S.map fun v => v.category).sum ≤ 8) (hk : kc ≤ 600000) (hs : ks ≤ 7302249) (hd : decode code pc = .ok (.invokevirtual index, 3)) (k : LU p l e s m below meth c b D ca aC aM kc ks (pc + 3) L (.int r :: S) σ' τ) : LU p l e s m below meth c b D ca aC aM kc ks pc L (As.reverse ++ .ref (aC 0) :: S) σ τ := by
  intro H locs ls hP hQ hS hl
  have hm1 := hM r σ' hX d (Nat.le_refl d) D ca aC
  have hrecv := va_recv (cl := vwCl) (tys := Tys ca) (ws := shW shC aC ca σ) (D := D) C.2.1.1 hP (q0 := 0) (ci := 6) rfl (shW_get shC_0)
  have hm1 : Met l cd.1 (mws cd) (rmd d) (va_Pc (.ref (aC 0) :: As) (Pxx shC D ca aC σ)) (Qxx cd.2.2.2 r σ' shC D ca aC) 0 0 (fA shC aC) := by
    have e1 : (Value.ref 0 :: As).map (cvv aC) = .ref (aC 0) :: As := by rw [List.map_cons, hAs]; rfl
    rw [e1] at hm1
    exact hm1
  have hrun := va_runV (C := cd.1.cls) (n := n) (b := aC 0) (As := As) (rest := S) (g := F0 m pc ls (As.reverse ++ .ref (aC 0) :: S)) (l := l) (e := e) (below := below) (meth := meth) (locs := locs) (cells := kc) (slots := ks) (H := H) (R := room_1) (law_fix C) hm1 (law_cw rfl C.1.2.2.2.2.2.1 cv hw hdd)
    ⟨pxx_blind, by rw [hcl]; exact hrecv, fun U hU hW => ⟨rfl, pxx_law hP hS C.2.1 hU hW⟩⟩ rfl hn hl.1 rfl (by first | (simpa [JFrame.monitorRoom] using hroom) | exact hroom) hd ⟨hk, hs⟩
  intro T hT X0
  obtain ⟨v, st₀, t, T', L2, h0, X', hL, e1, e2, ⟨ho, hP1, hF⟩, st⟩ := hrun T hT X0
  rw [hrt] at ho
  cases ho
  have hA : ∀ q, fA shC aC q → s.heap.size ≤ q := fun q ⟨o, h1, h2⟩ => by rw [h2]; exact C.2.2.2.1 o h1
  obtain ⟨t2, a1, b1⟩ := k T'.heap (locs ++ L2) ls (by rw [e1]; exact hP1) (other_kept (fun o o' h1 h2 => (C.2.2.2.2.2 o' o h2 h1).symm) hQ (fun q h1 h2 => by rw [e1, hF.2 q (by rw [h0]; exact h1) h2, h0])) (after_law hA hS hL h0 e1 hF) hl T' rfl X'
  exact ⟨t2, st t2 a1, b1⟩
set_option maxHeartbeats 2000000 in
theorem lu_callM (C : LC p s m meth c b N xs D ca aC aM) {ty : FieldType} {cd : Md} {d n index : Nat} {As : List Value} {X : Option (Int32 × St)} {r : Int32} {τ' : St} (hM : Spc l shM d cd (.ref 0 :: As) τ X) (hX : X = some (r, τ')) (hdd : d ≤ 1000) (cv : CV cd n) (hcl : cd.1.cls = RX7) (hw : Cond.methodLink R_law index cd.1 ∈ lw_tbl) (hrt : cd.2.2.2 = some ty) (hn : As.length = n) (hAs : As.map (cvv aM) = As) (hroom : (S.map fun v => v.category).sum ≤ 8) (hk : kc ≤ 600000) (hs : ks ≤ 7302249) (hd : decode code pc = .ok (.invokevirtual index, 3)) (k : LU p l e s m below meth c b D ca aC aM kc ks (pc + 3) L (.int r :: S) σ τ') : LU p l e s m below meth c b D ca aC aM kc ks pc L (As.reverse ++ .ref (aM 0) :: S) σ τ := by
  intro H locs ls hP hQ hS hl
  have hm1 := hM r τ' hX d (Nat.le_refl d) D ca aM
  have hrecv := va_recv (cl := vwCl) (tys := Tys ca) (ws := shW shM aM ca τ) (D := D) C.2.2.1.1 hQ (q0 := 0) (ci := 7) rfl (shW_get shM_0)
  have hm1 : Met l cd.1 (mws cd) (rmd d) (va_Pc (.ref (aM 0) :: As) (Pxx shM D ca aM τ)) (Qxx cd.2.2.2 r τ' shM D ca aM) 0 0 (fA shM aM) := by
    have e1 : (Value.ref 0 :: As).map (cvv aM) = .ref (aM 0) :: As := by rw [List.map_cons, hAs]; rfl
    rw [e1] at hm1
    exact hm1
  have hrun := va_runV (C := cd.1.cls) (n := n) (b := aM 0) (As := As) (rest := S) (g := F0 m pc ls (As.reverse ++ .ref (aM 0) :: S)) (l := l) (e := e) (below := below) (meth := meth) (locs := locs) (cells := kc) (slots := ks) (H := H) (R := room_1) (law_fix C) hm1 (law_cw rfl C.1.2.2.2.2.2.1 cv hw hdd)
    ⟨pxx_blind, by rw [hcl]; exact hrecv, fun U hU hW => ⟨rfl, pxx_law hQ hS C.2.2.1 hU hW⟩⟩ rfl hn hl.1 rfl (by first | (simpa [JFrame.monitorRoom] using hroom) | exact hroom) hd ⟨hk, hs⟩
  intro T hT X0
  obtain ⟨v, st₀, t, T', L2, h0, X', hL, e1, e2, ⟨ho, hP1, hF⟩, st⟩ := hrun T hT X0
  rw [hrt] at ho
  cases ho
  have hA : ∀ q, fA shM aM q → s.heap.size ≤ q := fun q ⟨o, h1, h2⟩ => by rw [h2]; exact C.2.2.2.2.1 o h1
  obtain ⟨t2, a1, b1⟩ := k T'.heap (locs ++ L2) ls (other_kept C.2.2.2.2.2 hP (fun q h1 h2 => by rw [e1, hF.2 q (by rw [h0]; exact h1) h2, h0])) (by rw [e1]; exact hP1) (after_law hA hS hL h0 e1 hF) hl T' rfl X'
  exact ⟨t2, st t2 a1, b1⟩
end LawJ
