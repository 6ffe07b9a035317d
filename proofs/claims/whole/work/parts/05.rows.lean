/-! ===== a row an instruction ===== -/
def irm (x y : Int32) : Int32 := x - x / y * y
def iush (x y : Int32) : Int32 := (x.toUInt32 >>> (y.toUInt32 &&& Int32.toUInt32 31)).toInt32
def lush (x : Int64) (y : Int32) : Int64 := (x.toUInt64 >>> (y.toInt64.toUInt64 &&& Int64.toUInt64 63)).toInt64
def lsh (x : Int64) (y : Int32) : Int64 := x >>> (y.toInt64 &&& 63)
def i2b (x : Int32) : Int32 := x.toInt8.toInt32
def i2s (x : Int32) : Int32 := x.toInt16.toInt32
def imx (x y : Int32) : Int32 := if x < y then y else x
def imn (x y : Int32) : Int32 := if y < x then y else x
def nas (σ : St) (K : St → Option (Int32 × St)) : Option (Int32 × St) := K σ
def wid (q : Nat) (K : Nat → Option (Int32 × St)) : Option (Int32 × St) := K q
theorem lv_wk {ls : Array Slot} {n : Nat} {l l' : List (Nat × Value)} (h : lv_has ls n l) (ks : List Nat) (hk : lv_pick l ks = l') : lv_has ls n l' := lv_sub h ks hk
section Rows
variable {l : Launch} {sh : List ShE} {d : Nat} {md : Md} {pc : Nat} {L : List (Nat × Value)} {S : List Value} {σ : St} {X Y : Option (Int32 × St)}
theorem ux_none : Ux l sh d md pc L S σ none := fun r σ' h => by cases h
theorem ux_iconst {n : Int} (v : Int32) (hd : decode md.2.1 pc = .ok (.iconst n, 1)) (hv : Int32.ofInt n = v) (k : Ux l sh d md (pc + 1) L (.int v :: S) σ X) : Ux l sh d md pc L S σ X := by
  intro r σ' hX d' hd' D ca ad p e s m args below meth c C H locs ls hP hS hl
  exact lv_iconst C.1 C.2.1 hd hv (k r σ' hX d' hd' D ca ad p e s m args below meth c C H locs ls hP hS hl)
theorem ux_bipush {n : Int} (v : Int32) (hd : decode md.2.1 pc = .ok (.bipush n, 2)) (hv : (Int8.ofInt n).toInt32 = v) (k : Ux l sh d md (pc + 2) L (.int v :: S) σ X) : Ux l sh d md pc L S σ X := by
  intro r σ' hX d' hd' D ca ad p e s m args below meth c C H locs ls hP hS hl
  exact lv_bipush C.1 C.2.1 hd hv (k r σ' hX d' hd' D ca ad p e s m args below meth c C H locs ls hP hS hl)
theorem ux_sipush {n : Int} (v : Int32) (hd : decode md.2.1 pc = .ok (.sipush n, 3)) (hv : (Int16.ofInt n).toInt32 = v) (k : Ux l sh d md (pc + 3) L (.int v :: S) σ X) : Ux l sh d md pc L S σ X := by
  intro r σ' hX d' hd' D ca ad p e s m args below meth c C H locs ls hP hS hl
  exact lv_sipush C.1 C.2.1 hd hv (k r σ' hX d' hd' D ca ad p e s m args below meth c C H locs ls hP hS hl)
theorem ux_iload_n {j : Fin 4} {x : Int32} (hd : decode md.2.1 pc = .ok (.iload_n j, 1)) (hi : lvk L j.val = some (.int x)) (k : Ux l sh d md (pc + 1) L (.int x :: S) σ X) : Ux l sh d md pc L S σ X := by
  intro r σ' hX d' hd' D ca ad p e s m args below meth c C H locs ls hP hS hl
  exact lv_iload_n C.1 C.2.1 hd rfl (lx_at hl hi) (k r σ' hX d' hd' D ca ad p e s m args below meth c C H locs ls hP hS hl)
theorem ux_iload {i : Nat} {x : Int32} (hd : decode md.2.1 pc = .ok (.iload i, 2)) (hi : lvk L i = some (.int x)) (k : Ux l sh d md (pc + 2) L (.int x :: S) σ X) : Ux l sh d md pc L S σ X := by
  intro r σ' hX d' hd' D ca ad p e s m args below meth c C H locs ls hP hS hl
  exact lv_iload C.1 C.2.1 hd (lx_at hl hi) (k r σ' hX d' hd' D ca ad p e s m args below meth c C H locs ls hP hS hl)
theorem ux_aload_n {j : Fin 4} {x : Nat} (hd : decode md.2.1 pc = .ok (.aload_n j, 1)) (hi : lvk L j.val = some (.ref x)) (k : Ux l sh d md (pc + 1) L (.ref x :: S) σ X) : Ux l sh d md pc L S σ X := by
  intro r σ' hX d' hd' D ca ad p e s m args below meth c C H locs ls hP hS hl
  exact lv_aload_n C.1 C.2.1 hd rfl (lx_at hl hi) (k r σ' hX d' hd' D ca ad p e s m args below meth c C H locs ls hP hS hl)
theorem ux_aload {i : Nat} {x : Nat} (hd : decode md.2.1 pc = .ok (.aload i, 2)) (hi : lvk L i = some (.ref x)) (k : Ux l sh d md (pc + 2) L (.ref x :: S) σ X) : Ux l sh d md pc L S σ X := by
  intro r σ' hX d' hd' D ca ad p e s m args below meth c C H locs ls hP hS hl
  exact lv_aload C.1 C.2.1 hd (lx_at hl hi) (k r σ' hX d' hd' D ca ad p e s m args below meth c C H locs ls hP hS hl)
theorem ux_lload_n {j : Fin 4} {x : Int64} (hd : decode md.2.1 pc = .ok (.lload_n j, 1)) (hi : lvk L j.val = some (.long x)) (k : Ux l sh d md (pc + 1) L (.long x :: S) σ X) : Ux l sh d md pc L S σ X := by
  intro r σ' hX d' hd' D ca ad p e s m args below meth c C H locs ls hP hS hl
  exact lv_lload_n C.1 C.2.1 hd rfl (lx_at hl hi) (k r σ' hX d' hd' D ca ad p e s m args below meth c C H locs ls hP hS hl)
theorem ux_lload {i : Nat} {x : Int64} (hd : decode md.2.1 pc = .ok (.lload i, 2)) (hi : lvk L i = some (.long x)) (k : Ux l sh d md (pc + 2) L (.long x :: S) σ X) : Ux l sh d md pc L S σ X := by
  intro r σ' hX d' hd' D ca ad p e s m args below meth c C H locs ls hP hS hl
  exact lv_lload C.1 C.2.1 hd (lx_at hl hi) (k r σ' hX d' hd' D ca ad p e s m args below meth c C H locs ls hP hS hl)
theorem ux_istore_n {j : Fin 4} {x : Int32} (L' : List (Nat × Value)) (hd : decode md.2.1 pc = .ok (.istore_n j, 1)) (hn : j.val < md.2.2.1) (hL : lst L j.val (.int x) = L') (k : Ux l sh d md (pc + 1) L' S σ X) : Ux l sh d md pc L (.int x :: S) σ X := by
  intro r σ' hX d' hd' D ca ad p e s m args below meth c C H locs ls hP hS hl
  exact lv_istore_n C.1 C.2.1 hd rfl hl hn (lst_cv hL) (fun ls hl => (k r σ' hX d' hd' D ca ad p e s m args below meth c C H locs ls hP hS hl))
theorem ux_istore {i : Nat} {x : Int32} (L' : List (Nat × Value)) (hd : decode md.2.1 pc = .ok (.istore i, 2)) (hn : i < md.2.2.1) (hL : lst L i (.int x) = L') (k : Ux l sh d md (pc + 2) L' S σ X) : Ux l sh d md pc L (.int x :: S) σ X := by
  intro r σ' hX d' hd' D ca ad p e s m args below meth c C H locs ls hP hS hl
  exact lv_istore C.1 C.2.1 hd hl hn (lst_cv hL) (fun ls hl => (k r σ' hX d' hd' D ca ad p e s m args below meth c C H locs ls hP hS hl))
theorem ux_astore_n {j : Fin 4} {x : Nat} (L' : List (Nat × Value)) (hd : decode md.2.1 pc = .ok (.astore_n j, 1)) (hn : j.val < md.2.2.1) (hL : lst L j.val (.ref x) = L') (k : Ux l sh d md (pc + 1) L' S σ X) : Ux l sh d md pc L (.ref x :: S) σ X := by
  intro r σ' hX d' hd' D ca ad p e s m args below meth c C H locs ls hP hS hl
  exact lv_astore_n C.1 C.2.1 hd rfl hl hn (lst_cv hL) (fun ls hl => (k r σ' hX d' hd' D ca ad p e s m args below meth c C H locs ls hP hS hl))
theorem ux_astore {i : Nat} {x : Nat} (L' : List (Nat × Value)) (hd : decode md.2.1 pc = .ok (.astore i, 2)) (hn : i < md.2.2.1) (hL : lst L i (.ref x) = L') (k : Ux l sh d md (pc + 2) L' S σ X) : Ux l sh d md pc L (.ref x :: S) σ X := by
  intro r σ' hX d' hd' D ca ad p e s m args below meth c C H locs ls hP hS hl
  exact lv_astore C.1 C.2.1 hd hl hn (lst_cv hL) (fun ls hl => (k r σ' hX d' hd' D ca ad p e s m args below meth c C H locs ls hP hS hl))
theorem ux_iinc {i : Nat} {n : Int} {x : Int32} (v : Int32) (L' : List (Nat × Value)) (hd : decode md.2.1 pc = .ok (.iinc i n, 3)) (hi : lvk L i = some (.int x)) (hv : x + Int32.ofInt n = v) (hn : i < md.2.2.1) (hL : lst L i (.int v) = L') (k : Ux l sh d md (pc + 3) L' S σ X) : Ux l sh d md pc L S σ X := by
  intro r σ' hX d' hd' D ca ad p e s m args below meth c C H locs ls hP hS hl
  obtain ⟨q, hq⟩ := lvk_cv (ad := ad) hi
  exact lv_iinc C.1 C.2.1 hd hl hq hv hn (lst_cv hL) (fun ls hl => (k r σ' hX d' hd' D ca ad p e s m args below meth c C H locs ls hP hS hl))
theorem ux_iadd {x y : Int32} (hd : decode md.2.1 pc = .ok (.iadd, 1))  (k : Ux l sh d md (pc + 1) L (.int (x + y) :: S) σ X) : Ux l sh d md pc L (.int y :: .int x :: S) σ X := by
  intro r σ' hX d' hd' D ca ad p e s m args below meth c C H locs ls hP hS hl
  exact lv_iadd C.1 C.2.1 hd (k r σ' hX d' hd' D ca ad p e s m args below meth c C H locs ls hP hS hl)
theorem ux_isub {x y : Int32} (hd : decode md.2.1 pc = .ok (.isub, 1))  (k : Ux l sh d md (pc + 1) L (.int (x - y) :: S) σ X) : Ux l sh d md pc L (.int y :: .int x :: S) σ X := by
  intro r σ' hX d' hd' D ca ad p e s m args below meth c C H locs ls hP hS hl
  exact lv_isub C.1 C.2.1 hd (k r σ' hX d' hd' D ca ad p e s m args below meth c C H locs ls hP hS hl)
theorem ux_imul {x y : Int32} (hd : decode md.2.1 pc = .ok (.imul, 1))  (k : Ux l sh d md (pc + 1) L (.int (x * y) :: S) σ X) : Ux l sh d md pc L (.int y :: .int x :: S) σ X := by
  intro r σ' hX d' hd' D ca ad p e s m args below meth c C H locs ls hP hS hl
  exact lv_imul C.1 C.2.1 hd (k r σ' hX d' hd' D ca ad p e s m args below meth c C H locs ls hP hS hl)
theorem ux_iand {x y : Int32} (hd : decode md.2.1 pc = .ok (.iand, 1))  (k : Ux l sh d md (pc + 1) L (.int (x &&& y) :: S) σ X) : Ux l sh d md pc L (.int y :: .int x :: S) σ X := by
  intro r σ' hX d' hd' D ca ad p e s m args below meth c C H locs ls hP hS hl
  exact lv_iand C.1 C.2.1 hd (k r σ' hX d' hd' D ca ad p e s m args below meth c C H locs ls hP hS hl)
theorem ux_ior {x y : Int32} (hd : decode md.2.1 pc = .ok (.ior, 1))  (k : Ux l sh d md (pc + 1) L (.int (x ||| y) :: S) σ X) : Ux l sh d md pc L (.int y :: .int x :: S) σ X := by
  intro r σ' hX d' hd' D ca ad p e s m args below meth c C H locs ls hP hS hl
  exact lv_ior C.1 C.2.1 hd (k r σ' hX d' hd' D ca ad p e s m args below meth c C H locs ls hP hS hl)
theorem ux_ixor {x y : Int32} (hd : decode md.2.1 pc = .ok (.ixor, 1))  (k : Ux l sh d md (pc + 1) L (.int (x ^^^ y) :: S) σ X) : Ux l sh d md pc L (.int y :: .int x :: S) σ X := by
  intro r σ' hX d' hd' D ca ad p e s m args below meth c C H locs ls hP hS hl
  exact lv_ixor C.1 C.2.1 hd (k r σ' hX d' hd' D ca ad p e s m args below meth c C H locs ls hP hS hl)
theorem ux_ishl {x y : Int32} (hd : decode md.2.1 pc = .ok (.ishl, 1))  (k : Ux l sh d md (pc + 1) L (.int (x <<< (y &&& 31)) :: S) σ X) : Ux l sh d md pc L (.int y :: .int x :: S) σ X := by
  intro r σ' hX d' hd' D ca ad p e s m args below meth c C H locs ls hP hS hl
  exact lv_ishl C.1 C.2.1 hd (k r σ' hX d' hd' D ca ad p e s m args below meth c C H locs ls hP hS hl)
theorem ux_ineg {x : Int32} (hd : decode md.2.1 pc = .ok (.ineg, 1))  (k : Ux l sh d md (pc + 1) L (.int (-x) :: S) σ X) : Ux l sh d md pc L (.int x :: S) σ X := by
  intro r σ' hX d' hd' D ca ad p e s m args below meth c C H locs ls hP hS hl
  exact lv_ineg C.1 C.2.1 hd (k r σ' hX d' hd' D ca ad p e s m args below meth c C H locs ls hP hS hl)
theorem ux_iushr {x y : Int32} (hd : decode md.2.1 pc = .ok (.iushr, 1)) (k : Ux l sh d md (pc + 1) L (.int (iush x y) :: S) σ X) : Ux l sh d md pc L (.int y :: .int x :: S) σ X := by
  intro r σ' hX d' hd' D ca ad p e s m args below meth c C H locs ls hP hS hl
  exact lv_iushr C.1 C.2.1 hd rfl (k r σ' hX d' hd' D ca ad p e s m args below meth c C H locs ls hP hS hl)
theorem ux_lushr {x : Int64} {y : Int32} (hd : decode md.2.1 pc = .ok (.lushr, 1)) (k : Ux l sh d md (pc + 1) L (.long (lush x y) :: S) σ X) : Ux l sh d md pc L (.int y :: .long x :: S) σ X := by
  intro r σ' hX d' hd' D ca ad p e s m args below meth c C H locs ls hP hS hl
  exact lv_lushr C.1 C.2.1 hd rfl (k r σ' hX d' hd' D ca ad p e s m args below meth c C H locs ls hP hS hl)
theorem ux_lshr {x : Int64} {y : Int32} (hd : decode md.2.1 pc = .ok (.lshr, 1)) (k : Ux l sh d md (pc + 1) L (.long (lsh x y) :: S) σ X) : Ux l sh d md pc L (.int y :: .long x :: S) σ X := by
  intro r σ' hX d' hd' D ca ad p e s m args below meth c C H locs ls hP hS hl
  exact lv_lshr C.1 C.2.1 hd rfl (k r σ' hX d' hd' D ca ad p e s m args below meth c C H locs ls hP hS hl)
theorem ux_land {x y : Int64} (hd : decode md.2.1 pc = .ok (.land, 1)) (k : Ux l sh d md (pc + 1) L (.long (x &&& y) :: S) σ X) : Ux l sh d md pc L (.long y :: .long x :: S) σ X := by
  intro r σ' hX d' hd' D ca ad p e s m args below meth c C H locs ls hP hS hl
  exact lv_land C.1 C.2.1 hd (k r σ' hX d' hd' D ca ad p e s m args below meth c C H locs ls hP hS hl)
theorem ux_l2i {x : Int64} (hd : decode md.2.1 pc = .ok (.l2i, 1)) (k : Ux l sh d md (pc + 1) L (.int (Int64.toInt32 x) :: S) σ X) : Ux l sh d md pc L (.long x :: S) σ X := by
  intro r σ' hX d' hd' D ca ad p e s m args below meth c C H locs ls hP hS hl
  exact lv_l2i C.1 C.2.1 hd rfl (k r σ' hX d' hd' D ca ad p e s m args below meth c C H locs ls hP hS hl)
theorem ux_i2b {x : Int32} (hd : decode md.2.1 pc = .ok (.i2b, 1)) (k : Ux l sh d md (pc + 1) L (.int (i2b x) :: S) σ X) : Ux l sh d md pc L (.int x :: S) σ X := by
  intro r σ' hX d' hd' D ca ad p e s m args below meth c C H locs ls hP hS hl
  exact lv_i2b C.1 C.2.1 hd rfl (k r σ' hX d' hd' D ca ad p e s m args below meth c C H locs ls hP hS hl)
theorem ux_i2s {x : Int32} (hd : decode md.2.1 pc = .ok (.i2s, 1)) (k : Ux l sh d md (pc + 1) L (.int (i2s x) :: S) σ X) : Ux l sh d md pc L (.int x :: S) σ X := by
  intro r σ' hX d' hd' D ca ad p e s m args below meth c C H locs ls hP hS hl
  exact lv_i2s C.1 C.2.1 hd rfl (k r σ' hX d' hd' D ca ad p e s m args below meth c C H locs ls hP hS hl)
theorem ux_idiv {x y : Int32} (hd : decode md.2.1 pc = .ok (.idiv, 1)) (k : Ux l sh d md (pc + 1) L (.int (x / y) :: S) σ X) : Ux l sh d md pc L (.int y :: .int x :: S) σ (grd (nz y) X) := by
  intro r σ' hX d' hd' D ca ad p e s m args below meth c C H locs ls hP hS hl
  exact lv_idiv C.1 C.2.1 hd (nz_ne (grd_some hX).1) (k r σ' (grd_some hX).2 d' hd' D ca ad p e s m args below meth c C H locs ls hP hS hl)
theorem ux_irem {x y : Int32} (hd : decode md.2.1 pc = .ok (.irem, 1)) (k : Ux l sh d md (pc + 1) L (.int (irm x y) :: S) σ X) : Ux l sh d md pc L (.int y :: .int x :: S) σ (grd (nz y) X) := by
  intro r σ' hX d' hd' D ca ad p e s m args below meth c C H locs ls hP hS hl
  exact lv_irem C.1 C.2.1 hd (nz_ne (grd_some hX).1) (k r σ' (grd_some hX).2 d' hd' D ca ad p e s m args below meth c C H locs ls hP hS hl)
theorem ux_dup {x : Int32} (hd : decode md.2.1 pc = .ok (.dup, 1))  (k : Ux l sh d md (pc + 1) L (.int x :: .int x :: S) σ X) : Ux l sh d md pc L (.int x :: S) σ X := by
  intro r σ' hX d' hd' D ca ad p e s m args below meth c C H locs ls hP hS hl
  exact lv_dup C.1 C.2.1 hd rfl (k r σ' hX d' hd' D ca ad p e s m args below meth c C H locs ls hP hS hl)
theorem ux_dupr {x : Nat} (hd : decode md.2.1 pc = .ok (.dup, 1))  (k : Ux l sh d md (pc + 1) L (.ref x :: .ref x :: S) σ X) : Ux l sh d md pc L (.ref x :: S) σ X := by
  intro r σ' hX d' hd' D ca ad p e s m args below meth c C H locs ls hP hS hl
  exact lv_dup C.1 C.2.1 hd rfl (k r σ' hX d' hd' D ca ad p e s m args below meth c C H locs ls hP hS hl)
theorem ux_pop {x : Int32} (hd : decode md.2.1 pc = .ok (.pop, 1))  (k : Ux l sh d md (pc + 1) L S σ X) : Ux l sh d md pc L (.int x :: S) σ X := by
  intro r σ' hX d' hd' D ca ad p e s m args below meth c C H locs ls hP hS hl
  exact lv_pop C.1 C.2.1 hd rfl (k r σ' hX d' hd' D ca ad p e s m args below meth c C H locs ls hP hS hl)
theorem ux_dup2 {x : Int32} {y : Nat} (hd : decode md.2.1 pc = .ok (.dup2, 1))  (k : Ux l sh d md (pc + 1) L (.int x :: .ref y :: .int x :: .ref y :: S) σ X) : Ux l sh d md pc L (.int x :: .ref y :: S) σ X := by
  intro r σ' hX d' hd' D ca ad p e s m args below meth c C H locs ls hP hS hl
  exact lv_dup2_11 C.1 C.2.1 hd rfl rfl (k r σ' hX d' hd' D ca ad p e s m args below meth c C H locs ls hP hS hl)
theorem ux_dupx1 {x : Int32} {y : Nat} (hd : decode md.2.1 pc = .ok (.dup_x1, 1)) (k : Ux l sh d md (pc + 1) L (.int x :: .ref y :: .int x :: S) σ X) : Ux l sh d md pc L (.int x :: .ref y :: S) σ X := by
  intro r σ' hX d' hd' D ca ad p e s m args below meth c C H locs ls hP hS hl
  exact lv_dup_x1 C.1 C.2.1 hd rfl rfl (k r σ' hX d' hd' D ca ad p e s m args below meth c C H locs ls hP hS hl)
theorem ux_goto {off : Int} (tgt : Nat) (hd : decode md.2.1 pc = .ok (.goto off, 3)) (ht : (pc : Int) + off = (tgt : Int)) (k : Ux l sh d md tgt L S σ X) : Ux l sh d md pc L S σ X := by
  intro r σ' hX d' hd' D ca ad p e s m args below meth c C H locs ls hP hS hl
  exact lv_goto C.1 C.2.1 hd ht (k r σ' hX d' hd' D ca ad p e s m args below meth c C H locs ls hP hS hl)
theorem ux_icmp_eq {x y : Int32} {off : Int} (tgt : Nat) (hd : decode md.2.1 pc = .ok (.if_icmp .eq off, 3)) (ht : (pc : Int) + off = (tgt : Int)) (kt : x = y → Ux l sh d md tgt L S σ X) (kf : ¬ x = y → Ux l sh d md (pc + 3) L S σ Y) : Ux l sh d md pc L (.int y :: .int x :: S) σ (if x = y then X else Y) := by
  intro r σ' hX d' hd' D ca ad p e s m args below meth c C H locs ls hP hS hl
  exact lv_icmp_eq C.1 C.2.1 hd ht (fun h => kt h r σ' (by rw [if_pos h] at hX; exact hX) d' hd' D ca ad p e s m args below meth c C H locs ls hP hS hl) (fun h => kf h r σ' (by rw [if_neg h] at hX; exact hX) d' hd' D ca ad p e s m args below meth c C H locs ls hP hS hl)
theorem ux_icmp_lt {x y : Int32} {off : Int} (tgt : Nat) (hd : decode md.2.1 pc = .ok (.if_icmp .lt off, 3)) (ht : (pc : Int) + off = (tgt : Int)) (kt : x < y → Ux l sh d md tgt L S σ X) (kf : ¬ x < y → Ux l sh d md (pc + 3) L S σ Y) : Ux l sh d md pc L (.int y :: .int x :: S) σ (if x < y then X else Y) := by
  intro r σ' hX d' hd' D ca ad p e s m args below meth c C H locs ls hP hS hl
  exact lv_icmp_lt C.1 C.2.1 hd ht (fun h => kt h r σ' (by rw [if_pos h] at hX; exact hX) d' hd' D ca ad p e s m args below meth c C H locs ls hP hS hl) (fun h => kf h r σ' (by rw [if_neg h] at hX; exact hX) d' hd' D ca ad p e s m args below meth c C H locs ls hP hS hl)
theorem ux_icmp_ge {x y : Int32} {off : Int} (tgt : Nat) (hd : decode md.2.1 pc = .ok (.if_icmp .ge off, 3)) (ht : (pc : Int) + off = (tgt : Int)) (kt : y ≤ x → Ux l sh d md tgt L S σ X) (kf : ¬ y ≤ x → Ux l sh d md (pc + 3) L S σ Y) : Ux l sh d md pc L (.int y :: .int x :: S) σ (if y ≤ x then X else Y) := by
  intro r σ' hX d' hd' D ca ad p e s m args below meth c C H locs ls hP hS hl
  exact lv_icmp_ge C.1 C.2.1 hd ht (fun h => kt h r σ' (by rw [if_pos h] at hX; exact hX) d' hd' D ca ad p e s m args below meth c C H locs ls hP hS hl) (fun h => kf h r σ' (by rw [if_neg h] at hX; exact hX) d' hd' D ca ad p e s m args below meth c C H locs ls hP hS hl)
theorem ux_icmp_gt {x y : Int32} {off : Int} (tgt : Nat) (hd : decode md.2.1 pc = .ok (.if_icmp .gt off, 3)) (ht : (pc : Int) + off = (tgt : Int)) (kt : y < x → Ux l sh d md tgt L S σ X) (kf : ¬ y < x → Ux l sh d md (pc + 3) L S σ Y) : Ux l sh d md pc L (.int y :: .int x :: S) σ (if y < x then X else Y) := by
  intro r σ' hX d' hd' D ca ad p e s m args below meth c C H locs ls hP hS hl
  exact lv_icmp_gt C.1 C.2.1 hd ht (fun h => kt h r σ' (by rw [if_pos h] at hX; exact hX) d' hd' D ca ad p e s m args below meth c C H locs ls hP hS hl) (fun h => kf h r σ' (by rw [if_neg h] at hX; exact hX) d' hd' D ca ad p e s m args below meth c C H locs ls hP hS hl)
theorem ux_icmp_le {x y : Int32} {off : Int} (tgt : Nat) (hd : decode md.2.1 pc = .ok (.if_icmp .le off, 3)) (ht : (pc : Int) + off = (tgt : Int)) (kt : x ≤ y → Ux l sh d md tgt L S σ X) (kf : ¬ x ≤ y → Ux l sh d md (pc + 3) L S σ Y) : Ux l sh d md pc L (.int y :: .int x :: S) σ (if x ≤ y then X else Y) := by
  intro r σ' hX d' hd' D ca ad p e s m args below meth c C H locs ls hP hS hl
  exact lv_icmp_le C.1 C.2.1 hd ht (fun h => kt h r σ' (by rw [if_pos h] at hX; exact hX) d' hd' D ca ad p e s m args below meth c C H locs ls hP hS hl) (fun h => kf h r σ' (by rw [if_neg h] at hX; exact hX) d' hd' D ca ad p e s m args below meth c C H locs ls hP hS hl)
theorem ux_if_eq {x : Int32} {off : Int} (tgt : Nat) (hd : decode md.2.1 pc = .ok (.ifCond .eq off, 3)) (ht : (pc : Int) + off = (tgt : Int)) (kt : x = 0 → Ux l sh d md tgt L S σ X) (kf : ¬ x = 0 → Ux l sh d md (pc + 3) L S σ Y) : Ux l sh d md pc L (.int x :: S) σ (if x = 0 then X else Y) := by
  intro r σ' hX d' hd' D ca ad p e s m args below meth c C H locs ls hP hS hl
  exact lv_if_eq C.1 C.2.1 hd ht (fun h => kt h r σ' (by rw [if_pos h] at hX; exact hX) d' hd' D ca ad p e s m args below meth c C H locs ls hP hS hl) (fun h => kf h r σ' (by rw [if_neg h] at hX; exact hX) d' hd' D ca ad p e s m args below meth c C H locs ls hP hS hl)
theorem ux_if_lt {x : Int32} {off : Int} (tgt : Nat) (hd : decode md.2.1 pc = .ok (.ifCond .lt off, 3)) (ht : (pc : Int) + off = (tgt : Int)) (kt : x < 0 → Ux l sh d md tgt L S σ X) (kf : ¬ x < 0 → Ux l sh d md (pc + 3) L S σ Y) : Ux l sh d md pc L (.int x :: S) σ (if x < 0 then X else Y) := by
  intro r σ' hX d' hd' D ca ad p e s m args below meth c C H locs ls hP hS hl
  exact lv_if_lt C.1 C.2.1 hd ht (fun h => kt h r σ' (by rw [if_pos h] at hX; exact hX) d' hd' D ca ad p e s m args below meth c C H locs ls hP hS hl) (fun h => kf h r σ' (by rw [if_neg h] at hX; exact hX) d' hd' D ca ad p e s m args below meth c C H locs ls hP hS hl)
theorem ux_if_ge {x : Int32} {off : Int} (tgt : Nat) (hd : decode md.2.1 pc = .ok (.ifCond .ge off, 3)) (ht : (pc : Int) + off = (tgt : Int)) (kt : 0 ≤ x → Ux l sh d md tgt L S σ X) (kf : ¬ 0 ≤ x → Ux l sh d md (pc + 3) L S σ Y) : Ux l sh d md pc L (.int x :: S) σ (if 0 ≤ x then X else Y) := by
  intro r σ' hX d' hd' D ca ad p e s m args below meth c C H locs ls hP hS hl
  exact lv_if_ge C.1 C.2.1 hd ht (fun h => kt h r σ' (by rw [if_pos h] at hX; exact hX) d' hd' D ca ad p e s m args below meth c C H locs ls hP hS hl) (fun h => kf h r σ' (by rw [if_neg h] at hX; exact hX) d' hd' D ca ad p e s m args below meth c C H locs ls hP hS hl)
theorem ux_if_gt {x : Int32} {off : Int} (tgt : Nat) (hd : decode md.2.1 pc = .ok (.ifCond .gt off, 3)) (ht : (pc : Int) + off = (tgt : Int)) (kt : 0 < x → Ux l sh d md tgt L S σ X) (kf : ¬ 0 < x → Ux l sh d md (pc + 3) L S σ Y) : Ux l sh d md pc L (.int x :: S) σ (if 0 < x then X else Y) := by
  intro r σ' hX d' hd' D ca ad p e s m args below meth c C H locs ls hP hS hl
  exact lv_if_gt C.1 C.2.1 hd ht (fun h => kt h r σ' (by rw [if_pos h] at hX; exact hX) d' hd' D ca ad p e s m args below meth c C H locs ls hP hS hl) (fun h => kf h r σ' (by rw [if_neg h] at hX; exact hX) d' hd' D ca ad p e s m args below meth c C H locs ls hP hS hl)
theorem ux_if_le {x : Int32} {off : Int} (tgt : Nat) (hd : decode md.2.1 pc = .ok (.ifCond .le off, 3)) (ht : (pc : Int) + off = (tgt : Int)) (kt : x ≤ 0 → Ux l sh d md tgt L S σ X) (kf : ¬ x ≤ 0 → Ux l sh d md (pc + 3) L S σ Y) : Ux l sh d md pc L (.int x :: S) σ (if x ≤ 0 then X else Y) := by
  intro r σ' hX d' hd' D ca ad p e s m args below meth c C H locs ls hP hS hl
  exact lv_if_le C.1 C.2.1 hd ht (fun h => kt h r σ' (by rw [if_pos h] at hX; exact hX) d' hd' D ca ad p e s m args below meth c C H locs ls hP hS hl) (fun h => kf h r σ' (by rw [if_neg h] at hX; exact hX) d' hd' D ca ad p e s m args below meth c C H locs ls hP hS hl)
theorem ux_icmp_ne {x y : Int32} {off : Int} (tgt : Nat) (hd : decode md.2.1 pc = .ok (.if_icmp .ne off, 3)) (ht : (pc : Int) + off = (tgt : Int)) (kt : x = y → Ux l sh d md (pc + 3) L S σ X) (kf : ¬ x = y → Ux l sh d md tgt L S σ Y) : Ux l sh d md pc L (.int y :: .int x :: S) σ (if x = y then X else Y) := by
  intro r σ' hX d' hd' D ca ad p e s m args below meth c C H locs ls hP hS hl
  exact lv_icmp_ne C.1 C.2.1 hd ht (fun h => kf h r σ' (by rw [if_neg h] at hX; exact hX) d' hd' D ca ad p e s m args below meth c C H locs ls hP hS hl) (fun h => kt h r σ' (by rw [if_pos h] at hX; exact hX) d' hd' D ca ad p e s m args below meth c C H locs ls hP hS hl)
theorem ux_if_ne {x : Int32} {off : Int} (tgt : Nat) (hd : decode md.2.1 pc = .ok (.ifCond .ne off, 3)) (ht : (pc : Int) + off = (tgt : Int)) (kt : x = 0 → Ux l sh d md (pc + 3) L S σ X) (kf : ¬ x = 0 → Ux l sh d md tgt L S σ Y) : Ux l sh d md pc L (.int x :: S) σ (if x = 0 then X else Y) := by
  intro r σ' hX d' hd' D ca ad p e s m args below meth c C H locs ls hP hS hl
  exact lv_if_ne C.1 C.2.1 hd ht (fun h => kf h r σ' (by rw [if_neg h] at hX; exact hX) d' hd' D ca ad p e s m args below meth c C H locs ls hP hS hl) (fun h => kt h r σ' (by rw [if_pos h] at hX; exact hX) d' hd' D ca ad p e s m args below meth c C H locs ls hP hS hl)
theorem ux_case {x : Int32} (v : Int32) (kt : x = v → Ux l sh d md pc L (.int v :: S) σ X) (kf : ¬ x = v → Ux l sh d md pc L (.int x :: S) σ Y) : Ux l sh d md pc L (.int x :: S) σ (if x = v then X else Y) := by
  by_cases h : x = v
  · rw [if_pos h]; subst h; exact kt rfl
  · rw [if_neg h]; exact kf h
theorem ux_tabIn {dflt lo hi : Int} {offs : Array Int} {len : Nat} {x : Int32} {off : Int} (tgt : Nat) (hd : decode md.2.1 pc = .ok (.tableswitch dflt lo hi offs, len)) (h1 : ¬ x.toInt < lo) (h2 : ¬ hi < x.toInt) (ho : offs[(x.toInt - lo).toNat]? = some off) (ht : (pc : Int) + off = (tgt : Int)) (k : Ux l sh d md tgt L S σ X) : Ux l sh d md pc L (.int x :: S) σ X := by
  intro r σ' hX d' hd' D ca ad p e s m args below meth c C H locs ls hP hS hl
  exact lv_tableIn C.1 C.2.1 hd h1 h2 ho ht (k r σ' hX d' hd' D ca ad p e s m args below meth c C H locs ls hP hS hl)
theorem ux_tabOut {dflt lo hi : Int} {offs : Array Int} {len : Nat} {x : Int32} (tgt : Nat) (hd : decode md.2.1 pc = .ok (.tableswitch dflt lo hi offs, len)) (h : x.toInt < lo ∨ hi < x.toInt) (ht : (pc : Int) + dflt = (tgt : Int)) (k : Ux l sh d md tgt L S σ X) : Ux l sh d md pc L (.int x :: S) σ X := by
  intro r σ' hX d' hd' D ca ad p e s m args below meth c C H locs ls hP hS hl
  exact lv_tableOut C.1 C.2.1 hd h ht (k r σ' hX d' hd' D ca ad p e s m args below meth c C H locs ls hP hS hl)
theorem ux_look {dflt : Int} {ps : Array (Int × Int)} {len : Nat} {x : Int32} {off : Int} (tgt : Nat) (hd : decode md.2.1 pc = .ok (.lookupswitch dflt ps, len)) (hp : (ps.toList.zip (ps.toList.drop 1)).all (fun (a, next) => a.1 < next.1) = true) (ho : Op.lookupswitch.offset ps.toList dflt x.toInt = off) (ht : (pc : Int) + off = (tgt : Int)) (k : Ux l sh d md tgt L S σ X) : Ux l sh d md pc L (.int x :: S) σ X := by
  intro r σ' hX d' hd' D ca ad p e s m args below meth c C H locs ls hP hS hl
  exact lv_lookup C.1 C.2.1 hd hp ho ht (k r σ' hX d' hd' D ca ad p e s m args below meth c C H locs ls hP hS hl)
theorem ux_ldc {index : Nat} (v : Int32) (hw : Cond.constant md.1.cls index v ∈ tblG) (hd : decode md.2.1 pc = .ok (.ldc index, 2)) (k : Ux l sh d md (pc + 2) L (.int v :: S) σ X) : Ux l sh d md pc L S σ X := by
  intro r σ' hX d' hd' D ca ad p e s m args below meth c C H locs ls hP hS hl
  exact lv_ldc C.1 C.2.1 C.2.2.2.2.2.1 (C.2.2.2.2.2.2.1 _ hw) hd (k r σ' hX d' hd' D ca ad p e s m args below meth c C H locs ls hP hS hl)
theorem ux_ldc2 {index : Nat} (v : Int64) (hw : Cond.constantLong md.1.cls index v ∈ tblG) (hd : decode md.2.1 pc = .ok (.ldc2_w index, 3)) (k : Ux l sh d md (pc + 3) L (.long v :: S) σ X) : Ux l sh d md pc L S σ X := by
  intro r σ' hX d' hd' D ca ad p e s m args below meth c C H locs ls hP hS hl
  exact lv_ldc2 C.1 C.2.1 C.2.2.2.2.2.1 (C.2.2.2.2.2.2.1 _ hw) hd (k r σ' hX d' hd' D ca ad p e s m args below meth c C H locs ls hP hS hl)
theorem ux_nam {x : Int32} {K : Int32 → Option (Int32 × St)} (k : ∀ y : Int32, Ux l sh d md pc L (.int y :: S) σ (K y)) : Ux l sh d md pc L (.int x :: S) σ (nam x K) := k x
def FC (ci : Nat) (C : String) (T : u_T) (N : Nat) (ty0 : Nat → FieldType) : Prop := (∀ w ∈ u_ws C T N, w ∈ tblG) ∧ vwCl[ci]? = some (C, T, N) ∧ (∀ k, k < N → parseFieldDescriptor (T k).2.2.1 = some (ty0 k)) ∧ ∀ a, a < N → ∀ b, b < N → a ≠ b → (T a).2.1 ≠ (T b).2.1
theorem ux_get {ci N : Nat} {CC : String} {T : u_T} {ty0 : Nat → FieldType} {index o : Nat} {fs : List (Option Nat)} (fc : FC ci CC T N ty0) (j : Nat) (hj : j < N) (hw : Cond.fieldLink md.1.cls index (T j).1 (T j).2.1 (T j).2.2.1 ∈ tblG) (ho : sh[o]? = some (.inr (.inr (ci, fs)))) (hf : fs[j]? = some none) (hd : decode md.2.1 pc = .ok (.getfield index, 3)) (k : Ux l sh d md (pc + 3) L (.int (σ.1 o j) :: S) σ X) : Ux l sh d md pc L (.ref o :: S) σ X := by
  intro r σ' hX d' hd' D ca ad p e s m args below meth c C H locs ls hP hS hl
  refine va_get (Ts := tblG) (cl := vwCl) (tys := Tys ca) (ws := shW sh ad ca σ) (D := D) C.1 C.2.1 C.2.2.2.2.2.2.1 fc.1 C.2.2.2.2.2.1 C.2.2.2.2.2.2.2.1 hP o (shW_get ho) fc.2.1 j hj (C.2.2.2.2.2.2.1 _ hw) (fun _ h => h) (shF_get hf) hd ?_
  exact (k r σ' hX d' hd' D ca ad p e s m args below meth c C H locs ls hP hS hl)
theorem ux_getr {ci N : Nat} {CC : String} {T : u_T} {ty0 : Nat → FieldType} {index o : Nat} {fs : List (Option Nat)} (fc : FC ci CC T N ty0) (j : Nat) (hj : j < N) {q : Nat} (hw : Cond.fieldLink md.1.cls index (T j).1 (T j).2.1 (T j).2.2.1 ∈ tblG) (ho : sh[o]? = some (.inr (.inr (ci, fs)))) (hf : fs[j]? = some (some q)) (hd : decode md.2.1 pc = .ok (.getfield index, 3)) (k : Ux l sh d md (pc + 3) L (.ref q :: S) σ X) : Ux l sh d md pc L (.ref o :: S) σ X := by
  intro r σ' hX d' hd' D ca ad p e s m args below meth c C H locs ls hP hS hl
  refine va_get (Ts := tblG) (cl := vwCl) (tys := Tys ca) (ws := shW sh ad ca σ) (D := D) C.1 C.2.1 C.2.2.2.2.2.2.1 fc.1 C.2.2.2.2.2.1 C.2.2.2.2.2.2.2.1 hP o (shW_get ho) fc.2.1 j hj (C.2.2.2.2.2.2.1 _ hw) (fun _ h => h) (shF_get hf) hd ?_
  exact (k r σ' hX d' hd' D ca ad p e s m args below meth c C H locs ls hP hS hl)
theorem ux_put {ci N : Nat} {CC : String} {T : u_T} {ty0 : Nat → FieldType} {index o : Nat} {fs : List (Option Nat)} (fc : FC ci CC T N ty0) (j : Nat) (hj : j < N) {ty : FieldType} {v : Int32} (hw : Cond.fieldLink md.1.cls index (T j).1 (T j).2.1 (T j).2.2.1 ∈ tblG) (hfin : (T j).2.2.2 = false) (hpd : parseFieldDescriptor (T j).2.2.1 = some ty) (hnf : narrow ty (.int v) = .int v ∧ fits ty (.int v) = true) (ho : sh[o]? = some (.inr (.inr (ci, fs)))) (hf : fs[j]? = some none) (hd : decode md.2.1 pc = .ok (.putfield index, 3)) (k : Ux l sh d md (pc + 3) L S (sF σ o j v) X) : Ux l sh d md pc L (.int v :: .ref o :: S) σ X := by
  intro r σ' hX d' hd' D ca ad p e s m args below meth c C H locs ls hP hS hl
  have hlen : j < (shF ad σ o fs).length := by unfold shF; rw [List.length_mapIdx]; exact (List.getElem?_eq_some_iff.mp hf).1
  refine va_put (own := md.1.cls) (Ts := tblG) (cl := vwCl) (tys := Tys ca) (ws := shW sh ad ca σ) (D := D) (A := fA sh ad) C.1 C.2.1 C.2.2.2.2.2.2.1 fc.1 ty0 fc.2.2.1 fc.2.2.2 C.2.2.2.2.2.1 C.2.2.2.2.2.2.2.1 hP (shW_D σ C.2.2.2.2.2.2.2.2.1) hS o (shW_get ho) fc.2.1 j hj (C.2.2.2.2.2.2.1 _ hw) (fun _ h => h) hfin hpd hnf.1 hnf.2 hlen hd (fun H locs hP _ hS => ?_)
  have hP : va_P D vwCl (shW sh ad ca (sF σ o j v)) H := by rw [← shW_put ho hf]; exact hP
  exact (k r σ' hX d' hd' D ca ad p e s m args below meth c C H locs ls hP hS hl)
theorem ux_iald {a n : Nat} {i : Int32} (ha : sh[a]? = some (.inl n)) (hd : decode md.2.1 pc = .ok (.iaload, 1)) (k : Ux l sh d md (pc + 1) L (.int (σ.2 a i.toNatClampNeg) :: S) σ X) : Ux l sh d md pc L (.int i :: .ref a :: S) σ (grd (inb i n) X) := by
  intro r σ' hX d' hd' D ca ad p e s m args below meth c C H locs ls hP hS hl
  exact va_iald (cl := vwCl) (tys := Tys ca) (ws := shW sh ad ca σ) (D := D) C.1 C.2.1 C.2.2.2.2.2.2.2.1 hP a 0 (shW_get ha) rfl (inb_in (grd_some hX).1) hd (k r σ' (grd_some hX).2 d' hd' D ca ad p e s m args below meth c C H locs ls hP hS hl)
theorem ux_iast {a n : Nat} {i v : Int32} (ha : sh[a]? = some (.inl n)) (hd : decode md.2.1 pc = .ok (.iastore, 1)) (k : Ux l sh d md (pc + 1) L S (sA σ a i.toNatClampNeg v) X) : Ux l sh d md pc L (.int v :: .int i :: .ref a :: S) σ (grd (inb i n) X) := by
  intro r σ' hX d' hd' D ca ad p e s m args below meth c C H locs ls hP hS hl
  refine va_iast (cl := vwCl) (tys := Tys ca) (ws := shW sh ad ca σ) (D := D) (A := fA sh ad) C.1 C.2.1 C.2.2.2.2.2.2.2.1 hP (shW_D σ C.2.2.2.2.2.2.2.2.1) hS a 0 (shW_get ha) rfl (inb_in (grd_some hX).1) hd (fun H locs hP _ hS => ?_)
  rw [shW_ast ha] at hP
  exact (k r σ' (grd_some hX).2 d' hd' D ca ad p e s m args below meth c C H locs ls hP hS hl)
theorem ux_alen {a n : Nat} (v : Int32) (ha : sh[a]? = some (.inl n)) (hv : Int32.ofNat n = v) (hd : decode md.2.1 pc = .ok (.arraylength, 1)) (k : Ux l sh d md (pc + 1) L (.int v :: S) σ X) : Ux l sh d md pc L (.ref a :: S) σ X := by
  intro r σ' hX d' hd' D ca ad p e s m args below meth c C H locs ls hP hS hl
  exact va_alen (cl := vwCl) (tys := Tys ca) (ws := shW sh ad ca σ) (D := D) C.1 C.2.1 C.2.2.2.2.2.2.2.1 hP a 0 (shW_get ha) rfl hv hd (k r σ' hX d' hd' D ca ad p e s m args below meth c C H locs ls hP hS hl)
theorem getD_mem {rs : List Nat} {i : Nat} (h : i < rs.length) : rs.getD i 0 ∈ rs ∧ rs[i]? = some (rs.getD i 0) := by
  rw [List.getD_eq_getElem?_getD, List.getElem?_eq_getElem h]
  exact ⟨List.getElem_mem h, rfl⟩
theorem ux_aald {a t : Nat} {rs : List Nat} {i : Int32} {KK : Nat → Option (Int32 × St)} (ha : sh[a]? = some (.inr (.inl (t, rs)))) {CC : String} (ht : ∀ ca, (Tys ca)[t]? = some (ca t, .object CC)) (hd : decode md.2.1 pc = .ok (.aaload, 1)) (k : ∀ q, q ∈ rs → Ux l sh d md (pc + 1) L (.ref q :: S) σ (KK q)) : Ux l sh d md pc L (.int i :: .ref a :: S) σ (grd (inb i rs.length) (wid (rs.getD i.toNatClampNeg 0) KK)) := by
  intro r σ' hX d' hd' D ca ad p e s m args below meth c C H locs ls hP hS hl
  have hin := inb_in (grd_some hX).1
  have hlt : i.toNatClampNeg < rs.length := Nat.not_le.mp fun q => hin (Or.inr q)
  obtain ⟨hm, he⟩ := getD_mem hlt
  have hk := k _ hm r σ' (grd_some hX).2 d' hd' D ca ad p e s m args below meth c C H locs ls hP hS hl
  have hv : va_rf ((rs[i.toNatClampNeg]?).map ad) = .ref (ad (rs.getD i.toNatClampNeg 0)) := by rw [he]; rfl
  refine va_aldq (cl := vwCl) (tys := Tys ca) (ws := shW sh ad ca σ) (D := D) C.1 C.2.1 C.2.2.2.2.2.2.2.1 hP a t (C := CC) (f := fun i => (rs[i]?).map ad) (shW_get ha) (ht ca) hin hd ?_
  rw [hv]
  exact hk
theorem ux_gets {index kk : Nat} {q : String × String × String × FieldType × List Int32} (hq : sttL[kk]? = some q) (hw : Cond.fieldLink md.1.cls index q.1 q.2.1 q.2.2.1 ∈ tblG) (hd : decode md.2.1 pc = .ok (.getstatic index, 3)) (k : Ux l sh d md (pc + 3) L (.ref (900 + kk) :: S) σ X) : Ux l sh d md pc L S σ X := by
  intro r σ' hX d' hd' D ca ad p e s m args below meth c C H locs ls hP hS hl
  exact va_gets C.1 C.2.1 (C.2.2.2.2.2.2.2.2.2.1 kk q hq).1 hS C.2.2.2.2.2.1 (C.2.2.2.2.2.2.1 _ hw) (fun _ h => h) hd (k r σ' hX d' hd' D ca ad p e s m args below meth c C H locs ls hP hS hl)
theorem ux_getsN {q : String × String × String × FieldType × List Int32} (hcls : md.1.cls = "RopeTreaty$Throat") (hd : decode md.2.1 pc = .ok (.getstatic 51, 3)) (k : Ux l sh d md (pc + 3) L (.ref 900 :: S) σ X) : Ux l sh d md pc L S σ X := by
  intro r σ' hX d' hd' D ca ad p e s m args below meth c C H locs ls hP hS hl
  have hown := C.2.2.2.2.2.1
  rw [hcls] at hown
  exact va_getsN C.1 C.2.1 (C.2.2.2.2.2.2.2.2.2.1 0 _ rfl).1 hS hown (va_Nw.use rfl C.2.2.2.2.2.2.2.2.2.2.2) (fun _ h => h) hd (k r σ' hX d' hd' D ca ad p e s m args below meth c C H locs ls hP hS hl)
theorem ux_tald {kk n : Nat} {i : Int32} {q1 q2 q3 : String} {tab : List Int32} (hq : sttL[kk]? = some (q1, q2, q3, .int, tab)) (hn : tab.length = n) (hd : decode md.2.1 pc = .ok (.iaload, 1)) (k : Ux l sh d md (pc + 1) L (.int (tab.getD i.toNatClampNeg 0) :: S) σ X) : Ux l sh d md pc L (.int i :: .ref (900 + kk) :: S) σ (grd (inb i n) X) := by
  intro r σ' hX d' hd' D ca ad p e s m args below meth c C H locs ls hP hS hl
  have hT := (C.2.2.2.2.2.2.2.2.2.1 kk _ hq).2
  subst hn
  exact va_ti C.1 C.2.1 hT hS (inb_in (grd_some hX).1) rfl hd (k r σ' (grd_some hX).2 d' hd' D ca ad p e s m args below meth c C H locs ls hP hS hl)
theorem ux_tcald {kk n : Nat} {i : Int32} {q1 q2 q3 : String} {tab : List Int32} (hq : sttL[kk]? = some (q1, q2, q3, .char, tab)) (hn : tab.length = n) (hd : decode md.2.1 pc = .ok (.caload, 1)) (k : Ux l sh d md (pc + 1) L (.int (tab.getD i.toNatClampNeg 0) :: S) σ X) : Ux l sh d md pc L (.int i :: .ref (900 + kk) :: S) σ (grd (inb i n) X) := by
  intro r σ' hX d' hd' D ca ad p e s m args below meth c C H locs ls hP hS hl
  have hT := (C.2.2.2.2.2.2.2.2.2.1 kk _ hq).2
  subst hn
  exact va_tc C.1 C.2.1 hT hS (inb_in (grd_some hX).1) rfl hd (k r σ' (grd_some hX).2 d' hd' D ca ad p e s m args below meth c C H locs ls hP hS hl)
theorem ux_tlen {kk : Nat} {q : String × String × String × FieldType × List Int32} (v : Int32) (hq : sttL[kk]? = some q) (hv : Int32.ofNat q.2.2.2.2.length = v) (hd : decode md.2.1 pc = .ok (.arraylength, 1)) (k : Ux l sh d md (pc + 1) L (.int v :: S) σ X) : Ux l sh d md pc L (.ref (900 + kk) :: S) σ X := by
  intro r σ' hX d' hd' D ca ad p e s m args below meth c C H locs ls hP hS hl
  exact va_tlen C.1 C.2.1 (C.2.2.2.2.2.2.2.2.2.1 kk q hq).2 hS hv hd (k r σ' hX d' hd' D ca ad p e s m args below meth c C H locs ls hP hS hl)
theorem ux_ldcw {index : Nat} (v : Int32) (hw : Cond.constant md.1.cls index v ∈ tblG) (hd : decode md.2.1 pc = .ok (.ldc_w index, 3)) (k : Ux l sh d md (pc + 3) L (.int v :: S) σ X) : Ux l sh d md pc L S σ X := by
  intro r σ' hX d' hd' D ca ad p e s m args below meth c C H locs ls hP hS hl
  exact lv_ldcw C.1 C.2.1 C.2.2.2.2.2.1 (C.2.2.2.2.2.2.1 _ hw) hd (k r σ' hX d' hd' D ca ad p e s m args below meth c C H locs ls hP hS hl)
theorem ux_iincN {i : Nat} {n : Int} {x : Int32} {K : Int32 → Option (Int32 × St)} (v : Int32) (L' : Int32 → List (Nat × Value)) (hd : decode md.2.1 pc = .ok (.iinc i n, 3)) (hi : lvk L i = some (.int x)) (hv : Int32.ofInt n = v) (hn : i < md.2.2.1) (hL : ∀ y, lst L i (.int y) = L' y) (k : ∀ y : Int32, Ux l sh d md (pc + 3) (L' y) S σ (K y)) : Ux l sh d md pc L S σ (nam (x + v) K) := by
  intro r σ' hX d' hd' D ca ad p e s m args below meth c C H locs ls hP hS hl
  obtain ⟨q, hq⟩ := lvk_cv (ad := ad) hi
  subst hv
  exact lv_iinc C.1 C.2.1 hd hl hq rfl hn (lst_cv (hL _)) (fun ls hl => k _ r σ' hX d' hd' D ca ad p e s m args below meth c C H locs ls hP hS hl)
theorem ux_nas {τ : St} {K : St → Option (Int32 × St)} (k : ∀ ρ : St, Ux l sh d md pc L S ρ (K ρ)) : Ux l sh d md pc L S τ (nas τ K) := k τ
theorem pick_cv {ad : Nat → Nat} {L : List (Nat × Value)} (ks : List Nat) : lv_pick (L.map (cvq ad)) ks = (lv_pick L ks).map (cvq ad) := by
  unfold lv_pick
  rw [List.map_filterMap]
  congr 1
  funext k
  rw [List.getElem?_map]
theorem ux_wk (L' : List (Nat × Value)) (ks : List Nat) (hk : lv_pick L ks = L') (k : Ux l sh d md pc L' S σ X) : Ux l sh d md pc L S σ X := by
  intro r σ' hX d' hd' D ca ad p e s m args below meth c C H locs ls hP hS hl
  subst hk
  exact k r σ' hX d' hd' D ca ad p e s m args below meth c C H locs ls hP hS (lv_sub hl ks (pick_cv ks))
theorem ux_putg {ci N : Nat} {CC : String} {T : u_T} {ty0 : Nat → FieldType} {index o : Nat} {fs : List (Option Nat)} (fc : FC ci CC T N ty0) (j : Nat) (hj : j < N) {v : Int32} (hw : Cond.fieldLink md.1.cls index (T j).1 (T j).2.1 (T j).2.2.1 ∈ tblG) (hfin : (T j).2.2.2 = false) (hpd : parseFieldDescriptor (T j).2.2.1 = some .boolean) (ho : sh[o]? = some (.inr (.inr (ci, fs)))) (hf : fs[j]? = some none) (hd : decode md.2.1 pc = .ok (.putfield index, 3)) (k : Ux l sh d md (pc + 3) L S (sF σ o j v) X) : Ux l sh d md pc L (.int v :: .ref o :: S) σ (grd (isB v) X) := by
  intro r σ' hX d' hd' D ca ad p e s m args below meth c C H locs ls hP hS hl
  exact ux_put fc j hj hw hfin hpd (isB_n (grd_some hX).1) ho hf hd k r σ' (grd_some hX).2 d' hd' D ca ad p e s m args below meth c C H locs ls hP hS hl
theorem ux_iret {v : Int32} (hrt : md.2.2.2 = some .int) (hd : decode md.2.1 pc = .ok (.ireturn, 1)) : Ux l sh d md pc L [.int v] σ (some (v, σ)) := by
  intro r σ' hX d' hd' D ca ad p e s m args below meth c C H locs ls hP hS hl
  obtain ⟨y, cc, nL, rt⟩ := md
  cases hrt
  cases hX
  exact W.iret C.1 C.2.1 C.2.2.2.1 (fun t ht hW => ⟨rfl, by rw [ht]; exact hP, hS.F ht⟩) hS.2.2 hd C.2.2.2.2.1
theorem ux_zret {v : Int32} (hrt : md.2.2.2 = some .boolean) (hd : decode md.2.1 pc = .ok (.ireturn, 1)) (hn : narrow .boolean (.int v) = .int v ∧ fits .boolean (.int v) = true) : Ux l sh d md pc L [.int v] σ (some (v, σ)) := by
  intro r σ' hX d' hd' D ca ad p e s m args below meth c C H locs ls hP hS hl
  obtain ⟨y, cc, nL, rt⟩ := md
  cases hrt
  cases hX
  exact W.zret C.1 C.2.1 C.2.2.2.1 hn.1 (fun t ht hW => ⟨rfl, by rw [ht]; exact hP, hS.F ht⟩) hS.2.2 hd C.2.2.2.2.1
theorem ux_zretg {v : Int32} (hrt : md.2.2.2 = some .boolean) (hd : decode md.2.1 pc = .ok (.ireturn, 1)) : Ux l sh d md pc L [.int v] σ (grd (isB v) (some (v, σ))) := by
  intro r σ' hX d' hd' D ca ad p e s m args below meth c C H locs ls hP hS hl
  have hb := isB_n (grd_some hX).1
  have hX := (grd_some hX).2
  obtain ⟨y, cc, nL, rt⟩ := md
  cases hrt
  cases hX
  exact W.zret C.1 C.2.1 C.2.2.2.1 hb.1 (fun t ht hW => ⟨rfl, by rw [ht]; exact hP, hS.F ht⟩) hS.2.2 hd C.2.2.2.2.1
theorem ux_vret (hrt : md.2.2.2 = none) (hd : decode md.2.1 pc = .ok (.return_, 1)) : Ux l sh d md pc L [] σ (some (0, σ)) := by
  intro r σ' hX d' hd' D ca ad p e s m args below meth c C H locs ls hP hS hl
  obtain ⟨y, cc, nL, rt⟩ := md
  cases hrt
  cases hX
  exact W.vret C.1 C.2.1 C.2.2.2.1 (fun t ht hW => ⟨rfl, by rw [ht]; exact hP, hS.F ht⟩) hS.2.2 hd C.2.2.2.2.1
end Rows
