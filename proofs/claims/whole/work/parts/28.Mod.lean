def Mo_goes_L40 : Nat → Int32 → Int32 → St → Option (Int32 × St)
  | 0, _, _, _ => none
  | n + 1, x1, x2, σ =>
    grd (inb (2 : Int32) 366) (
    if (σ.2 1 (2 : Int32).toNatClampNeg) ≤ x2 then (
    grd (inb (5 : Int32) 366) (
    grd (inb (5 : Int32) 366) (
    nas (sA σ 1 (5 : Int32).toNatClampNeg ((σ.2 1 (5 : Int32).toNatClampNeg) - (1 : Int32))) (fun σ7 =>
    grd (inb (6 : Int32) 366) (
    grd (inb (6 : Int32) 366) (
    nas (sA σ7 1 (6 : Int32).toNatClampNeg ((σ7.2 1 (6 : Int32).toNatClampNeg) - (1 : Int32))) (fun σ8 =>
    grd (inb (4 : Int32) 366) (
    bnd (Mo_held ((σ8.2 1 (4 : Int32).toNatClampNeg) + x1) (0 : Int32) (99999 : Int32) σ8) (fun r9 σ10 =>
    grd (inb (4 : Int32) 366) (
    nas (sA σ10 1 (4 : Int32).toNatClampNeg r9) (fun σ11 =>
    grd (inb (0 : Int32) 366) (
    grd (inb (0 : Int32) 366) (
    nas (sA σ11 1 (0 : Int32).toNatClampNeg ((σ11.2 1 (0 : Int32).toNatClampNeg) + (1 : Int32))) (fun σ12 =>
    some (x1, σ12))))))))))))))) else (
    bnd (Mo_misses x2 σ) (fun r13 σ14 =>
    if r13 = (0 : Int32) then (
    nam (x1 + (0 : Int32)) (fun y15 =>
    nam (x2 + (1 : Int32)) (fun y16 =>
    Mo_goes_L40 n y15 y16 σ14))) else (
    nam (x1 + (1 : Int32)) (fun y17 =>
    nam (x2 + (1 : Int32)) (fun y18 =>
    Mo_goes_L40 n y17 y18 σ14))))))
set_option maxRecDepth 100000 in
theorem wk_Mo_goes_L40 (l : Launch) : ∀ (n : Nat) (x1 x2 : Int32) (σ : St), Ux l shM 7 md_Mo_goes 40 [(0, .ref 0), (1, .int x1), (2, .int x2)] [] σ (Mo_goes_L40 n x1 x2 σ) := by
  intro n
  induction n with
  | zero => intros; exact ux_none
  | succ n ih =>
    intro x1 x2 σ
    unfold Mo_goes_L40
    refine ux_iload_n (dg hd_Mo_goes 24 rfl) rfl ?_
    refine ux_aload_n (dg hd_Mo_goes 25 rfl) rfl ?_
    refine ux_getr (q := 1) fcX7 0 (by decide) wk_773 rfl rfl (dg hd_Mo_goes 26 rfl) ?_
    refine ux_iconst (2 : Int32) (dg hd_Mo_goes 27 rfl) (by decide) ?_
    refine ux_iald rfl (dg hd_Mo_goes 28 rfl) ?_
    refine ux_icmp_ge 72 (dg hd_Mo_goes 29 rfl) (by decide) (fun _ => ?_) (fun _ => ?_)
    · refine ux_aload_n (dg hd_Mo_goes 42 rfl) rfl ?_
      refine ux_getr (q := 1) fcX7 0 (by decide) wk_773 rfl rfl (dg hd_Mo_goes 43 rfl) ?_
      refine ux_iconst (5 : Int32) (dg hd_Mo_goes 44 rfl) (by decide) ?_
      refine ux_dup2 (dg hd_Mo_goes 45 rfl) ?_
      refine ux_iald rfl (dg hd_Mo_goes 46 rfl) ?_
      refine ux_iconst (1 : Int32) (dg hd_Mo_goes 47 rfl) (by decide) ?_
      refine ux_isub (dg hd_Mo_goes 48 rfl) ?_
      refine ux_iast rfl (dg hd_Mo_goes 49 rfl) ?_
      refine ux_nas (fun σ7 => ?_)
      refine ux_aload_n (dg hd_Mo_goes 50 rfl) rfl ?_
      refine ux_getr (q := 1) fcX7 0 (by decide) wk_773 rfl rfl (dg hd_Mo_goes 51 rfl) ?_
      refine ux_bipush (6 : Int32) (dg hd_Mo_goes 52 rfl) (by decide) ?_
      refine ux_dup2 (dg hd_Mo_goes 53 rfl) ?_
      refine ux_iald rfl (dg hd_Mo_goes 54 rfl) ?_
      refine ux_iconst (1 : Int32) (dg hd_Mo_goes 55 rfl) (by decide) ?_
      refine ux_isub (dg hd_Mo_goes 56 rfl) ?_
      refine ux_iast rfl (dg hd_Mo_goes 57 rfl) ?_
      refine ux_nas (fun σ8 => ?_)
      refine ux_aload_n (dg hd_Mo_goes 58 rfl) rfl ?_
      refine ux_getr (q := 1) fcX7 0 (by decide) wk_773 rfl rfl (dg hd_Mo_goes 59 rfl) ?_
      refine ux_iconst (4 : Int32) (dg hd_Mo_goes 60 rfl) (by decide) ?_
      refine ux_aload_n (dg hd_Mo_goes 61 rfl) rfl ?_
      refine ux_getr (q := 1) fcX7 0 (by decide) wk_773 rfl rfl (dg hd_Mo_goes 62 rfl) ?_
      refine ux_iconst (4 : Int32) (dg hd_Mo_goes 63 rfl) (by decide) ?_
      refine ux_iald rfl (dg hd_Mo_goes 64 rfl) ?_
      refine ux_iload_n (dg hd_Mo_goes 65 rfl) rfl ?_
      refine ux_iadd (dg hd_Mo_goes 66 rfl) ?_
      refine ux_iconst (0 : Int32) (dg hd_Mo_goes 67 rfl) (by decide) ?_
      refine ux_ldc (99999 : Int32) wk_1041 (dg hd_Mo_goes 68 rfl) ?_
      refine ux_callSi (As := [.int ((σ8.2 1 (4 : Int32).toNatClampNeg) + x1), .int (0 : Int32), .int (99999 : Int32)]) (sp_Mo_held l ((σ8.2 1 (4 : Int32).toNatClampNeg) + x1) (0 : Int32) (99999 : Int32) _) (by omega) cs_Mo_held wk_904 rfl rfl (Nat.le_of_ble_eq_true rfl) (dg hd_Mo_goes 69 rfl) (fun r9 σ10 _ => ?_)
      refine ux_iast rfl (dg hd_Mo_goes 70 rfl) ?_
      refine ux_nas (fun σ11 => ?_)
      refine ux_aload_n (dg hd_Mo_goes 71 rfl) rfl ?_
      refine ux_getr (q := 1) fcX7 0 (by decide) wk_773 rfl rfl (dg hd_Mo_goes 72 rfl) ?_
      refine ux_iconst (0 : Int32) (dg hd_Mo_goes 73 rfl) (by decide) ?_
      refine ux_dup2 (dg hd_Mo_goes 74 rfl) ?_
      refine ux_iald rfl (dg hd_Mo_goes 75 rfl) ?_
      refine ux_iconst (1 : Int32) (dg hd_Mo_goes 76 rfl) (by decide) ?_
      refine ux_iadd (dg hd_Mo_goes 77 rfl) ?_
      refine ux_iast rfl (dg hd_Mo_goes 78 rfl) ?_
      refine ux_nas (fun σ12 => ?_)
      refine ux_iload_n (dg hd_Mo_goes 79 rfl) rfl ?_
      exact ux_iret rfl (dg hd_Mo_goes 80 rfl)
    · refine ux_iload_n (dg hd_Mo_goes 30 rfl) rfl ?_
      refine ux_aload_n (dg hd_Mo_goes 31 rfl) rfl ?_
      refine ux_iload_n (dg hd_Mo_goes 32 rfl) rfl ?_
      refine ux_callVi (As := [.int x2]) (sp_Mo_misses l x2 _) (by omega) cv_Mo_misses wk_1046 rfl rfl rfl rfl rfl (Nat.le_of_ble_eq_true rfl) (dg hd_Mo_goes 33 rfl) (fun r13 σ14 _ => ?_)
      refine ux_if_eq 63 (dg hd_Mo_goes 34 rfl) (by decide) (fun _ => ?_) (fun _ => ?_)
      · refine ux_iconst (0 : Int32) (dg hd_Mo_goes 37 rfl) (by decide) ?_
        refine ux_iadd (dg hd_Mo_goes 38 rfl) ?_
        refine ux_nam (fun y15 => ?_)
        refine ux_istore_n [(1, .int y15), (0, .ref 0), (2, .int x2)] (dg hd_Mo_goes 39 rfl) (by decide) rfl ?_
        refine ux_iincN (1 : Int32) (fun y16 => [(2, .int y16), (1, .int y15), (0, .ref 0)]) (dg hd_Mo_goes 40 rfl) rfl (by decide) (by decide) (fun _ => rfl) (fun y16 => ?_)
        refine ux_goto 40 (dg hd_Mo_goes 41 rfl) (by decide) ?_
        refine ux_wk [(0, .ref 0), (1, .int y15), (2, .int y16)] [2, 1, 0] rfl ?_
        exact ih y15 y16 σ14
      · refine ux_iconst (1 : Int32) (dg hd_Mo_goes 35 rfl) (by decide) ?_
        refine ux_goto 64 (dg hd_Mo_goes 36 rfl) (by decide) ?_
        refine ux_iadd (dg hd_Mo_goes 38 rfl) ?_
        refine ux_nam (fun y17 => ?_)
        refine ux_istore_n [(1, .int y17), (0, .ref 0), (2, .int x2)] (dg hd_Mo_goes 39 rfl) (by decide) rfl ?_
        refine ux_iincN (1 : Int32) (fun y18 => [(2, .int y18), (1, .int y17), (0, .ref 0)]) (dg hd_Mo_goes 40 rfl) rfl (by decide) (by decide) (fun _ => rfl) (fun y18 => ?_)
        refine ux_goto 40 (dg hd_Mo_goes 41 rfl) (by decide) ?_
        refine ux_wk [(0, .ref 0), (1, .int y17), (2, .int y18)] [2, 1, 0] rfl ?_
        exact ih y17 y18 σ14
def Mo_goes_L11 : Nat → Int32 → Int32 → St → Option (Int32 × St)
  | 0, _, _, _ => none
  | n + 1, x1, x2, σ =>
    grd (inb (2 : Int32) 366) (
    if (σ.2 1 (2 : Int32).toNatClampNeg) ≤ x2 then (
    Mo_goes_L40 1000 x1 (0 : Int32) σ) else (
    bnd (Mo_costsOf x2 σ) (fun r19 σ20 =>
    grd (inb x2 6) (
    nas (sA σ20 12 x2.toNatClampNeg r19) (fun σ21 =>
    nam (x2 + (1 : Int32)) (fun y22 =>
    Mo_goes_L11 n x1 y22 σ21))))))
set_option maxRecDepth 100000 in
theorem wk_Mo_goes_L11 (l : Launch) : ∀ (n : Nat) (x1 x2 : Int32) (σ : St), Ux l shM 7 md_Mo_goes 11 [(0, .ref 0), (1, .int x1), (2, .int x2)] [] σ (Mo_goes_L11 n x1 x2 σ) := by
  intro n
  induction n with
  | zero => intros; exact ux_none
  | succ n ih =>
    intro x1 x2 σ
    unfold Mo_goes_L11
    refine ux_iload_n (dg hd_Mo_goes 7 rfl) rfl ?_
    refine ux_aload_n (dg hd_Mo_goes 8 rfl) rfl ?_
    refine ux_getr (q := 1) fcX7 0 (by decide) wk_773 rfl rfl (dg hd_Mo_goes 9 rfl) ?_
    refine ux_iconst (2 : Int32) (dg hd_Mo_goes 10 rfl) (by decide) ?_
    refine ux_iald rfl (dg hd_Mo_goes 11 rfl) ?_
    refine ux_icmp_ge 38 (dg hd_Mo_goes 12 rfl) (by decide) (fun _ => ?_) (fun _ => ?_)
    · refine ux_iconst (0 : Int32) (dg hd_Mo_goes 22 rfl) (by decide) ?_
      refine ux_istore_n [(2, .int (0 : Int32)), (0, .ref 0), (1, .int x1)] (dg hd_Mo_goes 23 rfl) (by decide) rfl ?_
      refine ux_wk [(0, .ref 0), (1, .int x1), (2, .int (0 : Int32))] [1, 2, 0] rfl ?_
      exact wk_Mo_goes_L40 l 1000 x1 (0 : Int32) σ
    · refine ux_aload_n (dg hd_Mo_goes 13 rfl) rfl ?_
      refine ux_getr (q := 12) fcX7 17 (by decide) wk_790 rfl rfl (dg hd_Mo_goes 14 rfl) ?_
      refine ux_iload_n (dg hd_Mo_goes 15 rfl) rfl ?_
      refine ux_aload_n (dg hd_Mo_goes 16 rfl) rfl ?_
      refine ux_iload_n (dg hd_Mo_goes 17 rfl) rfl ?_
      refine ux_callVi (As := [.int x2]) (sp_Mo_costsOf l x2 _) (by omega) cv_Mo_costsOf wk_870 rfl rfl rfl rfl rfl (Nat.le_of_ble_eq_true rfl) (dg hd_Mo_goes 18 rfl) (fun r19 σ20 _ => ?_)
      refine ux_iast rfl (dg hd_Mo_goes 19 rfl) ?_
      refine ux_nas (fun σ21 => ?_)
      refine ux_iincN (1 : Int32) (fun y22 => [(2, .int y22), (0, .ref 0), (1, .int x1)]) (dg hd_Mo_goes 20 rfl) rfl (by decide) (by decide) (fun _ => rfl) (fun y22 => ?_)
      refine ux_goto 11 (dg hd_Mo_goes 21 rfl) (by decide) ?_
      refine ux_wk [(0, .ref 0), (1, .int x1), (2, .int y22)] [1, 2, 0] rfl ?_
      exact ih x1 y22 σ21
def Mo_goes  (σ : St) : Option (Int32 × St) :=
  bnd (Mo_doesTurn  σ) (fun r1 σ2 =>
  if r1 = (0 : Int32) then (
  grd (inb (4 : Int32) 366) (
  bnd (Mo_held ((σ2.2 1 (4 : Int32).toNatClampNeg) + (0 : Int32)) (0 : Int32) (99999 : Int32) σ2) (fun r3 σ4 =>
  grd (inb (4 : Int32) 366) (
  nas (sA σ4 1 (4 : Int32).toNatClampNeg r3) (fun σ5 =>
  grd (inb (0 : Int32) 366) (
  grd (inb (0 : Int32) 366) (
  nas (sA σ5 1 (0 : Int32).toNatClampNeg ((σ5.2 1 (0 : Int32).toNatClampNeg) + (1 : Int32))) (fun σ6 =>
  some ((0 : Int32), σ6))))))))) else (
  Mo_goes_L11 1000 (0 : Int32) (0 : Int32) σ2))
set_option maxRecDepth 100000 in
theorem sp_Mo_goes (l : Launch) (σ : St) : Spc l shM 7 md_Mo_goes [.ref 0] σ (Mo_goes  σ) := by
  refine Spc_of_Ux [(0, .ref 0)] (by decide) rfl (Nat.le_of_ble_eq_true rfl) ?_
  unfold Mo_goes
  refine ux_iconst (0 : Int32) (dg hd_Mo_goes 0 rfl) (by decide) ?_
  refine ux_istore_n [(1, .int (0 : Int32)), (0, .ref 0)] (dg hd_Mo_goes 1 rfl) (by decide) rfl ?_
  refine ux_aload_n (dg hd_Mo_goes 2 rfl) rfl ?_
  refine ux_callVi (As := []) (sp_Mo_doesTurn l  _) (by omega) cv_Mo_doesTurn wk_924 rfl rfl rfl rfl rfl (Nat.le_of_ble_eq_true rfl) (dg hd_Mo_goes 3 rfl) (fun r1 σ2 _ => ?_)
  refine ux_if_eq 93 (dg hd_Mo_goes 4 rfl) (by decide) (fun _ => ?_) (fun _ => ?_)
  · refine ux_aload_n (dg hd_Mo_goes 58 rfl) rfl ?_
    refine ux_getr (q := 1) fcX7 0 (by decide) wk_773 rfl rfl (dg hd_Mo_goes 59 rfl) ?_
    refine ux_iconst (4 : Int32) (dg hd_Mo_goes 60 rfl) (by decide) ?_
    refine ux_aload_n (dg hd_Mo_goes 61 rfl) rfl ?_
    refine ux_getr (q := 1) fcX7 0 (by decide) wk_773 rfl rfl (dg hd_Mo_goes 62 rfl) ?_
    refine ux_iconst (4 : Int32) (dg hd_Mo_goes 63 rfl) (by decide) ?_
    refine ux_iald rfl (dg hd_Mo_goes 64 rfl) ?_
    refine ux_iload_n (dg hd_Mo_goes 65 rfl) rfl ?_
    refine ux_iadd (dg hd_Mo_goes 66 rfl) ?_
    refine ux_iconst (0 : Int32) (dg hd_Mo_goes 67 rfl) (by decide) ?_
    refine ux_ldc (99999 : Int32) wk_1041 (dg hd_Mo_goes 68 rfl) ?_
    refine ux_callSi (As := [.int ((σ2.2 1 (4 : Int32).toNatClampNeg) + (0 : Int32)), .int (0 : Int32), .int (99999 : Int32)]) (sp_Mo_held l ((σ2.2 1 (4 : Int32).toNatClampNeg) + (0 : Int32)) (0 : Int32) (99999 : Int32) _) (by omega) cs_Mo_held wk_904 rfl rfl (Nat.le_of_ble_eq_true rfl) (dg hd_Mo_goes 69 rfl) (fun r3 σ4 _ => ?_)
    refine ux_iast rfl (dg hd_Mo_goes 70 rfl) ?_
    refine ux_nas (fun σ5 => ?_)
    refine ux_aload_n (dg hd_Mo_goes 71 rfl) rfl ?_
    refine ux_getr (q := 1) fcX7 0 (by decide) wk_773 rfl rfl (dg hd_Mo_goes 72 rfl) ?_
    refine ux_iconst (0 : Int32) (dg hd_Mo_goes 73 rfl) (by decide) ?_
    refine ux_dup2 (dg hd_Mo_goes 74 rfl) ?_
    refine ux_iald rfl (dg hd_Mo_goes 75 rfl) ?_
    refine ux_iconst (1 : Int32) (dg hd_Mo_goes 76 rfl) (by decide) ?_
    refine ux_iadd (dg hd_Mo_goes 77 rfl) ?_
    refine ux_iast rfl (dg hd_Mo_goes 78 rfl) ?_
    refine ux_nas (fun σ6 => ?_)
    refine ux_iload_n (dg hd_Mo_goes 79 rfl) rfl ?_
    exact ux_iret rfl (dg hd_Mo_goes 80 rfl)
  · refine ux_iconst (0 : Int32) (dg hd_Mo_goes 5 rfl) (by decide) ?_
    refine ux_istore_n [(2, .int (0 : Int32)), (1, .int (0 : Int32)), (0, .ref 0)] (dg hd_Mo_goes 6 rfl) (by decide) rfl ?_
    refine ux_wk [(0, .ref 0), (1, .int (0 : Int32)), (2, .int (0 : Int32))] [2, 1, 0] rfl ?_
    exact wk_Mo_goes_L11 l 1000 (0 : Int32) (0 : Int32) σ2
def Mo_beats_L41 : Nat → Int32 → Int32 → Int32 → St → Option (Int32 × St)
  | 0, _, _, _, _ => none
  | n + 1, x1, x2, x3, σ =>
    if x1 ≤ x3 then (
    some (x2, σ)) else (
    bnd (Mo_goes  σ) (fun r3 σ4 =>
    nam (x2 + r3) (fun y5 =>
    nam (x3 + (1 : Int32)) (fun y6 =>
    Mo_beats_L41 n x1 y5 y6 σ4))))
set_option maxRecDepth 100000 in
theorem wk_Mo_beats_L41 (l : Launch) : ∀ (n : Nat) (x1 x2 x3 : Int32) (σ : St), Ux l shM 8 md_Mo_beats 41 [(0, .ref 0), (1, .int x1), (2, .int x2), (3, .int x3)] [] σ (Mo_beats_L41 n x1 x2 x3 σ) := by
  intro n
  induction n with
  | zero => intros; exact ux_none
  | succ n ih =>
    intro x1 x2 x3 σ
    unfold Mo_beats_L41
    refine ux_iload_n (dg hd_Mo_beats 25 rfl) rfl ?_
    refine ux_iload_n (dg hd_Mo_beats 26 rfl) rfl ?_
    refine ux_icmp_ge 59 (dg hd_Mo_beats 27 rfl) (by decide) (fun _ => ?_) (fun _ => ?_)
    · refine ux_iload_n (dg hd_Mo_beats 35 rfl) rfl ?_
      exact ux_iret rfl (dg hd_Mo_beats 36 rfl)
    · refine ux_iload_n (dg hd_Mo_beats 28 rfl) rfl ?_
      refine ux_aload_n (dg hd_Mo_beats 29 rfl) rfl ?_
      refine ux_callVi (As := []) (sp_Mo_goes l  _) (by omega) cv_Mo_goes wk_1042 rfl rfl rfl rfl rfl (Nat.le_of_ble_eq_true rfl) (dg hd_Mo_beats 30 rfl) (fun r3 σ4 _ => ?_)
      refine ux_iadd (dg hd_Mo_beats 31 rfl) ?_
      refine ux_nam (fun y5 => ?_)
      refine ux_istore_n [(2, .int y5), (0, .ref 0), (1, .int x1), (3, .int x3)] (dg hd_Mo_beats 32 rfl) (by decide) rfl ?_
      refine ux_iincN (1 : Int32) (fun y6 => [(3, .int y6), (2, .int y5), (0, .ref 0), (1, .int x1)]) (dg hd_Mo_beats 33 rfl) rfl (by decide) (by decide) (fun _ => rfl) (fun y6 => ?_)
      refine ux_goto 41 (dg hd_Mo_beats 34 rfl) (by decide) ?_
      refine ux_wk [(0, .ref 0), (1, .int x1), (2, .int y5), (3, .int y6)] [2, 3, 1, 0] rfl ?_
      exact ih x1 y5 y6 σ4
def Mo_beats (p1 : Int32) (σ : St) : Option (Int32 × St) :=
  bnd (Mo_in p1 (1 : Int32) (99 : Int32) σ) (fun r1 σ2 =>
  if r1 = (0 : Int32) then (
  bnd (Mo_error (-1000000001 : Int32) σ2) (fun r9 σ10 =>
  some (r9, σ10))) else (
  grd (inb (0 : Int32) 366) (
  if ((σ2.2 1 (0 : Int32).toNatClampNeg) + p1) ≤ (99999 : Int32) then (
  Mo_beats_L41 1000 p1 (0 : Int32) (0 : Int32) σ2) else (
  bnd (Mo_error (-1000000003 : Int32) σ2) (fun r7 σ8 =>
  some (r7, σ8))))))
set_option maxRecDepth 100000 in
theorem sp_Mo_beats (l : Launch) (p1 : Int32) (σ : St) : Spc l shM 8 md_Mo_beats [.ref 0, .int p1] σ (Mo_beats p1 σ) := by
  refine Spc_of_Ux [(0, .ref 0), (1, .int p1)] (by decide) rfl (Nat.le_of_ble_eq_true rfl) ?_
  unfold Mo_beats
  refine ux_iload_n (dg hd_Mo_beats 0 rfl) rfl ?_
  refine ux_iconst (1 : Int32) (dg hd_Mo_beats 1 rfl) (by decide) ?_
  refine ux_bipush (99 : Int32) (dg hd_Mo_beats 2 rfl) (by decide) ?_
  refine ux_callSi (As := [.int p1, .int (1 : Int32), .int (99 : Int32)]) (sp_Mo_in l p1 (1 : Int32) (99 : Int32) _) (by omega) cs_Mo_in wk_844 rfl rfl (Nat.le_of_ble_eq_true rfl) (dg hd_Mo_beats 3 rfl) (fun r1 σ2 _ => ?_)
  refine ux_if_ne 17 (dg hd_Mo_beats 4 rfl) (by decide) (fun _ => ?_) (fun _ => ?_)
  · refine ux_aload_n (dg hd_Mo_beats 5 rfl) rfl ?_
    refine ux_ldc (-1000000001 : Int32) wk_847 (dg hd_Mo_beats 6 rfl) ?_
    refine ux_callVi (As := [.int (-1000000001 : Int32)]) (sp_Mo_error l (-1000000001 : Int32) _) (by omega) cv_Mo_error wk_848 rfl rfl rfl rfl rfl (Nat.le_of_ble_eq_true rfl) (dg hd_Mo_beats 7 rfl) (fun r9 σ10 _ => ?_)
    exact ux_iret rfl (dg hd_Mo_beats 8 rfl)
  · refine ux_aload_n (dg hd_Mo_beats 9 rfl) rfl ?_
    refine ux_getr (q := 1) fcX7 0 (by decide) wk_773 rfl rfl (dg hd_Mo_beats 10 rfl) ?_
    refine ux_iconst (0 : Int32) (dg hd_Mo_beats 11 rfl) (by decide) ?_
    refine ux_iald rfl (dg hd_Mo_beats 12 rfl) ?_
    refine ux_iload_n (dg hd_Mo_beats 13 rfl) rfl ?_
    refine ux_iadd (dg hd_Mo_beats 14 rfl) ?_
    refine ux_ldc (99999 : Int32) wk_1041 (dg hd_Mo_beats 15 rfl) ?_
    refine ux_icmp_le 37 (dg hd_Mo_beats 16 rfl) (by decide) (fun _ => ?_) (fun _ => ?_)
    · refine ux_iconst (0 : Int32) (dg hd_Mo_beats 21 rfl) (by decide) ?_
      refine ux_istore_n [(2, .int (0 : Int32)), (0, .ref 0), (1, .int p1)] (dg hd_Mo_beats 22 rfl) (by decide) rfl ?_
      refine ux_iconst (0 : Int32) (dg hd_Mo_beats 23 rfl) (by decide) ?_
      refine ux_istore_n [(3, .int (0 : Int32)), (2, .int (0 : Int32)), (0, .ref 0), (1, .int p1)] (dg hd_Mo_beats 24 rfl) (by decide) rfl ?_
      refine ux_wk [(0, .ref 0), (1, .int p1), (2, .int (0 : Int32)), (3, .int (0 : Int32))] [2, 3, 1, 0] rfl ?_
      exact wk_Mo_beats_L41 l 1000 p1 (0 : Int32) (0 : Int32) σ2
    · refine ux_aload_n (dg hd_Mo_beats 17 rfl) rfl ?_
      refine ux_ldc (-1000000003 : Int32) wk_928 (dg hd_Mo_beats 18 rfl) ?_
      refine ux_callVi (As := [.int (-1000000003 : Int32)]) (sp_Mo_error l (-1000000003 : Int32) _) (by omega) cv_Mo_error wk_848 rfl rfl rfl rfl rfl (Nat.le_of_ble_eq_true rfl) (dg hd_Mo_beats 19 rfl) (fun r7 σ8 _ => ?_)
      exact ux_iret rfl (dg hd_Mo_beats 20 rfl)
def Mo_draw  (σ : St) : Option (Int32 × St) :=
  grd (inb (1 : Int32) 366) (
  grd (inb (1 : Int32) 366) (
  nas (sA σ 1 (1 : Int32).toNatClampNeg (((σ.2 1 (1 : Int32).toNatClampNeg) * (1103515245 : Int32)) + (12345 : Int32))) (fun σ1 =>
  grd (inb (1 : Int32) 366) (
  some ((iush (σ1.2 1 (1 : Int32).toNatClampNeg) (8 : Int32)), σ1)))))
set_option maxRecDepth 100000 in
theorem sp_Mo_draw (l : Launch) (σ : St) : Spc l shM 2 md_Mo_draw [.ref 0] σ (Mo_draw  σ) := by
  refine Spc_of_Ux [(0, .ref 0)] (by decide) rfl (Nat.le_of_ble_eq_true rfl) ?_
  unfold Mo_draw
  refine ux_aload_n (dg hd_Mo_draw 0 rfl) rfl ?_
  refine ux_getr (q := 1) fcX7 0 (by decide) wk_773 rfl rfl (dg hd_Mo_draw 1 rfl) ?_
  refine ux_iconst (1 : Int32) (dg hd_Mo_draw 2 rfl) (by decide) ?_
  refine ux_aload_n (dg hd_Mo_draw 3 rfl) rfl ?_
  refine ux_getr (q := 1) fcX7 0 (by decide) wk_773 rfl rfl (dg hd_Mo_draw 4 rfl) ?_
  refine ux_iconst (1 : Int32) (dg hd_Mo_draw 5 rfl) (by decide) ?_
  refine ux_iald rfl (dg hd_Mo_draw 6 rfl) ?_
  refine ux_ldc (1103515245 : Int32) wk_1062 (dg hd_Mo_draw 7 rfl) ?_
  refine ux_imul (dg hd_Mo_draw 8 rfl) ?_
  refine ux_sipush (12345 : Int32) (dg hd_Mo_draw 9 rfl) (by decide) ?_
  refine ux_iadd (dg hd_Mo_draw 10 rfl) ?_
  refine ux_iast rfl (dg hd_Mo_draw 11 rfl) ?_
  refine ux_nas (fun σ1 => ?_)
  refine ux_aload_n (dg hd_Mo_draw 12 rfl) rfl ?_
  refine ux_getr (q := 1) fcX7 0 (by decide) wk_773 rfl rfl (dg hd_Mo_draw 13 rfl) ?_
  refine ux_iconst (1 : Int32) (dg hd_Mo_draw 14 rfl) (by decide) ?_
  refine ux_iald rfl (dg hd_Mo_draw 15 rfl) ?_
  refine ux_bipush (8 : Int32) (dg hd_Mo_draw 16 rfl) (by decide) ?_
  refine ux_iushr (dg hd_Mo_draw 17 rfl) ?_
  exact ux_iret rfl (dg hd_Mo_draw 18 rfl)
def Mo_drawn  (σ : St) : Option (Int32 × St) :=
  grd (inb (2 : Int32) 366) (
  if (σ.2 1 (2 : Int32).toNatClampNeg) ≤ (0 : Int32) then (
  bnd (Mo_goes  σ) (fun r1 σ2 =>
  some ((0 : Int32), σ2))) else (
  bnd (Mo_draw  σ) (fun r3 σ4 =>
  grd (inb (2 : Int32) 366) (
  grd (nz (σ4.2 1 (2 : Int32).toNatClampNeg)) (
  nam (irm r3 (σ4.2 1 (2 : Int32).toNatClampNeg)) (fun y5 =>
  bnd (Mo_draw  σ4) (fun r6 σ7 =>
  grd (nz (64 : Int32)) (
  nam (irm r6 (64 : Int32)) (fun y8 =>
  bnd (Mo_doesTurn  σ7) (fun r9 σ10 =>
  if r9 = (0 : Int32) then (
  bnd (Mo_of y5 (4 : Int32) σ10) (fun r11 σ12 =>
  bnd (Mo_lets y5 (4 : Int32) r11 σ12) (fun r13 σ14 =>
  bnd (Mo_mayTalk y5 σ14) (fun r15 σ16 =>
  if r15 = (0 : Int32) then (
  bnd (Mo_goes  σ16) (fun r17 σ18 =>
  some ((0 : Int32), σ18))) else (
  bnd (Mo_talks y8 σ16) (fun r19 σ20 =>
  if r19 = (0 : Int32) then (
  bnd (Mo_goes  σ20) (fun r21 σ22 =>
  some ((0 : Int32), σ22))) else (
  bnd (Mo_goes  σ20) (fun r23 σ24 =>
  some ((1 : Int32), σ24))))))))) else (
  bnd (Mo_lets y5 (4 : Int32) (1 : Int32) σ10) (fun r25 σ26 =>
  bnd (Mo_mayTalk y5 σ26) (fun r27 σ28 =>
  if r27 = (0 : Int32) then (
  bnd (Mo_goes  σ28) (fun r29 σ30 =>
  some ((0 : Int32), σ30))) else (
  bnd (Mo_talks y8 σ28) (fun r31 σ32 =>
  if r31 = (0 : Int32) then (
  bnd (Mo_goes  σ32) (fun r33 σ34 =>
  some ((0 : Int32), σ34))) else (
  bnd (Mo_goes  σ32) (fun r35 σ36 =>
  some ((1 : Int32), σ36))))))))))))))))))
set_option maxRecDepth 100000 in
theorem sp_Mo_drawn (l : Launch) (σ : St) : Spc l shM 9 md_Mo_drawn [.ref 0] σ (Mo_drawn  σ) := by
  refine Spc_of_Ux [(0, .ref 0)] (by decide) rfl (Nat.le_of_ble_eq_true rfl) ?_
  unfold Mo_drawn
  refine ux_iconst (0 : Int32) (dg hd_Mo_drawn 0 rfl) (by decide) ?_
  refine ux_istore_n [(1, .int (0 : Int32)), (0, .ref 0)] (dg hd_Mo_drawn 1 rfl) (by decide) rfl ?_
  refine ux_aload_n (dg hd_Mo_drawn 2 rfl) rfl ?_
  refine ux_getr (q := 1) fcX7 0 (by decide) wk_773 rfl rfl (dg hd_Mo_drawn 3 rfl) ?_
  refine ux_iconst (2 : Int32) (dg hd_Mo_drawn 4 rfl) (by decide) ?_
  refine ux_iald rfl (dg hd_Mo_drawn 5 rfl) ?_
  refine ux_if_le 76 (dg hd_Mo_drawn 6 rfl) (by decide) (fun _ => ?_) (fun _ => ?_)
  · refine ux_aload_n (dg hd_Mo_drawn 45 rfl) rfl ?_
    refine ux_callVi (As := []) (sp_Mo_goes l  _) (by omega) cv_Mo_goes wk_1042 rfl rfl rfl rfl rfl (Nat.le_of_ble_eq_true rfl) (dg hd_Mo_drawn 46 rfl) (fun r1 σ2 _ => ?_)
    refine ux_istore_n [(2, .int r1), (1, .int (0 : Int32)), (0, .ref 0)] (dg hd_Mo_drawn 47 rfl) (by decide) rfl ?_
    refine ux_iload_n (dg hd_Mo_drawn 48 rfl) rfl ?_
    exact ux_zret rfl (dg hd_Mo_drawn 49 rfl) (isB_n (by decide))
  · refine ux_aload_n (dg hd_Mo_drawn 7 rfl) rfl ?_
    refine ux_callVi (As := []) (sp_Mo_draw l  _) (by omega) cv_Mo_draw wk_1058 rfl rfl rfl rfl rfl (Nat.le_of_ble_eq_true rfl) (dg hd_Mo_drawn 8 rfl) (fun r3 σ4 _ => ?_)
    refine ux_aload_n (dg hd_Mo_drawn 9 rfl) rfl ?_
    refine ux_getr (q := 1) fcX7 0 (by decide) wk_773 rfl rfl (dg hd_Mo_drawn 10 rfl) ?_
    refine ux_iconst (2 : Int32) (dg hd_Mo_drawn 11 rfl) (by decide) ?_
    refine ux_iald rfl (dg hd_Mo_drawn 12 rfl) ?_
    refine ux_irem (dg hd_Mo_drawn 13 rfl) ?_
    refine ux_nam (fun y5 => ?_)
    refine ux_istore_n [(2, .int y5), (1, .int (0 : Int32)), (0, .ref 0)] (dg hd_Mo_drawn 14 rfl) (by decide) rfl ?_
    refine ux_aload_n (dg hd_Mo_drawn 15 rfl) rfl ?_
    refine ux_callVi (As := []) (sp_Mo_draw l  _) (by omega) cv_Mo_draw wk_1058 rfl rfl rfl rfl rfl (Nat.le_of_ble_eq_true rfl) (dg hd_Mo_drawn 16 rfl) (fun r6 σ7 _ => ?_)
    refine ux_bipush (64 : Int32) (dg hd_Mo_drawn 17 rfl) (by decide) ?_
    refine ux_irem (dg hd_Mo_drawn 18 rfl) ?_
    refine ux_nam (fun y8 => ?_)
    refine ux_istore_n [(3, .int y8), (2, .int y5), (1, .int (0 : Int32)), (0, .ref 0)] (dg hd_Mo_drawn 19 rfl) (by decide) rfl ?_
    refine ux_aload_n (dg hd_Mo_drawn 20 rfl) rfl ?_
    refine ux_iload_n (dg hd_Mo_drawn 21 rfl) rfl ?_
    refine ux_iconst (4 : Int32) (dg hd_Mo_drawn 22 rfl) (by decide) ?_
    refine ux_aload_n (dg hd_Mo_drawn 23 rfl) rfl ?_
    refine ux_callVi (As := []) (sp_Mo_doesTurn l  _) (by omega) cv_Mo_doesTurn wk_924 rfl rfl rfl rfl rfl (Nat.le_of_ble_eq_true rfl) (dg hd_Mo_drawn 24 rfl) (fun r9 σ10 _ => ?_)
    refine ux_if_eq 45 (dg hd_Mo_drawn 25 rfl) (by decide) (fun _ => ?_) (fun _ => ?_)
    · refine ux_aload_n (dg hd_Mo_drawn 28 rfl) rfl ?_
      refine ux_iload_n (dg hd_Mo_drawn 29 rfl) rfl ?_
      refine ux_iconst (4 : Int32) (dg hd_Mo_drawn 30 rfl) (by decide) ?_
      refine ux_callVi (As := [.int y5, .int (4 : Int32)]) (sp_Mo_of l y5 (4 : Int32) _) (by omega) cv_Mo_of wk_866 rfl rfl rfl rfl rfl (Nat.le_of_ble_eq_true rfl) (dg hd_Mo_drawn 31 rfl) (fun r11 σ12 _ => ?_)
      refine ux_callVv (As := [.int y5, .int (4 : Int32), .int r11]) (sp_Mo_lets l y5 (4 : Int32) r11 _) (by omega) cv_Mo_lets wk_854 rfl rfl rfl rfl rfl (Nat.le_of_ble_eq_true rfl) (dg hd_Mo_drawn 32 rfl) (fun r13 σ14 _ => ?_)
      refine ux_aload_n (dg hd_Mo_drawn 33 rfl) rfl ?_
      refine ux_iload_n (dg hd_Mo_drawn 34 rfl) rfl ?_
      refine ux_callVi (As := [.int y5]) (sp_Mo_mayTalk l y5 _) (by omega) cv_Mo_mayTalk wk_960 rfl rfl rfl rfl rfl (Nat.le_of_ble_eq_true rfl) (dg hd_Mo_drawn 35 rfl) (fun r15 σ16 _ => ?_)
      refine ux_if_eq 74 (dg hd_Mo_drawn 36 rfl) (by decide) (fun _ => ?_) (fun _ => ?_)
      · refine ux_iconst (0 : Int32) (dg hd_Mo_drawn 43 rfl) (by decide) ?_
        refine ux_istore_n [(1, .int (0 : Int32)), (3, .int y8), (2, .int y5), (0, .ref 0)] (dg hd_Mo_drawn 44 rfl) (by decide) rfl ?_
        refine ux_aload_n (dg hd_Mo_drawn 45 rfl) rfl ?_
        refine ux_callVi (As := []) (sp_Mo_goes l  _) (by omega) cv_Mo_goes wk_1042 rfl rfl rfl rfl rfl (Nat.le_of_ble_eq_true rfl) (dg hd_Mo_drawn 46 rfl) (fun r17 σ18 _ => ?_)
        refine ux_istore_n [(2, .int r17), (1, .int (0 : Int32)), (3, .int y8), (0, .ref 0)] (dg hd_Mo_drawn 47 rfl) (by decide) rfl ?_
        refine ux_iload_n (dg hd_Mo_drawn 48 rfl) rfl ?_
        exact ux_zret rfl (dg hd_Mo_drawn 49 rfl) (isB_n (by decide))
      · refine ux_aload_n (dg hd_Mo_drawn 37 rfl) rfl ?_
        refine ux_iload_n (dg hd_Mo_drawn 38 rfl) rfl ?_
        refine ux_callVi (As := [.int y8]) (sp_Mo_talks l y8 _) (by omega) cv_Mo_talks wk_964 rfl rfl rfl rfl rfl (Nat.le_of_ble_eq_true rfl) (dg hd_Mo_drawn 39 rfl) (fun r19 σ20 _ => ?_)
        refine ux_if_eq 74 (dg hd_Mo_drawn 40 rfl) (by decide) (fun _ => ?_) (fun _ => ?_)
        · refine ux_iconst (0 : Int32) (dg hd_Mo_drawn 43 rfl) (by decide) ?_
          refine ux_istore_n [(1, .int (0 : Int32)), (3, .int y8), (2, .int y5), (0, .ref 0)] (dg hd_Mo_drawn 44 rfl) (by decide) rfl ?_
          refine ux_aload_n (dg hd_Mo_drawn 45 rfl) rfl ?_
          refine ux_callVi (As := []) (sp_Mo_goes l  _) (by omega) cv_Mo_goes wk_1042 rfl rfl rfl rfl rfl (Nat.le_of_ble_eq_true rfl) (dg hd_Mo_drawn 46 rfl) (fun r21 σ22 _ => ?_)
          refine ux_istore_n [(2, .int r21), (1, .int (0 : Int32)), (3, .int y8), (0, .ref 0)] (dg hd_Mo_drawn 47 rfl) (by decide) rfl ?_
          refine ux_iload_n (dg hd_Mo_drawn 48 rfl) rfl ?_
          exact ux_zret rfl (dg hd_Mo_drawn 49 rfl) (isB_n (by decide))
        · refine ux_iconst (1 : Int32) (dg hd_Mo_drawn 41 rfl) (by decide) ?_
          refine ux_goto 75 (dg hd_Mo_drawn 42 rfl) (by decide) ?_
          refine ux_istore_n [(1, .int (1 : Int32)), (3, .int y8), (2, .int y5), (0, .ref 0)] (dg hd_Mo_drawn 44 rfl) (by decide) rfl ?_
          refine ux_aload_n (dg hd_Mo_drawn 45 rfl) rfl ?_
          refine ux_callVi (As := []) (sp_Mo_goes l  _) (by omega) cv_Mo_goes wk_1042 rfl rfl rfl rfl rfl (Nat.le_of_ble_eq_true rfl) (dg hd_Mo_drawn 46 rfl) (fun r23 σ24 _ => ?_)
          refine ux_istore_n [(2, .int r23), (1, .int (1 : Int32)), (3, .int y8), (0, .ref 0)] (dg hd_Mo_drawn 47 rfl) (by decide) rfl ?_
          refine ux_iload_n (dg hd_Mo_drawn 48 rfl) rfl ?_
          exact ux_zret rfl (dg hd_Mo_drawn 49 rfl) (isB_n (by decide))
    · refine ux_iconst (1 : Int32) (dg hd_Mo_drawn 26 rfl) (by decide) ?_
      refine ux_goto 51 (dg hd_Mo_drawn 27 rfl) (by decide) ?_
      refine ux_callVv (As := [.int y5, .int (4 : Int32), .int (1 : Int32)]) (sp_Mo_lets l y5 (4 : Int32) (1 : Int32) _) (by omega) cv_Mo_lets wk_854 rfl rfl rfl rfl rfl (Nat.le_of_ble_eq_true rfl) (dg hd_Mo_drawn 32 rfl) (fun r25 σ26 _ => ?_)
      refine ux_aload_n (dg hd_Mo_drawn 33 rfl) rfl ?_
      refine ux_iload_n (dg hd_Mo_drawn 34 rfl) rfl ?_
      refine ux_callVi (As := [.int y5]) (sp_Mo_mayTalk l y5 _) (by omega) cv_Mo_mayTalk wk_960 rfl rfl rfl rfl rfl (Nat.le_of_ble_eq_true rfl) (dg hd_Mo_drawn 35 rfl) (fun r27 σ28 _ => ?_)
      refine ux_if_eq 74 (dg hd_Mo_drawn 36 rfl) (by decide) (fun _ => ?_) (fun _ => ?_)
      · refine ux_iconst (0 : Int32) (dg hd_Mo_drawn 43 rfl) (by decide) ?_
        refine ux_istore_n [(1, .int (0 : Int32)), (3, .int y8), (2, .int y5), (0, .ref 0)] (dg hd_Mo_drawn 44 rfl) (by decide) rfl ?_
        refine ux_aload_n (dg hd_Mo_drawn 45 rfl) rfl ?_
        refine ux_callVi (As := []) (sp_Mo_goes l  _) (by omega) cv_Mo_goes wk_1042 rfl rfl rfl rfl rfl (Nat.le_of_ble_eq_true rfl) (dg hd_Mo_drawn 46 rfl) (fun r29 σ30 _ => ?_)
        refine ux_istore_n [(2, .int r29), (1, .int (0 : Int32)), (3, .int y8), (0, .ref 0)] (dg hd_Mo_drawn 47 rfl) (by decide) rfl ?_
        refine ux_iload_n (dg hd_Mo_drawn 48 rfl) rfl ?_
        exact ux_zret rfl (dg hd_Mo_drawn 49 rfl) (isB_n (by decide))
      · refine ux_aload_n (dg hd_Mo_drawn 37 rfl) rfl ?_
        refine ux_iload_n (dg hd_Mo_drawn 38 rfl) rfl ?_
        refine ux_callVi (As := [.int y8]) (sp_Mo_talks l y8 _) (by omega) cv_Mo_talks wk_964 rfl rfl rfl rfl rfl (Nat.le_of_ble_eq_true rfl) (dg hd_Mo_drawn 39 rfl) (fun r31 σ32 _ => ?_)
        refine ux_if_eq 74 (dg hd_Mo_drawn 40 rfl) (by decide) (fun _ => ?_) (fun _ => ?_)
        · refine ux_iconst (0 : Int32) (dg hd_Mo_drawn 43 rfl) (by decide) ?_
          refine ux_istore_n [(1, .int (0 : Int32)), (3, .int y8), (2, .int y5), (0, .ref 0)] (dg hd_Mo_drawn 44 rfl) (by decide) rfl ?_
          refine ux_aload_n (dg hd_Mo_drawn 45 rfl) rfl ?_
          refine ux_callVi (As := []) (sp_Mo_goes l  _) (by omega) cv_Mo_goes wk_1042 rfl rfl rfl rfl rfl (Nat.le_of_ble_eq_true rfl) (dg hd_Mo_drawn 46 rfl) (fun r33 σ34 _ => ?_)
          refine ux_istore_n [(2, .int r33), (1, .int (0 : Int32)), (3, .int y8), (0, .ref 0)] (dg hd_Mo_drawn 47 rfl) (by decide) rfl ?_
          refine ux_iload_n (dg hd_Mo_drawn 48 rfl) rfl ?_
          exact ux_zret rfl (dg hd_Mo_drawn 49 rfl) (isB_n (by decide))
        · refine ux_iconst (1 : Int32) (dg hd_Mo_drawn 41 rfl) (by decide) ?_
          refine ux_goto 75 (dg hd_Mo_drawn 42 rfl) (by decide) ?_
          refine ux_istore_n [(1, .int (1 : Int32)), (3, .int y8), (2, .int y5), (0, .ref 0)] (dg hd_Mo_drawn 44 rfl) (by decide) rfl ?_
          refine ux_aload_n (dg hd_Mo_drawn 45 rfl) rfl ?_
          refine ux_callVi (As := []) (sp_Mo_goes l  _) (by omega) cv_Mo_goes wk_1042 rfl rfl rfl rfl rfl (Nat.le_of_ble_eq_true rfl) (dg hd_Mo_drawn 46 rfl) (fun r35 σ36 _ => ?_)
          refine ux_istore_n [(2, .int r35), (1, .int (1 : Int32)), (3, .int y8), (0, .ref 0)] (dg hd_Mo_drawn 47 rfl) (by decide) rfl ?_
          refine ux_iload_n (dg hd_Mo_drawn 48 rfl) rfl ?_
          exact ux_zret rfl (dg hd_Mo_drawn 49 rfl) (isB_n (by decide))
def Mo_loose_L41 : Nat → Int32 → Int32 → Int32 → St → Option (Int32 × St)
  | 0, _, _, _, _ => none
  | n + 1, x1, x2, x3, σ =>
    if x1 ≤ x3 then (
    some (x2, σ)) else (
    bnd (Mo_drawn  σ) (fun r3 σ4 =>
    if r3 = (0 : Int32) then (
    nam (x2 + (0 : Int32)) (fun y5 =>
    nam (x3 + (1 : Int32)) (fun y6 =>
    Mo_loose_L41 n x1 y5 y6 σ4))) else (
    nam (x2 + (1 : Int32)) (fun y7 =>
    nam (x3 + (1 : Int32)) (fun y8 =>
    Mo_loose_L41 n x1 y7 y8 σ4)))))
set_option maxRecDepth 100000 in
theorem wk_Mo_loose_L41 (l : Launch) : ∀ (n : Nat) (x1 x2 x3 : Int32) (σ : St), Ux l shM 10 md_Mo_loose 41 [(0, .ref 0), (1, .int x1), (2, .int x2), (3, .int x3)] [] σ (Mo_loose_L41 n x1 x2 x3 σ) := by
  intro n
  induction n with
  | zero => intros; exact ux_none
  | succ n ih =>
    intro x1 x2 x3 σ
    unfold Mo_loose_L41
    refine ux_iload_n (dg hd_Mo_loose 25 rfl) rfl ?_
    refine ux_iload_n (dg hd_Mo_loose 26 rfl) rfl ?_
    refine ux_icmp_ge 67 (dg hd_Mo_loose 27 rfl) (by decide) (fun _ => ?_) (fun _ => ?_)
    · refine ux_iload_n (dg hd_Mo_loose 39 rfl) rfl ?_
      exact ux_iret rfl (dg hd_Mo_loose 40 rfl)
    · refine ux_iload_n (dg hd_Mo_loose 28 rfl) rfl ?_
      refine ux_aload_n (dg hd_Mo_loose 29 rfl) rfl ?_
      refine ux_callVi (As := []) (sp_Mo_drawn l  _) (by omega) cv_Mo_drawn wk_1054 rfl rfl rfl rfl rfl (Nat.le_of_ble_eq_true rfl) (dg hd_Mo_loose 30 rfl) (fun r3 σ4 _ => ?_)
      refine ux_if_eq 58 (dg hd_Mo_loose 31 rfl) (by decide) (fun _ => ?_) (fun _ => ?_)
      · refine ux_iconst (0 : Int32) (dg hd_Mo_loose 34 rfl) (by decide) ?_
        refine ux_iadd (dg hd_Mo_loose 35 rfl) ?_
        refine ux_nam (fun y5 => ?_)
        refine ux_istore_n [(2, .int y5), (0, .ref 0), (1, .int x1), (3, .int x3)] (dg hd_Mo_loose 36 rfl) (by decide) rfl ?_
        refine ux_iincN (1 : Int32) (fun y6 => [(3, .int y6), (2, .int y5), (0, .ref 0), (1, .int x1)]) (dg hd_Mo_loose 37 rfl) rfl (by decide) (by decide) (fun _ => rfl) (fun y6 => ?_)
        refine ux_goto 41 (dg hd_Mo_loose 38 rfl) (by decide) ?_
        refine ux_wk [(0, .ref 0), (1, .int x1), (2, .int y5), (3, .int y6)] [2, 3, 1, 0] rfl ?_
        exact ih x1 y5 y6 σ4
      · refine ux_iconst (1 : Int32) (dg hd_Mo_loose 32 rfl) (by decide) ?_
        refine ux_goto 59 (dg hd_Mo_loose 33 rfl) (by decide) ?_
        refine ux_iadd (dg hd_Mo_loose 35 rfl) ?_
        refine ux_nam (fun y7 => ?_)
        refine ux_istore_n [(2, .int y7), (0, .ref 0), (1, .int x1), (3, .int x3)] (dg hd_Mo_loose 36 rfl) (by decide) rfl ?_
        refine ux_iincN (1 : Int32) (fun y8 => [(3, .int y8), (2, .int y7), (0, .ref 0), (1, .int x1)]) (dg hd_Mo_loose 37 rfl) rfl (by decide) (by decide) (fun _ => rfl) (fun y8 => ?_)
        refine ux_goto 41 (dg hd_Mo_loose 38 rfl) (by decide) ?_
        refine ux_wk [(0, .ref 0), (1, .int x1), (2, .int y7), (3, .int y8)] [2, 3, 1, 0] rfl ?_
        exact ih x1 y7 y8 σ4
def Mo_loose (p1 : Int32) (σ : St) : Option (Int32 × St) :=
  bnd (Mo_in p1 (1 : Int32) (30 : Int32) σ) (fun r1 σ2 =>
  if r1 = (0 : Int32) then (
  bnd (Mo_error (-1000000001 : Int32) σ2) (fun r11 σ12 =>
  some (r11, σ12))) else (
  grd (inb (0 : Int32) 366) (
  if ((σ2.2 1 (0 : Int32).toNatClampNeg) + p1) ≤ (99999 : Int32) then (
  Mo_loose_L41 1000 p1 (0 : Int32) (0 : Int32) σ2) else (
  bnd (Mo_error (-1000000003 : Int32) σ2) (fun r9 σ10 =>
  some (r9, σ10))))))
set_option maxRecDepth 100000 in
theorem sp_Mo_loose (l : Launch) (p1 : Int32) (σ : St) : Spc l shM 10 md_Mo_loose [.ref 0, .int p1] σ (Mo_loose p1 σ) := by
  refine Spc_of_Ux [(0, .ref 0), (1, .int p1)] (by decide) rfl (Nat.le_of_ble_eq_true rfl) ?_
  unfold Mo_loose
  refine ux_iload_n (dg hd_Mo_loose 0 rfl) rfl ?_
  refine ux_iconst (1 : Int32) (dg hd_Mo_loose 1 rfl) (by decide) ?_
  refine ux_bipush (30 : Int32) (dg hd_Mo_loose 2 rfl) (by decide) ?_
  refine ux_callSi (As := [.int p1, .int (1 : Int32), .int (30 : Int32)]) (sp_Mo_in l p1 (1 : Int32) (30 : Int32) _) (by omega) cs_Mo_in wk_844 rfl rfl (Nat.le_of_ble_eq_true rfl) (dg hd_Mo_loose 3 rfl) (fun r1 σ2 _ => ?_)
  refine ux_if_ne 17 (dg hd_Mo_loose 4 rfl) (by decide) (fun _ => ?_) (fun _ => ?_)
  · refine ux_aload_n (dg hd_Mo_loose 5 rfl) rfl ?_
    refine ux_ldc (-1000000001 : Int32) wk_847 (dg hd_Mo_loose 6 rfl) ?_
    refine ux_callVi (As := [.int (-1000000001 : Int32)]) (sp_Mo_error l (-1000000001 : Int32) _) (by omega) cv_Mo_error wk_848 rfl rfl rfl rfl rfl (Nat.le_of_ble_eq_true rfl) (dg hd_Mo_loose 7 rfl) (fun r11 σ12 _ => ?_)
    exact ux_iret rfl (dg hd_Mo_loose 8 rfl)
  · refine ux_aload_n (dg hd_Mo_loose 9 rfl) rfl ?_
    refine ux_getr (q := 1) fcX7 0 (by decide) wk_773 rfl rfl (dg hd_Mo_loose 10 rfl) ?_
    refine ux_iconst (0 : Int32) (dg hd_Mo_loose 11 rfl) (by decide) ?_
    refine ux_iald rfl (dg hd_Mo_loose 12 rfl) ?_
    refine ux_iload_n (dg hd_Mo_loose 13 rfl) rfl ?_
    refine ux_iadd (dg hd_Mo_loose 14 rfl) ?_
    refine ux_ldc (99999 : Int32) wk_1041 (dg hd_Mo_loose 15 rfl) ?_
    refine ux_icmp_le 37 (dg hd_Mo_loose 16 rfl) (by decide) (fun _ => ?_) (fun _ => ?_)
    · refine ux_iconst (0 : Int32) (dg hd_Mo_loose 21 rfl) (by decide) ?_
      refine ux_istore_n [(2, .int (0 : Int32)), (0, .ref 0), (1, .int p1)] (dg hd_Mo_loose 22 rfl) (by decide) rfl ?_
      refine ux_iconst (0 : Int32) (dg hd_Mo_loose 23 rfl) (by decide) ?_
      refine ux_istore_n [(3, .int (0 : Int32)), (2, .int (0 : Int32)), (0, .ref 0), (1, .int p1)] (dg hd_Mo_loose 24 rfl) (by decide) rfl ?_
      refine ux_wk [(0, .ref 0), (1, .int p1), (2, .int (0 : Int32)), (3, .int (0 : Int32))] [2, 3, 1, 0] rfl ?_
      exact wk_Mo_loose_L41 l 1000 p1 (0 : Int32) (0 : Int32) σ2
    · refine ux_aload_n (dg hd_Mo_loose 17 rfl) rfl ?_
      refine ux_ldc (-1000000003 : Int32) wk_928 (dg hd_Mo_loose 18 rfl) ?_
      refine ux_callVi (As := [.int (-1000000003 : Int32)]) (sp_Mo_error l (-1000000003 : Int32) _) (by omega) cv_Mo_error wk_848 rfl rfl rfl rfl rfl (Nat.le_of_ble_eq_true rfl) (dg hd_Mo_loose 19 rfl) (fun r9 σ10 _ => ?_)
      exact ux_iret rfl (dg hd_Mo_loose 20 rfl)
def Mo_seed (p1 : Int32) (σ : St) : Option (Int32 × St) :=
  bnd (Mo_becomes (1 : Int32) p1 σ) (fun r1 σ2 =>
  some (r1, σ2))
set_option maxRecDepth 100000 in
theorem sp_Mo_seed (l : Launch) (p1 : Int32) (σ : St) : Spc l shM 3 md_Mo_seed [.ref 0, .int p1] σ (Mo_seed p1 σ) := by
  refine Spc_of_Ux [(0, .ref 0), (1, .int p1)] (by decide) rfl (Nat.le_of_ble_eq_true rfl) ?_
  unfold Mo_seed
  refine ux_aload_n (dg hd_Mo_seed 0 rfl) rfl ?_
  refine ux_iconst (1 : Int32) (dg hd_Mo_seed 1 rfl) (by decide) ?_
  refine ux_iload_n (dg hd_Mo_seed 2 rfl) rfl ?_
  refine ux_callVi (As := [.int (1 : Int32), .int p1]) (sp_Mo_becomes l (1 : Int32) p1 _) (by omega) cv_Mo_becomes wk_911 rfl rfl rfl rfl rfl (Nat.le_of_ble_eq_true rfl) (dg hd_Mo_seed 3 rfl) (fun r1 σ2 _ => ?_)
  exact ux_iret rfl (dg hd_Mo_seed 4 rfl)
def Mo_goesFor_L4 : Nat → Int32 → Int32 → Int32 → St → Option (Int32 × St)
  | 0, _, _, _, _ => none
  | n + 1, x1, x2, x3, σ =>
    if x1 ≤ x3 then (
    some (0, σ)) else (
    bnd (Mo_goes  σ) (fun r1 σ2 =>
    nam (x2 + r1) (fun y3 =>
    nam (x3 + (1 : Int32)) (fun y4 =>
    Mo_goesFor_L4 n x1 y3 y4 σ2))))
set_option maxRecDepth 100000 in
theorem wk_Mo_goesFor_L4 (l : Launch) : ∀ (n : Nat) (x1 x2 x3 : Int32) (σ : St), Ux l shM 8 md_Mo_goesFor 4 [(0, .ref 0), (1, .int x1), (2, .int x2), (3, .int x3)] [] σ (Mo_goesFor_L4 n x1 x2 x3 σ) := by
  intro n
  induction n with
  | zero => intros; exact ux_none
  | succ n ih =>
    intro x1 x2 x3 σ
    unfold Mo_goesFor_L4
    refine ux_iload_n (dg hd_Mo_goesFor 4 rfl) rfl ?_
    refine ux_iload_n (dg hd_Mo_goesFor 5 rfl) rfl ?_
    refine ux_icmp_ge 22 (dg hd_Mo_goesFor 6 rfl) (by decide) (fun _ => ?_) (fun _ => ?_)
    · exact ux_vret rfl (dg hd_Mo_goesFor 14 rfl)
    · refine ux_iload_n (dg hd_Mo_goesFor 7 rfl) rfl ?_
      refine ux_aload_n (dg hd_Mo_goesFor 8 rfl) rfl ?_
      refine ux_callVi (As := []) (sp_Mo_goes l  _) (by omega) cv_Mo_goes wk_1042 rfl rfl rfl rfl rfl (Nat.le_of_ble_eq_true rfl) (dg hd_Mo_goesFor 9 rfl) (fun r1 σ2 _ => ?_)
      refine ux_iadd (dg hd_Mo_goesFor 10 rfl) ?_
      refine ux_nam (fun y3 => ?_)
      refine ux_istore_n [(2, .int y3), (0, .ref 0), (1, .int x1), (3, .int x3)] (dg hd_Mo_goesFor 11 rfl) (by decide) rfl ?_
      refine ux_iincN (1 : Int32) (fun y4 => [(3, .int y4), (2, .int y3), (0, .ref 0), (1, .int x1)]) (dg hd_Mo_goesFor 12 rfl) rfl (by decide) (by decide) (fun _ => rfl) (fun y4 => ?_)
      refine ux_goto 4 (dg hd_Mo_goesFor 13 rfl) (by decide) ?_
      refine ux_wk [(0, .ref 0), (1, .int x1), (2, .int y3), (3, .int y4)] [2, 3, 1, 0] rfl ?_
      exact ih x1 y3 y4 σ2
def Mo_goesFor (p1 : Int32) (σ : St) : Option (Int32 × St) :=
  Mo_goesFor_L4 1000 p1 (0 : Int32) (0 : Int32) σ
set_option maxRecDepth 100000 in
theorem sp_Mo_goesFor (l : Launch) (p1 : Int32) (σ : St) : Spc l shM 8 md_Mo_goesFor [.ref 0, .int p1] σ (Mo_goesFor p1 σ) := by
  refine Spc_of_Ux [(0, .ref 0), (1, .int p1)] (by decide) rfl (Nat.le_of_ble_eq_true rfl) ?_
  unfold Mo_goesFor
  refine ux_iconst (0 : Int32) (dg hd_Mo_goesFor 0 rfl) (by decide) ?_
  refine ux_istore_n [(2, .int (0 : Int32)), (0, .ref 0), (1, .int p1)] (dg hd_Mo_goesFor 1 rfl) (by decide) rfl ?_
  refine ux_iconst (0 : Int32) (dg hd_Mo_goesFor 2 rfl) (by decide) ?_
  refine ux_istore_n [(3, .int (0 : Int32)), (2, .int (0 : Int32)), (0, .ref 0), (1, .int p1)] (dg hd_Mo_goesFor 3 rfl) (by decide) rfl ?_
  refine ux_wk [(0, .ref 0), (1, .int p1), (2, .int (0 : Int32)), (3, .int (0 : Int32))] [2, 3, 1, 0] rfl ?_
  exact wk_Mo_goesFor_L4 l 1000 p1 (0 : Int32) (0 : Int32) σ
def Mo_then (p1 : Int32) (p2 : Int32) (p3 : Int32) (σ : St) : Option (Int32 × St) :=
  bnd (Mo_isJumper p1 σ) (fun r1 σ2 =>
  if r1 = (0 : Int32) then (
  bnd (Mo_error (-1000000001 : Int32) σ2) (fun r3 σ4 =>
  some (r3, σ4))) else (
  bnd (Mo_in p2 (0 : Int32) (99 : Int32) σ2) (fun r5 σ6 =>
  if r5 = (0 : Int32) then (
  bnd (Mo_error (-1000000001 : Int32) σ6) (fun r7 σ8 =>
  some (r7, σ8))) else (
  bnd (Mo_in p3 (0 : Int32) (1 : Int32) σ6) (fun r9 σ10 =>
  if r9 = (0 : Int32) then (
  bnd (Mo_error (-1000000001 : Int32) σ10) (fun r23 σ24 =>
  some (r23, σ24))) else (
  bnd (Mo_thinks  σ10) (fun r11 σ12 =>
  bnd (Mo_goesFor p2 σ12) (fun r13 σ14 =>
  if p3 = (0 : Int32) then (
  bnd (Mo_of p1 (2 : Int32) σ14) (fun r19 σ20 =>
  bnd (Mo_putsBack  σ20) (fun r21 σ22 =>
  some (r19, σ22)))) else (
  bnd (Mo_of p1 (4 : Int32) σ14) (fun r15 σ16 =>
  bnd (Mo_putsBack  σ16) (fun r17 σ18 =>
  some (r15, σ18))))))))))))
set_option maxRecDepth 100000 in
theorem sp_Mo_then (l : Launch) (p1 : Int32) (p2 : Int32) (p3 : Int32) (σ : St) : Spc l shM 9 md_Mo_then [.ref 0, .int p1, .int p2, .int p3] σ (Mo_then p1 p2 p3 σ) := by
  refine Spc_of_Ux [(0, .ref 0), (1, .int p1), (2, .int p2), (3, .int p3)] (by decide) rfl (Nat.le_of_ble_eq_true rfl) ?_
  unfold Mo_then
  refine ux_aload_n (dg hd_Mo_then 0 rfl) rfl ?_
  refine ux_iload_n (dg hd_Mo_then 1 rfl) rfl ?_
  refine ux_callVi (As := [.int p1]) (sp_Mo_isJumper l p1 _) (by omega) cv_Mo_isJumper wk_862 rfl rfl rfl rfl rfl (Nat.le_of_ble_eq_true rfl) (dg hd_Mo_then 2 rfl) (fun r1 σ2 _ => ?_)
  refine ux_if_eq 27 (dg hd_Mo_then 3 rfl) (by decide) (fun _ => ?_) (fun _ => ?_)
  · refine ux_aload_n (dg hd_Mo_then 14 rfl) rfl ?_
    refine ux_ldc (-1000000001 : Int32) wk_847 (dg hd_Mo_then 15 rfl) ?_
    refine ux_callVi (As := [.int (-1000000001 : Int32)]) (sp_Mo_error l (-1000000001 : Int32) _) (by omega) cv_Mo_error wk_848 rfl rfl rfl rfl rfl (Nat.le_of_ble_eq_true rfl) (dg hd_Mo_then 16 rfl) (fun r3 σ4 _ => ?_)
    exact ux_iret rfl (dg hd_Mo_then 17 rfl)
  · refine ux_iload_n (dg hd_Mo_then 4 rfl) rfl ?_
    refine ux_iconst (0 : Int32) (dg hd_Mo_then 5 rfl) (by decide) ?_
    refine ux_bipush (99 : Int32) (dg hd_Mo_then 6 rfl) (by decide) ?_
    refine ux_callSi (As := [.int p2, .int (0 : Int32), .int (99 : Int32)]) (sp_Mo_in l p2 (0 : Int32) (99 : Int32) _) (by omega) cs_Mo_in wk_844 rfl rfl (Nat.le_of_ble_eq_true rfl) (dg hd_Mo_then 7 rfl) (fun r5 σ6 _ => ?_)
    refine ux_if_eq 27 (dg hd_Mo_then 8 rfl) (by decide) (fun _ => ?_) (fun _ => ?_)
    · refine ux_aload_n (dg hd_Mo_then 14 rfl) rfl ?_
      refine ux_ldc (-1000000001 : Int32) wk_847 (dg hd_Mo_then 15 rfl) ?_
      refine ux_callVi (As := [.int (-1000000001 : Int32)]) (sp_Mo_error l (-1000000001 : Int32) _) (by omega) cv_Mo_error wk_848 rfl rfl rfl rfl rfl (Nat.le_of_ble_eq_true rfl) (dg hd_Mo_then 16 rfl) (fun r7 σ8 _ => ?_)
      exact ux_iret rfl (dg hd_Mo_then 17 rfl)
    · refine ux_iload_n (dg hd_Mo_then 9 rfl) rfl ?_
      refine ux_iconst (0 : Int32) (dg hd_Mo_then 10 rfl) (by decide) ?_
      refine ux_iconst (1 : Int32) (dg hd_Mo_then 11 rfl) (by decide) ?_
      refine ux_callSi (As := [.int p3, .int (0 : Int32), .int (1 : Int32)]) (sp_Mo_in l p3 (0 : Int32) (1 : Int32) _) (by omega) cs_Mo_in wk_844 rfl rfl (Nat.le_of_ble_eq_true rfl) (dg hd_Mo_then 12 rfl) (fun r9 σ10 _ => ?_)
      refine ux_if_ne 34 (dg hd_Mo_then 13 rfl) (by decide) (fun _ => ?_) (fun _ => ?_)
      · refine ux_aload_n (dg hd_Mo_then 14 rfl) rfl ?_
        refine ux_ldc (-1000000001 : Int32) wk_847 (dg hd_Mo_then 15 rfl) ?_
        refine ux_callVi (As := [.int (-1000000001 : Int32)]) (sp_Mo_error l (-1000000001 : Int32) _) (by omega) cv_Mo_error wk_848 rfl rfl rfl rfl rfl (Nat.le_of_ble_eq_true rfl) (dg hd_Mo_then 16 rfl) (fun r23 σ24 _ => ?_)
        exact ux_iret rfl (dg hd_Mo_then 17 rfl)
      · refine ux_aload_n (dg hd_Mo_then 18 rfl) rfl ?_
        refine ux_callVv (As := []) (sp_Mo_thinks l  _) (by omega) cv_Mo_thinks wk_1071 rfl rfl rfl rfl rfl (Nat.le_of_ble_eq_true rfl) (dg hd_Mo_then 19 rfl) (fun r11 σ12 _ => ?_)
        refine ux_aload_n (dg hd_Mo_then 20 rfl) rfl ?_
        refine ux_iload_n (dg hd_Mo_then 21 rfl) rfl ?_
        refine ux_callVv (As := [.int p2]) (sp_Mo_goesFor l p2 _) (by omega) cv_Mo_goesFor wk_1078 rfl rfl rfl rfl rfl (Nat.le_of_ble_eq_true rfl) (dg hd_Mo_then 22 rfl) (fun r13 σ14 _ => ?_)
        refine ux_aload_n (dg hd_Mo_then 23 rfl) rfl ?_
        refine ux_iload_n (dg hd_Mo_then 24 rfl) rfl ?_
        refine ux_iload_n (dg hd_Mo_then 25 rfl) rfl ?_
        refine ux_if_ne 53 (dg hd_Mo_then 26 rfl) (by decide) (fun _ => ?_) (fun _ => ?_)
        · refine ux_iconst (2 : Int32) (dg hd_Mo_then 27 rfl) (by decide) ?_
          refine ux_goto 54 (dg hd_Mo_then 28 rfl) (by decide) ?_
          refine ux_callVi (As := [.int p1, .int (2 : Int32)]) (sp_Mo_of l p1 (2 : Int32) _) (by omega) cv_Mo_of wk_866 rfl rfl rfl rfl rfl (Nat.le_of_ble_eq_true rfl) (dg hd_Mo_then 30 rfl) (fun r19 σ20 _ => ?_)
          refine ux_istore [(4, .int r19), (0, .ref 0), (1, .int p1), (2, .int p2), (3, .int p3)] (dg hd_Mo_then 31 rfl) (by decide) rfl ?_
          refine ux_aload_n (dg hd_Mo_then 32 rfl) rfl ?_
          refine ux_callVv (As := []) (sp_Mo_putsBack l  _) (by omega) cv_Mo_putsBack wk_1082 rfl rfl rfl rfl rfl (Nat.le_of_ble_eq_true rfl) (dg hd_Mo_then 33 rfl) (fun r21 σ22 _ => ?_)
          refine ux_iload (dg hd_Mo_then 34 rfl) rfl ?_
          exact ux_iret rfl (dg hd_Mo_then 35 rfl)
        · refine ux_iconst (4 : Int32) (dg hd_Mo_then 29 rfl) (by decide) ?_
          refine ux_callVi (As := [.int p1, .int (4 : Int32)]) (sp_Mo_of l p1 (4 : Int32) _) (by omega) cv_Mo_of wk_866 rfl rfl rfl rfl rfl (Nat.le_of_ble_eq_true rfl) (dg hd_Mo_then 30 rfl) (fun r15 σ16 _ => ?_)
          refine ux_istore [(4, .int r15), (0, .ref 0), (1, .int p1), (2, .int p2), (3, .int p3)] (dg hd_Mo_then 31 rfl) (by decide) rfl ?_
          refine ux_aload_n (dg hd_Mo_then 32 rfl) rfl ?_
          refine ux_callVv (As := []) (sp_Mo_putsBack l  _) (by omega) cv_Mo_putsBack wk_1082 rfl rfl rfl rfl rfl (Nat.le_of_ble_eq_true rfl) (dg hd_Mo_then 33 rfl) (fun r17 σ18 _ => ?_)
          refine ux_iload (dg hd_Mo_then 34 rfl) rfl ?_
          exact ux_iret rfl (dg hd_Mo_then 35 rfl)
def Mo_lasts_L36 : Nat → Int32 → Int32 → St → Option (Int32 × St)
  | 0, _, _, _ => none
  | n + 1, x1, x2, σ =>
    if (99 : Int32) < x2 then (
    bnd (Mo_putsBack  σ) (fun r7 σ8 =>
    if x2 ≤ (99 : Int32) then (
    some (x2, σ8)) else (
    bnd (Mo_error (-1000000002 : Int32) σ8) (fun r9 σ10 =>
    some (r9, σ10))))) else (
    bnd (Mo_isIn x1 σ) (fun r11 σ12 =>
    if r11 = (0 : Int32) then (
    bnd (Mo_putsBack  σ12) (fun r13 σ14 =>
    if x2 ≤ (99 : Int32) then (
    some (x2, σ14)) else (
    bnd (Mo_error (-1000000002 : Int32) σ14) (fun r15 σ16 =>
    some (r15, σ16))))) else (
    bnd (Mo_goesFor (1 : Int32) σ12) (fun r17 σ18 =>
    nam (x2 + (1 : Int32)) (fun y19 =>
    Mo_lasts_L36 n x1 y19 σ18)))))
set_option maxRecDepth 100000 in
theorem wk_Mo_lasts_L36 (l : Launch) : ∀ (n : Nat) (x1 x2 : Int32) (σ : St), Ux l shM 9 md_Mo_lasts 36 [(0, .ref 0), (1, .int x1), (2, .int x2)] [] σ (Mo_lasts_L36 n x1 x2 σ) := by
  intro n
  induction n with
  | zero => intros; exact ux_none
  | succ n ih =>
    intro x1 x2 σ
    unfold Mo_lasts_L36
    refine ux_iload_n (dg hd_Mo_lasts 20 rfl) rfl ?_
    refine ux_bipush (99 : Int32) (dg hd_Mo_lasts 21 rfl) (by decide) ?_
    refine ux_icmp_gt 61 (dg hd_Mo_lasts 22 rfl) (by decide) (fun _ => ?_) (fun _ => ?_)
    · refine ux_aload_n (dg hd_Mo_lasts 32 rfl) rfl ?_
      refine ux_callVv (As := []) (sp_Mo_putsBack l  _) (by omega) cv_Mo_putsBack wk_1082 rfl rfl rfl rfl rfl (Nat.le_of_ble_eq_true rfl) (dg hd_Mo_lasts 33 rfl) (fun r7 σ8 _ => ?_)
      refine ux_iload_n (dg hd_Mo_lasts 34 rfl) rfl ?_
      refine ux_bipush (99 : Int32) (dg hd_Mo_lasts 35 rfl) (by decide) ?_
      refine ux_icmp_le 80 (dg hd_Mo_lasts 36 rfl) (by decide) (fun _ => ?_) (fun _ => ?_)
      · refine ux_iload_n (dg hd_Mo_lasts 41 rfl) rfl ?_
        exact ux_iret rfl (dg hd_Mo_lasts 42 rfl)
      · refine ux_aload_n (dg hd_Mo_lasts 37 rfl) rfl ?_
        refine ux_ldc (-1000000002 : Int32) wk_1090 (dg hd_Mo_lasts 38 rfl) ?_
        refine ux_callVi (As := [.int (-1000000002 : Int32)]) (sp_Mo_error l (-1000000002 : Int32) _) (by omega) cv_Mo_error wk_848 rfl rfl rfl rfl rfl (Nat.le_of_ble_eq_true rfl) (dg hd_Mo_lasts 39 rfl) (fun r9 σ10 _ => ?_)
        refine ux_goto 81 (dg hd_Mo_lasts 40 rfl) (by decide) ?_
        exact ux_iret rfl (dg hd_Mo_lasts 42 rfl)
    · refine ux_aload_n (dg hd_Mo_lasts 23 rfl) rfl ?_
      refine ux_iload_n (dg hd_Mo_lasts 24 rfl) rfl ?_
      refine ux_callVi (As := [.int x1]) (sp_Mo_isIn l x1 _) (by omega) cv_Mo_isIn wk_886 rfl rfl rfl rfl rfl (Nat.le_of_ble_eq_true rfl) (dg hd_Mo_lasts 25 rfl) (fun r11 σ12 _ => ?_)
      refine ux_if_eq 61 (dg hd_Mo_lasts 26 rfl) (by decide) (fun _ => ?_) (fun _ => ?_)
      · refine ux_aload_n (dg hd_Mo_lasts 32 rfl) rfl ?_
        refine ux_callVv (As := []) (sp_Mo_putsBack l  _) (by omega) cv_Mo_putsBack wk_1082 rfl rfl rfl rfl rfl (Nat.le_of_ble_eq_true rfl) (dg hd_Mo_lasts 33 rfl) (fun r13 σ14 _ => ?_)
        refine ux_iload_n (dg hd_Mo_lasts 34 rfl) rfl ?_
        refine ux_bipush (99 : Int32) (dg hd_Mo_lasts 35 rfl) (by decide) ?_
        refine ux_icmp_le 80 (dg hd_Mo_lasts 36 rfl) (by decide) (fun _ => ?_) (fun _ => ?_)
        · refine ux_iload_n (dg hd_Mo_lasts 41 rfl) rfl ?_
          exact ux_iret rfl (dg hd_Mo_lasts 42 rfl)
        · refine ux_aload_n (dg hd_Mo_lasts 37 rfl) rfl ?_
          refine ux_ldc (-1000000002 : Int32) wk_1090 (dg hd_Mo_lasts 38 rfl) ?_
          refine ux_callVi (As := [.int (-1000000002 : Int32)]) (sp_Mo_error l (-1000000002 : Int32) _) (by omega) cv_Mo_error wk_848 rfl rfl rfl rfl rfl (Nat.le_of_ble_eq_true rfl) (dg hd_Mo_lasts 39 rfl) (fun r15 σ16 _ => ?_)
          refine ux_goto 81 (dg hd_Mo_lasts 40 rfl) (by decide) ?_
          exact ux_iret rfl (dg hd_Mo_lasts 42 rfl)
      · refine ux_aload_n (dg hd_Mo_lasts 27 rfl) rfl ?_
        refine ux_iconst (1 : Int32) (dg hd_Mo_lasts 28 rfl) (by decide) ?_
        refine ux_callVv (As := [.int (1 : Int32)]) (sp_Mo_goesFor l (1 : Int32) _) (by omega) cv_Mo_goesFor wk_1078 rfl rfl rfl rfl rfl (Nat.le_of_ble_eq_true rfl) (dg hd_Mo_lasts 29 rfl) (fun r17 σ18 _ => ?_)
        refine ux_iincN (1 : Int32) (fun y19 => [(2, .int y19), (0, .ref 0), (1, .int x1)]) (dg hd_Mo_lasts 30 rfl) rfl (by decide) (by decide) (fun _ => rfl) (fun y19 => ?_)
        refine ux_goto 36 (dg hd_Mo_lasts 31 rfl) (by decide) ?_
        refine ux_wk [(0, .ref 0), (1, .int x1), (2, .int y19)] [1, 2, 0] rfl ?_
        exact ih x1 y19 σ18
def Mo_lasts (p1 : Int32) (σ : St) : Option (Int32 × St) :=
  bnd (Mo_isJumper p1 σ) (fun r1 σ2 =>
  if r1 = (0 : Int32) then (
  bnd (Mo_error (-1000000001 : Int32) σ2) (fun r22 σ23 =>
  some (r22, σ23))) else (
  bnd (Mo_isIn p1 σ2) (fun r3 σ4 =>
  if r3 = (0 : Int32) then (
  bnd (Mo_error (-1000000003 : Int32) σ4) (fun r20 σ21 =>
  some (r20, σ21))) else (
  bnd (Mo_thinks  σ4) (fun r5 σ6 =>
  Mo_lasts_L36 1000 p1 (0 : Int32) σ6)))))
set_option maxRecDepth 100000 in
theorem sp_Mo_lasts (l : Launch) (p1 : Int32) (σ : St) : Spc l shM 9 md_Mo_lasts [.ref 0, .int p1] σ (Mo_lasts p1 σ) := by
  refine Spc_of_Ux [(0, .ref 0), (1, .int p1)] (by decide) rfl (Nat.le_of_ble_eq_true rfl) ?_
  unfold Mo_lasts
  refine ux_aload_n (dg hd_Mo_lasts 0 rfl) rfl ?_
  refine ux_iload_n (dg hd_Mo_lasts 1 rfl) rfl ?_
  refine ux_callVi (As := [.int p1]) (sp_Mo_isJumper l p1 _) (by omega) cv_Mo_isJumper wk_862 rfl rfl rfl rfl rfl (Nat.le_of_ble_eq_true rfl) (dg hd_Mo_lasts 2 rfl) (fun r1 σ2 _ => ?_)
  refine ux_if_ne 15 (dg hd_Mo_lasts 3 rfl) (by decide) (fun _ => ?_) (fun _ => ?_)
  · refine ux_aload_n (dg hd_Mo_lasts 4 rfl) rfl ?_
    refine ux_ldc (-1000000001 : Int32) wk_847 (dg hd_Mo_lasts 5 rfl) ?_
    refine ux_callVi (As := [.int (-1000000001 : Int32)]) (sp_Mo_error l (-1000000001 : Int32) _) (by omega) cv_Mo_error wk_848 rfl rfl rfl rfl rfl (Nat.le_of_ble_eq_true rfl) (dg hd_Mo_lasts 6 rfl) (fun r22 σ23 _ => ?_)
    exact ux_iret rfl (dg hd_Mo_lasts 7 rfl)
  · refine ux_aload_n (dg hd_Mo_lasts 8 rfl) rfl ?_
    refine ux_iload_n (dg hd_Mo_lasts 9 rfl) rfl ?_
    refine ux_callVi (As := [.int p1]) (sp_Mo_isIn l p1 _) (by omega) cv_Mo_isIn wk_886 rfl rfl rfl rfl rfl (Nat.le_of_ble_eq_true rfl) (dg hd_Mo_lasts 10 rfl) (fun r3 σ4 _ => ?_)
    refine ux_if_ne 30 (dg hd_Mo_lasts 11 rfl) (by decide) (fun _ => ?_) (fun _ => ?_)
    · refine ux_aload_n (dg hd_Mo_lasts 12 rfl) rfl ?_
      refine ux_ldc (-1000000003 : Int32) wk_928 (dg hd_Mo_lasts 13 rfl) ?_
      refine ux_callVi (As := [.int (-1000000003 : Int32)]) (sp_Mo_error l (-1000000003 : Int32) _) (by omega) cv_Mo_error wk_848 rfl rfl rfl rfl rfl (Nat.le_of_ble_eq_true rfl) (dg hd_Mo_lasts 14 rfl) (fun r20 σ21 _ => ?_)
      exact ux_iret rfl (dg hd_Mo_lasts 15 rfl)
    · refine ux_aload_n (dg hd_Mo_lasts 16 rfl) rfl ?_
      refine ux_callVv (As := []) (sp_Mo_thinks l  _) (by omega) cv_Mo_thinks wk_1071 rfl rfl rfl rfl rfl (Nat.le_of_ble_eq_true rfl) (dg hd_Mo_lasts 17 rfl) (fun r5 σ6 _ => ?_)
      refine ux_iconst (0 : Int32) (dg hd_Mo_lasts 18 rfl) (by decide) ?_
      refine ux_istore_n [(2, .int (0 : Int32)), (0, .ref 0), (1, .int p1)] (dg hd_Mo_lasts 19 rfl) (by decide) rfl ?_
      refine ux_wk [(0, .ref 0), (1, .int p1), (2, .int (0 : Int32))] [1, 2, 0] rfl ?_
      exact wk_Mo_lasts_L36 l 1000 p1 (0 : Int32) σ6
def Mo_agree_L24 : Nat → Int32 → Int32 → Int32 → Int32 → St → Option (Int32 × St)
  | 0, _, _, _, _, _ => none
  | n + 1, x1, x2, x3, x4, σ =>
    if x4 < (0 : Int32) then (
    if x1 = (0 : Int32) then (
    some (x2, σ)) else (
    if (0 : Int32) ≤ x3 then (
    some (x3, σ)) else (
    bnd (Mo_error (-1000000002 : Int32) σ) (fun r3 σ4 =>
    some (r3, σ4))))) else (
    bnd (Mo_isTaken x4 σ) (fun r5 σ6 =>
    if r5 = (0 : Int32) then (
    nam (x2 + (0 : Int32)) (fun y7 =>
    if r5 = (0 : Int32) then (
    nam (x4 + (-1 : Int32)) (fun y8 =>
    Mo_agree_L24 n x1 y7 x3 y8 σ6)) else (
    nam (x4 + (-1 : Int32)) (fun y9 =>
    Mo_agree_L24 n x1 y7 x4 y9 σ6)))) else (
    nam (x2 + (1 : Int32)) (fun y10 =>
    if r5 = (0 : Int32) then (
    nam (x4 + (-1 : Int32)) (fun y11 =>
    Mo_agree_L24 n x1 y10 x3 y11 σ6)) else (
    nam (x4 + (-1 : Int32)) (fun y12 =>
    Mo_agree_L24 n x1 y10 x4 y12 σ6))))))
set_option maxRecDepth 100000 in
theorem wk_Mo_agree_L24 (l : Launch) : ∀ (n : Nat) (x1 x2 x3 x4 : Int32) (σ : St), Ux l shM 8 md_Mo_agree 24 [(0, .ref 0), (1, .int x1), (2, .int x2), (3, .int x3), (4, .int x4)] [] σ (Mo_agree_L24 n x1 x2 x3 x4 σ) := by
  intro n
  induction n with
  | zero => intros; exact ux_none
  | succ n ih =>
    intro x1 x2 x3 x4 σ
    unfold Mo_agree_L24
    refine ux_iload (dg hd_Mo_agree 15 rfl) rfl ?_
    refine ux_if_lt 68 (dg hd_Mo_agree 16 rfl) (by decide) (fun _ => ?_) (fun _ => ?_)
    · refine ux_iload_n (dg hd_Mo_agree 37 rfl) rfl ?_
      refine ux_if_ne 76 (dg hd_Mo_agree 38 rfl) (by decide) (fun _ => ?_) (fun _ => ?_)
      · refine ux_iload_n (dg hd_Mo_agree 39 rfl) rfl ?_
        refine ux_goto 90 (dg hd_Mo_agree 40 rfl) (by decide) ?_
        exact ux_iret rfl (dg hd_Mo_agree 48 rfl)
      · refine ux_iload_n (dg hd_Mo_agree 41 rfl) rfl ?_
        refine ux_if_ge 89 (dg hd_Mo_agree 42 rfl) (by decide) (fun _ => ?_) (fun _ => ?_)
        · refine ux_iload_n (dg hd_Mo_agree 47 rfl) rfl ?_
          exact ux_iret rfl (dg hd_Mo_agree 48 rfl)
        · refine ux_aload_n (dg hd_Mo_agree 43 rfl) rfl ?_
          refine ux_ldc (-1000000002 : Int32) wk_1090 (dg hd_Mo_agree 44 rfl) ?_
          refine ux_callVi (As := [.int (-1000000002 : Int32)]) (sp_Mo_error l (-1000000002 : Int32) _) (by omega) cv_Mo_error wk_848 rfl rfl rfl rfl rfl (Nat.le_of_ble_eq_true rfl) (dg hd_Mo_agree 45 rfl) (fun r3 σ4 _ => ?_)
          refine ux_goto 90 (dg hd_Mo_agree 46 rfl) (by decide) ?_
          exact ux_iret rfl (dg hd_Mo_agree 48 rfl)
    · refine ux_aload_n (dg hd_Mo_agree 17 rfl) rfl ?_
      refine ux_iload (dg hd_Mo_agree 18 rfl) rfl ?_
      refine ux_callVi (As := [.int x4]) (sp_Mo_isTaken l x4 _) (by omega) cv_Mo_isTaken wk_968 rfl rfl rfl rfl rfl (Nat.le_of_ble_eq_true rfl) (dg hd_Mo_agree 19 rfl) (fun r5 σ6 _ => ?_)
      refine ux_istore [(5, .int r5), (0, .ref 0), (1, .int x1), (2, .int x2), (3, .int x3), (4, .int x4)] (dg hd_Mo_agree 20 rfl) (by decide) rfl ?_
      refine ux_iload_n (dg hd_Mo_agree 21 rfl) rfl ?_
      refine ux_iload (dg hd_Mo_agree 22 rfl) rfl ?_
      refine ux_if_eq 47 (dg hd_Mo_agree 23 rfl) (by decide) (fun _ => ?_) (fun _ => ?_)
      · refine ux_iconst (0 : Int32) (dg hd_Mo_agree 26 rfl) (by decide) ?_
        refine ux_iadd (dg hd_Mo_agree 27 rfl) ?_
        refine ux_nam (fun y7 => ?_)
        refine ux_istore_n [(2, .int y7), (5, .int r5), (0, .ref 0), (1, .int x1), (3, .int x3), (4, .int x4)] (dg hd_Mo_agree 28 rfl) (by decide) rfl ?_
        refine ux_iload (dg hd_Mo_agree 29 rfl) rfl ?_
        refine ux_if_eq 60 (dg hd_Mo_agree 30 rfl) (by decide) (fun _ => ?_) (fun _ => ?_)
        · refine ux_iload_n (dg hd_Mo_agree 33 rfl) rfl ?_
          refine ux_istore_n [(3, .int x3), (2, .int y7), (5, .int r5), (0, .ref 0), (1, .int x1), (4, .int x4)] (dg hd_Mo_agree 34 rfl) (by decide) rfl ?_
          refine ux_iincN (-1 : Int32) (fun y8 => [(4, .int y8), (3, .int x3), (2, .int y7), (5, .int r5), (0, .ref 0), (1, .int x1)]) (dg hd_Mo_agree 35 rfl) rfl (by decide) (by decide) (fun _ => rfl) (fun y8 => ?_)
          refine ux_goto 24 (dg hd_Mo_agree 36 rfl) (by decide) ?_
          refine ux_wk [(0, .ref 0), (1, .int x1), (2, .int y7), (3, .int x3), (4, .int y8)] [4, 5, 2, 1, 0] rfl ?_
          exact ih x1 y7 x3 y8 σ6
        · refine ux_iload (dg hd_Mo_agree 31 rfl) rfl ?_
          refine ux_goto 61 (dg hd_Mo_agree 32 rfl) (by decide) ?_
          refine ux_istore_n [(3, .int x4), (2, .int y7), (5, .int r5), (0, .ref 0), (1, .int x1), (4, .int x4)] (dg hd_Mo_agree 34 rfl) (by decide) rfl ?_
          refine ux_iincN (-1 : Int32) (fun y9 => [(4, .int y9), (3, .int x4), (2, .int y7), (5, .int r5), (0, .ref 0), (1, .int x1)]) (dg hd_Mo_agree 35 rfl) rfl (by decide) (by decide) (fun _ => rfl) (fun y9 => ?_)
          refine ux_goto 24 (dg hd_Mo_agree 36 rfl) (by decide) ?_
          refine ux_wk [(0, .ref 0), (1, .int x1), (2, .int y7), (3, .int x4), (4, .int y9)] [4, 5, 2, 1, 0] rfl ?_
          exact ih x1 y7 x4 y9 σ6
      · refine ux_iconst (1 : Int32) (dg hd_Mo_agree 24 rfl) (by decide) ?_
        refine ux_goto 48 (dg hd_Mo_agree 25 rfl) (by decide) ?_
        refine ux_iadd (dg hd_Mo_agree 27 rfl) ?_
        refine ux_nam (fun y10 => ?_)
        refine ux_istore_n [(2, .int y10), (5, .int r5), (0, .ref 0), (1, .int x1), (3, .int x3), (4, .int x4)] (dg hd_Mo_agree 28 rfl) (by decide) rfl ?_
        refine ux_iload (dg hd_Mo_agree 29 rfl) rfl ?_
        refine ux_if_eq 60 (dg hd_Mo_agree 30 rfl) (by decide) (fun _ => ?_) (fun _ => ?_)
        · refine ux_iload_n (dg hd_Mo_agree 33 rfl) rfl ?_
          refine ux_istore_n [(3, .int x3), (2, .int y10), (5, .int r5), (0, .ref 0), (1, .int x1), (4, .int x4)] (dg hd_Mo_agree 34 rfl) (by decide) rfl ?_
          refine ux_iincN (-1 : Int32) (fun y11 => [(4, .int y11), (3, .int x3), (2, .int y10), (5, .int r5), (0, .ref 0), (1, .int x1)]) (dg hd_Mo_agree 35 rfl) rfl (by decide) (by decide) (fun _ => rfl) (fun y11 => ?_)
          refine ux_goto 24 (dg hd_Mo_agree 36 rfl) (by decide) ?_
          refine ux_wk [(0, .ref 0), (1, .int x1), (2, .int y10), (3, .int x3), (4, .int y11)] [4, 5, 2, 1, 0] rfl ?_
          exact ih x1 y10 x3 y11 σ6
        · refine ux_iload (dg hd_Mo_agree 31 rfl) rfl ?_
          refine ux_goto 61 (dg hd_Mo_agree 32 rfl) (by decide) ?_
          refine ux_istore_n [(3, .int x4), (2, .int y10), (5, .int r5), (0, .ref 0), (1, .int x1), (4, .int x4)] (dg hd_Mo_agree 34 rfl) (by decide) rfl ?_
          refine ux_iincN (-1 : Int32) (fun y12 => [(4, .int y12), (3, .int x4), (2, .int y10), (5, .int r5), (0, .ref 0), (1, .int x1)]) (dg hd_Mo_agree 35 rfl) rfl (by decide) (by decide) (fun _ => rfl) (fun y12 => ?_)
          refine ux_goto 24 (dg hd_Mo_agree 36 rfl) (by decide) ?_
          refine ux_wk [(0, .ref 0), (1, .int x1), (2, .int y10), (3, .int x4), (4, .int y12)] [4, 5, 2, 1, 0] rfl ?_
          exact ih x1 y10 x4 y12 σ6
def Mo_agree (p1 : Int32) (σ : St) : Option (Int32 × St) :=
  bnd (Mo_in p1 (0 : Int32) (1 : Int32) σ) (fun r1 σ2 =>
  if r1 = (0 : Int32) then (
  bnd (Mo_error (-1000000001 : Int32) σ2) (fun r13 σ14 =>
  some (r13, σ14))) else (
  Mo_agree_L24 1000 p1 (0 : Int32) (-1 : Int32) (63 : Int32) σ2))
set_option maxRecDepth 100000 in
theorem sp_Mo_agree (l : Launch) (p1 : Int32) (σ : St) : Spc l shM 8 md_Mo_agree [.ref 0, .int p1] σ (Mo_agree p1 σ) := by
  refine Spc_of_Ux [(0, .ref 0), (1, .int p1)] (by decide) rfl (Nat.le_of_ble_eq_true rfl) ?_
  unfold Mo_agree
  refine ux_iload_n (dg hd_Mo_agree 0 rfl) rfl ?_
  refine ux_iconst (0 : Int32) (dg hd_Mo_agree 1 rfl) (by decide) ?_
  refine ux_iconst (1 : Int32) (dg hd_Mo_agree 2 rfl) (by decide) ?_
  refine ux_callSi (As := [.int p1, .int (0 : Int32), .int (1 : Int32)]) (sp_Mo_in l p1 (0 : Int32) (1 : Int32) _) (by omega) cs_Mo_in wk_844 rfl rfl (Nat.le_of_ble_eq_true rfl) (dg hd_Mo_agree 3 rfl) (fun r1 σ2 _ => ?_)
  refine ux_if_ne 16 (dg hd_Mo_agree 4 rfl) (by decide) (fun _ => ?_) (fun _ => ?_)
  · refine ux_aload_n (dg hd_Mo_agree 5 rfl) rfl ?_
    refine ux_ldc (-1000000001 : Int32) wk_847 (dg hd_Mo_agree 6 rfl) ?_
    refine ux_callVi (As := [.int (-1000000001 : Int32)]) (sp_Mo_error l (-1000000001 : Int32) _) (by omega) cv_Mo_error wk_848 rfl rfl rfl rfl rfl (Nat.le_of_ble_eq_true rfl) (dg hd_Mo_agree 7 rfl) (fun r13 σ14 _ => ?_)
    exact ux_iret rfl (dg hd_Mo_agree 8 rfl)
  · refine ux_iconst (0 : Int32) (dg hd_Mo_agree 9 rfl) (by decide) ?_
    refine ux_istore_n [(2, .int (0 : Int32)), (0, .ref 0), (1, .int p1)] (dg hd_Mo_agree 10 rfl) (by decide) rfl ?_
    refine ux_iconst (-1 : Int32) (dg hd_Mo_agree 11 rfl) (by decide) ?_
    refine ux_istore_n [(3, .int (-1 : Int32)), (2, .int (0 : Int32)), (0, .ref 0), (1, .int p1)] (dg hd_Mo_agree 12 rfl) (by decide) rfl ?_
    refine ux_bipush (63 : Int32) (dg hd_Mo_agree 13 rfl) (by decide) ?_
    refine ux_istore [(4, .int (63 : Int32)), (3, .int (-1 : Int32)), (2, .int (0 : Int32)), (0, .ref 0), (1, .int p1)] (dg hd_Mo_agree 14 rfl) (by decide) rfl ?_
    refine ux_wk [(0, .ref 0), (1, .int p1), (2, .int (0 : Int32)), (3, .int (-1 : Int32)), (4, .int (63 : Int32))] [3, 4, 2, 1, 0] rfl ?_
    exact wk_Mo_agree_L24 l 1000 p1 (0 : Int32) (-1 : Int32) (63 : Int32) σ2
def Mo_leastLiking_L5 : Nat → Int32 → Int32 → Int32 → St → Option (Int32 × St)
  | 0, _, _, _, _ => none
  | n + 1, x1, x2, x3, σ =>
    grd (inb (2 : Int32) 366) (
    if (σ.2 1 (2 : Int32).toNatClampNeg) ≤ x3 then (
    some (x2, σ)) else (
    bnd (Mo_isIn x3 σ) (fun r1 σ2 =>
    if r1 = (0 : Int32) then (
    if x2 ≤ (99 : Int32) then (
    nam (x3 + (1 : Int32)) (fun y3 =>
    Mo_leastLiking_L5 n x1 x2 y3 σ2)) else (
    nam (x3 + (1 : Int32)) (fun y4 =>
    Mo_leastLiking_L5 n x1 (99 : Int32) y4 σ2))) else (
    bnd (Mo_likesOf x3 x1 σ2) (fun r5 σ6 =>
    if x2 ≤ r5 then (
    nam (x3 + (1 : Int32)) (fun y7 =>
    Mo_leastLiking_L5 n x1 x2 y7 σ6)) else (
    nam (x3 + (1 : Int32)) (fun y8 =>
    Mo_leastLiking_L5 n x1 r5 y8 σ6)))))))
set_option maxRecDepth 100000 in
theorem wk_Mo_leastLiking_L5 (l : Launch) : ∀ (n : Nat) (x1 x2 x3 : Int32) (σ : St), Ux l shM 6 md_Mo_leastLiking 5 [(0, .ref 0), (1, .int x1), (2, .int x2), (3, .int x3)] [] σ (Mo_leastLiking_L5 n x1 x2 x3 σ) := by
  intro n
  induction n with
  | zero => intros; exact ux_none
  | succ n ih =>
    intro x1 x2 x3 σ
    unfold Mo_leastLiking_L5
    refine ux_iload_n (dg hd_Mo_leastLiking 4 rfl) rfl ?_
    refine ux_aload_n (dg hd_Mo_leastLiking 5 rfl) rfl ?_
    refine ux_getr (q := 1) fcX7 0 (by decide) wk_773 rfl rfl (dg hd_Mo_leastLiking 6 rfl) ?_
    refine ux_iconst (2 : Int32) (dg hd_Mo_leastLiking 7 rfl) (by decide) ?_
    refine ux_iald rfl (dg hd_Mo_leastLiking 8 rfl) ?_
    refine ux_icmp_ge 55 (dg hd_Mo_leastLiking 9 rfl) (by decide) (fun _ => ?_) (fun _ => ?_)
    · refine ux_iload_n (dg hd_Mo_leastLiking 30 rfl) rfl ?_
      exact ux_iret rfl (dg hd_Mo_leastLiking 31 rfl)
    · refine ux_aload_n (dg hd_Mo_leastLiking 10 rfl) rfl ?_
      refine ux_iload_n (dg hd_Mo_leastLiking 11 rfl) rfl ?_
      refine ux_callVi (As := [.int x3]) (sp_Mo_isIn l x3 _) (by omega) cv_Mo_isIn wk_886 rfl rfl rfl rfl rfl (Nat.le_of_ble_eq_true rfl) (dg hd_Mo_leastLiking 12 rfl) (fun r1 σ2 _ => ?_)
      refine ux_if_eq 32 (dg hd_Mo_leastLiking 13 rfl) (by decide) (fun _ => ?_) (fun _ => ?_)
      · refine ux_bipush (99 : Int32) (dg hd_Mo_leastLiking 19 rfl) (by decide) ?_
        refine ux_istore [(4, .int (99 : Int32)), (0, .ref 0), (1, .int x1), (2, .int x2), (3, .int x3)] (dg hd_Mo_leastLiking 20 rfl) (by decide) rfl ?_
        refine ux_iload (dg hd_Mo_leastLiking 21 rfl) rfl ?_
        refine ux_iload_n (dg hd_Mo_leastLiking 22 rfl) rfl ?_
        refine ux_icmp_ge 47 (dg hd_Mo_leastLiking 23 rfl) (by decide) (fun _ => ?_) (fun _ => ?_)
        · refine ux_iload_n (dg hd_Mo_leastLiking 26 rfl) rfl ?_
          refine ux_istore_n [(2, .int x2), (4, .int (99 : Int32)), (0, .ref 0), (1, .int x1), (3, .int x3)] (dg hd_Mo_leastLiking 27 rfl) (by decide) rfl ?_
          refine ux_iincN (1 : Int32) (fun y3 => [(3, .int y3), (2, .int x2), (4, .int (99 : Int32)), (0, .ref 0), (1, .int x1)]) (dg hd_Mo_leastLiking 28 rfl) rfl (by decide) (by decide) (fun _ => rfl) (fun y3 => ?_)
          refine ux_goto 5 (dg hd_Mo_leastLiking 29 rfl) (by decide) ?_
          refine ux_wk [(0, .ref 0), (1, .int x1), (2, .int x2), (3, .int y3)] [3, 4, 1, 0] rfl ?_
          exact ih x1 x2 y3 σ2
        · refine ux_iload (dg hd_Mo_leastLiking 24 rfl) rfl ?_
          refine ux_goto 48 (dg hd_Mo_leastLiking 25 rfl) (by decide) ?_
          refine ux_istore_n [(2, .int (99 : Int32)), (4, .int (99 : Int32)), (0, .ref 0), (1, .int x1), (3, .int x3)] (dg hd_Mo_leastLiking 27 rfl) (by decide) rfl ?_
          refine ux_iincN (1 : Int32) (fun y4 => [(3, .int y4), (2, .int (99 : Int32)), (4, .int (99 : Int32)), (0, .ref 0), (1, .int x1)]) (dg hd_Mo_leastLiking 28 rfl) rfl (by decide) (by decide) (fun _ => rfl) (fun y4 => ?_)
          refine ux_goto 5 (dg hd_Mo_leastLiking 29 rfl) (by decide) ?_
          refine ux_wk [(0, .ref 0), (1, .int x1), (2, .int (99 : Int32)), (3, .int y4)] [3, 4, 1, 0] rfl ?_
          exact ih x1 (99 : Int32) y4 σ2
      · refine ux_aload_n (dg hd_Mo_leastLiking 14 rfl) rfl ?_
        refine ux_iload_n (dg hd_Mo_leastLiking 15 rfl) rfl ?_
        refine ux_iload_n (dg hd_Mo_leastLiking 16 rfl) rfl ?_
        refine ux_callVi (As := [.int x3, .int x1]) (sp_Mo_likesOf l x3 x1 _) (by omega) cv_Mo_likesOf wk_948 rfl rfl rfl rfl rfl (Nat.le_of_ble_eq_true rfl) (dg hd_Mo_leastLiking 17 rfl) (fun r5 σ6 _ => ?_)
        refine ux_goto 34 (dg hd_Mo_leastLiking 18 rfl) (by decide) ?_
        refine ux_istore [(4, .int r5), (0, .ref 0), (1, .int x1), (2, .int x2), (3, .int x3)] (dg hd_Mo_leastLiking 20 rfl) (by decide) rfl ?_
        refine ux_iload (dg hd_Mo_leastLiking 21 rfl) rfl ?_
        refine ux_iload_n (dg hd_Mo_leastLiking 22 rfl) rfl ?_
        refine ux_icmp_ge 47 (dg hd_Mo_leastLiking 23 rfl) (by decide) (fun _ => ?_) (fun _ => ?_)
        · refine ux_iload_n (dg hd_Mo_leastLiking 26 rfl) rfl ?_
          refine ux_istore_n [(2, .int x2), (4, .int r5), (0, .ref 0), (1, .int x1), (3, .int x3)] (dg hd_Mo_leastLiking 27 rfl) (by decide) rfl ?_
          refine ux_iincN (1 : Int32) (fun y7 => [(3, .int y7), (2, .int x2), (4, .int r5), (0, .ref 0), (1, .int x1)]) (dg hd_Mo_leastLiking 28 rfl) rfl (by decide) (by decide) (fun _ => rfl) (fun y7 => ?_)
          refine ux_goto 5 (dg hd_Mo_leastLiking 29 rfl) (by decide) ?_
          refine ux_wk [(0, .ref 0), (1, .int x1), (2, .int x2), (3, .int y7)] [3, 4, 1, 0] rfl ?_
          exact ih x1 x2 y7 σ6
        · refine ux_iload (dg hd_Mo_leastLiking 24 rfl) rfl ?_
          refine ux_goto 48 (dg hd_Mo_leastLiking 25 rfl) (by decide) ?_
          refine ux_istore_n [(2, .int r5), (4, .int r5), (0, .ref 0), (1, .int x1), (3, .int x3)] (dg hd_Mo_leastLiking 27 rfl) (by decide) rfl ?_
          refine ux_iincN (1 : Int32) (fun y8 => [(3, .int y8), (2, .int r5), (4, .int r5), (0, .ref 0), (1, .int x1)]) (dg hd_Mo_leastLiking 28 rfl) rfl (by decide) (by decide) (fun _ => rfl) (fun y8 => ?_)
          refine ux_goto 5 (dg hd_Mo_leastLiking 29 rfl) (by decide) ?_
          refine ux_wk [(0, .ref 0), (1, .int x1), (2, .int r5), (3, .int y8)] [3, 4, 1, 0] rfl ?_
          exact ih x1 r5 y8 σ6
def Mo_leastLiking (p1 : Int32) (σ : St) : Option (Int32 × St) :=
  Mo_leastLiking_L5 1000 p1 (99 : Int32) (0 : Int32) σ
set_option maxRecDepth 100000 in
theorem sp_Mo_leastLiking (l : Launch) (p1 : Int32) (σ : St) : Spc l shM 6 md_Mo_leastLiking [.ref 0, .int p1] σ (Mo_leastLiking p1 σ) := by
  refine Spc_of_Ux [(0, .ref 0), (1, .int p1)] (by decide) rfl (Nat.le_of_ble_eq_true rfl) ?_
  unfold Mo_leastLiking
  refine ux_bipush (99 : Int32) (dg hd_Mo_leastLiking 0 rfl) (by decide) ?_
  refine ux_istore_n [(2, .int (99 : Int32)), (0, .ref 0), (1, .int p1)] (dg hd_Mo_leastLiking 1 rfl) (by decide) rfl ?_
  refine ux_iconst (0 : Int32) (dg hd_Mo_leastLiking 2 rfl) (by decide) ?_
  refine ux_istore_n [(3, .int (0 : Int32)), (2, .int (99 : Int32)), (0, .ref 0), (1, .int p1)] (dg hd_Mo_leastLiking 3 rfl) (by decide) rfl ?_
  refine ux_wk [(0, .ref 0), (1, .int p1), (2, .int (99 : Int32)), (3, .int (0 : Int32))] [2, 3, 1, 0] rfl ?_
  exact wk_Mo_leastLiking_L5 l 1000 p1 (99 : Int32) (0 : Int32) σ
def Mo_fairest_L37 : Nat → Int32 → Int32 → Int32 → Int32 → St → Option (Int32 × St)
  | 0, _, _, _, _, _ => none
  | n + 1, x1, x2, x3, x4, σ =>
    if (64 : Int32) ≤ x4 then (
    if x1 = (0 : Int32) then (
    some (x2, σ)) else (
    some (x3, σ))) else (
    bnd (Mo_leastLiking x4 σ) (fun r5 σ6 =>
    if r5 ≤ x3 then (
    if r5 ≤ x3 then (
    nam (x4 + (1 : Int32)) (fun y7 =>
    Mo_fairest_L37 n x1 x2 x3 y7 σ6)) else (
    nam (x4 + (1 : Int32)) (fun y8 =>
    Mo_fairest_L37 n x1 x2 r5 y8 σ6))) else (
    if r5 ≤ x3 then (
    nam (x4 + (1 : Int32)) (fun y9 =>
    Mo_fairest_L37 n x1 x4 x3 y9 σ6)) else (
    nam (x4 + (1 : Int32)) (fun y10 =>
    Mo_fairest_L37 n x1 x4 r5 y10 σ6)))))
set_option maxRecDepth 100000 in
theorem wk_Mo_fairest_L37 (l : Launch) : ∀ (n : Nat) (x1 x2 x3 x4 : Int32) (σ : St), Ux l shM 7 md_Mo_fairest 37 [(0, .ref 0), (1, .int x1), (2, .int x2), (3, .int x3), (4, .int x4)] [] σ (Mo_fairest_L37 n x1 x2 x3 x4 σ) := by
  intro n
  induction n with
  | zero => intros; exact ux_none
  | succ n ih =>
    intro x1 x2 x3 x4 σ
    unfold Mo_fairest_L37
    refine ux_iload (dg hd_Mo_fairest 22 rfl) rfl ?_
    refine ux_bipush (64 : Int32) (dg hd_Mo_fairest 23 rfl) (by decide) ?_
    refine ux_icmp_ge 84 (dg hd_Mo_fairest 24 rfl) (by decide) (fun _ => ?_) (fun _ => ?_)
    · refine ux_iload_n (dg hd_Mo_fairest 45 rfl) rfl ?_
      refine ux_if_ne 92 (dg hd_Mo_fairest 46 rfl) (by decide) (fun _ => ?_) (fun _ => ?_)
      · refine ux_iload_n (dg hd_Mo_fairest 47 rfl) rfl ?_
        refine ux_goto 93 (dg hd_Mo_fairest 48 rfl) (by decide) ?_
        exact ux_iret rfl (dg hd_Mo_fairest 50 rfl)
      · refine ux_iload_n (dg hd_Mo_fairest 49 rfl) rfl ?_
        exact ux_iret rfl (dg hd_Mo_fairest 50 rfl)
    · refine ux_aload_n (dg hd_Mo_fairest 25 rfl) rfl ?_
      refine ux_iload (dg hd_Mo_fairest 26 rfl) rfl ?_
      refine ux_callVi (As := [.int x4]) (sp_Mo_leastLiking l x4 _) (by omega) cv_Mo_leastLiking wk_1099 rfl rfl rfl rfl rfl (Nat.le_of_ble_eq_true rfl) (dg hd_Mo_fairest 27 rfl) (fun r5 σ6 _ => ?_)
      refine ux_istore [(5, .int r5), (0, .ref 0), (1, .int x1), (2, .int x2), (3, .int x3), (4, .int x4)] (dg hd_Mo_fairest 28 rfl) (by decide) rfl ?_
      refine ux_iload (dg hd_Mo_fairest 29 rfl) rfl ?_
      refine ux_iload_n (dg hd_Mo_fairest 30 rfl) rfl ?_
      refine ux_icmp_le 63 (dg hd_Mo_fairest 31 rfl) (by decide) (fun _ => ?_) (fun _ => ?_)
      · refine ux_iload_n (dg hd_Mo_fairest 34 rfl) rfl ?_
        refine ux_istore_n [(2, .int x2), (5, .int r5), (0, .ref 0), (1, .int x1), (3, .int x3), (4, .int x4)] (dg hd_Mo_fairest 35 rfl) (by decide) rfl ?_
        refine ux_iload (dg hd_Mo_fairest 36 rfl) rfl ?_
        refine ux_iload_n (dg hd_Mo_fairest 37 rfl) rfl ?_
        refine ux_icmp_le 76 (dg hd_Mo_fairest 38 rfl) (by decide) (fun _ => ?_) (fun _ => ?_)
        · refine ux_iload_n (dg hd_Mo_fairest 41 rfl) rfl ?_
          refine ux_istore_n [(3, .int x3), (2, .int x2), (5, .int r5), (0, .ref 0), (1, .int x1), (4, .int x4)] (dg hd_Mo_fairest 42 rfl) (by decide) rfl ?_
          refine ux_iincN (1 : Int32) (fun y7 => [(4, .int y7), (3, .int x3), (2, .int x2), (5, .int r5), (0, .ref 0), (1, .int x1)]) (dg hd_Mo_fairest 43 rfl) rfl (by decide) (by decide) (fun _ => rfl) (fun y7 => ?_)
          refine ux_goto 37 (dg hd_Mo_fairest 44 rfl) (by decide) ?_
          refine ux_wk [(0, .ref 0), (1, .int x1), (2, .int x2), (3, .int x3), (4, .int y7)] [4, 5, 2, 1, 0] rfl ?_
          exact ih x1 x2 x3 y7 σ6
        · refine ux_iload (dg hd_Mo_fairest 39 rfl) rfl ?_
          refine ux_goto 77 (dg hd_Mo_fairest 40 rfl) (by decide) ?_
          refine ux_istore_n [(3, .int r5), (2, .int x2), (5, .int r5), (0, .ref 0), (1, .int x1), (4, .int x4)] (dg hd_Mo_fairest 42 rfl) (by decide) rfl ?_
          refine ux_iincN (1 : Int32) (fun y8 => [(4, .int y8), (3, .int r5), (2, .int x2), (5, .int r5), (0, .ref 0), (1, .int x1)]) (dg hd_Mo_fairest 43 rfl) rfl (by decide) (by decide) (fun _ => rfl) (fun y8 => ?_)
          refine ux_goto 37 (dg hd_Mo_fairest 44 rfl) (by decide) ?_
          refine ux_wk [(0, .ref 0), (1, .int x1), (2, .int x2), (3, .int r5), (4, .int y8)] [4, 5, 2, 1, 0] rfl ?_
          exact ih x1 x2 r5 y8 σ6
      · refine ux_iload (dg hd_Mo_fairest 32 rfl) rfl ?_
        refine ux_goto 64 (dg hd_Mo_fairest 33 rfl) (by decide) ?_
        refine ux_istore_n [(2, .int x4), (5, .int r5), (0, .ref 0), (1, .int x1), (3, .int x3), (4, .int x4)] (dg hd_Mo_fairest 35 rfl) (by decide) rfl ?_
        refine ux_iload (dg hd_Mo_fairest 36 rfl) rfl ?_
        refine ux_iload_n (dg hd_Mo_fairest 37 rfl) rfl ?_
        refine ux_icmp_le 76 (dg hd_Mo_fairest 38 rfl) (by decide) (fun _ => ?_) (fun _ => ?_)
        · refine ux_iload_n (dg hd_Mo_fairest 41 rfl) rfl ?_
          refine ux_istore_n [(3, .int x3), (2, .int x4), (5, .int r5), (0, .ref 0), (1, .int x1), (4, .int x4)] (dg hd_Mo_fairest 42 rfl) (by decide) rfl ?_
          refine ux_iincN (1 : Int32) (fun y9 => [(4, .int y9), (3, .int x3), (2, .int x4), (5, .int r5), (0, .ref 0), (1, .int x1)]) (dg hd_Mo_fairest 43 rfl) rfl (by decide) (by decide) (fun _ => rfl) (fun y9 => ?_)
          refine ux_goto 37 (dg hd_Mo_fairest 44 rfl) (by decide) ?_
          refine ux_wk [(0, .ref 0), (1, .int x1), (2, .int x4), (3, .int x3), (4, .int y9)] [4, 5, 2, 1, 0] rfl ?_
          exact ih x1 x4 x3 y9 σ6
        · refine ux_iload (dg hd_Mo_fairest 39 rfl) rfl ?_
          refine ux_goto 77 (dg hd_Mo_fairest 40 rfl) (by decide) ?_
          refine ux_istore_n [(3, .int r5), (2, .int x4), (5, .int r5), (0, .ref 0), (1, .int x1), (4, .int x4)] (dg hd_Mo_fairest 42 rfl) (by decide) rfl ?_
          refine ux_iincN (1 : Int32) (fun y10 => [(4, .int y10), (3, .int r5), (2, .int x4), (5, .int r5), (0, .ref 0), (1, .int x1)]) (dg hd_Mo_fairest 43 rfl) rfl (by decide) (by decide) (fun _ => rfl) (fun y10 => ?_)
          refine ux_goto 37 (dg hd_Mo_fairest 44 rfl) (by decide) ?_
          refine ux_wk [(0, .ref 0), (1, .int x1), (2, .int x4), (3, .int r5), (4, .int y10)] [4, 5, 2, 1, 0] rfl ?_
          exact ih x1 x4 r5 y10 σ6
def Mo_fairest (p1 : Int32) (σ : St) : Option (Int32 × St) :=
  bnd (Mo_in p1 (0 : Int32) (1 : Int32) σ) (fun r1 σ2 =>
  if r1 = (0 : Int32) then (
  bnd (Mo_error (-1000000001 : Int32) σ2) (fun r13 σ14 =>
  some (r13, σ14))) else (
  bnd (Mo_allIn  σ2) (fun r3 σ4 =>
  if r3 = (0 : Int32) then (
  bnd (Mo_error (-1000000003 : Int32) σ4) (fun r11 σ12 =>
  some (r11, σ12))) else (
  Mo_fairest_L37 1000 p1 (0 : Int32) (-1 : Int32) (0 : Int32) σ4))))
set_option maxRecDepth 100000 in
theorem sp_Mo_fairest (l : Launch) (p1 : Int32) (σ : St) : Spc l shM 7 md_Mo_fairest [.ref 0, .int p1] σ (Mo_fairest p1 σ) := by
  refine Spc_of_Ux [(0, .ref 0), (1, .int p1)] (by decide) rfl (Nat.le_of_ble_eq_true rfl) ?_
  unfold Mo_fairest
  refine ux_iload_n (dg hd_Mo_fairest 0 rfl) rfl ?_
  refine ux_iconst (0 : Int32) (dg hd_Mo_fairest 1 rfl) (by decide) ?_
  refine ux_iconst (1 : Int32) (dg hd_Mo_fairest 2 rfl) (by decide) ?_
  refine ux_callSi (As := [.int p1, .int (0 : Int32), .int (1 : Int32)]) (sp_Mo_in l p1 (0 : Int32) (1 : Int32) _) (by omega) cs_Mo_in wk_844 rfl rfl (Nat.le_of_ble_eq_true rfl) (dg hd_Mo_fairest 3 rfl) (fun r1 σ2 _ => ?_)
  refine ux_if_ne 16 (dg hd_Mo_fairest 4 rfl) (by decide) (fun _ => ?_) (fun _ => ?_)
  · refine ux_aload_n (dg hd_Mo_fairest 5 rfl) rfl ?_
    refine ux_ldc (-1000000001 : Int32) wk_847 (dg hd_Mo_fairest 6 rfl) ?_
    refine ux_callVi (As := [.int (-1000000001 : Int32)]) (sp_Mo_error l (-1000000001 : Int32) _) (by omega) cv_Mo_error wk_848 rfl rfl rfl rfl rfl (Nat.le_of_ble_eq_true rfl) (dg hd_Mo_fairest 7 rfl) (fun r13 σ14 _ => ?_)
    exact ux_iret rfl (dg hd_Mo_fairest 8 rfl)
  · refine ux_aload_n (dg hd_Mo_fairest 9 rfl) rfl ?_
    refine ux_callVi (As := []) (sp_Mo_allIn l  _) (by omega) cv_Mo_allIn wk_882 rfl rfl rfl rfl rfl (Nat.le_of_ble_eq_true rfl) (dg hd_Mo_fairest 10 rfl) (fun r3 σ4 _ => ?_)
    refine ux_if_ne 30 (dg hd_Mo_fairest 11 rfl) (by decide) (fun _ => ?_) (fun _ => ?_)
    · refine ux_aload_n (dg hd_Mo_fairest 12 rfl) rfl ?_
      refine ux_ldc (-1000000003 : Int32) wk_928 (dg hd_Mo_fairest 13 rfl) ?_
      refine ux_callVi (As := [.int (-1000000003 : Int32)]) (sp_Mo_error l (-1000000003 : Int32) _) (by omega) cv_Mo_error wk_848 rfl rfl rfl rfl rfl (Nat.le_of_ble_eq_true rfl) (dg hd_Mo_fairest 14 rfl) (fun r11 σ12 _ => ?_)
      exact ux_iret rfl (dg hd_Mo_fairest 15 rfl)
    · refine ux_iconst (0 : Int32) (dg hd_Mo_fairest 16 rfl) (by decide) ?_
      refine ux_istore_n [(2, .int (0 : Int32)), (0, .ref 0), (1, .int p1)] (dg hd_Mo_fairest 17 rfl) (by decide) rfl ?_
      refine ux_iconst (-1 : Int32) (dg hd_Mo_fairest 18 rfl) (by decide) ?_
      refine ux_istore_n [(3, .int (-1 : Int32)), (2, .int (0 : Int32)), (0, .ref 0), (1, .int p1)] (dg hd_Mo_fairest 19 rfl) (by decide) rfl ?_
      refine ux_iconst (0 : Int32) (dg hd_Mo_fairest 20 rfl) (by decide) ?_
      refine ux_istore [(4, .int (0 : Int32)), (3, .int (-1 : Int32)), (2, .int (0 : Int32)), (0, .ref 0), (1, .int p1)] (dg hd_Mo_fairest 21 rfl) (by decide) rfl ?_
      refine ux_wk [(0, .ref 0), (1, .int p1), (2, .int (0 : Int32)), (3, .int (-1 : Int32)), (4, .int (0 : Int32))] [3, 4, 2, 1, 0] rfl ?_
      exact wk_Mo_fairest_L37 l 1000 p1 (0 : Int32) (-1 : Int32) (0 : Int32) σ4
def Mo_whoAlone_L7 : Nat → Int32 → Int32 → Int32 → Int32 → St → Option (Int32 × St)
  | 0, _, _, _, _, _ => none
  | n + 1, x1, x2, x3, x4, σ =>
    grd (inb (2 : Int32) 366) (
    if (σ.2 1 (2 : Int32).toNatClampNeg) ≤ x4 then (
    if x3 = (1 : Int32) then (
    some (x2, σ)) else (
    some ((-1 : Int32), σ))) else (
    bnd (Mo_isIn x4 σ) (fun r1 σ2 =>
    if r1 = (0 : Int32) then (
    if (0 : Int32) = (0 : Int32) then (
    if (0 : Int32) = (0 : Int32) then (
    nam (x3 + (0 : Int32)) (fun y3 =>
    nam (x4 + (1 : Int32)) (fun y4 =>
    Mo_whoAlone_L7 n x1 x2 y3 y4 σ2))) else (
    nam (x3 + (1 : Int32)) (fun y5 =>
    nam (x4 + (1 : Int32)) (fun y6 =>
    Mo_whoAlone_L7 n x1 x2 y5 y6 σ2)))) else (
    if (0 : Int32) = (0 : Int32) then (
    nam (x3 + (0 : Int32)) (fun y7 =>
    nam (x4 + (1 : Int32)) (fun y8 =>
    Mo_whoAlone_L7 n x1 x4 y7 y8 σ2))) else (
    nam (x3 + (1 : Int32)) (fun y9 =>
    nam (x4 + (1 : Int32)) (fun y10 =>
    Mo_whoAlone_L7 n x1 x4 y9 y10 σ2))))) else (
    bnd (Mo_doesTake x4 x1 σ2) (fun r11 σ12 =>
    if r11 = (0 : Int32) then (
    if (1 : Int32) = (0 : Int32) then (
    if (1 : Int32) = (0 : Int32) then (
    nam (x3 + (0 : Int32)) (fun y21 =>
    nam (x4 + (1 : Int32)) (fun y22 =>
    Mo_whoAlone_L7 n x1 x2 y21 y22 σ12))) else (
    nam (x3 + (1 : Int32)) (fun y23 =>
    nam (x4 + (1 : Int32)) (fun y24 =>
    Mo_whoAlone_L7 n x1 x2 y23 y24 σ12)))) else (
    if (1 : Int32) = (0 : Int32) then (
    nam (x3 + (0 : Int32)) (fun y25 =>
    nam (x4 + (1 : Int32)) (fun y26 =>
    Mo_whoAlone_L7 n x1 x4 y25 y26 σ12))) else (
    nam (x3 + (1 : Int32)) (fun y27 =>
    nam (x4 + (1 : Int32)) (fun y28 =>
    Mo_whoAlone_L7 n x1 x4 y27 y28 σ12))))) else (
    if (0 : Int32) = (0 : Int32) then (
    if (0 : Int32) = (0 : Int32) then (
    nam (x3 + (0 : Int32)) (fun y13 =>
    nam (x4 + (1 : Int32)) (fun y14 =>
    Mo_whoAlone_L7 n x1 x2 y13 y14 σ12))) else (
    nam (x3 + (1 : Int32)) (fun y15 =>
    nam (x4 + (1 : Int32)) (fun y16 =>
    Mo_whoAlone_L7 n x1 x2 y15 y16 σ12)))) else (
    if (0 : Int32) = (0 : Int32) then (
    nam (x3 + (0 : Int32)) (fun y17 =>
    nam (x4 + (1 : Int32)) (fun y18 =>
    Mo_whoAlone_L7 n x1 x4 y17 y18 σ12))) else (
    nam (x3 + (1 : Int32)) (fun y19 =>
    nam (x4 + (1 : Int32)) (fun y20 =>
    Mo_whoAlone_L7 n x1 x4 y19 y20 σ12))))))))))
set_option maxRecDepth 100000 in
theorem wk_Mo_whoAlone_L7 (l : Launch) : ∀ (n : Nat) (x1 x2 x3 x4 : Int32) (σ : St), Ux l shM 7 md_Mo_whoAlone 7 [(0, .ref 0), (1, .int x1), (2, .int x2), (3, .int x3), (4, .int x4)] [] σ (Mo_whoAlone_L7 n x1 x2 x3 x4 σ) := by
  intro n
  induction n with
  | zero => intros; exact ux_none
  | succ n ih =>
    intro x1 x2 x3 x4 σ
    unfold Mo_whoAlone_L7
    refine ux_iload (dg hd_Mo_whoAlone 6 rfl) rfl ?_
    refine ux_aload_n (dg hd_Mo_whoAlone 7 rfl) rfl ?_
    refine ux_getr (q := 1) fcX7 0 (by decide) wk_773 rfl rfl (dg hd_Mo_whoAlone 8 rfl) ?_
    refine ux_iconst (2 : Int32) (dg hd_Mo_whoAlone 9 rfl) (by decide) ?_
    refine ux_iald rfl (dg hd_Mo_whoAlone 10 rfl) ?_
    refine ux_icmp_ge 75 (dg hd_Mo_whoAlone 11 rfl) (by decide) (fun _ => ?_) (fun _ => ?_)
    · refine ux_iload_n (dg hd_Mo_whoAlone 41 rfl) rfl ?_
      refine ux_iconst (1 : Int32) (dg hd_Mo_whoAlone 42 rfl) (by decide) ?_
      refine ux_icmp_ne 84 (dg hd_Mo_whoAlone 43 rfl) (by decide) (fun _ => ?_) (fun _ => ?_)
      · refine ux_iload_n (dg hd_Mo_whoAlone 44 rfl) rfl ?_
        refine ux_goto 85 (dg hd_Mo_whoAlone 45 rfl) (by decide) ?_
        exact ux_iret rfl (dg hd_Mo_whoAlone 47 rfl)
      · refine ux_iconst (-1 : Int32) (dg hd_Mo_whoAlone 46 rfl) (by decide) ?_
        exact ux_iret rfl (dg hd_Mo_whoAlone 47 rfl)
    · refine ux_aload_n (dg hd_Mo_whoAlone 12 rfl) rfl ?_
      refine ux_iload (dg hd_Mo_whoAlone 13 rfl) rfl ?_
      refine ux_callVi (As := [.int x4]) (sp_Mo_isIn l x4 _) (by omega) cv_Mo_isIn wk_886 rfl rfl rfl rfl rfl (Nat.le_of_ble_eq_true rfl) (dg hd_Mo_whoAlone 14 rfl) (fun r1 σ2 _ => ?_)
      refine ux_if_eq 41 (dg hd_Mo_whoAlone 15 rfl) (by decide) (fun _ => ?_) (fun _ => ?_)
      · refine ux_iconst (0 : Int32) (dg hd_Mo_whoAlone 23 rfl) (by decide) ?_
        refine ux_istore [(5, .int (0 : Int32)), (0, .ref 0), (1, .int x1), (2, .int x2), (3, .int x3), (4, .int x4)] (dg hd_Mo_whoAlone 24 rfl) (by decide) rfl ?_
        refine ux_iload (dg hd_Mo_whoAlone 25 rfl) rfl ?_
        refine ux_if_eq 54 (dg hd_Mo_whoAlone 26 rfl) (by decide) (fun _ => ?_) (fun _ => ?_)
        · refine ux_iload_n (dg hd_Mo_whoAlone 29 rfl) rfl ?_
          refine ux_istore_n [(2, .int x2), (5, .int (0 : Int32)), (0, .ref 0), (1, .int x1), (3, .int x3), (4, .int x4)] (dg hd_Mo_whoAlone 30 rfl) (by decide) rfl ?_
          refine ux_iload_n (dg hd_Mo_whoAlone 31 rfl) rfl ?_
          refine ux_iload (dg hd_Mo_whoAlone 32 rfl) rfl ?_
          refine ux_if_eq 66 (dg hd_Mo_whoAlone 33 rfl) (by decide) (fun _ => ?_) (fun _ => ?_)
          · refine ux_iconst (0 : Int32) (dg hd_Mo_whoAlone 36 rfl) (by decide) ?_
            refine ux_iadd (dg hd_Mo_whoAlone 37 rfl) ?_
            refine ux_nam (fun y3 => ?_)
            refine ux_istore_n [(3, .int y3), (2, .int x2), (5, .int (0 : Int32)), (0, .ref 0), (1, .int x1), (4, .int x4)] (dg hd_Mo_whoAlone 38 rfl) (by decide) rfl ?_
            refine ux_iincN (1 : Int32) (fun y4 => [(4, .int y4), (3, .int y3), (2, .int x2), (5, .int (0 : Int32)), (0, .ref 0), (1, .int x1)]) (dg hd_Mo_whoAlone 39 rfl) rfl (by decide) (by decide) (fun _ => rfl) (fun y4 => ?_)
            refine ux_goto 7 (dg hd_Mo_whoAlone 40 rfl) (by decide) ?_
            refine ux_wk [(0, .ref 0), (1, .int x1), (2, .int x2), (3, .int y3), (4, .int y4)] [4, 5, 2, 1, 0] rfl ?_
            exact ih x1 x2 y3 y4 σ2
          · refine ux_iconst (1 : Int32) (dg hd_Mo_whoAlone 34 rfl) (by decide) ?_
            refine ux_goto 67 (dg hd_Mo_whoAlone 35 rfl) (by decide) ?_
            refine ux_iadd (dg hd_Mo_whoAlone 37 rfl) ?_
            refine ux_nam (fun y5 => ?_)
            refine ux_istore_n [(3, .int y5), (2, .int x2), (5, .int (0 : Int32)), (0, .ref 0), (1, .int x1), (4, .int x4)] (dg hd_Mo_whoAlone 38 rfl) (by decide) rfl ?_
            refine ux_iincN (1 : Int32) (fun y6 => [(4, .int y6), (3, .int y5), (2, .int x2), (5, .int (0 : Int32)), (0, .ref 0), (1, .int x1)]) (dg hd_Mo_whoAlone 39 rfl) rfl (by decide) (by decide) (fun _ => rfl) (fun y6 => ?_)
            refine ux_goto 7 (dg hd_Mo_whoAlone 40 rfl) (by decide) ?_
            refine ux_wk [(0, .ref 0), (1, .int x1), (2, .int x2), (3, .int y5), (4, .int y6)] [4, 5, 2, 1, 0] rfl ?_
            exact ih x1 x2 y5 y6 σ2
        · refine ux_iload (dg hd_Mo_whoAlone 27 rfl) rfl ?_
          refine ux_goto 55 (dg hd_Mo_whoAlone 28 rfl) (by decide) ?_
          refine ux_istore_n [(2, .int x4), (5, .int (0 : Int32)), (0, .ref 0), (1, .int x1), (3, .int x3), (4, .int x4)] (dg hd_Mo_whoAlone 30 rfl) (by decide) rfl ?_
          refine ux_iload_n (dg hd_Mo_whoAlone 31 rfl) rfl ?_
          refine ux_iload (dg hd_Mo_whoAlone 32 rfl) rfl ?_
          refine ux_if_eq 66 (dg hd_Mo_whoAlone 33 rfl) (by decide) (fun _ => ?_) (fun _ => ?_)
          · refine ux_iconst (0 : Int32) (dg hd_Mo_whoAlone 36 rfl) (by decide) ?_
            refine ux_iadd (dg hd_Mo_whoAlone 37 rfl) ?_
            refine ux_nam (fun y7 => ?_)
            refine ux_istore_n [(3, .int y7), (2, .int x4), (5, .int (0 : Int32)), (0, .ref 0), (1, .int x1), (4, .int x4)] (dg hd_Mo_whoAlone 38 rfl) (by decide) rfl ?_
            refine ux_iincN (1 : Int32) (fun y8 => [(4, .int y8), (3, .int y7), (2, .int x4), (5, .int (0 : Int32)), (0, .ref 0), (1, .int x1)]) (dg hd_Mo_whoAlone 39 rfl) rfl (by decide) (by decide) (fun _ => rfl) (fun y8 => ?_)
            refine ux_goto 7 (dg hd_Mo_whoAlone 40 rfl) (by decide) ?_
            refine ux_wk [(0, .ref 0), (1, .int x1), (2, .int x4), (3, .int y7), (4, .int y8)] [4, 5, 2, 1, 0] rfl ?_
            exact ih x1 x4 y7 y8 σ2
          · refine ux_iconst (1 : Int32) (dg hd_Mo_whoAlone 34 rfl) (by decide) ?_
            refine ux_goto 67 (dg hd_Mo_whoAlone 35 rfl) (by decide) ?_
            refine ux_iadd (dg hd_Mo_whoAlone 37 rfl) ?_
            refine ux_nam (fun y9 => ?_)
            refine ux_istore_n [(3, .int y9), (2, .int x4), (5, .int (0 : Int32)), (0, .ref 0), (1, .int x1), (4, .int x4)] (dg hd_Mo_whoAlone 38 rfl) (by decide) rfl ?_
            refine ux_iincN (1 : Int32) (fun y10 => [(4, .int y10), (3, .int y9), (2, .int x4), (5, .int (0 : Int32)), (0, .ref 0), (1, .int x1)]) (dg hd_Mo_whoAlone 39 rfl) rfl (by decide) (by decide) (fun _ => rfl) (fun y10 => ?_)
            refine ux_goto 7 (dg hd_Mo_whoAlone 40 rfl) (by decide) ?_
            refine ux_wk [(0, .ref 0), (1, .int x1), (2, .int x4), (3, .int y9), (4, .int y10)] [4, 5, 2, 1, 0] rfl ?_
            exact ih x1 x4 y9 y10 σ2
      · refine ux_aload_n (dg hd_Mo_whoAlone 16 rfl) rfl ?_
        refine ux_iload (dg hd_Mo_whoAlone 17 rfl) rfl ?_
        refine ux_iload_n (dg hd_Mo_whoAlone 18 rfl) rfl ?_
        refine ux_callVi (As := [.int x4, .int x1]) (sp_Mo_doesTake l x4 x1 _) (by omega) cv_Mo_doesTake wk_972 rfl rfl rfl rfl rfl (Nat.le_of_ble_eq_true rfl) (dg hd_Mo_whoAlone 19 rfl) (fun r11 σ12 _ => ?_)
        refine ux_if_ne 41 (dg hd_Mo_whoAlone 20 rfl) (by decide) (fun _ => ?_) (fun _ => ?_)
        · refine ux_iconst (1 : Int32) (dg hd_Mo_whoAlone 21 rfl) (by decide) ?_
          refine ux_goto 42 (dg hd_Mo_whoAlone 22 rfl) (by decide) ?_
          refine ux_istore [(5, .int (1 : Int32)), (0, .ref 0), (1, .int x1), (2, .int x2), (3, .int x3), (4, .int x4)] (dg hd_Mo_whoAlone 24 rfl) (by decide) rfl ?_
          refine ux_iload (dg hd_Mo_whoAlone 25 rfl) rfl ?_
          refine ux_if_eq 54 (dg hd_Mo_whoAlone 26 rfl) (by decide) (fun _ => ?_) (fun _ => ?_)
          · refine ux_iload_n (dg hd_Mo_whoAlone 29 rfl) rfl ?_
            refine ux_istore_n [(2, .int x2), (5, .int (1 : Int32)), (0, .ref 0), (1, .int x1), (3, .int x3), (4, .int x4)] (dg hd_Mo_whoAlone 30 rfl) (by decide) rfl ?_
            refine ux_iload_n (dg hd_Mo_whoAlone 31 rfl) rfl ?_
            refine ux_iload (dg hd_Mo_whoAlone 32 rfl) rfl ?_
            refine ux_if_eq 66 (dg hd_Mo_whoAlone 33 rfl) (by decide) (fun _ => ?_) (fun _ => ?_)
            · refine ux_iconst (0 : Int32) (dg hd_Mo_whoAlone 36 rfl) (by decide) ?_
              refine ux_iadd (dg hd_Mo_whoAlone 37 rfl) ?_
              refine ux_nam (fun y21 => ?_)
              refine ux_istore_n [(3, .int y21), (2, .int x2), (5, .int (1 : Int32)), (0, .ref 0), (1, .int x1), (4, .int x4)] (dg hd_Mo_whoAlone 38 rfl) (by decide) rfl ?_
              refine ux_iincN (1 : Int32) (fun y22 => [(4, .int y22), (3, .int y21), (2, .int x2), (5, .int (1 : Int32)), (0, .ref 0), (1, .int x1)]) (dg hd_Mo_whoAlone 39 rfl) rfl (by decide) (by decide) (fun _ => rfl) (fun y22 => ?_)
              refine ux_goto 7 (dg hd_Mo_whoAlone 40 rfl) (by decide) ?_
              refine ux_wk [(0, .ref 0), (1, .int x1), (2, .int x2), (3, .int y21), (4, .int y22)] [4, 5, 2, 1, 0] rfl ?_
              exact ih x1 x2 y21 y22 σ12
            · refine ux_iconst (1 : Int32) (dg hd_Mo_whoAlone 34 rfl) (by decide) ?_
              refine ux_goto 67 (dg hd_Mo_whoAlone 35 rfl) (by decide) ?_
              refine ux_iadd (dg hd_Mo_whoAlone 37 rfl) ?_
              refine ux_nam (fun y23 => ?_)
              refine ux_istore_n [(3, .int y23), (2, .int x2), (5, .int (1 : Int32)), (0, .ref 0), (1, .int x1), (4, .int x4)] (dg hd_Mo_whoAlone 38 rfl) (by decide) rfl ?_
              refine ux_iincN (1 : Int32) (fun y24 => [(4, .int y24), (3, .int y23), (2, .int x2), (5, .int (1 : Int32)), (0, .ref 0), (1, .int x1)]) (dg hd_Mo_whoAlone 39 rfl) rfl (by decide) (by decide) (fun _ => rfl) (fun y24 => ?_)
              refine ux_goto 7 (dg hd_Mo_whoAlone 40 rfl) (by decide) ?_
              refine ux_wk [(0, .ref 0), (1, .int x1), (2, .int x2), (3, .int y23), (4, .int y24)] [4, 5, 2, 1, 0] rfl ?_
              exact ih x1 x2 y23 y24 σ12
          · refine ux_iload (dg hd_Mo_whoAlone 27 rfl) rfl ?_
            refine ux_goto 55 (dg hd_Mo_whoAlone 28 rfl) (by decide) ?_
            refine ux_istore_n [(2, .int x4), (5, .int (1 : Int32)), (0, .ref 0), (1, .int x1), (3, .int x3), (4, .int x4)] (dg hd_Mo_whoAlone 30 rfl) (by decide) rfl ?_
            refine ux_iload_n (dg hd_Mo_whoAlone 31 rfl) rfl ?_
            refine ux_iload (dg hd_Mo_whoAlone 32 rfl) rfl ?_
            refine ux_if_eq 66 (dg hd_Mo_whoAlone 33 rfl) (by decide) (fun _ => ?_) (fun _ => ?_)
            · refine ux_iconst (0 : Int32) (dg hd_Mo_whoAlone 36 rfl) (by decide) ?_
              refine ux_iadd (dg hd_Mo_whoAlone 37 rfl) ?_
              refine ux_nam (fun y25 => ?_)
              refine ux_istore_n [(3, .int y25), (2, .int x4), (5, .int (1 : Int32)), (0, .ref 0), (1, .int x1), (4, .int x4)] (dg hd_Mo_whoAlone 38 rfl) (by decide) rfl ?_
              refine ux_iincN (1 : Int32) (fun y26 => [(4, .int y26), (3, .int y25), (2, .int x4), (5, .int (1 : Int32)), (0, .ref 0), (1, .int x1)]) (dg hd_Mo_whoAlone 39 rfl) rfl (by decide) (by decide) (fun _ => rfl) (fun y26 => ?_)
              refine ux_goto 7 (dg hd_Mo_whoAlone 40 rfl) (by decide) ?_
              refine ux_wk [(0, .ref 0), (1, .int x1), (2, .int x4), (3, .int y25), (4, .int y26)] [4, 5, 2, 1, 0] rfl ?_
              exact ih x1 x4 y25 y26 σ12
            · refine ux_iconst (1 : Int32) (dg hd_Mo_whoAlone 34 rfl) (by decide) ?_
              refine ux_goto 67 (dg hd_Mo_whoAlone 35 rfl) (by decide) ?_
              refine ux_iadd (dg hd_Mo_whoAlone 37 rfl) ?_
              refine ux_nam (fun y27 => ?_)
              refine ux_istore_n [(3, .int y27), (2, .int x4), (5, .int (1 : Int32)), (0, .ref 0), (1, .int x1), (4, .int x4)] (dg hd_Mo_whoAlone 38 rfl) (by decide) rfl ?_
              refine ux_iincN (1 : Int32) (fun y28 => [(4, .int y28), (3, .int y27), (2, .int x4), (5, .int (1 : Int32)), (0, .ref 0), (1, .int x1)]) (dg hd_Mo_whoAlone 39 rfl) rfl (by decide) (by decide) (fun _ => rfl) (fun y28 => ?_)
              refine ux_goto 7 (dg hd_Mo_whoAlone 40 rfl) (by decide) ?_
              refine ux_wk [(0, .ref 0), (1, .int x1), (2, .int x4), (3, .int y27), (4, .int y28)] [4, 5, 2, 1, 0] rfl ?_
              exact ih x1 x4 y27 y28 σ12
        · refine ux_iconst (0 : Int32) (dg hd_Mo_whoAlone 23 rfl) (by decide) ?_
          refine ux_istore [(5, .int (0 : Int32)), (0, .ref 0), (1, .int x1), (2, .int x2), (3, .int x3), (4, .int x4)] (dg hd_Mo_whoAlone 24 rfl) (by decide) rfl ?_
          refine ux_iload (dg hd_Mo_whoAlone 25 rfl) rfl ?_
          refine ux_if_eq 54 (dg hd_Mo_whoAlone 26 rfl) (by decide) (fun _ => ?_) (fun _ => ?_)
          · refine ux_iload_n (dg hd_Mo_whoAlone 29 rfl) rfl ?_
            refine ux_istore_n [(2, .int x2), (5, .int (0 : Int32)), (0, .ref 0), (1, .int x1), (3, .int x3), (4, .int x4)] (dg hd_Mo_whoAlone 30 rfl) (by decide) rfl ?_
            refine ux_iload_n (dg hd_Mo_whoAlone 31 rfl) rfl ?_
            refine ux_iload (dg hd_Mo_whoAlone 32 rfl) rfl ?_
            refine ux_if_eq 66 (dg hd_Mo_whoAlone 33 rfl) (by decide) (fun _ => ?_) (fun _ => ?_)
            · refine ux_iconst (0 : Int32) (dg hd_Mo_whoAlone 36 rfl) (by decide) ?_
              refine ux_iadd (dg hd_Mo_whoAlone 37 rfl) ?_
              refine ux_nam (fun y13 => ?_)
              refine ux_istore_n [(3, .int y13), (2, .int x2), (5, .int (0 : Int32)), (0, .ref 0), (1, .int x1), (4, .int x4)] (dg hd_Mo_whoAlone 38 rfl) (by decide) rfl ?_
              refine ux_iincN (1 : Int32) (fun y14 => [(4, .int y14), (3, .int y13), (2, .int x2), (5, .int (0 : Int32)), (0, .ref 0), (1, .int x1)]) (dg hd_Mo_whoAlone 39 rfl) rfl (by decide) (by decide) (fun _ => rfl) (fun y14 => ?_)
              refine ux_goto 7 (dg hd_Mo_whoAlone 40 rfl) (by decide) ?_
              refine ux_wk [(0, .ref 0), (1, .int x1), (2, .int x2), (3, .int y13), (4, .int y14)] [4, 5, 2, 1, 0] rfl ?_
              exact ih x1 x2 y13 y14 σ12
            · refine ux_iconst (1 : Int32) (dg hd_Mo_whoAlone 34 rfl) (by decide) ?_
              refine ux_goto 67 (dg hd_Mo_whoAlone 35 rfl) (by decide) ?_
              refine ux_iadd (dg hd_Mo_whoAlone 37 rfl) ?_
              refine ux_nam (fun y15 => ?_)
              refine ux_istore_n [(3, .int y15), (2, .int x2), (5, .int (0 : Int32)), (0, .ref 0), (1, .int x1), (4, .int x4)] (dg hd_Mo_whoAlone 38 rfl) (by decide) rfl ?_
              refine ux_iincN (1 : Int32) (fun y16 => [(4, .int y16), (3, .int y15), (2, .int x2), (5, .int (0 : Int32)), (0, .ref 0), (1, .int x1)]) (dg hd_Mo_whoAlone 39 rfl) rfl (by decide) (by decide) (fun _ => rfl) (fun y16 => ?_)
              refine ux_goto 7 (dg hd_Mo_whoAlone 40 rfl) (by decide) ?_
              refine ux_wk [(0, .ref 0), (1, .int x1), (2, .int x2), (3, .int y15), (4, .int y16)] [4, 5, 2, 1, 0] rfl ?_
              exact ih x1 x2 y15 y16 σ12
          · refine ux_iload (dg hd_Mo_whoAlone 27 rfl) rfl ?_
            refine ux_goto 55 (dg hd_Mo_whoAlone 28 rfl) (by decide) ?_
            refine ux_istore_n [(2, .int x4), (5, .int (0 : Int32)), (0, .ref 0), (1, .int x1), (3, .int x3), (4, .int x4)] (dg hd_Mo_whoAlone 30 rfl) (by decide) rfl ?_
            refine ux_iload_n (dg hd_Mo_whoAlone 31 rfl) rfl ?_
            refine ux_iload (dg hd_Mo_whoAlone 32 rfl) rfl ?_
            refine ux_if_eq 66 (dg hd_Mo_whoAlone 33 rfl) (by decide) (fun _ => ?_) (fun _ => ?_)
            · refine ux_iconst (0 : Int32) (dg hd_Mo_whoAlone 36 rfl) (by decide) ?_
              refine ux_iadd (dg hd_Mo_whoAlone 37 rfl) ?_
              refine ux_nam (fun y17 => ?_)
              refine ux_istore_n [(3, .int y17), (2, .int x4), (5, .int (0 : Int32)), (0, .ref 0), (1, .int x1), (4, .int x4)] (dg hd_Mo_whoAlone 38 rfl) (by decide) rfl ?_
              refine ux_iincN (1 : Int32) (fun y18 => [(4, .int y18), (3, .int y17), (2, .int x4), (5, .int (0 : Int32)), (0, .ref 0), (1, .int x1)]) (dg hd_Mo_whoAlone 39 rfl) rfl (by decide) (by decide) (fun _ => rfl) (fun y18 => ?_)
              refine ux_goto 7 (dg hd_Mo_whoAlone 40 rfl) (by decide) ?_
              refine ux_wk [(0, .ref 0), (1, .int x1), (2, .int x4), (3, .int y17), (4, .int y18)] [4, 5, 2, 1, 0] rfl ?_
              exact ih x1 x4 y17 y18 σ12
            · refine ux_iconst (1 : Int32) (dg hd_Mo_whoAlone 34 rfl) (by decide) ?_
              refine ux_goto 67 (dg hd_Mo_whoAlone 35 rfl) (by decide) ?_
              refine ux_iadd (dg hd_Mo_whoAlone 37 rfl) ?_
              refine ux_nam (fun y19 => ?_)
              refine ux_istore_n [(3, .int y19), (2, .int x4), (5, .int (0 : Int32)), (0, .ref 0), (1, .int x1), (4, .int x4)] (dg hd_Mo_whoAlone 38 rfl) (by decide) rfl ?_
              refine ux_iincN (1 : Int32) (fun y20 => [(4, .int y20), (3, .int y19), (2, .int x4), (5, .int (0 : Int32)), (0, .ref 0), (1, .int x1)]) (dg hd_Mo_whoAlone 39 rfl) rfl (by decide) (by decide) (fun _ => rfl) (fun y20 => ?_)
              refine ux_goto 7 (dg hd_Mo_whoAlone 40 rfl) (by decide) ?_
              refine ux_wk [(0, .ref 0), (1, .int x1), (2, .int x4), (3, .int y19), (4, .int y20)] [4, 5, 2, 1, 0] rfl ?_
              exact ih x1 x4 y19 y20 σ12
def Mo_whoAlone (p1 : Int32) (σ : St) : Option (Int32 × St) :=
  Mo_whoAlone_L7 1000 p1 (-1 : Int32) (0 : Int32) (0 : Int32) σ
set_option maxRecDepth 100000 in
theorem sp_Mo_whoAlone (l : Launch) (p1 : Int32) (σ : St) : Spc l shM 7 md_Mo_whoAlone [.ref 0, .int p1] σ (Mo_whoAlone p1 σ) := by
  refine Spc_of_Ux [(0, .ref 0), (1, .int p1)] (by decide) rfl (Nat.le_of_ble_eq_true rfl) ?_
  unfold Mo_whoAlone
  refine ux_iconst (-1 : Int32) (dg hd_Mo_whoAlone 0 rfl) (by decide) ?_
  refine ux_istore_n [(2, .int (-1 : Int32)), (0, .ref 0), (1, .int p1)] (dg hd_Mo_whoAlone 1 rfl) (by decide) rfl ?_
  refine ux_iconst (0 : Int32) (dg hd_Mo_whoAlone 2 rfl) (by decide) ?_
  refine ux_istore_n [(3, .int (0 : Int32)), (2, .int (-1 : Int32)), (0, .ref 0), (1, .int p1)] (dg hd_Mo_whoAlone 3 rfl) (by decide) rfl ?_
  refine ux_iconst (0 : Int32) (dg hd_Mo_whoAlone 4 rfl) (by decide) ?_
  refine ux_istore [(4, .int (0 : Int32)), (3, .int (0 : Int32)), (2, .int (-1 : Int32)), (0, .ref 0), (1, .int p1)] (dg hd_Mo_whoAlone 5 rfl) (by decide) rfl ?_
  refine ux_wk [(0, .ref 0), (1, .int p1), (2, .int (-1 : Int32)), (3, .int (0 : Int32)), (4, .int (0 : Int32))] [3, 4, 2, 1, 0] rfl ?_
  exact wk_Mo_whoAlone_L7 l 1000 p1 (-1 : Int32) (0 : Int32) (0 : Int32) σ
