def Mo_move_L28 : Nat → Int32 → Int32 → Int32 → Int32 → Int32 → Int32 → Int32 → St → Option (Int32 × St)
  | 0, _, _, _, _, _, _, _, _ => none
  | n + 1, x1, x2, x3, x4, x5, x6, x7, σ =>
    if x5 ≤ x7 then (
    some (x5, σ)) else (
    if x4 ≤ x2 then (
    grd (inb ((((24 : Int32) * x1) + x2) + x7) 96) (
    grd (inb ((((24 : Int32) * x3) + x4) + x7) 96) (
    nas (sA σ 7 ((((24 : Int32) * x3) + x4) + x7).toNatClampNeg (σ.2 7 ((((24 : Int32) * x1) + x2) + x7).toNatClampNeg)) (fun σ3 =>
    nam (x7 + (1 : Int32)) (fun y4 =>
    Mo_move_L28 n x1 x2 x3 x4 x5 x6 y4 σ3))))) else (
    nam ((x5 - (1 : Int32)) - x7) (fun y5 =>
    grd (inb ((((24 : Int32) * x1) + x2) + y5) 96) (
    grd (inb ((((24 : Int32) * x3) + x4) + y5) 96) (
    nas (sA σ 7 ((((24 : Int32) * x3) + x4) + y5).toNatClampNeg (σ.2 7 ((((24 : Int32) * x1) + x2) + y5).toNatClampNeg)) (fun σ6 =>
    nam (x7 + (1 : Int32)) (fun y7 =>
    Mo_move_L28 n x1 x2 x3 x4 x5 x6 y7 σ6)))))))
set_option maxRecDepth 100000 in
theorem wk_Mo_move_L28 (l : Launch) : ∀ (n : Nat) (x1 x2 x3 x4 x5 x6 x7 : Int32) (σ : St), Ux l shM 5 md_Mo_move 28 [(0, .ref 0), (1, .int x1), (2, .int x2), (3, .int x3), (4, .int x4), (5, .int x5), (6, .int x6), (7, .int x7)] [] σ (Mo_move_L28 n x1 x2 x3 x4 x5 x6 x7 σ) := by
  intro n
  induction n with
  | zero => intros; exact ux_none
  | succ n ih =>
    intro x1 x2 x3 x4 x5 x6 x7 σ
    unfold Mo_move_L28
    refine ux_iload (dg hd_Mo_move 16 rfl) rfl ?_
    refine ux_iload (dg hd_Mo_move 17 rfl) rfl ?_
    refine ux_icmp_ge 90 (dg hd_Mo_move 18 rfl) (by decide) (fun _ => ?_) (fun _ => ?_)
    · refine ux_iload (dg hd_Mo_move 52 rfl) rfl ?_
      exact ux_iret rfl (dg hd_Mo_move 53 rfl)
    · refine ux_iload_n (dg hd_Mo_move 19 rfl) rfl ?_
      refine ux_iload (dg hd_Mo_move 20 rfl) rfl ?_
      refine ux_icmp_ge 51 (dg hd_Mo_move 21 rfl) (by decide) (fun _ => ?_) (fun _ => ?_)
      · refine ux_iload (dg hd_Mo_move 28 rfl) rfl ?_
        refine ux_istore [(8, .int x7), (0, .ref 0), (1, .int x1), (2, .int x2), (3, .int x3), (4, .int x4), (5, .int x5), (6, .int x6), (7, .int x7)] (dg hd_Mo_move 29 rfl) (by decide) rfl ?_
        refine ux_aload_n (dg hd_Mo_move 30 rfl) rfl ?_
        refine ux_getr (q := 7) fcX7 7 (by decide) wk_780 rfl rfl (dg hd_Mo_move 31 rfl) ?_
        refine ux_bipush (24 : Int32) (dg hd_Mo_move 32 rfl) (by decide) ?_
        refine ux_iload_n (dg hd_Mo_move 33 rfl) rfl ?_
        refine ux_imul (dg hd_Mo_move 34 rfl) ?_
        refine ux_iload (dg hd_Mo_move 35 rfl) rfl ?_
        refine ux_iadd (dg hd_Mo_move 36 rfl) ?_
        refine ux_iload (dg hd_Mo_move 37 rfl) rfl ?_
        refine ux_iadd (dg hd_Mo_move 38 rfl) ?_
        refine ux_aload_n (dg hd_Mo_move 39 rfl) rfl ?_
        refine ux_getr (q := 7) fcX7 7 (by decide) wk_780 rfl rfl (dg hd_Mo_move 40 rfl) ?_
        refine ux_bipush (24 : Int32) (dg hd_Mo_move 41 rfl) (by decide) ?_
        refine ux_iload_n (dg hd_Mo_move 42 rfl) rfl ?_
        refine ux_imul (dg hd_Mo_move 43 rfl) ?_
        refine ux_iload_n (dg hd_Mo_move 44 rfl) rfl ?_
        refine ux_iadd (dg hd_Mo_move 45 rfl) ?_
        refine ux_iload (dg hd_Mo_move 46 rfl) rfl ?_
        refine ux_iadd (dg hd_Mo_move 47 rfl) ?_
        refine ux_iald rfl (dg hd_Mo_move 48 rfl) ?_
        refine ux_iast rfl (dg hd_Mo_move 49 rfl) ?_
        refine ux_nas (fun σ3 => ?_)
        refine ux_iincN (1 : Int32) (fun y4 => [(7, .int y4), (8, .int x7), (0, .ref 0), (1, .int x1), (2, .int x2), (3, .int x3), (4, .int x4), (5, .int x5), (6, .int x6)]) (dg hd_Mo_move 50 rfl) rfl (by decide) (by decide) (fun _ => rfl) (fun y4 => ?_)
        refine ux_goto 28 (dg hd_Mo_move 51 rfl) (by decide) ?_
        refine ux_wk [(0, .ref 0), (1, .int x1), (2, .int x2), (3, .int x3), (4, .int x4), (5, .int x5), (6, .int x6), (7, .int y4)] [2, 3, 4, 5, 6, 7, 8, 0] rfl ?_
        exact ih x1 x2 x3 x4 x5 x6 y4 σ3
      · refine ux_iload (dg hd_Mo_move 22 rfl) rfl ?_
        refine ux_iconst (1 : Int32) (dg hd_Mo_move 23 rfl) (by decide) ?_
        refine ux_isub (dg hd_Mo_move 24 rfl) ?_
        refine ux_iload (dg hd_Mo_move 25 rfl) rfl ?_
        refine ux_isub (dg hd_Mo_move 26 rfl) ?_
        refine ux_goto 53 (dg hd_Mo_move 27 rfl) (by decide) ?_
        refine ux_nam (fun y5 => ?_)
        refine ux_istore [(8, .int y5), (0, .ref 0), (1, .int x1), (2, .int x2), (3, .int x3), (4, .int x4), (5, .int x5), (6, .int x6), (7, .int x7)] (dg hd_Mo_move 29 rfl) (by decide) rfl ?_
        refine ux_aload_n (dg hd_Mo_move 30 rfl) rfl ?_
        refine ux_getr (q := 7) fcX7 7 (by decide) wk_780 rfl rfl (dg hd_Mo_move 31 rfl) ?_
        refine ux_bipush (24 : Int32) (dg hd_Mo_move 32 rfl) (by decide) ?_
        refine ux_iload_n (dg hd_Mo_move 33 rfl) rfl ?_
        refine ux_imul (dg hd_Mo_move 34 rfl) ?_
        refine ux_iload (dg hd_Mo_move 35 rfl) rfl ?_
        refine ux_iadd (dg hd_Mo_move 36 rfl) ?_
        refine ux_iload (dg hd_Mo_move 37 rfl) rfl ?_
        refine ux_iadd (dg hd_Mo_move 38 rfl) ?_
        refine ux_aload_n (dg hd_Mo_move 39 rfl) rfl ?_
        refine ux_getr (q := 7) fcX7 7 (by decide) wk_780 rfl rfl (dg hd_Mo_move 40 rfl) ?_
        refine ux_bipush (24 : Int32) (dg hd_Mo_move 41 rfl) (by decide) ?_
        refine ux_iload_n (dg hd_Mo_move 42 rfl) rfl ?_
        refine ux_imul (dg hd_Mo_move 43 rfl) ?_
        refine ux_iload_n (dg hd_Mo_move 44 rfl) rfl ?_
        refine ux_iadd (dg hd_Mo_move 45 rfl) ?_
        refine ux_iload (dg hd_Mo_move 46 rfl) rfl ?_
        refine ux_iadd (dg hd_Mo_move 47 rfl) ?_
        refine ux_iald rfl (dg hd_Mo_move 48 rfl) ?_
        refine ux_iast rfl (dg hd_Mo_move 49 rfl) ?_
        refine ux_nas (fun σ6 => ?_)
        refine ux_iincN (1 : Int32) (fun y7 => [(7, .int y7), (8, .int y5), (0, .ref 0), (1, .int x1), (2, .int x2), (3, .int x3), (4, .int x4), (5, .int x5), (6, .int x6)]) (dg hd_Mo_move 50 rfl) rfl (by decide) (by decide) (fun _ => rfl) (fun y7 => ?_)
        refine ux_goto 28 (dg hd_Mo_move 51 rfl) (by decide) ?_
        refine ux_wk [(0, .ref 0), (1, .int x1), (2, .int x2), (3, .int x3), (4, .int x4), (5, .int x5), (6, .int x6), (7, .int y7)] [2, 3, 4, 5, 6, 7, 8, 0] rfl ?_
        exact ih x1 x2 x3 x4 x5 x6 y7 σ6
def Mo_move (p1 : Int32) (p2 : Int32) (p3 : Int32) (p4 : Int32) (p5 : Int32) (σ : St) : Option (Int32 × St) :=
  bnd (Mo_notMoved p1 p2 p3 p4 p5 σ) (fun r1 σ2 =>
  if r1 = (0 : Int32) then (
  Mo_move_L28 1000 p1 p2 p3 p4 p5 r1 (0 : Int32) σ2) else (
  bnd (Mo_error r1 σ2) (fun r8 σ9 =>
  some (r8, σ9))))
set_option maxRecDepth 100000 in
theorem sp_Mo_move (l : Launch) (p1 : Int32) (p2 : Int32) (p3 : Int32) (p4 : Int32) (p5 : Int32) (σ : St) : Spc l shM 5 md_Mo_move [.ref 0, .int p1, .int p2, .int p3, .int p4, .int p5] σ (Mo_move p1 p2 p3 p4 p5 σ) := by
  refine Spc_of_Ux [(0, .ref 0), (1, .int p1), (2, .int p2), (3, .int p3), (4, .int p4), (5, .int p5)] (by decide) rfl (Nat.le_of_ble_eq_true rfl) ?_
  unfold Mo_move
  refine ux_aload_n (dg hd_Mo_move 0 rfl) rfl ?_
  refine ux_iload_n (dg hd_Mo_move 1 rfl) rfl ?_
  refine ux_iload_n (dg hd_Mo_move 2 rfl) rfl ?_
  refine ux_iload_n (dg hd_Mo_move 3 rfl) rfl ?_
  refine ux_iload (dg hd_Mo_move 4 rfl) rfl ?_
  refine ux_iload (dg hd_Mo_move 5 rfl) rfl ?_
  refine ux_callVi (As := [.int p1, .int p2, .int p3, .int p4, .int p5]) (sp_Mo_notMoved l p1 p2 p3 p4 p5 _) (by omega) cv_Mo_notMoved wk_1207 rfl rfl rfl rfl rfl (Nat.le_of_ble_eq_true rfl) (dg hd_Mo_move 6 rfl) (fun r1 σ2 _ => ?_)
  refine ux_istore [(6, .int r1), (0, .ref 0), (1, .int p1), (2, .int p2), (3, .int p3), (4, .int p4), (5, .int p5)] (dg hd_Mo_move 7 rfl) (by decide) rfl ?_
  refine ux_iload (dg hd_Mo_move 8 rfl) rfl ?_
  refine ux_if_eq 25 (dg hd_Mo_move 9 rfl) (by decide) (fun _ => ?_) (fun _ => ?_)
  · refine ux_iconst (0 : Int32) (dg hd_Mo_move 14 rfl) (by decide) ?_
    refine ux_istore [(7, .int (0 : Int32)), (6, .int r1), (0, .ref 0), (1, .int p1), (2, .int p2), (3, .int p3), (4, .int p4), (5, .int p5)] (dg hd_Mo_move 15 rfl) (by decide) rfl ?_
    refine ux_wk [(0, .ref 0), (1, .int p1), (2, .int p2), (3, .int p3), (4, .int p4), (5, .int p5), (6, .int r1), (7, .int (0 : Int32))] [2, 3, 4, 5, 6, 7, 1, 0] rfl ?_
    exact wk_Mo_move_L28 l 1000 p1 p2 p3 p4 p5 r1 (0 : Int32) σ2
  · refine ux_aload_n (dg hd_Mo_move 10 rfl) rfl ?_
    refine ux_iload (dg hd_Mo_move 11 rfl) rfl ?_
    refine ux_callVi (As := [.int r1]) (sp_Mo_error l r1 _) (by omega) cv_Mo_error wk_848 rfl rfl rfl rfl rfl (Nat.le_of_ble_eq_true rfl) (dg hd_Mo_move 12 rfl) (fun r8 σ9 _ => ?_)
    exact ux_iret rfl (dg hd_Mo_move 13 rfl)
def Mo_breaths_L18 : Nat → Int32 → Int32 → Int32 → St → Option (Int32 × St)
  | 0, _, _, _, _ => none
  | n + 1, x1, x2, x3, σ =>
    grd (inb x1 4) (
    if (σ.2 6 x1.toNatClampNeg) ≤ x3 then (
    some (x3, σ)) else (
    grd (inb (2 : Int32) 366) (
    if (σ.2 1 (2 : Int32).toNatClampNeg) ≤ x3 then (
    some (x3, σ)) else (
    grd (inb (((24 : Int32) * x1) + x3) 96) (
    bnd (Mo_in (σ.2 7 (((24 : Int32) * x1) + x3).toNatClampNeg) (0 : Int32) (99 : Int32) σ) (fun r3 σ4 =>
    if r3 = (0 : Int32) then (
    some (x3, σ4)) else (
    grd (inb (((24 : Int32) * x1) + x3) 96) (
    bnd (Mo_lets x3 (2 : Int32) (σ4.2 7 (((24 : Int32) * x1) + x3).toNatClampNeg) σ4) (fun r5 σ6 =>
    nam (x3 + (1 : Int32)) (fun y7 =>
    Mo_breaths_L18 n x1 x2 y7 σ6))))))))))
set_option maxRecDepth 100000 in
theorem wk_Mo_breaths_L18 (l : Launch) : ∀ (n : Nat) (x1 x2 x3 : Int32) (σ : St), Ux l shM 5 md_Mo_breaths 18 [(0, .ref 0), (1, .int x1), (2, .int x2), (3, .int x3)] [] σ (Mo_breaths_L18 n x1 x2 x3 σ) := by
  intro n
  induction n with
  | zero => intros; exact ux_none
  | succ n ih =>
    intro x1 x2 x3 σ
    unfold Mo_breaths_L18
    refine ux_iload_n (dg hd_Mo_breaths 12 rfl) rfl ?_
    refine ux_aload_n (dg hd_Mo_breaths 13 rfl) rfl ?_
    refine ux_getr (q := 6) fcX7 6 (by decide) wk_779 rfl rfl (dg hd_Mo_breaths 14 rfl) ?_
    refine ux_iload_n (dg hd_Mo_breaths 15 rfl) rfl ?_
    refine ux_iald rfl (dg hd_Mo_breaths 16 rfl) ?_
    refine ux_icmp_ge 81 (dg hd_Mo_breaths 17 rfl) (by decide) (fun _ => ?_) (fun _ => ?_)
    · refine ux_iload_n (dg hd_Mo_breaths 50 rfl) rfl ?_
      exact ux_iret rfl (dg hd_Mo_breaths 51 rfl)
    · refine ux_iload_n (dg hd_Mo_breaths 18 rfl) rfl ?_
      refine ux_aload_n (dg hd_Mo_breaths 19 rfl) rfl ?_
      refine ux_getr (q := 1) fcX7 0 (by decide) wk_773 rfl rfl (dg hd_Mo_breaths 20 rfl) ?_
      refine ux_iconst (2 : Int32) (dg hd_Mo_breaths 21 rfl) (by decide) ?_
      refine ux_iald rfl (dg hd_Mo_breaths 22 rfl) ?_
      refine ux_icmp_ge 81 (dg hd_Mo_breaths 23 rfl) (by decide) (fun _ => ?_) (fun _ => ?_)
      · refine ux_iload_n (dg hd_Mo_breaths 50 rfl) rfl ?_
        exact ux_iret rfl (dg hd_Mo_breaths 51 rfl)
      · refine ux_aload_n (dg hd_Mo_breaths 24 rfl) rfl ?_
        refine ux_getr (q := 7) fcX7 7 (by decide) wk_780 rfl rfl (dg hd_Mo_breaths 25 rfl) ?_
        refine ux_bipush (24 : Int32) (dg hd_Mo_breaths 26 rfl) (by decide) ?_
        refine ux_iload_n (dg hd_Mo_breaths 27 rfl) rfl ?_
        refine ux_imul (dg hd_Mo_breaths 28 rfl) ?_
        refine ux_iload_n (dg hd_Mo_breaths 29 rfl) rfl ?_
        refine ux_iadd (dg hd_Mo_breaths 30 rfl) ?_
        refine ux_iald rfl (dg hd_Mo_breaths 31 rfl) ?_
        refine ux_iconst (0 : Int32) (dg hd_Mo_breaths 32 rfl) (by decide) ?_
        refine ux_bipush (99 : Int32) (dg hd_Mo_breaths 33 rfl) (by decide) ?_
        refine ux_callSi (As := [.int (σ.2 7 (((24 : Int32) * x1) + x3).toNatClampNeg), .int (0 : Int32), .int (99 : Int32)]) (sp_Mo_in l (σ.2 7 (((24 : Int32) * x1) + x3).toNatClampNeg) (0 : Int32) (99 : Int32) _) (by omega) cs_Mo_in wk_844 rfl rfl (Nat.le_of_ble_eq_true rfl) (dg hd_Mo_breaths 34 rfl) (fun r3 σ4 _ => ?_)
        refine ux_if_eq 81 (dg hd_Mo_breaths 35 rfl) (by decide) (fun _ => ?_) (fun _ => ?_)
        · refine ux_iload_n (dg hd_Mo_breaths 50 rfl) rfl ?_
          exact ux_iret rfl (dg hd_Mo_breaths 51 rfl)
        · refine ux_aload_n (dg hd_Mo_breaths 36 rfl) rfl ?_
          refine ux_iload_n (dg hd_Mo_breaths 37 rfl) rfl ?_
          refine ux_iconst (2 : Int32) (dg hd_Mo_breaths 38 rfl) (by decide) ?_
          refine ux_aload_n (dg hd_Mo_breaths 39 rfl) rfl ?_
          refine ux_getr (q := 7) fcX7 7 (by decide) wk_780 rfl rfl (dg hd_Mo_breaths 40 rfl) ?_
          refine ux_bipush (24 : Int32) (dg hd_Mo_breaths 41 rfl) (by decide) ?_
          refine ux_iload_n (dg hd_Mo_breaths 42 rfl) rfl ?_
          refine ux_imul (dg hd_Mo_breaths 43 rfl) ?_
          refine ux_iload_n (dg hd_Mo_breaths 44 rfl) rfl ?_
          refine ux_iadd (dg hd_Mo_breaths 45 rfl) ?_
          refine ux_iald rfl (dg hd_Mo_breaths 46 rfl) ?_
          refine ux_callVv (As := [.int x3, .int (2 : Int32), .int (σ4.2 7 (((24 : Int32) * x1) + x3).toNatClampNeg)]) (sp_Mo_lets l x3 (2 : Int32) (σ4.2 7 (((24 : Int32) * x1) + x3).toNatClampNeg) _) (by omega) cv_Mo_lets wk_854 rfl rfl rfl rfl rfl (Nat.le_of_ble_eq_true rfl) (dg hd_Mo_breaths 47 rfl) (fun r5 σ6 _ => ?_)
          refine ux_iincN (1 : Int32) (fun y7 => [(3, .int y7), (0, .ref 0), (1, .int x1), (2, .int x2)]) (dg hd_Mo_breaths 48 rfl) rfl (by decide) (by decide) (fun _ => rfl) (fun y7 => ?_)
          refine ux_goto 18 (dg hd_Mo_breaths 49 rfl) (by decide) ?_
          refine ux_wk [(0, .ref 0), (1, .int x1), (2, .int x2), (3, .int y7)] [1, 2, 3, 0] rfl ?_
          exact ih x1 x2 y7 σ6
def Mo_breaths (p1 : Int32) (σ : St) : Option (Int32 × St) :=
  bnd (Mo_notThere p1 σ) (fun r1 σ2 =>
  if r1 = (0 : Int32) then (
  Mo_breaths_L18 1000 p1 r1 (0 : Int32) σ2) else (
  bnd (Mo_error r1 σ2) (fun r8 σ9 =>
  some (r8, σ9))))
set_option maxRecDepth 100000 in
theorem sp_Mo_breaths (l : Launch) (p1 : Int32) (σ : St) : Spc l shM 5 md_Mo_breaths [.ref 0, .int p1] σ (Mo_breaths p1 σ) := by
  refine Spc_of_Ux [(0, .ref 0), (1, .int p1)] (by decide) rfl (Nat.le_of_ble_eq_true rfl) ?_
  unfold Mo_breaths
  refine ux_aload_n (dg hd_Mo_breaths 0 rfl) rfl ?_
  refine ux_iload_n (dg hd_Mo_breaths 1 rfl) rfl ?_
  refine ux_callVi (As := [.int p1]) (sp_Mo_notThere l p1 _) (by omega) cv_Mo_notThere wk_1131 rfl rfl rfl rfl rfl (Nat.le_of_ble_eq_true rfl) (dg hd_Mo_breaths 2 rfl) (fun r1 σ2 _ => ?_)
  refine ux_istore_n [(2, .int r1), (0, .ref 0), (1, .int p1)] (dg hd_Mo_breaths 3 rfl) (by decide) rfl ?_
  refine ux_iload_n (dg hd_Mo_breaths 4 rfl) rfl ?_
  refine ux_if_eq 16 (dg hd_Mo_breaths 5 rfl) (by decide) (fun _ => ?_) (fun _ => ?_)
  · refine ux_iconst (0 : Int32) (dg hd_Mo_breaths 10 rfl) (by decide) ?_
    refine ux_istore_n [(3, .int (0 : Int32)), (2, .int r1), (0, .ref 0), (1, .int p1)] (dg hd_Mo_breaths 11 rfl) (by decide) rfl ?_
    refine ux_wk [(0, .ref 0), (1, .int p1), (2, .int r1), (3, .int (0 : Int32))] [2, 3, 1, 0] rfl ?_
    exact wk_Mo_breaths_L18 l 1000 p1 r1 (0 : Int32) σ2
  · refine ux_aload_n (dg hd_Mo_breaths 6 rfl) rfl ?_
    refine ux_iload_n (dg hd_Mo_breaths 7 rfl) rfl ?_
    refine ux_callVi (As := [.int r1]) (sp_Mo_error l r1 _) (by omega) cv_Mo_error wk_848 rfl rfl rfl rfl rfl (Nat.le_of_ble_eq_true rfl) (dg hd_Mo_breaths 8 rfl) (fun r8 σ9 _ => ?_)
    exact ux_iret rfl (dg hd_Mo_breaths 9 rfl)
def Mo_judge_L18 : Nat → Int32 → Int32 → Int32 → St → Option (Int32 × St)
  | 0, _, _, _, _ => none
  | n + 1, x1, x2, x3, σ =>
    grd (inb x1 4) (
    if (σ.2 6 x1.toNatClampNeg) ≤ x3 then (
    some (x3, σ)) else (
    grd (inb (2 : Int32) 366) (
    if (σ.2 1 (2 : Int32).toNatClampNeg) ≤ x3 then (
    some (x3, σ)) else (
    grd (inb (((24 : Int32) * x1) + x3) 96) (
    bnd (Mo_costsOf x3 σ) (fun r3 σ4 =>
    if (σ.2 7 (((24 : Int32) * x1) + x3).toNatClampNeg) = r3 then (
    nam (x3 + (1 : Int32)) (fun y5 =>
    Mo_judge_L18 n x1 x2 y5 σ4)) else (
    some (x3, σ4))))))))
set_option maxRecDepth 100000 in
theorem wk_Mo_judge_L18 (l : Launch) : ∀ (n : Nat) (x1 x2 x3 : Int32) (σ : St), Ux l shM 7 md_Mo_judge 18 [(0, .ref 0), (1, .int x1), (2, .int x2), (3, .int x3)] [] σ (Mo_judge_L18 n x1 x2 x3 σ) := by
  intro n
  induction n with
  | zero => intros; exact ux_none
  | succ n ih =>
    intro x1 x2 x3 σ
    unfold Mo_judge_L18
    refine ux_iload_n (dg hd_Mo_judge 12 rfl) rfl ?_
    refine ux_aload_n (dg hd_Mo_judge 13 rfl) rfl ?_
    refine ux_getr (q := 6) fcX7 6 (by decide) wk_779 rfl rfl (dg hd_Mo_judge 14 rfl) ?_
    refine ux_iload_n (dg hd_Mo_judge 15 rfl) rfl ?_
    refine ux_iald rfl (dg hd_Mo_judge 16 rfl) ?_
    refine ux_icmp_ge 63 (dg hd_Mo_judge 17 rfl) (by decide) (fun _ => ?_) (fun _ => ?_)
    · refine ux_iload_n (dg hd_Mo_judge 38 rfl) rfl ?_
      exact ux_iret rfl (dg hd_Mo_judge 39 rfl)
    · refine ux_iload_n (dg hd_Mo_judge 18 rfl) rfl ?_
      refine ux_aload_n (dg hd_Mo_judge 19 rfl) rfl ?_
      refine ux_getr (q := 1) fcX7 0 (by decide) wk_773 rfl rfl (dg hd_Mo_judge 20 rfl) ?_
      refine ux_iconst (2 : Int32) (dg hd_Mo_judge 21 rfl) (by decide) ?_
      refine ux_iald rfl (dg hd_Mo_judge 22 rfl) ?_
      refine ux_icmp_ge 63 (dg hd_Mo_judge 23 rfl) (by decide) (fun _ => ?_) (fun _ => ?_)
      · refine ux_iload_n (dg hd_Mo_judge 38 rfl) rfl ?_
        exact ux_iret rfl (dg hd_Mo_judge 39 rfl)
      · refine ux_aload_n (dg hd_Mo_judge 24 rfl) rfl ?_
        refine ux_getr (q := 7) fcX7 7 (by decide) wk_780 rfl rfl (dg hd_Mo_judge 25 rfl) ?_
        refine ux_bipush (24 : Int32) (dg hd_Mo_judge 26 rfl) (by decide) ?_
        refine ux_iload_n (dg hd_Mo_judge 27 rfl) rfl ?_
        refine ux_imul (dg hd_Mo_judge 28 rfl) ?_
        refine ux_iload_n (dg hd_Mo_judge 29 rfl) rfl ?_
        refine ux_iadd (dg hd_Mo_judge 30 rfl) ?_
        refine ux_iald rfl (dg hd_Mo_judge 31 rfl) ?_
        refine ux_aload_n (dg hd_Mo_judge 32 rfl) rfl ?_
        refine ux_iload_n (dg hd_Mo_judge 33 rfl) rfl ?_
        refine ux_callVi (As := [.int x3]) (sp_Mo_costsOf l x3 _) (by omega) cv_Mo_costsOf wk_870 rfl rfl rfl rfl rfl (Nat.le_of_ble_eq_true rfl) (dg hd_Mo_judge 34 rfl) (fun r3 σ4 _ => ?_)
        refine ux_icmp_ne 63 (dg hd_Mo_judge 35 rfl) (by decide) (fun _ => ?_) (fun _ => ?_)
        · refine ux_iincN (1 : Int32) (fun y5 => [(3, .int y5), (0, .ref 0), (1, .int x1), (2, .int x2)]) (dg hd_Mo_judge 36 rfl) rfl (by decide) (by decide) (fun _ => rfl) (fun y5 => ?_)
          refine ux_goto 18 (dg hd_Mo_judge 37 rfl) (by decide) ?_
          refine ux_wk [(0, .ref 0), (1, .int x1), (2, .int x2), (3, .int y5)] [1, 2, 3, 0] rfl ?_
          exact ih x1 x2 y5 σ4
        · refine ux_iload_n (dg hd_Mo_judge 38 rfl) rfl ?_
          exact ux_iret rfl (dg hd_Mo_judge 39 rfl)
def Mo_judge (p1 : Int32) (σ : St) : Option (Int32 × St) :=
  bnd (Mo_notThere p1 σ) (fun r1 σ2 =>
  if r1 = (0 : Int32) then (
  Mo_judge_L18 1000 p1 r1 (0 : Int32) σ2) else (
  bnd (Mo_error r1 σ2) (fun r6 σ7 =>
  some (r6, σ7))))
set_option maxRecDepth 100000 in
theorem sp_Mo_judge (l : Launch) (p1 : Int32) (σ : St) : Spc l shM 7 md_Mo_judge [.ref 0, .int p1] σ (Mo_judge p1 σ) := by
  refine Spc_of_Ux [(0, .ref 0), (1, .int p1)] (by decide) rfl (Nat.le_of_ble_eq_true rfl) ?_
  unfold Mo_judge
  refine ux_aload_n (dg hd_Mo_judge 0 rfl) rfl ?_
  refine ux_iload_n (dg hd_Mo_judge 1 rfl) rfl ?_
  refine ux_callVi (As := [.int p1]) (sp_Mo_notThere l p1 _) (by omega) cv_Mo_notThere wk_1131 rfl rfl rfl rfl rfl (Nat.le_of_ble_eq_true rfl) (dg hd_Mo_judge 2 rfl) (fun r1 σ2 _ => ?_)
  refine ux_istore_n [(2, .int r1), (0, .ref 0), (1, .int p1)] (dg hd_Mo_judge 3 rfl) (by decide) rfl ?_
  refine ux_iload_n (dg hd_Mo_judge 4 rfl) rfl ?_
  refine ux_if_eq 16 (dg hd_Mo_judge 5 rfl) (by decide) (fun _ => ?_) (fun _ => ?_)
  · refine ux_iconst (0 : Int32) (dg hd_Mo_judge 10 rfl) (by decide) ?_
    refine ux_istore_n [(3, .int (0 : Int32)), (2, .int r1), (0, .ref 0), (1, .int p1)] (dg hd_Mo_judge 11 rfl) (by decide) rfl ?_
    refine ux_wk [(0, .ref 0), (1, .int p1), (2, .int r1), (3, .int (0 : Int32))] [2, 3, 1, 0] rfl ?_
    exact wk_Mo_judge_L18 l 1000 p1 r1 (0 : Int32) σ2
  · refine ux_aload_n (dg hd_Mo_judge 6 rfl) rfl ?_
    refine ux_iload_n (dg hd_Mo_judge 7 rfl) rfl ?_
    refine ux_callVi (As := [.int r1]) (sp_Mo_error l r1 _) (by omega) cv_Mo_error wk_848 rfl rfl rfl rfl rfl (Nat.le_of_ble_eq_true rfl) (dg hd_Mo_judge 8 rfl) (fun r6 σ7 _ => ?_)
    exact ux_iret rfl (dg hd_Mo_judge 9 rfl)
def Mo_image  (σ : St) : Option (Int32 × St) :=
  bnd (Mo_copyAll 1 2 σ) (fun r1 σ2 =>
  nas (sF σ2 0 3 ((σ2.1 0 3) + (1 : Int32))) (fun σ3 =>
  some ((σ3.1 0 3), σ3)))
set_option maxRecDepth 100000 in
theorem sp_Mo_image (l : Launch) (σ : St) : Spc l shM 3 md_Mo_image [.ref 0] σ (Mo_image  σ) := by
  refine Spc_of_Ux [(0, .ref 0)] (by decide) rfl (Nat.le_of_ble_eq_true rfl) ?_
  unfold Mo_image
  refine ux_aload_n (dg hd_Mo_image 0 rfl) rfl ?_
  refine ux_getr (q := 1) fcX7 0 (by decide) wk_773 rfl rfl (dg hd_Mo_image 1 rfl) ?_
  refine ux_aload_n (dg hd_Mo_image 2 rfl) rfl ?_
  refine ux_getr (q := 2) fcX7 1 (by decide) wk_774 rfl rfl (dg hd_Mo_image 3 rfl) ?_
  refine ux_callSv (As := [.ref 1, .ref 2]) (sp_Mo_copyAll l rfl rfl  _) (by omega) cs_Mo_copyAll wk_1075 rfl rfl (Nat.le_of_ble_eq_true rfl) (dg hd_Mo_image 4 rfl) (fun r1 σ2 _ => ?_)
  refine ux_aload_n (dg hd_Mo_image 5 rfl) rfl ?_
  refine ux_dupr (dg hd_Mo_image 6 rfl) ?_
  refine ux_get fcX7 3 (by decide) wk_776 rfl rfl (dg hd_Mo_image 7 rfl) ?_
  refine ux_iconst (1 : Int32) (dg hd_Mo_image 8 rfl) (by decide) ?_
  refine ux_iadd (dg hd_Mo_image 9 rfl) ?_
  refine ux_put fcX7 3 (by decide) wk_776 rfl rfl ⟨rfl, rfl⟩ rfl rfl (dg hd_Mo_image 10 rfl) ?_
  refine ux_nas (fun σ3 => ?_)
  refine ux_aload_n (dg hd_Mo_image 11 rfl) rfl ?_
  refine ux_get fcX7 3 (by decide) wk_776 rfl rfl (dg hd_Mo_image 12 rfl) ?_
  exact ux_iret rfl (dg hd_Mo_image 13 rfl)
def Mo_restore  (σ : St) : Option (Int32 × St) :=
  if (σ.1 0 3) = (0 : Int32) then (
  bnd (Mo_error (-1000000002 : Int32) σ) (fun r3 σ4 =>
  some (r3, σ4))) else (
  bnd (Mo_copyAll 2 1 σ) (fun r1 σ2 =>
  grd (inb (0 : Int32) 366) (
  some ((σ2.2 1 (0 : Int32).toNatClampNeg), σ2))))
set_option maxRecDepth 100000 in
theorem sp_Mo_restore (l : Launch) (σ : St) : Spc l shM 3 md_Mo_restore [.ref 0] σ (Mo_restore  σ) := by
  refine Spc_of_Ux [(0, .ref 0)] (by decide) rfl (Nat.le_of_ble_eq_true rfl) ?_
  unfold Mo_restore
  refine ux_aload_n (dg hd_Mo_restore 0 rfl) rfl ?_
  refine ux_get fcX7 3 (by decide) wk_776 rfl rfl (dg hd_Mo_restore 1 rfl) ?_
  refine ux_if_ne 14 (dg hd_Mo_restore 2 rfl) (by decide) (fun _ => ?_) (fun _ => ?_)
  · refine ux_aload_n (dg hd_Mo_restore 3 rfl) rfl ?_
    refine ux_ldc (-1000000002 : Int32) wk_1090 (dg hd_Mo_restore 4 rfl) ?_
    refine ux_callVi (As := [.int (-1000000002 : Int32)]) (sp_Mo_error l (-1000000002 : Int32) _) (by omega) cv_Mo_error wk_848 rfl rfl rfl rfl rfl (Nat.le_of_ble_eq_true rfl) (dg hd_Mo_restore 5 rfl) (fun r3 σ4 _ => ?_)
    exact ux_iret rfl (dg hd_Mo_restore 6 rfl)
  · refine ux_aload_n (dg hd_Mo_restore 7 rfl) rfl ?_
    refine ux_getr (q := 2) fcX7 1 (by decide) wk_774 rfl rfl (dg hd_Mo_restore 8 rfl) ?_
    refine ux_aload_n (dg hd_Mo_restore 9 rfl) rfl ?_
    refine ux_getr (q := 1) fcX7 0 (by decide) wk_773 rfl rfl (dg hd_Mo_restore 10 rfl) ?_
    refine ux_callSv (As := [.ref 2, .ref 1]) (sp_Mo_copyAll l rfl rfl  _) (by omega) cs_Mo_copyAll wk_1075 rfl rfl (Nat.le_of_ble_eq_true rfl) (dg hd_Mo_restore 11 rfl) (fun r1 σ2 _ => ?_)
    refine ux_aload_n (dg hd_Mo_restore 12 rfl) rfl ?_
    refine ux_getr (q := 1) fcX7 0 (by decide) wk_773 rfl rfl (dg hd_Mo_restore 13 rfl) ?_
    refine ux_iconst (0 : Int32) (dg hd_Mo_restore 14 rfl) (by decide) ?_
    refine ux_iald rfl (dg hd_Mo_restore 15 rfl) ?_
    exact ux_iret rfl (dg hd_Mo_restore 16 rfl)
def Mo_tell (p1 : Int32) (σ : St) : Option (Int32 × St) :=
  grd (inb (9 : Int32) 366) (
  if (σ.2 1 (9 : Int32).toNatClampNeg) = (24 : Int32) then (
  bnd (Mo_error (-1000000004 : Int32) σ) (fun r3 σ4 =>
  some (r3, σ4))) else (
  grd (inb (9 : Int32) 366) (
  grd (inb ((100 : Int32) + (σ.2 1 (9 : Int32).toNatClampNeg)) 366) (
  nas (sA σ 1 ((100 : Int32) + (σ.2 1 (9 : Int32).toNatClampNeg)).toNatClampNeg p1) (fun σ1 =>
  grd (inb (9 : Int32) 366) (
  grd (inb (9 : Int32) 366) (
  nas (sA σ1 1 (9 : Int32).toNatClampNeg ((σ1.2 1 (9 : Int32).toNatClampNeg) + (1 : Int32))) (fun σ2 =>
  grd (inb (9 : Int32) 366) (
  some ((σ2.2 1 (9 : Int32).toNatClampNeg), σ2))))))))))
set_option maxRecDepth 100000 in
theorem sp_Mo_tell (l : Launch) (p1 : Int32) (σ : St) : Spc l shM 3 md_Mo_tell [.ref 0, .int p1] σ (Mo_tell p1 σ) := by
  refine Spc_of_Ux [(0, .ref 0), (1, .int p1)] (by decide) rfl (Nat.le_of_ble_eq_true rfl) ?_
  unfold Mo_tell
  refine ux_aload_n (dg hd_Mo_tell 0 rfl) rfl ?_
  refine ux_getr (q := 1) fcX7 0 (by decide) wk_773 rfl rfl (dg hd_Mo_tell 1 rfl) ?_
  refine ux_bipush (9 : Int32) (dg hd_Mo_tell 2 rfl) (by decide) ?_
  refine ux_iald rfl (dg hd_Mo_tell 3 rfl) ?_
  refine ux_bipush (24 : Int32) (dg hd_Mo_tell 4 rfl) (by decide) ?_
  refine ux_icmp_ne 19 (dg hd_Mo_tell 5 rfl) (by decide) (fun _ => ?_) (fun _ => ?_)
  · refine ux_aload_n (dg hd_Mo_tell 6 rfl) rfl ?_
    refine ux_ldc (-1000000004 : Int32) wk_853 (dg hd_Mo_tell 7 rfl) ?_
    refine ux_callVi (As := [.int (-1000000004 : Int32)]) (sp_Mo_error l (-1000000004 : Int32) _) (by omega) cv_Mo_error wk_848 rfl rfl rfl rfl rfl (Nat.le_of_ble_eq_true rfl) (dg hd_Mo_tell 8 rfl) (fun r3 σ4 _ => ?_)
    exact ux_iret rfl (dg hd_Mo_tell 9 rfl)
  · refine ux_aload_n (dg hd_Mo_tell 10 rfl) rfl ?_
    refine ux_getr (q := 1) fcX7 0 (by decide) wk_773 rfl rfl (dg hd_Mo_tell 11 rfl) ?_
    refine ux_bipush (100 : Int32) (dg hd_Mo_tell 12 rfl) (by decide) ?_
    refine ux_aload_n (dg hd_Mo_tell 13 rfl) rfl ?_
    refine ux_getr (q := 1) fcX7 0 (by decide) wk_773 rfl rfl (dg hd_Mo_tell 14 rfl) ?_
    refine ux_bipush (9 : Int32) (dg hd_Mo_tell 15 rfl) (by decide) ?_
    refine ux_iald rfl (dg hd_Mo_tell 16 rfl) ?_
    refine ux_iadd (dg hd_Mo_tell 17 rfl) ?_
    refine ux_iload_n (dg hd_Mo_tell 18 rfl) rfl ?_
    refine ux_iast rfl (dg hd_Mo_tell 19 rfl) ?_
    refine ux_nas (fun σ1 => ?_)
    refine ux_aload_n (dg hd_Mo_tell 20 rfl) rfl ?_
    refine ux_getr (q := 1) fcX7 0 (by decide) wk_773 rfl rfl (dg hd_Mo_tell 21 rfl) ?_
    refine ux_bipush (9 : Int32) (dg hd_Mo_tell 22 rfl) (by decide) ?_
    refine ux_dup2 (dg hd_Mo_tell 23 rfl) ?_
    refine ux_iald rfl (dg hd_Mo_tell 24 rfl) ?_
    refine ux_iconst (1 : Int32) (dg hd_Mo_tell 25 rfl) (by decide) ?_
    refine ux_iadd (dg hd_Mo_tell 26 rfl) ?_
    refine ux_iast rfl (dg hd_Mo_tell 27 rfl) ?_
    refine ux_nas (fun σ2 => ?_)
    refine ux_aload_n (dg hd_Mo_tell 28 rfl) rfl ?_
    refine ux_getr (q := 1) fcX7 0 (by decide) wk_773 rfl rfl (dg hd_Mo_tell 29 rfl) ?_
    refine ux_bipush (9 : Int32) (dg hd_Mo_tell 30 rfl) (by decide) ?_
    refine ux_iald rfl (dg hd_Mo_tell 31 rfl) ?_
    exact ux_iret rfl (dg hd_Mo_tell 32 rfl)
def Mo_check_L18 : Nat → Int32 → Int32 → St → Option (Int32 × St)
  | 0, _, _, _ => none
  | n + 1, x1, x2, σ =>
    if x1 ≤ x2 then (
    some ((0 : Int32), σ)) else (
    bnd (Mo_isJumper x2 σ) (fun r3 σ4 =>
    if r3 = (0 : Int32) then (
    some (((1 : Int32) + x2), σ4)) else (
    grd (inb ((100 : Int32) + x2) 366) (
    bnd (Mo_of x2 (2 : Int32) σ4) (fun r5 σ6 =>
    if (σ4.2 1 ((100 : Int32) + x2).toNatClampNeg) = r5 then (
    nam (x2 + (1 : Int32)) (fun y7 =>
    Mo_check_L18 n x1 y7 σ6)) else (
    some (((1 : Int32) + x2), σ6)))))))
set_option maxRecDepth 100000 in
theorem wk_Mo_check_L18 (l : Launch) : ∀ (n : Nat) (x1 x2 : Int32) (σ : St), Ux l shM 4 md_Mo_check 18 [(0, .ref 0), (1, .int x1), (2, .int x2)] [] σ (Mo_check_L18 n x1 x2 σ) := by
  intro n
  induction n with
  | zero => intros; exact ux_none
  | succ n ih =>
    intro x1 x2 σ
    unfold Mo_check_L18
    refine ux_iload_n (dg hd_Mo_check 12 rfl) rfl ?_
    refine ux_iload_n (dg hd_Mo_check 13 rfl) rfl ?_
    refine ux_icmp_ge 59 (dg hd_Mo_check 14 rfl) (by decide) (fun _ => ?_) (fun _ => ?_)
    · refine ux_iconst (0 : Int32) (dg hd_Mo_check 36 rfl) (by decide) ?_
      exact ux_iret rfl (dg hd_Mo_check 37 rfl)
    · refine ux_aload_n (dg hd_Mo_check 15 rfl) rfl ?_
      refine ux_iload_n (dg hd_Mo_check 16 rfl) rfl ?_
      refine ux_callVi (As := [.int x2]) (sp_Mo_isJumper l x2 _) (by omega) cv_Mo_isJumper wk_862 rfl rfl rfl rfl rfl (Nat.le_of_ble_eq_true rfl) (dg hd_Mo_check 17 rfl) (fun r3 σ4 _ => ?_)
      refine ux_if_eq 49 (dg hd_Mo_check 18 rfl) (by decide) (fun _ => ?_) (fun _ => ?_)
      · refine ux_iconst (1 : Int32) (dg hd_Mo_check 30 rfl) (by decide) ?_
        refine ux_iload_n (dg hd_Mo_check 31 rfl) rfl ?_
        refine ux_iadd (dg hd_Mo_check 32 rfl) ?_
        exact ux_iret rfl (dg hd_Mo_check 33 rfl)
      · refine ux_aload_n (dg hd_Mo_check 19 rfl) rfl ?_
        refine ux_getr (q := 1) fcX7 0 (by decide) wk_773 rfl rfl (dg hd_Mo_check 20 rfl) ?_
        refine ux_bipush (100 : Int32) (dg hd_Mo_check 21 rfl) (by decide) ?_
        refine ux_iload_n (dg hd_Mo_check 22 rfl) rfl ?_
        refine ux_iadd (dg hd_Mo_check 23 rfl) ?_
        refine ux_iald rfl (dg hd_Mo_check 24 rfl) ?_
        refine ux_aload_n (dg hd_Mo_check 25 rfl) rfl ?_
        refine ux_iload_n (dg hd_Mo_check 26 rfl) rfl ?_
        refine ux_iconst (2 : Int32) (dg hd_Mo_check 27 rfl) (by decide) ?_
        refine ux_callVi (As := [.int x2, .int (2 : Int32)]) (sp_Mo_of l x2 (2 : Int32) _) (by omega) cv_Mo_of wk_866 rfl rfl rfl rfl rfl (Nat.le_of_ble_eq_true rfl) (dg hd_Mo_check 28 rfl) (fun r5 σ6 _ => ?_)
        refine ux_icmp_eq 53 (dg hd_Mo_check 29 rfl) (by decide) (fun _ => ?_) (fun _ => ?_)
        · refine ux_iincN (1 : Int32) (fun y7 => [(2, .int y7), (0, .ref 0), (1, .int x1)]) (dg hd_Mo_check 34 rfl) rfl (by decide) (by decide) (fun _ => rfl) (fun y7 => ?_)
          refine ux_goto 18 (dg hd_Mo_check 35 rfl) (by decide) ?_
          refine ux_wk [(0, .ref 0), (1, .int x1), (2, .int y7)] [1, 2, 0] rfl ?_
          exact ih x1 y7 σ6
        · refine ux_iconst (1 : Int32) (dg hd_Mo_check 30 rfl) (by decide) ?_
          refine ux_iload_n (dg hd_Mo_check 31 rfl) rfl ?_
          refine ux_iadd (dg hd_Mo_check 32 rfl) ?_
          exact ux_iret rfl (dg hd_Mo_check 33 rfl)
def Mo_check  (σ : St) : Option (Int32 × St) :=
  grd (inb (9 : Int32) 366) (
  nam (σ.2 1 (9 : Int32).toNatClampNeg) (fun y1 =>
  grd (inb (9 : Int32) 366) (
  nas (sA σ 1 (9 : Int32).toNatClampNeg (0 : Int32)) (fun σ2 =>
  Mo_check_L18 1000 y1 (0 : Int32) σ2))))
set_option maxRecDepth 100000 in
theorem sp_Mo_check (l : Launch) (σ : St) : Spc l shM 4 md_Mo_check [.ref 0] σ (Mo_check  σ) := by
  refine Spc_of_Ux [(0, .ref 0)] (by decide) rfl (Nat.le_of_ble_eq_true rfl) ?_
  unfold Mo_check
  refine ux_aload_n (dg hd_Mo_check 0 rfl) rfl ?_
  refine ux_getr (q := 1) fcX7 0 (by decide) wk_773 rfl rfl (dg hd_Mo_check 1 rfl) ?_
  refine ux_bipush (9 : Int32) (dg hd_Mo_check 2 rfl) (by decide) ?_
  refine ux_iald rfl (dg hd_Mo_check 3 rfl) ?_
  refine ux_nam (fun y1 => ?_)
  refine ux_istore_n [(1, .int y1), (0, .ref 0)] (dg hd_Mo_check 4 rfl) (by decide) rfl ?_
  refine ux_aload_n (dg hd_Mo_check 5 rfl) rfl ?_
  refine ux_getr (q := 1) fcX7 0 (by decide) wk_773 rfl rfl (dg hd_Mo_check 6 rfl) ?_
  refine ux_bipush (9 : Int32) (dg hd_Mo_check 7 rfl) (by decide) ?_
  refine ux_iconst (0 : Int32) (dg hd_Mo_check 8 rfl) (by decide) ?_
  refine ux_iast rfl (dg hd_Mo_check 9 rfl) ?_
  refine ux_nas (fun σ2 => ?_)
  refine ux_iconst (0 : Int32) (dg hd_Mo_check 10 rfl) (by decide) ?_
  refine ux_istore_n [(2, .int (0 : Int32)), (1, .int y1), (0, .ref 0)] (dg hd_Mo_check 11 rfl) (by decide) rfl ?_
  refine ux_wk [(0, .ref 0), (1, .int y1), (2, .int (0 : Int32))] [2, 1, 0] rfl ?_
  exact wk_Mo_check_L18 l 1000 y1 (0 : Int32) σ2
def Mo_count (p1 : Int32) (σ : St) : Option (Int32 × St) :=
  if p1 = (0 : Int32) then (
  grd (inb (2 : Int32) 366) (
  some ((σ.2 1 (2 : Int32).toNatClampNeg), σ))) else if p1 = (1 : Int32) then (
  bnd (Mo_allIn  σ) (fun r2 σ3 =>
  some (r2, σ3))) else if p1 = (2 : Int32) then (
  grd (inb (0 : Int32) 366) (
  some ((σ.2 1 (0 : Int32).toNatClampNeg), σ))) else if p1 = (3 : Int32) then (
  grd (inb (((3 : Int32) + p1) - (3 : Int32)) 366) (
  some ((σ.2 1 (((3 : Int32) + p1) - (3 : Int32)).toNatClampNeg), σ))) else if p1 = (4 : Int32) then (
  grd (inb (((3 : Int32) + p1) - (3 : Int32)) 366) (
  some ((σ.2 1 (((3 : Int32) + p1) - (3 : Int32)).toNatClampNeg), σ))) else if p1 = (5 : Int32) then (
  grd (inb (((3 : Int32) + p1) - (3 : Int32)) 366) (
  some ((σ.2 1 (((3 : Int32) + p1) - (3 : Int32)).toNatClampNeg), σ))) else if p1 = (6 : Int32) then (
  grd (inb (((3 : Int32) + p1) - (3 : Int32)) 366) (
  some ((σ.2 1 (((3 : Int32) + p1) - (3 : Int32)).toNatClampNeg), σ))) else if p1 = (7 : Int32) then (
  grd (inb (((3 : Int32) + p1) - (3 : Int32)) 366) (
  some ((σ.2 1 (((3 : Int32) + p1) - (3 : Int32)).toNatClampNeg), σ))) else if p1 = (8 : Int32) then (
  grd (inb (8 : Int32) 366) (
  some ((σ.2 1 (8 : Int32).toNatClampNeg), σ))) else if p1 = (9 : Int32) then (
  grd (inb (9 : Int32) 366) (
  some ((σ.2 1 (9 : Int32).toNatClampNeg), σ))) else if p1 = (10 : Int32) then (
  some ((σ.1 0 19), σ)) else if p1 = (11 : Int32) then (
  grd (inb (1 : Int32) 366) (
  some ((σ.2 1 (1 : Int32).toNatClampNeg), σ))) else (
  bnd (Mo_error (-1000000001 : Int32) σ) (fun r15 σ16 =>
  some (r15, σ16)))
set_option maxRecDepth 100000 in
theorem sp_Mo_count (l : Launch) (p1 : Int32) (σ : St) : Spc l shM 5 md_Mo_count [.ref 0, .int p1] σ (Mo_count p1 σ) := by
  refine Spc_of_Ux [(0, .ref 0), (1, .int p1)] (by decide) rfl (Nat.le_of_ble_eq_true rfl) ?_
  unfold Mo_count
  refine ux_iload_n (dg hd_Mo_count 0 rfl) rfl ?_
  refine ux_case (0 : Int32) (fun _ => ?_) (fun c1 => ?_)
  · refine ux_tabIn 64 (dg hd_Mo_count 1 rfl) (by decide) (by decide) rfl (by decide) ?_
    refine ux_aload_n (dg hd_Mo_count 2 rfl) rfl ?_
    refine ux_getr (q := 1) fcX7 0 (by decide) wk_773 rfl rfl (dg hd_Mo_count 3 rfl) ?_
    refine ux_iconst (2 : Int32) (dg hd_Mo_count 4 rfl) (by decide) ?_
    refine ux_iald rfl (dg hd_Mo_count 5 rfl) ?_
    exact ux_iret rfl (dg hd_Mo_count 6 rfl)
  refine ux_case (1 : Int32) (fun _ => ?_) (fun c4 => ?_)
  · refine ux_tabIn 71 (dg hd_Mo_count 1 rfl) (by decide) (by decide) rfl (by decide) ?_
    refine ux_aload_n (dg hd_Mo_count 7 rfl) rfl ?_
    refine ux_callVi (As := []) (sp_Mo_allIn l  _) (by omega) cv_Mo_allIn wk_882 rfl rfl rfl rfl rfl (Nat.le_of_ble_eq_true rfl) (dg hd_Mo_count 8 rfl) (fun r2 σ3 _ => ?_)
    exact ux_iret rfl (dg hd_Mo_count 9 rfl)
  refine ux_case (2 : Int32) (fun _ => ?_) (fun c5 => ?_)
  · refine ux_tabIn 76 (dg hd_Mo_count 1 rfl) (by decide) (by decide) rfl (by decide) ?_
    refine ux_aload_n (dg hd_Mo_count 10 rfl) rfl ?_
    refine ux_getr (q := 1) fcX7 0 (by decide) wk_773 rfl rfl (dg hd_Mo_count 11 rfl) ?_
    refine ux_iconst (0 : Int32) (dg hd_Mo_count 12 rfl) (by decide) ?_
    refine ux_iald rfl (dg hd_Mo_count 13 rfl) ?_
    exact ux_iret rfl (dg hd_Mo_count 14 rfl)
  refine ux_case (3 : Int32) (fun _ => ?_) (fun c6 => ?_)
  · refine ux_tabIn 83 (dg hd_Mo_count 1 rfl) (by decide) (by decide) rfl (by decide) ?_
    refine ux_aload_n (dg hd_Mo_count 15 rfl) rfl ?_
    refine ux_getr (q := 1) fcX7 0 (by decide) wk_773 rfl rfl (dg hd_Mo_count 16 rfl) ?_
    refine ux_iconst (3 : Int32) (dg hd_Mo_count 17 rfl) (by decide) ?_
    refine ux_iload_n (dg hd_Mo_count 18 rfl) rfl ?_
    refine ux_iadd (dg hd_Mo_count 19 rfl) ?_
    refine ux_iconst (3 : Int32) (dg hd_Mo_count 20 rfl) (by decide) ?_
    refine ux_isub (dg hd_Mo_count 21 rfl) ?_
    refine ux_iald rfl (dg hd_Mo_count 22 rfl) ?_
    exact ux_iret rfl (dg hd_Mo_count 23 rfl)
  refine ux_case (4 : Int32) (fun _ => ?_) (fun c7 => ?_)
  · refine ux_tabIn 83 (dg hd_Mo_count 1 rfl) (by decide) (by decide) rfl (by decide) ?_
    refine ux_aload_n (dg hd_Mo_count 15 rfl) rfl ?_
    refine ux_getr (q := 1) fcX7 0 (by decide) wk_773 rfl rfl (dg hd_Mo_count 16 rfl) ?_
    refine ux_iconst (3 : Int32) (dg hd_Mo_count 17 rfl) (by decide) ?_
    refine ux_iload_n (dg hd_Mo_count 18 rfl) rfl ?_
    refine ux_iadd (dg hd_Mo_count 19 rfl) ?_
    refine ux_iconst (3 : Int32) (dg hd_Mo_count 20 rfl) (by decide) ?_
    refine ux_isub (dg hd_Mo_count 21 rfl) ?_
    refine ux_iald rfl (dg hd_Mo_count 22 rfl) ?_
    exact ux_iret rfl (dg hd_Mo_count 23 rfl)
  refine ux_case (5 : Int32) (fun _ => ?_) (fun c8 => ?_)
  · refine ux_tabIn 83 (dg hd_Mo_count 1 rfl) (by decide) (by decide) rfl (by decide) ?_
    refine ux_aload_n (dg hd_Mo_count 15 rfl) rfl ?_
    refine ux_getr (q := 1) fcX7 0 (by decide) wk_773 rfl rfl (dg hd_Mo_count 16 rfl) ?_
    refine ux_iconst (3 : Int32) (dg hd_Mo_count 17 rfl) (by decide) ?_
    refine ux_iload_n (dg hd_Mo_count 18 rfl) rfl ?_
    refine ux_iadd (dg hd_Mo_count 19 rfl) ?_
    refine ux_iconst (3 : Int32) (dg hd_Mo_count 20 rfl) (by decide) ?_
    refine ux_isub (dg hd_Mo_count 21 rfl) ?_
    refine ux_iald rfl (dg hd_Mo_count 22 rfl) ?_
    exact ux_iret rfl (dg hd_Mo_count 23 rfl)
  refine ux_case (6 : Int32) (fun _ => ?_) (fun c9 => ?_)
  · refine ux_tabIn 83 (dg hd_Mo_count 1 rfl) (by decide) (by decide) rfl (by decide) ?_
    refine ux_aload_n (dg hd_Mo_count 15 rfl) rfl ?_
    refine ux_getr (q := 1) fcX7 0 (by decide) wk_773 rfl rfl (dg hd_Mo_count 16 rfl) ?_
    refine ux_iconst (3 : Int32) (dg hd_Mo_count 17 rfl) (by decide) ?_
    refine ux_iload_n (dg hd_Mo_count 18 rfl) rfl ?_
    refine ux_iadd (dg hd_Mo_count 19 rfl) ?_
    refine ux_iconst (3 : Int32) (dg hd_Mo_count 20 rfl) (by decide) ?_
    refine ux_isub (dg hd_Mo_count 21 rfl) ?_
    refine ux_iald rfl (dg hd_Mo_count 22 rfl) ?_
    exact ux_iret rfl (dg hd_Mo_count 23 rfl)
  refine ux_case (7 : Int32) (fun _ => ?_) (fun c10 => ?_)
  · refine ux_tabIn 83 (dg hd_Mo_count 1 rfl) (by decide) (by decide) rfl (by decide) ?_
    refine ux_aload_n (dg hd_Mo_count 15 rfl) rfl ?_
    refine ux_getr (q := 1) fcX7 0 (by decide) wk_773 rfl rfl (dg hd_Mo_count 16 rfl) ?_
    refine ux_iconst (3 : Int32) (dg hd_Mo_count 17 rfl) (by decide) ?_
    refine ux_iload_n (dg hd_Mo_count 18 rfl) rfl ?_
    refine ux_iadd (dg hd_Mo_count 19 rfl) ?_
    refine ux_iconst (3 : Int32) (dg hd_Mo_count 20 rfl) (by decide) ?_
    refine ux_isub (dg hd_Mo_count 21 rfl) ?_
    refine ux_iald rfl (dg hd_Mo_count 22 rfl) ?_
    exact ux_iret rfl (dg hd_Mo_count 23 rfl)
  refine ux_case (8 : Int32) (fun _ => ?_) (fun c11 => ?_)
  · refine ux_tabIn 94 (dg hd_Mo_count 1 rfl) (by decide) (by decide) rfl (by decide) ?_
    refine ux_aload_n (dg hd_Mo_count 24 rfl) rfl ?_
    refine ux_getr (q := 1) fcX7 0 (by decide) wk_773 rfl rfl (dg hd_Mo_count 25 rfl) ?_
    refine ux_bipush (8 : Int32) (dg hd_Mo_count 26 rfl) (by decide) ?_
    refine ux_iald rfl (dg hd_Mo_count 27 rfl) ?_
    exact ux_iret rfl (dg hd_Mo_count 28 rfl)
  refine ux_case (9 : Int32) (fun _ => ?_) (fun c12 => ?_)
  · refine ux_tabIn 102 (dg hd_Mo_count 1 rfl) (by decide) (by decide) rfl (by decide) ?_
    refine ux_aload_n (dg hd_Mo_count 29 rfl) rfl ?_
    refine ux_getr (q := 1) fcX7 0 (by decide) wk_773 rfl rfl (dg hd_Mo_count 30 rfl) ?_
    refine ux_bipush (9 : Int32) (dg hd_Mo_count 31 rfl) (by decide) ?_
    refine ux_iald rfl (dg hd_Mo_count 32 rfl) ?_
    exact ux_iret rfl (dg hd_Mo_count 33 rfl)
  refine ux_case (10 : Int32) (fun _ => ?_) (fun c13 => ?_)
  · refine ux_tabIn 110 (dg hd_Mo_count 1 rfl) (by decide) (by decide) rfl (by decide) ?_
    refine ux_aload_n (dg hd_Mo_count 34 rfl) rfl ?_
    refine ux_get fcX7 19 (by decide) wk_792 rfl rfl (dg hd_Mo_count 35 rfl) ?_
    exact ux_iret rfl (dg hd_Mo_count 36 rfl)
  refine ux_case (11 : Int32) (fun _ => ?_) (fun c14 => ?_)
  · refine ux_tabIn 115 (dg hd_Mo_count 1 rfl) (by decide) (by decide) rfl (by decide) ?_
    refine ux_aload_n (dg hd_Mo_count 37 rfl) rfl ?_
    refine ux_getr (q := 1) fcX7 0 (by decide) wk_773 rfl rfl (dg hd_Mo_count 38 rfl) ?_
    refine ux_iconst (1 : Int32) (dg hd_Mo_count 39 rfl) (by decide) ?_
    refine ux_iald rfl (dg hd_Mo_count 40 rfl) ?_
    exact ux_iret rfl (dg hd_Mo_count 41 rfl)
  refine ux_tabOut 122 (dg hd_Mo_count 1 rfl) (by have hc1 := lv_neT (a := 0) c1 (by decide); have hc4 := lv_neT (a := 1) c4 (by decide); have hc5 := lv_neT (a := 2) c5 (by decide); have hc6 := lv_neT (a := 3) c6 (by decide); have hc7 := lv_neT (a := 4) c7 (by decide); have hc8 := lv_neT (a := 5) c8 (by decide); have hc9 := lv_neT (a := 6) c9 (by decide); have hc10 := lv_neT (a := 7) c10 (by decide); have hc11 := lv_neT (a := 8) c11 (by decide); have hc12 := lv_neT (a := 9) c12 (by decide); have hc13 := lv_neT (a := 10) c13 (by decide); have hc14 := lv_neT (a := 11) c14 (by decide); omega) (by decide) ?_
  refine ux_aload_n (dg hd_Mo_count 42 rfl) rfl ?_
  refine ux_ldc (-1000000001 : Int32) wk_847 (dg hd_Mo_count 43 rfl) ?_
  refine ux_callVi (As := [.int (-1000000001 : Int32)]) (sp_Mo_error l (-1000000001 : Int32) _) (by omega) cv_Mo_error wk_848 rfl rfl rfl rfl rfl (Nat.le_of_ble_eq_true rfl) (dg hd_Mo_count 44 rfl) (fun r15 σ16 _ => ?_)
  exact ux_iret rfl (dg hd_Mo_count 45 rfl)
def Mo_told (p1 : Int32) (σ : St) : Option (Int32 × St) :=
  bnd (Mo_in p1 (1 : Int32) (6 : Int32) σ) (fun r1 σ2 =>
  if r1 = (0 : Int32) then (
  bnd (Mo_error (-1000000001 : Int32) σ2) (fun r3 σ4 =>
  some (r3, σ4))) else (
  grd (inb p1 7) (
  some ((σ2.2 4 p1.toNatClampNeg), σ2))))
set_option maxRecDepth 100000 in
theorem sp_Mo_told (l : Launch) (p1 : Int32) (σ : St) : Spc l shM 3 md_Mo_told [.ref 0, .int p1] σ (Mo_told p1 σ) := by
  refine Spc_of_Ux [(0, .ref 0), (1, .int p1)] (by decide) rfl (Nat.le_of_ble_eq_true rfl) ?_
  unfold Mo_told
  refine ux_iload_n (dg hd_Mo_told 0 rfl) rfl ?_
  refine ux_iconst (1 : Int32) (dg hd_Mo_told 1 rfl) (by decide) ?_
  refine ux_bipush (6 : Int32) (dg hd_Mo_told 2 rfl) (by decide) ?_
  refine ux_callSi (As := [.int p1, .int (1 : Int32), .int (6 : Int32)]) (sp_Mo_in l p1 (1 : Int32) (6 : Int32) _) (by omega) cs_Mo_in wk_844 rfl rfl (Nat.le_of_ble_eq_true rfl) (dg hd_Mo_told 3 rfl) (fun r1 σ2 _ => ?_)
  refine ux_if_eq 19 (dg hd_Mo_told 4 rfl) (by decide) (fun _ => ?_) (fun _ => ?_)
  · refine ux_aload_n (dg hd_Mo_told 10 rfl) rfl ?_
    refine ux_ldc (-1000000001 : Int32) wk_847 (dg hd_Mo_told 11 rfl) ?_
    refine ux_callVi (As := [.int (-1000000001 : Int32)]) (sp_Mo_error l (-1000000001 : Int32) _) (by omega) cv_Mo_error wk_848 rfl rfl rfl rfl rfl (Nat.le_of_ble_eq_true rfl) (dg hd_Mo_told 12 rfl) (fun r3 σ4 _ => ?_)
    exact ux_iret rfl (dg hd_Mo_told 13 rfl)
  · refine ux_aload_n (dg hd_Mo_told 5 rfl) rfl ?_
    refine ux_getr (q := 4) fcX7 4 (by decide) wk_777 rfl rfl (dg hd_Mo_told 6 rfl) ?_
    refine ux_iload_n (dg hd_Mo_told 7 rfl) rfl ?_
    refine ux_iald rfl (dg hd_Mo_told 8 rfl) ?_
    refine ux_goto 25 (dg hd_Mo_told 9 rfl) (by decide) ?_
    exact ux_iret rfl (dg hd_Mo_told 13 rfl)
