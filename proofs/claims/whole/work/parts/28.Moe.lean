def Mo_balksOf_L4 : Nat → Int32 → Int32 → Int32 → St → Option (Int32 × St)
  | 0, _, _, _, _ => none
  | n + 1, x1, x2, x3, σ =>
    if (64 : Int32) ≤ x3 then (
    some (x2, σ)) else (
    bnd (Mo_whoAlone x3 σ) (fun r1 σ2 =>
    if r1 = x1 then (
    nam (x2 + (1 : Int32)) (fun y5 =>
    nam (x3 + (1 : Int32)) (fun y6 =>
    Mo_balksOf_L4 n x1 y5 y6 σ2))) else (
    nam (x2 + (0 : Int32)) (fun y3 =>
    nam (x3 + (1 : Int32)) (fun y4 =>
    Mo_balksOf_L4 n x1 y3 y4 σ2)))))
set_option maxRecDepth 100000 in
theorem wk_Mo_balksOf_L4 (l : Launch) : ∀ (n : Nat) (x1 x2 x3 : Int32) (σ : St), Ux l shM 8 md_Mo_balksOf 4 [(0, .ref 0), (1, .int x1), (2, .int x2), (3, .int x3)] [] σ (Mo_balksOf_L4 n x1 x2 x3 σ) := by
  intro n
  induction n with
  | zero => intros; exact ux_none
  | succ n ih =>
    intro x1 x2 x3 σ
    unfold Mo_balksOf_L4
    refine ux_iload_n (dg hd_Mo_balksOf 4 rfl) rfl ?_
    refine ux_bipush (64 : Int32) (dg hd_Mo_balksOf 5 rfl) (by decide) ?_
    refine ux_icmp_ge 33 (dg hd_Mo_balksOf 6 rfl) (by decide) (fun _ => ?_) (fun _ => ?_)
    · refine ux_iload_n (dg hd_Mo_balksOf 20 rfl) rfl ?_
      exact ux_iret rfl (dg hd_Mo_balksOf 21 rfl)
    · refine ux_iload_n (dg hd_Mo_balksOf 7 rfl) rfl ?_
      refine ux_aload_n (dg hd_Mo_balksOf 8 rfl) rfl ?_
      refine ux_iload_n (dg hd_Mo_balksOf 9 rfl) rfl ?_
      refine ux_callVi (As := [.int x3]) (sp_Mo_whoAlone l x3 _) (by omega) cv_Mo_whoAlone wk_1111 rfl rfl rfl rfl rfl (Nat.le_of_ble_eq_true rfl) (dg hd_Mo_balksOf 10 rfl) (fun r1 σ2 _ => ?_)
      refine ux_iload_n (dg hd_Mo_balksOf 11 rfl) rfl ?_
      refine ux_icmp_ne 24 (dg hd_Mo_balksOf 12 rfl) (by decide) (fun _ => ?_) (fun _ => ?_)
      · refine ux_iconst (1 : Int32) (dg hd_Mo_balksOf 13 rfl) (by decide) ?_
        refine ux_goto 25 (dg hd_Mo_balksOf 14 rfl) (by decide) ?_
        refine ux_iadd (dg hd_Mo_balksOf 16 rfl) ?_
        refine ux_nam (fun y5 => ?_)
        refine ux_istore_n [(2, .int y5), (0, .ref 0), (1, .int x1), (3, .int x3)] (dg hd_Mo_balksOf 17 rfl) (by decide) rfl ?_
        refine ux_iincN (1 : Int32) (fun y6 => [(3, .int y6), (2, .int y5), (0, .ref 0), (1, .int x1)]) (dg hd_Mo_balksOf 18 rfl) rfl (by decide) (by decide) (fun _ => rfl) (fun y6 => ?_)
        refine ux_goto 4 (dg hd_Mo_balksOf 19 rfl) (by decide) ?_
        refine ux_wk [(0, .ref 0), (1, .int x1), (2, .int y5), (3, .int y6)] [2, 3, 1, 0] rfl ?_
        exact ih x1 y5 y6 σ2
      · refine ux_iconst (0 : Int32) (dg hd_Mo_balksOf 15 rfl) (by decide) ?_
        refine ux_iadd (dg hd_Mo_balksOf 16 rfl) ?_
        refine ux_nam (fun y3 => ?_)
        refine ux_istore_n [(2, .int y3), (0, .ref 0), (1, .int x1), (3, .int x3)] (dg hd_Mo_balksOf 17 rfl) (by decide) rfl ?_
        refine ux_iincN (1 : Int32) (fun y4 => [(3, .int y4), (2, .int y3), (0, .ref 0), (1, .int x1)]) (dg hd_Mo_balksOf 18 rfl) rfl (by decide) (by decide) (fun _ => rfl) (fun y4 => ?_)
        refine ux_goto 4 (dg hd_Mo_balksOf 19 rfl) (by decide) ?_
        refine ux_wk [(0, .ref 0), (1, .int x1), (2, .int y3), (3, .int y4)] [2, 3, 1, 0] rfl ?_
        exact ih x1 y3 y4 σ2
def Mo_balksOf (p1 : Int32) (σ : St) : Option (Int32 × St) :=
  Mo_balksOf_L4 1000 p1 (0 : Int32) (0 : Int32) σ
set_option maxRecDepth 100000 in
theorem sp_Mo_balksOf (l : Launch) (p1 : Int32) (σ : St) : Spc l shM 8 md_Mo_balksOf [.ref 0, .int p1] σ (Mo_balksOf p1 σ) := by
  refine Spc_of_Ux [(0, .ref 0), (1, .int p1)] (by decide) rfl (Nat.le_of_ble_eq_true rfl) ?_
  unfold Mo_balksOf
  refine ux_iconst (0 : Int32) (dg hd_Mo_balksOf 0 rfl) (by decide) ?_
  refine ux_istore_n [(2, .int (0 : Int32)), (0, .ref 0), (1, .int p1)] (dg hd_Mo_balksOf 1 rfl) (by decide) rfl ?_
  refine ux_iconst (0 : Int32) (dg hd_Mo_balksOf 2 rfl) (by decide) ?_
  refine ux_istore_n [(3, .int (0 : Int32)), (2, .int (0 : Int32)), (0, .ref 0), (1, .int p1)] (dg hd_Mo_balksOf 3 rfl) (by decide) rfl ?_
  refine ux_wk [(0, .ref 0), (1, .int p1), (2, .int (0 : Int32)), (3, .int (0 : Int32))] [2, 3, 1, 0] rfl ?_
  exact wk_Mo_balksOf_L4 l 1000 p1 (0 : Int32) (0 : Int32) σ
def Mo_balks_L37 : Nat → Int32 → Int32 → Int32 → Int32 → St → Option (Int32 × St)
  | 0, _, _, _, _, _ => none
  | n + 1, x1, x2, x3, x4, σ =>
    grd (inb (2 : Int32) 366) (
    if (σ.2 1 (2 : Int32).toNatClampNeg) ≤ x4 then (
    if x1 = (0 : Int32) then (
    some (x2, σ)) else (
    some (x3, σ))) else (
    bnd (Mo_isIn x4 σ) (fun r5 σ6 =>
    if r5 = (0 : Int32) then (
    if (-1 : Int32) ≤ x3 then (
    if (-1 : Int32) ≤ x3 then (
    nam (x4 + (1 : Int32)) (fun y7 =>
    Mo_balks_L37 n x1 x2 x3 y7 σ6)) else (
    nam (x4 + (1 : Int32)) (fun y8 =>
    Mo_balks_L37 n x1 x2 (-1 : Int32) y8 σ6))) else (
    if (-1 : Int32) ≤ x3 then (
    nam (x4 + (1 : Int32)) (fun y9 =>
    Mo_balks_L37 n x1 x4 x3 y9 σ6)) else (
    nam (x4 + (1 : Int32)) (fun y10 =>
    Mo_balks_L37 n x1 x4 (-1 : Int32) y10 σ6)))) else (
    bnd (Mo_balksOf x4 σ6) (fun r11 σ12 =>
    if r11 ≤ x3 then (
    if r11 ≤ x3 then (
    nam (x4 + (1 : Int32)) (fun y13 =>
    Mo_balks_L37 n x1 x2 x3 y13 σ12)) else (
    nam (x4 + (1 : Int32)) (fun y14 =>
    Mo_balks_L37 n x1 x2 r11 y14 σ12))) else (
    if r11 ≤ x3 then (
    nam (x4 + (1 : Int32)) (fun y15 =>
    Mo_balks_L37 n x1 x4 x3 y15 σ12)) else (
    nam (x4 + (1 : Int32)) (fun y16 =>
    Mo_balks_L37 n x1 x4 r11 y16 σ12))))))))
set_option maxRecDepth 100000 in
theorem wk_Mo_balks_L37 (l : Launch) : ∀ (n : Nat) (x1 x2 x3 x4 : Int32) (σ : St), Ux l shM 9 md_Mo_balks 37 [(0, .ref 0), (1, .int x1), (2, .int x2), (3, .int x3), (4, .int x4)] [] σ (Mo_balks_L37 n x1 x2 x3 x4 σ) := by
  intro n
  induction n with
  | zero => intros; exact ux_none
  | succ n ih =>
    intro x1 x2 x3 x4 σ
    unfold Mo_balks_L37
    refine ux_iload (dg hd_Mo_balks 22 rfl) rfl ?_
    refine ux_aload_n (dg hd_Mo_balks 23 rfl) rfl ?_
    refine ux_getr (q := 1) fcX7 0 (by decide) wk_773 rfl rfl (dg hd_Mo_balks 24 rfl) ?_
    refine ux_iconst (2 : Int32) (dg hd_Mo_balks 25 rfl) (by decide) ?_
    refine ux_iald rfl (dg hd_Mo_balks 26 rfl) ?_
    refine ux_icmp_ge 101 (dg hd_Mo_balks 27 rfl) (by decide) (fun _ => ?_) (fun _ => ?_)
    · refine ux_iload_n (dg hd_Mo_balks 54 rfl) rfl ?_
      refine ux_if_ne 109 (dg hd_Mo_balks 55 rfl) (by decide) (fun _ => ?_) (fun _ => ?_)
      · refine ux_iload_n (dg hd_Mo_balks 56 rfl) rfl ?_
        refine ux_goto 110 (dg hd_Mo_balks 57 rfl) (by decide) ?_
        exact ux_iret rfl (dg hd_Mo_balks 59 rfl)
      · refine ux_iload_n (dg hd_Mo_balks 58 rfl) rfl ?_
        exact ux_iret rfl (dg hd_Mo_balks 59 rfl)
    · refine ux_aload_n (dg hd_Mo_balks 28 rfl) rfl ?_
      refine ux_iload (dg hd_Mo_balks 29 rfl) rfl ?_
      refine ux_callVi (As := [.int x4]) (sp_Mo_isIn l x4 _) (by omega) cv_Mo_isIn wk_886 rfl rfl rfl rfl rfl (Nat.le_of_ble_eq_true rfl) (dg hd_Mo_balks 30 rfl) (fun r5 σ6 _ => ?_)
      refine ux_if_eq 66 (dg hd_Mo_balks 31 rfl) (by decide) (fun _ => ?_) (fun _ => ?_)
      · refine ux_iconst (-1 : Int32) (dg hd_Mo_balks 36 rfl) (by decide) ?_
        refine ux_istore [(5, .int (-1 : Int32)), (0, .ref 0), (1, .int x1), (2, .int x2), (3, .int x3), (4, .int x4)] (dg hd_Mo_balks 37 rfl) (by decide) rfl ?_
        refine ux_iload (dg hd_Mo_balks 38 rfl) rfl ?_
        refine ux_iload_n (dg hd_Mo_balks 39 rfl) rfl ?_
        refine ux_icmp_le 80 (dg hd_Mo_balks 40 rfl) (by decide) (fun _ => ?_) (fun _ => ?_)
        · refine ux_iload_n (dg hd_Mo_balks 43 rfl) rfl ?_
          refine ux_istore_n [(2, .int x2), (5, .int (-1 : Int32)), (0, .ref 0), (1, .int x1), (3, .int x3), (4, .int x4)] (dg hd_Mo_balks 44 rfl) (by decide) rfl ?_
          refine ux_iload (dg hd_Mo_balks 45 rfl) rfl ?_
          refine ux_iload_n (dg hd_Mo_balks 46 rfl) rfl ?_
          refine ux_icmp_le 93 (dg hd_Mo_balks 47 rfl) (by decide) (fun _ => ?_) (fun _ => ?_)
          · refine ux_iload_n (dg hd_Mo_balks 50 rfl) rfl ?_
            refine ux_istore_n [(3, .int x3), (2, .int x2), (5, .int (-1 : Int32)), (0, .ref 0), (1, .int x1), (4, .int x4)] (dg hd_Mo_balks 51 rfl) (by decide) rfl ?_
            refine ux_iincN (1 : Int32) (fun y7 => [(4, .int y7), (3, .int x3), (2, .int x2), (5, .int (-1 : Int32)), (0, .ref 0), (1, .int x1)]) (dg hd_Mo_balks 52 rfl) rfl (by decide) (by decide) (fun _ => rfl) (fun y7 => ?_)
            refine ux_goto 37 (dg hd_Mo_balks 53 rfl) (by decide) ?_
            refine ux_wk [(0, .ref 0), (1, .int x1), (2, .int x2), (3, .int x3), (4, .int y7)] [4, 5, 2, 1, 0] rfl ?_
            exact ih x1 x2 x3 y7 σ6
          · refine ux_iload (dg hd_Mo_balks 48 rfl) rfl ?_
            refine ux_goto 94 (dg hd_Mo_balks 49 rfl) (by decide) ?_
            refine ux_istore_n [(3, .int (-1 : Int32)), (2, .int x2), (5, .int (-1 : Int32)), (0, .ref 0), (1, .int x1), (4, .int x4)] (dg hd_Mo_balks 51 rfl) (by decide) rfl ?_
            refine ux_iincN (1 : Int32) (fun y8 => [(4, .int y8), (3, .int (-1 : Int32)), (2, .int x2), (5, .int (-1 : Int32)), (0, .ref 0), (1, .int x1)]) (dg hd_Mo_balks 52 rfl) rfl (by decide) (by decide) (fun _ => rfl) (fun y8 => ?_)
            refine ux_goto 37 (dg hd_Mo_balks 53 rfl) (by decide) ?_
            refine ux_wk [(0, .ref 0), (1, .int x1), (2, .int x2), (3, .int (-1 : Int32)), (4, .int y8)] [4, 5, 2, 1, 0] rfl ?_
            exact ih x1 x2 (-1 : Int32) y8 σ6
        · refine ux_iload (dg hd_Mo_balks 41 rfl) rfl ?_
          refine ux_goto 81 (dg hd_Mo_balks 42 rfl) (by decide) ?_
          refine ux_istore_n [(2, .int x4), (5, .int (-1 : Int32)), (0, .ref 0), (1, .int x1), (3, .int x3), (4, .int x4)] (dg hd_Mo_balks 44 rfl) (by decide) rfl ?_
          refine ux_iload (dg hd_Mo_balks 45 rfl) rfl ?_
          refine ux_iload_n (dg hd_Mo_balks 46 rfl) rfl ?_
          refine ux_icmp_le 93 (dg hd_Mo_balks 47 rfl) (by decide) (fun _ => ?_) (fun _ => ?_)
          · refine ux_iload_n (dg hd_Mo_balks 50 rfl) rfl ?_
            refine ux_istore_n [(3, .int x3), (2, .int x4), (5, .int (-1 : Int32)), (0, .ref 0), (1, .int x1), (4, .int x4)] (dg hd_Mo_balks 51 rfl) (by decide) rfl ?_
            refine ux_iincN (1 : Int32) (fun y9 => [(4, .int y9), (3, .int x3), (2, .int x4), (5, .int (-1 : Int32)), (0, .ref 0), (1, .int x1)]) (dg hd_Mo_balks 52 rfl) rfl (by decide) (by decide) (fun _ => rfl) (fun y9 => ?_)
            refine ux_goto 37 (dg hd_Mo_balks 53 rfl) (by decide) ?_
            refine ux_wk [(0, .ref 0), (1, .int x1), (2, .int x4), (3, .int x3), (4, .int y9)] [4, 5, 2, 1, 0] rfl ?_
            exact ih x1 x4 x3 y9 σ6
          · refine ux_iload (dg hd_Mo_balks 48 rfl) rfl ?_
            refine ux_goto 94 (dg hd_Mo_balks 49 rfl) (by decide) ?_
            refine ux_istore_n [(3, .int (-1 : Int32)), (2, .int x4), (5, .int (-1 : Int32)), (0, .ref 0), (1, .int x1), (4, .int x4)] (dg hd_Mo_balks 51 rfl) (by decide) rfl ?_
            refine ux_iincN (1 : Int32) (fun y10 => [(4, .int y10), (3, .int (-1 : Int32)), (2, .int x4), (5, .int (-1 : Int32)), (0, .ref 0), (1, .int x1)]) (dg hd_Mo_balks 52 rfl) rfl (by decide) (by decide) (fun _ => rfl) (fun y10 => ?_)
            refine ux_goto 37 (dg hd_Mo_balks 53 rfl) (by decide) ?_
            refine ux_wk [(0, .ref 0), (1, .int x1), (2, .int x4), (3, .int (-1 : Int32)), (4, .int y10)] [4, 5, 2, 1, 0] rfl ?_
            exact ih x1 x4 (-1 : Int32) y10 σ6
      · refine ux_aload_n (dg hd_Mo_balks 32 rfl) rfl ?_
        refine ux_iload (dg hd_Mo_balks 33 rfl) rfl ?_
        refine ux_callVi (As := [.int x4]) (sp_Mo_balksOf l x4 _) (by omega) cv_Mo_balksOf wk_1107 rfl rfl rfl rfl rfl (Nat.le_of_ble_eq_true rfl) (dg hd_Mo_balks 34 rfl) (fun r11 σ12 _ => ?_)
        refine ux_goto 67 (dg hd_Mo_balks 35 rfl) (by decide) ?_
        refine ux_istore [(5, .int r11), (0, .ref 0), (1, .int x1), (2, .int x2), (3, .int x3), (4, .int x4)] (dg hd_Mo_balks 37 rfl) (by decide) rfl ?_
        refine ux_iload (dg hd_Mo_balks 38 rfl) rfl ?_
        refine ux_iload_n (dg hd_Mo_balks 39 rfl) rfl ?_
        refine ux_icmp_le 80 (dg hd_Mo_balks 40 rfl) (by decide) (fun _ => ?_) (fun _ => ?_)
        · refine ux_iload_n (dg hd_Mo_balks 43 rfl) rfl ?_
          refine ux_istore_n [(2, .int x2), (5, .int r11), (0, .ref 0), (1, .int x1), (3, .int x3), (4, .int x4)] (dg hd_Mo_balks 44 rfl) (by decide) rfl ?_
          refine ux_iload (dg hd_Mo_balks 45 rfl) rfl ?_
          refine ux_iload_n (dg hd_Mo_balks 46 rfl) rfl ?_
          refine ux_icmp_le 93 (dg hd_Mo_balks 47 rfl) (by decide) (fun _ => ?_) (fun _ => ?_)
          · refine ux_iload_n (dg hd_Mo_balks 50 rfl) rfl ?_
            refine ux_istore_n [(3, .int x3), (2, .int x2), (5, .int r11), (0, .ref 0), (1, .int x1), (4, .int x4)] (dg hd_Mo_balks 51 rfl) (by decide) rfl ?_
            refine ux_iincN (1 : Int32) (fun y13 => [(4, .int y13), (3, .int x3), (2, .int x2), (5, .int r11), (0, .ref 0), (1, .int x1)]) (dg hd_Mo_balks 52 rfl) rfl (by decide) (by decide) (fun _ => rfl) (fun y13 => ?_)
            refine ux_goto 37 (dg hd_Mo_balks 53 rfl) (by decide) ?_
            refine ux_wk [(0, .ref 0), (1, .int x1), (2, .int x2), (3, .int x3), (4, .int y13)] [4, 5, 2, 1, 0] rfl ?_
            exact ih x1 x2 x3 y13 σ12
          · refine ux_iload (dg hd_Mo_balks 48 rfl) rfl ?_
            refine ux_goto 94 (dg hd_Mo_balks 49 rfl) (by decide) ?_
            refine ux_istore_n [(3, .int r11), (2, .int x2), (5, .int r11), (0, .ref 0), (1, .int x1), (4, .int x4)] (dg hd_Mo_balks 51 rfl) (by decide) rfl ?_
            refine ux_iincN (1 : Int32) (fun y14 => [(4, .int y14), (3, .int r11), (2, .int x2), (5, .int r11), (0, .ref 0), (1, .int x1)]) (dg hd_Mo_balks 52 rfl) rfl (by decide) (by decide) (fun _ => rfl) (fun y14 => ?_)
            refine ux_goto 37 (dg hd_Mo_balks 53 rfl) (by decide) ?_
            refine ux_wk [(0, .ref 0), (1, .int x1), (2, .int x2), (3, .int r11), (4, .int y14)] [4, 5, 2, 1, 0] rfl ?_
            exact ih x1 x2 r11 y14 σ12
        · refine ux_iload (dg hd_Mo_balks 41 rfl) rfl ?_
          refine ux_goto 81 (dg hd_Mo_balks 42 rfl) (by decide) ?_
          refine ux_istore_n [(2, .int x4), (5, .int r11), (0, .ref 0), (1, .int x1), (3, .int x3), (4, .int x4)] (dg hd_Mo_balks 44 rfl) (by decide) rfl ?_
          refine ux_iload (dg hd_Mo_balks 45 rfl) rfl ?_
          refine ux_iload_n (dg hd_Mo_balks 46 rfl) rfl ?_
          refine ux_icmp_le 93 (dg hd_Mo_balks 47 rfl) (by decide) (fun _ => ?_) (fun _ => ?_)
          · refine ux_iload_n (dg hd_Mo_balks 50 rfl) rfl ?_
            refine ux_istore_n [(3, .int x3), (2, .int x4), (5, .int r11), (0, .ref 0), (1, .int x1), (4, .int x4)] (dg hd_Mo_balks 51 rfl) (by decide) rfl ?_
            refine ux_iincN (1 : Int32) (fun y15 => [(4, .int y15), (3, .int x3), (2, .int x4), (5, .int r11), (0, .ref 0), (1, .int x1)]) (dg hd_Mo_balks 52 rfl) rfl (by decide) (by decide) (fun _ => rfl) (fun y15 => ?_)
            refine ux_goto 37 (dg hd_Mo_balks 53 rfl) (by decide) ?_
            refine ux_wk [(0, .ref 0), (1, .int x1), (2, .int x4), (3, .int x3), (4, .int y15)] [4, 5, 2, 1, 0] rfl ?_
            exact ih x1 x4 x3 y15 σ12
          · refine ux_iload (dg hd_Mo_balks 48 rfl) rfl ?_
            refine ux_goto 94 (dg hd_Mo_balks 49 rfl) (by decide) ?_
            refine ux_istore_n [(3, .int r11), (2, .int x4), (5, .int r11), (0, .ref 0), (1, .int x1), (4, .int x4)] (dg hd_Mo_balks 51 rfl) (by decide) rfl ?_
            refine ux_iincN (1 : Int32) (fun y16 => [(4, .int y16), (3, .int r11), (2, .int x4), (5, .int r11), (0, .ref 0), (1, .int x1)]) (dg hd_Mo_balks 52 rfl) rfl (by decide) (by decide) (fun _ => rfl) (fun y16 => ?_)
            refine ux_goto 37 (dg hd_Mo_balks 53 rfl) (by decide) ?_
            refine ux_wk [(0, .ref 0), (1, .int x1), (2, .int x4), (3, .int r11), (4, .int y16)] [4, 5, 2, 1, 0] rfl ?_
            exact ih x1 x4 r11 y16 σ12
def Mo_balks (p1 : Int32) (σ : St) : Option (Int32 × St) :=
  bnd (Mo_in p1 (0 : Int32) (1 : Int32) σ) (fun r1 σ2 =>
  if r1 = (0 : Int32) then (
  bnd (Mo_error (-1000000001 : Int32) σ2) (fun r19 σ20 =>
  some (r19, σ20))) else (
  bnd (Mo_allIn  σ2) (fun r3 σ4 =>
  if r3 = (0 : Int32) then (
  bnd (Mo_error (-1000000003 : Int32) σ4) (fun r17 σ18 =>
  some (r17, σ18))) else (
  Mo_balks_L37 1000 p1 (-1 : Int32) (-1 : Int32) (0 : Int32) σ4))))
set_option maxRecDepth 100000 in
theorem sp_Mo_balks (l : Launch) (p1 : Int32) (σ : St) : Spc l shM 9 md_Mo_balks [.ref 0, .int p1] σ (Mo_balks p1 σ) := by
  refine Spc_of_Ux [(0, .ref 0), (1, .int p1)] (by decide) rfl (Nat.le_of_ble_eq_true rfl) ?_
  unfold Mo_balks
  refine ux_iload_n (dg hd_Mo_balks 0 rfl) rfl ?_
  refine ux_iconst (0 : Int32) (dg hd_Mo_balks 1 rfl) (by decide) ?_
  refine ux_iconst (1 : Int32) (dg hd_Mo_balks 2 rfl) (by decide) ?_
  refine ux_callSi (As := [.int p1, .int (0 : Int32), .int (1 : Int32)]) (sp_Mo_in l p1 (0 : Int32) (1 : Int32) _) (by omega) cs_Mo_in wk_844 rfl rfl (Nat.le_of_ble_eq_true rfl) (dg hd_Mo_balks 3 rfl) (fun r1 σ2 _ => ?_)
  refine ux_if_ne 16 (dg hd_Mo_balks 4 rfl) (by decide) (fun _ => ?_) (fun _ => ?_)
  · refine ux_aload_n (dg hd_Mo_balks 5 rfl) rfl ?_
    refine ux_ldc (-1000000001 : Int32) wk_847 (dg hd_Mo_balks 6 rfl) ?_
    refine ux_callVi (As := [.int (-1000000001 : Int32)]) (sp_Mo_error l (-1000000001 : Int32) _) (by omega) cv_Mo_error wk_848 rfl rfl rfl rfl rfl (Nat.le_of_ble_eq_true rfl) (dg hd_Mo_balks 7 rfl) (fun r19 σ20 _ => ?_)
    exact ux_iret rfl (dg hd_Mo_balks 8 rfl)
  · refine ux_aload_n (dg hd_Mo_balks 9 rfl) rfl ?_
    refine ux_callVi (As := []) (sp_Mo_allIn l  _) (by omega) cv_Mo_allIn wk_882 rfl rfl rfl rfl rfl (Nat.le_of_ble_eq_true rfl) (dg hd_Mo_balks 10 rfl) (fun r3 σ4 _ => ?_)
    refine ux_if_ne 30 (dg hd_Mo_balks 11 rfl) (by decide) (fun _ => ?_) (fun _ => ?_)
    · refine ux_aload_n (dg hd_Mo_balks 12 rfl) rfl ?_
      refine ux_ldc (-1000000003 : Int32) wk_928 (dg hd_Mo_balks 13 rfl) ?_
      refine ux_callVi (As := [.int (-1000000003 : Int32)]) (sp_Mo_error l (-1000000003 : Int32) _) (by omega) cv_Mo_error wk_848 rfl rfl rfl rfl rfl (Nat.le_of_ble_eq_true rfl) (dg hd_Mo_balks 14 rfl) (fun r17 σ18 _ => ?_)
      exact ux_iret rfl (dg hd_Mo_balks 15 rfl)
    · refine ux_iconst (-1 : Int32) (dg hd_Mo_balks 16 rfl) (by decide) ?_
      refine ux_istore_n [(2, .int (-1 : Int32)), (0, .ref 0), (1, .int p1)] (dg hd_Mo_balks 17 rfl) (by decide) rfl ?_
      refine ux_iconst (-1 : Int32) (dg hd_Mo_balks 18 rfl) (by decide) ?_
      refine ux_istore_n [(3, .int (-1 : Int32)), (2, .int (-1 : Int32)), (0, .ref 0), (1, .int p1)] (dg hd_Mo_balks 19 rfl) (by decide) rfl ?_
      refine ux_iconst (0 : Int32) (dg hd_Mo_balks 20 rfl) (by decide) ?_
      refine ux_istore [(4, .int (0 : Int32)), (3, .int (-1 : Int32)), (2, .int (-1 : Int32)), (0, .ref 0), (1, .int p1)] (dg hd_Mo_balks 21 rfl) (by decide) rfl ?_
      refine ux_wk [(0, .ref 0), (1, .int p1), (2, .int (-1 : Int32)), (3, .int (-1 : Int32)), (4, .int (0 : Int32))] [3, 4, 2, 1, 0] rfl ?_
      exact wk_Mo_balks_L37 l 1000 p1 (-1 : Int32) (-1 : Int32) (0 : Int32) σ4
def Mo_soon_L20 : Nat → Int32 → Int32 → St → Option (Int32 × St)
  | 0, _, _, _ => none
  | n + 1, x1, x2, σ =>
    if (99 : Int32) < x2 then (
    bnd (Mo_putsBack  σ) (fun r5 σ6 =>
    if x2 ≤ (99 : Int32) then (
    some (x2, σ6)) else (
    bnd (Mo_error (-1000000002 : Int32) σ6) (fun r7 σ8 =>
    some (r7, σ8))))) else (
    bnd (Mo_allIn  σ) (fun r9 σ10 =>
    if r9 = (0 : Int32) then (
    bnd (Mo_goesFor (1 : Int32) σ10) (fun r11 σ12 =>
    nam (x2 + (1 : Int32)) (fun y13 =>
    Mo_soon_L20 n x1 y13 σ12))) else (
    bnd (Mo_doesTurn  σ10) (fun r14 σ15 =>
    if r14 = (0 : Int32) then (
    bnd (Mo_goesFor (1 : Int32) σ15) (fun r16 σ17 =>
    nam (x2 + (1 : Int32)) (fun y18 =>
    Mo_soon_L20 n x1 y18 σ17))) else (
    bnd (Mo_word  σ15) (fun r19 σ20 =>
    if r19 = (3 : Int32) then (
    bnd (Mo_goesFor (1 : Int32) σ20) (fun r21 σ22 =>
    nam (x2 + (1 : Int32)) (fun y23 =>
    Mo_soon_L20 n x1 y23 σ22))) else (
    bnd (Mo_isTaken x1 σ20) (fun r24 σ25 =>
    if r24 = (0 : Int32) then (
    bnd (Mo_goesFor (1 : Int32) σ25) (fun r30 σ31 =>
    nam (x2 + (1 : Int32)) (fun y32 =>
    Mo_soon_L20 n x1 y32 σ31))) else (
    bnd (Mo_putsBack  σ25) (fun r26 σ27 =>
    if x2 ≤ (99 : Int32) then (
    some (x2, σ27)) else (
    bnd (Mo_error (-1000000002 : Int32) σ27) (fun r28 σ29 =>
    some (r28, σ29)))))))))))))
set_option maxRecDepth 100000 in
theorem wk_Mo_soon_L20 (l : Launch) : ∀ (n : Nat) (x1 x2 : Int32) (σ : St), Ux l shM 9 md_Mo_soon 20 [(0, .ref 0), (1, .int x1), (2, .int x2)] [] σ (Mo_soon_L20 n x1 x2 σ) := by
  intro n
  induction n with
  | zero => intros; exact ux_none
  | succ n ih =>
    intro x1 x2 σ
    unfold Mo_soon_L20
    refine ux_iload_n (dg hd_Mo_soon 11 rfl) rfl ?_
    refine ux_bipush (99 : Int32) (dg hd_Mo_soon 12 rfl) (by decide) ?_
    refine ux_icmp_gt 67 (dg hd_Mo_soon 13 rfl) (by decide) (fun _ => ?_) (fun _ => ?_)
    · refine ux_aload_n (dg hd_Mo_soon 33 rfl) rfl ?_
      refine ux_callVv (As := []) (sp_Mo_putsBack l  _) (by omega) cv_Mo_putsBack wk_1082 rfl rfl rfl rfl rfl (Nat.le_of_ble_eq_true rfl) (dg hd_Mo_soon 34 rfl) (fun r5 σ6 _ => ?_)
      refine ux_iload_n (dg hd_Mo_soon 35 rfl) rfl ?_
      refine ux_bipush (99 : Int32) (dg hd_Mo_soon 36 rfl) (by decide) ?_
      refine ux_icmp_le 86 (dg hd_Mo_soon 37 rfl) (by decide) (fun _ => ?_) (fun _ => ?_)
      · refine ux_iload_n (dg hd_Mo_soon 42 rfl) rfl ?_
        exact ux_iret rfl (dg hd_Mo_soon 43 rfl)
      · refine ux_aload_n (dg hd_Mo_soon 38 rfl) rfl ?_
        refine ux_ldc (-1000000002 : Int32) wk_1090 (dg hd_Mo_soon 39 rfl) ?_
        refine ux_callVi (As := [.int (-1000000002 : Int32)]) (sp_Mo_error l (-1000000002 : Int32) _) (by omega) cv_Mo_error wk_848 rfl rfl rfl rfl rfl (Nat.le_of_ble_eq_true rfl) (dg hd_Mo_soon 40 rfl) (fun r7 σ8 _ => ?_)
        refine ux_goto 87 (dg hd_Mo_soon 41 rfl) (by decide) ?_
        exact ux_iret rfl (dg hd_Mo_soon 43 rfl)
    · refine ux_aload_n (dg hd_Mo_soon 14 rfl) rfl ?_
      refine ux_callVi (As := []) (sp_Mo_allIn l  _) (by omega) cv_Mo_allIn wk_882 rfl rfl rfl rfl rfl (Nat.le_of_ble_eq_true rfl) (dg hd_Mo_soon 15 rfl) (fun r9 σ10 _ => ?_)
      refine ux_if_eq 56 (dg hd_Mo_soon 16 rfl) (by decide) (fun _ => ?_) (fun _ => ?_)
      · refine ux_aload_n (dg hd_Mo_soon 28 rfl) rfl ?_
        refine ux_iconst (1 : Int32) (dg hd_Mo_soon 29 rfl) (by decide) ?_
        refine ux_callVv (As := [.int (1 : Int32)]) (sp_Mo_goesFor l (1 : Int32) _) (by omega) cv_Mo_goesFor wk_1078 rfl rfl rfl rfl rfl (Nat.le_of_ble_eq_true rfl) (dg hd_Mo_soon 30 rfl) (fun r11 σ12 _ => ?_)
        refine ux_iincN (1 : Int32) (fun y13 => [(2, .int y13), (0, .ref 0), (1, .int x1)]) (dg hd_Mo_soon 31 rfl) rfl (by decide) (by decide) (fun _ => rfl) (fun y13 => ?_)
        refine ux_goto 20 (dg hd_Mo_soon 32 rfl) (by decide) ?_
        refine ux_wk [(0, .ref 0), (1, .int x1), (2, .int y13)] [1, 2, 0] rfl ?_
        exact ih x1 y13 σ12
      · refine ux_aload_n (dg hd_Mo_soon 17 rfl) rfl ?_
        refine ux_callVi (As := []) (sp_Mo_doesTurn l  _) (by omega) cv_Mo_doesTurn wk_924 rfl rfl rfl rfl rfl (Nat.le_of_ble_eq_true rfl) (dg hd_Mo_soon 18 rfl) (fun r14 σ15 _ => ?_)
        refine ux_if_eq 56 (dg hd_Mo_soon 19 rfl) (by decide) (fun _ => ?_) (fun _ => ?_)
        · refine ux_aload_n (dg hd_Mo_soon 28 rfl) rfl ?_
          refine ux_iconst (1 : Int32) (dg hd_Mo_soon 29 rfl) (by decide) ?_
          refine ux_callVv (As := [.int (1 : Int32)]) (sp_Mo_goesFor l (1 : Int32) _) (by omega) cv_Mo_goesFor wk_1078 rfl rfl rfl rfl rfl (Nat.le_of_ble_eq_true rfl) (dg hd_Mo_soon 30 rfl) (fun r16 σ17 _ => ?_)
          refine ux_iincN (1 : Int32) (fun y18 => [(2, .int y18), (0, .ref 0), (1, .int x1)]) (dg hd_Mo_soon 31 rfl) rfl (by decide) (by decide) (fun _ => rfl) (fun y18 => ?_)
          refine ux_goto 20 (dg hd_Mo_soon 32 rfl) (by decide) ?_
          refine ux_wk [(0, .ref 0), (1, .int x1), (2, .int y18)] [1, 2, 0] rfl ?_
          exact ih x1 y18 σ17
        · refine ux_aload_n (dg hd_Mo_soon 20 rfl) rfl ?_
          refine ux_callVi (As := []) (sp_Mo_word l  _) (by omega) cv_Mo_word wk_878 rfl rfl rfl rfl rfl (Nat.le_of_ble_eq_true rfl) (dg hd_Mo_soon 21 rfl) (fun r19 σ20 _ => ?_)
          refine ux_iconst (3 : Int32) (dg hd_Mo_soon 22 rfl) (by decide) ?_
          refine ux_icmp_eq 56 (dg hd_Mo_soon 23 rfl) (by decide) (fun _ => ?_) (fun _ => ?_)
          · refine ux_aload_n (dg hd_Mo_soon 28 rfl) rfl ?_
            refine ux_iconst (1 : Int32) (dg hd_Mo_soon 29 rfl) (by decide) ?_
            refine ux_callVv (As := [.int (1 : Int32)]) (sp_Mo_goesFor l (1 : Int32) _) (by omega) cv_Mo_goesFor wk_1078 rfl rfl rfl rfl rfl (Nat.le_of_ble_eq_true rfl) (dg hd_Mo_soon 30 rfl) (fun r21 σ22 _ => ?_)
            refine ux_iincN (1 : Int32) (fun y23 => [(2, .int y23), (0, .ref 0), (1, .int x1)]) (dg hd_Mo_soon 31 rfl) rfl (by decide) (by decide) (fun _ => rfl) (fun y23 => ?_)
            refine ux_goto 20 (dg hd_Mo_soon 32 rfl) (by decide) ?_
            refine ux_wk [(0, .ref 0), (1, .int x1), (2, .int y23)] [1, 2, 0] rfl ?_
            exact ih x1 y23 σ22
          · refine ux_aload_n (dg hd_Mo_soon 24 rfl) rfl ?_
            refine ux_iload_n (dg hd_Mo_soon 25 rfl) rfl ?_
            refine ux_callVi (As := [.int x1]) (sp_Mo_isTaken l x1 _) (by omega) cv_Mo_isTaken wk_968 rfl rfl rfl rfl rfl (Nat.le_of_ble_eq_true rfl) (dg hd_Mo_soon 26 rfl) (fun r24 σ25 _ => ?_)
            refine ux_if_ne 67 (dg hd_Mo_soon 27 rfl) (by decide) (fun _ => ?_) (fun _ => ?_)
            · refine ux_aload_n (dg hd_Mo_soon 28 rfl) rfl ?_
              refine ux_iconst (1 : Int32) (dg hd_Mo_soon 29 rfl) (by decide) ?_
              refine ux_callVv (As := [.int (1 : Int32)]) (sp_Mo_goesFor l (1 : Int32) _) (by omega) cv_Mo_goesFor wk_1078 rfl rfl rfl rfl rfl (Nat.le_of_ble_eq_true rfl) (dg hd_Mo_soon 30 rfl) (fun r30 σ31 _ => ?_)
              refine ux_iincN (1 : Int32) (fun y32 => [(2, .int y32), (0, .ref 0), (1, .int x1)]) (dg hd_Mo_soon 31 rfl) rfl (by decide) (by decide) (fun _ => rfl) (fun y32 => ?_)
              refine ux_goto 20 (dg hd_Mo_soon 32 rfl) (by decide) ?_
              refine ux_wk [(0, .ref 0), (1, .int x1), (2, .int y32)] [1, 2, 0] rfl ?_
              exact ih x1 y32 σ31
            · refine ux_aload_n (dg hd_Mo_soon 33 rfl) rfl ?_
              refine ux_callVv (As := []) (sp_Mo_putsBack l  _) (by omega) cv_Mo_putsBack wk_1082 rfl rfl rfl rfl rfl (Nat.le_of_ble_eq_true rfl) (dg hd_Mo_soon 34 rfl) (fun r26 σ27 _ => ?_)
              refine ux_iload_n (dg hd_Mo_soon 35 rfl) rfl ?_
              refine ux_bipush (99 : Int32) (dg hd_Mo_soon 36 rfl) (by decide) ?_
              refine ux_icmp_le 86 (dg hd_Mo_soon 37 rfl) (by decide) (fun _ => ?_) (fun _ => ?_)
              · refine ux_iload_n (dg hd_Mo_soon 42 rfl) rfl ?_
                exact ux_iret rfl (dg hd_Mo_soon 43 rfl)
              · refine ux_aload_n (dg hd_Mo_soon 38 rfl) rfl ?_
                refine ux_ldc (-1000000002 : Int32) wk_1090 (dg hd_Mo_soon 39 rfl) ?_
                refine ux_callVi (As := [.int (-1000000002 : Int32)]) (sp_Mo_error l (-1000000002 : Int32) _) (by omega) cv_Mo_error wk_848 rfl rfl rfl rfl rfl (Nat.le_of_ble_eq_true rfl) (dg hd_Mo_soon 40 rfl) (fun r28 σ29 _ => ?_)
                refine ux_goto 87 (dg hd_Mo_soon 41 rfl) (by decide) ?_
                exact ux_iret rfl (dg hd_Mo_soon 43 rfl)
def Mo_soon (p1 : Int32) (σ : St) : Option (Int32 × St) :=
  bnd (Mo_isTreaty p1 σ) (fun r1 σ2 =>
  if r1 = (0 : Int32) then (
  bnd (Mo_error (-1000000001 : Int32) σ2) (fun r33 σ34 =>
  some (r33, σ34))) else (
  bnd (Mo_thinks  σ2) (fun r3 σ4 =>
  Mo_soon_L20 1000 p1 (0 : Int32) σ4)))
set_option maxRecDepth 100000 in
theorem sp_Mo_soon (l : Launch) (p1 : Int32) (σ : St) : Spc l shM 9 md_Mo_soon [.ref 0, .int p1] σ (Mo_soon p1 σ) := by
  refine Spc_of_Ux [(0, .ref 0), (1, .int p1)] (by decide) rfl (Nat.le_of_ble_eq_true rfl) ?_
  unfold Mo_soon
  refine ux_iload_n (dg hd_Mo_soon 0 rfl) rfl ?_
  refine ux_callSi (As := [.int p1]) (sp_Mo_isTreaty l p1 _) (by omega) cs_Mo_isTreaty wk_945 rfl rfl (Nat.le_of_ble_eq_true rfl) (dg hd_Mo_soon 1 rfl) (fun r1 σ2 _ => ?_)
  refine ux_if_ne 14 (dg hd_Mo_soon 2 rfl) (by decide) (fun _ => ?_) (fun _ => ?_)
  · refine ux_aload_n (dg hd_Mo_soon 3 rfl) rfl ?_
    refine ux_ldc (-1000000001 : Int32) wk_847 (dg hd_Mo_soon 4 rfl) ?_
    refine ux_callVi (As := [.int (-1000000001 : Int32)]) (sp_Mo_error l (-1000000001 : Int32) _) (by omega) cv_Mo_error wk_848 rfl rfl rfl rfl rfl (Nat.le_of_ble_eq_true rfl) (dg hd_Mo_soon 5 rfl) (fun r33 σ34 _ => ?_)
    exact ux_iret rfl (dg hd_Mo_soon 6 rfl)
  · refine ux_aload_n (dg hd_Mo_soon 7 rfl) rfl ?_
    refine ux_callVv (As := []) (sp_Mo_thinks l  _) (by omega) cv_Mo_thinks wk_1071 rfl rfl rfl rfl rfl (Nat.le_of_ble_eq_true rfl) (dg hd_Mo_soon 8 rfl) (fun r3 σ4 _ => ?_)
    refine ux_iconst (0 : Int32) (dg hd_Mo_soon 9 rfl) (by decide) ?_
    refine ux_istore_n [(2, .int (0 : Int32)), (0, .ref 0), (1, .int p1)] (dg hd_Mo_soon 10 rfl) (by decide) rfl ?_
    refine ux_wk [(0, .ref 0), (1, .int p1), (2, .int (0 : Int32))] [1, 2, 0] rfl ?_
    exact wk_Mo_soon_L20 l 1000 p1 (0 : Int32) σ4
def Mo_meets_L59 : Nat → Int32 → Int32 → Int32 → Int32 → Int32 → St → Option (Int32 × St)
  | 0, _, _, _, _, _, _ => none
  | n + 1, x1, x2, x3, x4, x5, σ =>
    grd (inb (0 : Int32) 366) (
    if ((σ.2 1 (0 : Int32).toNatClampNeg) + (x2 * x4)) ≤ x5 then (
    bnd (Mo_error (-1000000002 : Int32) σ) (fun r16 σ17 =>
    some (r16, σ17))) else (
    grd (nz x2) (
    if (irm x5 x2) = x1 then (
    grd (nz x4) (
    if (irm x5 x4) = x3 then (
    some (x5, σ)) else (
    nam (x5 + (1 : Int32)) (fun y19 =>
    Mo_meets_L59 n x1 x2 x3 x4 y19 σ)))) else (
    nam (x5 + (1 : Int32)) (fun y18 =>
    Mo_meets_L59 n x1 x2 x3 x4 y18 σ)))))
set_option maxRecDepth 100000 in
theorem wk_Mo_meets_L59 (l : Launch) : ∀ (n : Nat) (x1 x2 x3 x4 x5 : Int32) (σ : St), Ux l shM 3 md_Mo_meets 59 [(0, .ref 0), (1, .int x1), (2, .int x2), (3, .int x3), (4, .int x4), (5, .int x5)] [] σ (Mo_meets_L59 n x1 x2 x3 x4 x5 σ) := by
  intro n
  induction n with
  | zero => intros; exact ux_none
  | succ n ih =>
    intro x1 x2 x3 x4 x5 σ
    unfold Mo_meets_L59
    refine ux_iload (dg hd_Mo_meets 33 rfl) rfl ?_
    refine ux_aload_n (dg hd_Mo_meets 34 rfl) rfl ?_
    refine ux_getr (q := 1) fcX7 0 (by decide) wk_773 rfl rfl (dg hd_Mo_meets 35 rfl) ?_
    refine ux_iconst (0 : Int32) (dg hd_Mo_meets 36 rfl) (by decide) ?_
    refine ux_iald rfl (dg hd_Mo_meets 37 rfl) ?_
    refine ux_iload_n (dg hd_Mo_meets 38 rfl) rfl ?_
    refine ux_iload (dg hd_Mo_meets 39 rfl) rfl ?_
    refine ux_imul (dg hd_Mo_meets 40 rfl) ?_
    refine ux_iadd (dg hd_Mo_meets 41 rfl) ?_
    refine ux_icmp_ge 101 (dg hd_Mo_meets 42 rfl) (by decide) (fun _ => ?_) (fun _ => ?_)
    · refine ux_aload_n (dg hd_Mo_meets 57 rfl) rfl ?_
      refine ux_ldc (-1000000002 : Int32) wk_1090 (dg hd_Mo_meets 58 rfl) ?_
      refine ux_callVi (As := [.int (-1000000002 : Int32)]) (sp_Mo_error l (-1000000002 : Int32) _) (by omega) cv_Mo_error wk_848 rfl rfl rfl rfl rfl (Nat.le_of_ble_eq_true rfl) (dg hd_Mo_meets 59 rfl) (fun r16 σ17 _ => ?_)
      exact ux_iret rfl (dg hd_Mo_meets 60 rfl)
    · refine ux_iload (dg hd_Mo_meets 43 rfl) rfl ?_
      refine ux_iload_n (dg hd_Mo_meets 44 rfl) rfl ?_
      refine ux_irem (dg hd_Mo_meets 45 rfl) ?_
      refine ux_iload_n (dg hd_Mo_meets 46 rfl) rfl ?_
      refine ux_icmp_ne 95 (dg hd_Mo_meets 47 rfl) (by decide) (fun _ => ?_) (fun _ => ?_)
      · refine ux_iload (dg hd_Mo_meets 48 rfl) rfl ?_
        refine ux_iload (dg hd_Mo_meets 49 rfl) rfl ?_
        refine ux_irem (dg hd_Mo_meets 50 rfl) ?_
        refine ux_iload_n (dg hd_Mo_meets 51 rfl) rfl ?_
        refine ux_icmp_ne 95 (dg hd_Mo_meets 52 rfl) (by decide) (fun _ => ?_) (fun _ => ?_)
        · refine ux_iload (dg hd_Mo_meets 53 rfl) rfl ?_
          exact ux_iret rfl (dg hd_Mo_meets 54 rfl)
        · refine ux_iincN (1 : Int32) (fun y19 => [(5, .int y19), (0, .ref 0), (1, .int x1), (2, .int x2), (3, .int x3), (4, .int x4)]) (dg hd_Mo_meets 55 rfl) rfl (by decide) (by decide) (fun _ => rfl) (fun y19 => ?_)
          refine ux_goto 59 (dg hd_Mo_meets 56 rfl) (by decide) ?_
          refine ux_wk [(0, .ref 0), (1, .int x1), (2, .int x2), (3, .int x3), (4, .int x4), (5, .int y19)] [1, 2, 3, 4, 5, 0] rfl ?_
          exact ih x1 x2 x3 x4 y19 σ
      · refine ux_iincN (1 : Int32) (fun y18 => [(5, .int y18), (0, .ref 0), (1, .int x1), (2, .int x2), (3, .int x3), (4, .int x4)]) (dg hd_Mo_meets 55 rfl) rfl (by decide) (by decide) (fun _ => rfl) (fun y18 => ?_)
        refine ux_goto 59 (dg hd_Mo_meets 56 rfl) (by decide) ?_
        refine ux_wk [(0, .ref 0), (1, .int x1), (2, .int x2), (3, .int x3), (4, .int x4), (5, .int y18)] [1, 2, 3, 4, 5, 0] rfl ?_
        exact ih x1 x2 x3 x4 y18 σ
def Mo_meets (p1 : Int32) (p2 : Int32) (p3 : Int32) (p4 : Int32) (σ : St) : Option (Int32 × St) :=
  bnd (Mo_in p2 (1 : Int32) (30 : Int32) σ) (fun r1 σ2 =>
  if r1 = (0 : Int32) then (
  bnd (Mo_error (-1000000001 : Int32) σ2) (fun r3 σ4 =>
  some (r3, σ4))) else (
  bnd (Mo_in p4 (1 : Int32) (30 : Int32) σ2) (fun r5 σ6 =>
  if r5 = (0 : Int32) then (
  bnd (Mo_error (-1000000001 : Int32) σ6) (fun r7 σ8 =>
  some (r7, σ8))) else (
  bnd (Mo_in p1 (0 : Int32) (p2 - (1 : Int32)) σ6) (fun r9 σ10 =>
  if r9 = (0 : Int32) then (
  bnd (Mo_error (-1000000001 : Int32) σ10) (fun r11 σ12 =>
  some (r11, σ12))) else (
  bnd (Mo_in p3 (0 : Int32) (p4 - (1 : Int32)) σ10) (fun r13 σ14 =>
  if r13 = (0 : Int32) then (
  bnd (Mo_error (-1000000001 : Int32) σ14) (fun r20 σ21 =>
  some (r20, σ21))) else (
  grd (inb (0 : Int32) 366) (
  nam (σ14.2 1 (0 : Int32).toNatClampNeg) (fun y15 =>
  Mo_meets_L59 1000 p1 p2 p3 p4 y15 σ14))))))))))
set_option maxRecDepth 100000 in
theorem sp_Mo_meets (l : Launch) (p1 : Int32) (p2 : Int32) (p3 : Int32) (p4 : Int32) (σ : St) : Spc l shM 3 md_Mo_meets [.ref 0, .int p1, .int p2, .int p3, .int p4] σ (Mo_meets p1 p2 p3 p4 σ) := by
  refine Spc_of_Ux [(0, .ref 0), (1, .int p1), (2, .int p2), (3, .int p3), (4, .int p4)] (by decide) rfl (Nat.le_of_ble_eq_true rfl) ?_
  unfold Mo_meets
  refine ux_iload_n (dg hd_Mo_meets 0 rfl) rfl ?_
  refine ux_iconst (1 : Int32) (dg hd_Mo_meets 1 rfl) (by decide) ?_
  refine ux_bipush (30 : Int32) (dg hd_Mo_meets 2 rfl) (by decide) ?_
  refine ux_callSi (As := [.int p2, .int (1 : Int32), .int (30 : Int32)]) (sp_Mo_in l p2 (1 : Int32) (30 : Int32) _) (by omega) cs_Mo_in wk_844 rfl rfl (Nat.le_of_ble_eq_true rfl) (dg hd_Mo_meets 3 rfl) (fun r1 σ2 _ => ?_)
  refine ux_if_eq 44 (dg hd_Mo_meets 4 rfl) (by decide) (fun _ => ?_) (fun _ => ?_)
  · refine ux_aload_n (dg hd_Mo_meets 24 rfl) rfl ?_
    refine ux_ldc (-1000000001 : Int32) wk_847 (dg hd_Mo_meets 25 rfl) ?_
    refine ux_callVi (As := [.int (-1000000001 : Int32)]) (sp_Mo_error l (-1000000001 : Int32) _) (by omega) cv_Mo_error wk_848 rfl rfl rfl rfl rfl (Nat.le_of_ble_eq_true rfl) (dg hd_Mo_meets 26 rfl) (fun r3 σ4 _ => ?_)
    exact ux_iret rfl (dg hd_Mo_meets 27 rfl)
  · refine ux_iload (dg hd_Mo_meets 5 rfl) rfl ?_
    refine ux_iconst (1 : Int32) (dg hd_Mo_meets 6 rfl) (by decide) ?_
    refine ux_bipush (30 : Int32) (dg hd_Mo_meets 7 rfl) (by decide) ?_
    refine ux_callSi (As := [.int p4, .int (1 : Int32), .int (30 : Int32)]) (sp_Mo_in l p4 (1 : Int32) (30 : Int32) _) (by omega) cs_Mo_in wk_844 rfl rfl (Nat.le_of_ble_eq_true rfl) (dg hd_Mo_meets 8 rfl) (fun r5 σ6 _ => ?_)
    refine ux_if_eq 44 (dg hd_Mo_meets 9 rfl) (by decide) (fun _ => ?_) (fun _ => ?_)
    · refine ux_aload_n (dg hd_Mo_meets 24 rfl) rfl ?_
      refine ux_ldc (-1000000001 : Int32) wk_847 (dg hd_Mo_meets 25 rfl) ?_
      refine ux_callVi (As := [.int (-1000000001 : Int32)]) (sp_Mo_error l (-1000000001 : Int32) _) (by omega) cv_Mo_error wk_848 rfl rfl rfl rfl rfl (Nat.le_of_ble_eq_true rfl) (dg hd_Mo_meets 26 rfl) (fun r7 σ8 _ => ?_)
      exact ux_iret rfl (dg hd_Mo_meets 27 rfl)
    · refine ux_iload_n (dg hd_Mo_meets 10 rfl) rfl ?_
      refine ux_iconst (0 : Int32) (dg hd_Mo_meets 11 rfl) (by decide) ?_
      refine ux_iload_n (dg hd_Mo_meets 12 rfl) rfl ?_
      refine ux_iconst (1 : Int32) (dg hd_Mo_meets 13 rfl) (by decide) ?_
      refine ux_isub (dg hd_Mo_meets 14 rfl) ?_
      refine ux_callSi (As := [.int p1, .int (0 : Int32), .int (p2 - (1 : Int32))]) (sp_Mo_in l p1 (0 : Int32) (p2 - (1 : Int32)) _) (by omega) cs_Mo_in wk_844 rfl rfl (Nat.le_of_ble_eq_true rfl) (dg hd_Mo_meets 15 rfl) (fun r9 σ10 _ => ?_)
      refine ux_if_eq 44 (dg hd_Mo_meets 16 rfl) (by decide) (fun _ => ?_) (fun _ => ?_)
      · refine ux_aload_n (dg hd_Mo_meets 24 rfl) rfl ?_
        refine ux_ldc (-1000000001 : Int32) wk_847 (dg hd_Mo_meets 25 rfl) ?_
        refine ux_callVi (As := [.int (-1000000001 : Int32)]) (sp_Mo_error l (-1000000001 : Int32) _) (by omega) cv_Mo_error wk_848 rfl rfl rfl rfl rfl (Nat.le_of_ble_eq_true rfl) (dg hd_Mo_meets 26 rfl) (fun r11 σ12 _ => ?_)
        exact ux_iret rfl (dg hd_Mo_meets 27 rfl)
      · refine ux_iload_n (dg hd_Mo_meets 17 rfl) rfl ?_
        refine ux_iconst (0 : Int32) (dg hd_Mo_meets 18 rfl) (by decide) ?_
        refine ux_iload (dg hd_Mo_meets 19 rfl) rfl ?_
        refine ux_iconst (1 : Int32) (dg hd_Mo_meets 20 rfl) (by decide) ?_
        refine ux_isub (dg hd_Mo_meets 21 rfl) ?_
        refine ux_callSi (As := [.int p3, .int (0 : Int32), .int (p4 - (1 : Int32))]) (sp_Mo_in l p3 (0 : Int32) (p4 - (1 : Int32)) _) (by omega) cs_Mo_in wk_844 rfl rfl (Nat.le_of_ble_eq_true rfl) (dg hd_Mo_meets 22 rfl) (fun r13 σ14 _ => ?_)
        refine ux_if_ne 51 (dg hd_Mo_meets 23 rfl) (by decide) (fun _ => ?_) (fun _ => ?_)
        · refine ux_aload_n (dg hd_Mo_meets 24 rfl) rfl ?_
          refine ux_ldc (-1000000001 : Int32) wk_847 (dg hd_Mo_meets 25 rfl) ?_
          refine ux_callVi (As := [.int (-1000000001 : Int32)]) (sp_Mo_error l (-1000000001 : Int32) _) (by omega) cv_Mo_error wk_848 rfl rfl rfl rfl rfl (Nat.le_of_ble_eq_true rfl) (dg hd_Mo_meets 26 rfl) (fun r20 σ21 _ => ?_)
          exact ux_iret rfl (dg hd_Mo_meets 27 rfl)
        · refine ux_aload_n (dg hd_Mo_meets 28 rfl) rfl ?_
          refine ux_getr (q := 1) fcX7 0 (by decide) wk_773 rfl rfl (dg hd_Mo_meets 29 rfl) ?_
          refine ux_iconst (0 : Int32) (dg hd_Mo_meets 30 rfl) (by decide) ?_
          refine ux_iald rfl (dg hd_Mo_meets 31 rfl) ?_
          refine ux_nam (fun y15 => ?_)
          refine ux_istore [(5, .int y15), (0, .ref 0), (1, .int p1), (2, .int p2), (3, .int p3), (4, .int p4)] (dg hd_Mo_meets 32 rfl) (by decide) rfl ?_
          refine ux_wk [(0, .ref 0), (1, .int p1), (2, .int p2), (3, .int p3), (4, .int p4), (5, .int y15)] [1, 2, 3, 4, 5, 0] rfl ?_
          exact wk_Mo_meets_L59 l 1000 p1 p2 p3 p4 y15 σ14
def Mo_odds_L64 : Nat → Int32 → Int32 → Int32 → Int32 → Int32 → St → Option (Int32 × St)
  | 0, _, _, _, _, _, _ => none
  | n + 1, x1, x2, x3, x4, x5, σ =>
    grd (nz (2 : Int32)) (
    if (irm x3 (2 : Int32)) = (0 : Int32) then (
    if x4 ≤ (1 : Int32) then (
    if x2 = (0 : Int32) then (
    some (x3, σ)) else (
    some (x4, σ))) else (
    grd (nz (2 : Int32)) (
    nam (x3 / (2 : Int32)) (fun y7 =>
    grd (nz (2 : Int32)) (
    nam (x4 / (2 : Int32)) (fun y8 =>
    Mo_odds_L64 n x1 x2 y7 y8 x5 σ)))))) else (
    if x2 = (0 : Int32) then (
    some (x3, σ)) else (
    some (x4, σ))))
set_option maxRecDepth 100000 in
theorem wk_Mo_odds_L64 (l : Launch) : ∀ (n : Nat) (x1 x2 x3 x4 x5 : Int32) (σ : St), Ux l shM 7 md_Mo_odds 64 [(0, .ref 0), (1, .int x1), (2, .int x2), (3, .int x3), (4, .int x4), (5, .int x5)] [] σ (Mo_odds_L64 n x1 x2 x3 x4 x5 σ) := by
  intro n
  induction n with
  | zero => intros; exact ux_none
  | succ n ih =>
    intro x1 x2 x3 x4 x5 σ
    unfold Mo_odds_L64
    refine ux_iload_n (dg hd_Mo_odds 35 rfl) rfl ?_
    refine ux_iconst (2 : Int32) (dg hd_Mo_odds 36 rfl) (by decide) ?_
    refine ux_irem (dg hd_Mo_odds 37 rfl) ?_
    refine ux_if_ne 89 (dg hd_Mo_odds 38 rfl) (by decide) (fun _ => ?_) (fun _ => ?_)
    · refine ux_iload (dg hd_Mo_odds 39 rfl) rfl ?_
      refine ux_iconst (1 : Int32) (dg hd_Mo_odds 40 rfl) (by decide) ?_
      refine ux_icmp_le 89 (dg hd_Mo_odds 41 rfl) (by decide) (fun _ => ?_) (fun _ => ?_)
      · refine ux_iload_n (dg hd_Mo_odds 51 rfl) rfl ?_
        refine ux_if_ne 97 (dg hd_Mo_odds 52 rfl) (by decide) (fun _ => ?_) (fun _ => ?_)
        · refine ux_iload_n (dg hd_Mo_odds 53 rfl) rfl ?_
          refine ux_goto 99 (dg hd_Mo_odds 54 rfl) (by decide) ?_
          exact ux_iret rfl (dg hd_Mo_odds 56 rfl)
        · refine ux_iload (dg hd_Mo_odds 55 rfl) rfl ?_
          exact ux_iret rfl (dg hd_Mo_odds 56 rfl)
      · refine ux_iload_n (dg hd_Mo_odds 42 rfl) rfl ?_
        refine ux_iconst (2 : Int32) (dg hd_Mo_odds 43 rfl) (by decide) ?_
        refine ux_idiv (dg hd_Mo_odds 44 rfl) ?_
        refine ux_nam (fun y7 => ?_)
        refine ux_istore_n [(3, .int y7), (0, .ref 0), (1, .int x1), (2, .int x2), (4, .int x4), (5, .int x5)] (dg hd_Mo_odds 45 rfl) (by decide) rfl ?_
        refine ux_iload (dg hd_Mo_odds 46 rfl) rfl ?_
        refine ux_iconst (2 : Int32) (dg hd_Mo_odds 47 rfl) (by decide) ?_
        refine ux_idiv (dg hd_Mo_odds 48 rfl) ?_
        refine ux_nam (fun y8 => ?_)
        refine ux_istore [(4, .int y8), (3, .int y7), (0, .ref 0), (1, .int x1), (2, .int x2), (5, .int x5)] (dg hd_Mo_odds 49 rfl) (by decide) rfl ?_
        refine ux_goto 64 (dg hd_Mo_odds 50 rfl) (by decide) ?_
        refine ux_wk [(0, .ref 0), (1, .int x1), (2, .int x2), (3, .int y7), (4, .int y8), (5, .int x5)] [2, 3, 4, 1, 0, 5] rfl ?_
        exact ih x1 x2 y7 y8 x5 σ
    · refine ux_iload_n (dg hd_Mo_odds 51 rfl) rfl ?_
      refine ux_if_ne 97 (dg hd_Mo_odds 52 rfl) (by decide) (fun _ => ?_) (fun _ => ?_)
      · refine ux_iload_n (dg hd_Mo_odds 53 rfl) rfl ?_
        refine ux_goto 99 (dg hd_Mo_odds 54 rfl) (by decide) ?_
        exact ux_iret rfl (dg hd_Mo_odds 56 rfl)
      · refine ux_iload (dg hd_Mo_odds 55 rfl) rfl ?_
        exact ux_iret rfl (dg hd_Mo_odds 56 rfl)
def Mo_odds_L33 : Nat → Int32 → Int32 → Int32 → Int32 → Int32 → St → Option (Int32 × St)
  | 0, _, _, _, _, _, _ => none
  | n + 1, x1, x2, x3, x4, x5, σ =>
    if (64 : Int32) ≤ x5 then (
    Mo_odds_L64 1000 x1 x2 x3 x4 x5 σ) else (
    bnd (Mo_doesTake x1 x5 σ) (fun r9 σ10 =>
    if r9 = (0 : Int32) then (
    nam (x3 + (0 : Int32)) (fun y11 =>
    nam (x5 + (1 : Int32)) (fun y12 =>
    Mo_odds_L33 n x1 x2 y11 x4 y12 σ10))) else (
    nam (x3 + (1 : Int32)) (fun y13 =>
    nam (x5 + (1 : Int32)) (fun y14 =>
    Mo_odds_L33 n x1 x2 y13 x4 y14 σ10)))))
set_option maxRecDepth 100000 in
theorem wk_Mo_odds_L33 (l : Launch) : ∀ (n : Nat) (x1 x2 x3 x4 x5 : Int32) (σ : St), Ux l shM 7 md_Mo_odds 33 [(0, .ref 0), (1, .int x1), (2, .int x2), (3, .int x3), (4, .int x4), (5, .int x5)] [] σ (Mo_odds_L33 n x1 x2 x3 x4 x5 σ) := by
  intro n
  induction n with
  | zero => intros; exact ux_none
  | succ n ih =>
    intro x1 x2 x3 x4 x5 σ
    unfold Mo_odds_L33
    refine ux_iload (dg hd_Mo_odds 19 rfl) rfl ?_
    refine ux_bipush (64 : Int32) (dg hd_Mo_odds 20 rfl) (by decide) ?_
    refine ux_icmp_ge 64 (dg hd_Mo_odds 21 rfl) (by decide) (fun _ => ?_) (fun _ => ?_)
    · refine ux_wk [(0, .ref 0), (1, .int x1), (2, .int x2), (3, .int x3), (4, .int x4), (5, .int x5)] [0, 1, 2, 3, 4, 5] rfl ?_
      exact wk_Mo_odds_L64 l 1000 x1 x2 x3 x4 x5 σ
    · refine ux_iload_n (dg hd_Mo_odds 22 rfl) rfl ?_
      refine ux_aload_n (dg hd_Mo_odds 23 rfl) rfl ?_
      refine ux_iload_n (dg hd_Mo_odds 24 rfl) rfl ?_
      refine ux_iload (dg hd_Mo_odds 25 rfl) rfl ?_
      refine ux_callVi (As := [.int x1, .int x5]) (sp_Mo_doesTake l x1 x5 _) (by omega) cv_Mo_doesTake wk_972 rfl rfl rfl rfl rfl (Nat.le_of_ble_eq_true rfl) (dg hd_Mo_odds 26 rfl) (fun r9 σ10 _ => ?_)
      refine ux_if_eq 55 (dg hd_Mo_odds 27 rfl) (by decide) (fun _ => ?_) (fun _ => ?_)
      · refine ux_iconst (0 : Int32) (dg hd_Mo_odds 30 rfl) (by decide) ?_
        refine ux_iadd (dg hd_Mo_odds 31 rfl) ?_
        refine ux_nam (fun y11 => ?_)
        refine ux_istore_n [(3, .int y11), (0, .ref 0), (1, .int x1), (2, .int x2), (4, .int x4), (5, .int x5)] (dg hd_Mo_odds 32 rfl) (by decide) rfl ?_
        refine ux_iincN (1 : Int32) (fun y12 => [(5, .int y12), (3, .int y11), (0, .ref 0), (1, .int x1), (2, .int x2), (4, .int x4)]) (dg hd_Mo_odds 33 rfl) rfl (by decide) (by decide) (fun _ => rfl) (fun y12 => ?_)
        refine ux_goto 33 (dg hd_Mo_odds 34 rfl) (by decide) ?_
        refine ux_wk [(0, .ref 0), (1, .int x1), (2, .int x2), (3, .int y11), (4, .int x4), (5, .int y12)] [2, 3, 4, 1, 5, 0] rfl ?_
        exact ih x1 x2 y11 x4 y12 σ10
      · refine ux_iconst (1 : Int32) (dg hd_Mo_odds 28 rfl) (by decide) ?_
        refine ux_goto 56 (dg hd_Mo_odds 29 rfl) (by decide) ?_
        refine ux_iadd (dg hd_Mo_odds 31 rfl) ?_
        refine ux_nam (fun y13 => ?_)
        refine ux_istore_n [(3, .int y13), (0, .ref 0), (1, .int x1), (2, .int x2), (4, .int x4), (5, .int x5)] (dg hd_Mo_odds 32 rfl) (by decide) rfl ?_
        refine ux_iincN (1 : Int32) (fun y14 => [(5, .int y14), (3, .int y13), (0, .ref 0), (1, .int x1), (2, .int x2), (4, .int x4)]) (dg hd_Mo_odds 33 rfl) rfl (by decide) (by decide) (fun _ => rfl) (fun y14 => ?_)
        refine ux_goto 33 (dg hd_Mo_odds 34 rfl) (by decide) ?_
        refine ux_wk [(0, .ref 0), (1, .int x1), (2, .int x2), (3, .int y13), (4, .int x4), (5, .int y14)] [2, 3, 4, 1, 5, 0] rfl ?_
        exact ih x1 x2 y13 x4 y14 σ10
def Mo_odds (p1 : Int32) (p2 : Int32) (σ : St) : Option (Int32 × St) :=
  bnd (Mo_isJumper p1 σ) (fun r1 σ2 =>
  if r1 = (0 : Int32) then (
  bnd (Mo_error (-1000000001 : Int32) σ2) (fun r3 σ4 =>
  some (r3, σ4))) else (
  bnd (Mo_in p2 (0 : Int32) (1 : Int32) σ2) (fun r5 σ6 =>
  if r5 = (0 : Int32) then (
  bnd (Mo_error (-1000000001 : Int32) σ6) (fun r15 σ16 =>
  some (r15, σ16))) else (
  Mo_odds_L33 1000 p1 p2 (0 : Int32) (64 : Int32) (0 : Int32) σ6))))
set_option maxRecDepth 100000 in
theorem sp_Mo_odds (l : Launch) (p1 : Int32) (p2 : Int32) (σ : St) : Spc l shM 7 md_Mo_odds [.ref 0, .int p1, .int p2] σ (Mo_odds p1 p2 σ) := by
  refine Spc_of_Ux [(0, .ref 0), (1, .int p1), (2, .int p2)] (by decide) rfl (Nat.le_of_ble_eq_true rfl) ?_
  unfold Mo_odds
  refine ux_aload_n (dg hd_Mo_odds 0 rfl) rfl ?_
  refine ux_iload_n (dg hd_Mo_odds 1 rfl) rfl ?_
  refine ux_callVi (As := [.int p1]) (sp_Mo_isJumper l p1 _) (by omega) cv_Mo_isJumper wk_862 rfl rfl rfl rfl rfl (Nat.le_of_ble_eq_true rfl) (dg hd_Mo_odds 2 rfl) (fun r1 σ2 _ => ?_)
  refine ux_if_eq 17 (dg hd_Mo_odds 3 rfl) (by decide) (fun _ => ?_) (fun _ => ?_)
  · refine ux_aload_n (dg hd_Mo_odds 9 rfl) rfl ?_
    refine ux_ldc (-1000000001 : Int32) wk_847 (dg hd_Mo_odds 10 rfl) ?_
    refine ux_callVi (As := [.int (-1000000001 : Int32)]) (sp_Mo_error l (-1000000001 : Int32) _) (by omega) cv_Mo_error wk_848 rfl rfl rfl rfl rfl (Nat.le_of_ble_eq_true rfl) (dg hd_Mo_odds 11 rfl) (fun r3 σ4 _ => ?_)
    exact ux_iret rfl (dg hd_Mo_odds 12 rfl)
  · refine ux_iload_n (dg hd_Mo_odds 4 rfl) rfl ?_
    refine ux_iconst (0 : Int32) (dg hd_Mo_odds 5 rfl) (by decide) ?_
    refine ux_iconst (1 : Int32) (dg hd_Mo_odds 6 rfl) (by decide) ?_
    refine ux_callSi (As := [.int p2, .int (0 : Int32), .int (1 : Int32)]) (sp_Mo_in l p2 (0 : Int32) (1 : Int32) _) (by omega) cs_Mo_in wk_844 rfl rfl (Nat.le_of_ble_eq_true rfl) (dg hd_Mo_odds 7 rfl) (fun r5 σ6 _ => ?_)
    refine ux_if_ne 24 (dg hd_Mo_odds 8 rfl) (by decide) (fun _ => ?_) (fun _ => ?_)
    · refine ux_aload_n (dg hd_Mo_odds 9 rfl) rfl ?_
      refine ux_ldc (-1000000001 : Int32) wk_847 (dg hd_Mo_odds 10 rfl) ?_
      refine ux_callVi (As := [.int (-1000000001 : Int32)]) (sp_Mo_error l (-1000000001 : Int32) _) (by omega) cv_Mo_error wk_848 rfl rfl rfl rfl rfl (Nat.le_of_ble_eq_true rfl) (dg hd_Mo_odds 11 rfl) (fun r15 σ16 _ => ?_)
      exact ux_iret rfl (dg hd_Mo_odds 12 rfl)
    · refine ux_iconst (0 : Int32) (dg hd_Mo_odds 13 rfl) (by decide) ?_
      refine ux_istore_n [(3, .int (0 : Int32)), (0, .ref 0), (1, .int p1), (2, .int p2)] (dg hd_Mo_odds 14 rfl) (by decide) rfl ?_
      refine ux_bipush (64 : Int32) (dg hd_Mo_odds 15 rfl) (by decide) ?_
      refine ux_istore [(4, .int (64 : Int32)), (3, .int (0 : Int32)), (0, .ref 0), (1, .int p1), (2, .int p2)] (dg hd_Mo_odds 16 rfl) (by decide) rfl ?_
      refine ux_iconst (0 : Int32) (dg hd_Mo_odds 17 rfl) (by decide) ?_
      refine ux_istore [(5, .int (0 : Int32)), (4, .int (64 : Int32)), (3, .int (0 : Int32)), (0, .ref 0), (1, .int p1), (2, .int p2)] (dg hd_Mo_odds 18 rfl) (by decide) rfl ?_
      refine ux_wk [(0, .ref 0), (1, .int p1), (2, .int p2), (3, .int (0 : Int32)), (4, .int (64 : Int32)), (5, .int (0 : Int32))] [3, 4, 5, 2, 1, 0] rfl ?_
      exact wk_Mo_odds_L33 l 1000 p1 p2 (0 : Int32) (64 : Int32) (0 : Int32) σ6
def Mo_isSo_L4 : Nat → Int32 → Int32 → Int32 → St → Option (Int32 × St)
  | 0, _, _, _, _ => none
  | n + 1, x1, x2, x3, σ =>
    grd (inb x1 4) (
    if (σ.2 6 x1.toNatClampNeg) ≤ x3 then (
    grd (isB x2) (some (x2, σ))) else (
    if x2 = (0 : Int32) then (
    grd (isB x2) (some (x2, σ))) else (
    grd (inb (((24 : Int32) * x1) + x3) 96) (
    bnd (Mo_of x3 (2 : Int32) σ) (fun r1 σ2 =>
    if (σ.2 7 (((24 : Int32) * x1) + x3).toNatClampNeg) = r1 then (
    nam (x3 + (1 : Int32)) (fun y4 =>
    Mo_isSo_L4 n x1 (1 : Int32) y4 σ2)) else (
    nam (x3 + (1 : Int32)) (fun y3 =>
    Mo_isSo_L4 n x1 (0 : Int32) y3 σ2)))))))
set_option maxRecDepth 100000 in
theorem wk_Mo_isSo_L4 (l : Launch) : ∀ (n : Nat) (x1 x2 x3 : Int32) (σ : St), Ux l shM 3 md_Mo_isSo 4 [(0, .ref 0), (1, .int x1), (2, .int x2), (3, .int x3)] [] σ (Mo_isSo_L4 n x1 x2 x3 σ) := by
  intro n
  induction n with
  | zero => intros; exact ux_none
  | succ n ih =>
    intro x1 x2 x3 σ
    unfold Mo_isSo_L4
    refine ux_iload_n (dg hd_Mo_isSo 4 rfl) rfl ?_
    refine ux_aload_n (dg hd_Mo_isSo 5 rfl) rfl ?_
    refine ux_getr (q := 6) fcX7 6 (by decide) wk_779 rfl rfl (dg hd_Mo_isSo 6 rfl) ?_
    refine ux_iload_n (dg hd_Mo_isSo 7 rfl) rfl ?_
    refine ux_iald rfl (dg hd_Mo_isSo 8 rfl) ?_
    refine ux_icmp_ge 50 (dg hd_Mo_isSo 9 rfl) (by decide) (fun _ => ?_) (fun _ => ?_)
    · refine ux_iload_n (dg hd_Mo_isSo 31 rfl) rfl ?_
      exact ux_zretg rfl (dg hd_Mo_isSo 32 rfl)
    · refine ux_iload_n (dg hd_Mo_isSo 10 rfl) rfl ?_
      refine ux_if_eq 50 (dg hd_Mo_isSo 11 rfl) (by decide) (fun _ => ?_) (fun _ => ?_)
      · refine ux_iload_n (dg hd_Mo_isSo 31 rfl) rfl ?_
        exact ux_zretg rfl (dg hd_Mo_isSo 32 rfl)
      · refine ux_aload_n (dg hd_Mo_isSo 12 rfl) rfl ?_
        refine ux_getr (q := 7) fcX7 7 (by decide) wk_780 rfl rfl (dg hd_Mo_isSo 13 rfl) ?_
        refine ux_bipush (24 : Int32) (dg hd_Mo_isSo 14 rfl) (by decide) ?_
        refine ux_iload_n (dg hd_Mo_isSo 15 rfl) rfl ?_
        refine ux_imul (dg hd_Mo_isSo 16 rfl) ?_
        refine ux_iload_n (dg hd_Mo_isSo 17 rfl) rfl ?_
        refine ux_iadd (dg hd_Mo_isSo 18 rfl) ?_
        refine ux_iald rfl (dg hd_Mo_isSo 19 rfl) ?_
        refine ux_aload_n (dg hd_Mo_isSo 20 rfl) rfl ?_
        refine ux_iload_n (dg hd_Mo_isSo 21 rfl) rfl ?_
        refine ux_iconst (2 : Int32) (dg hd_Mo_isSo 22 rfl) (by decide) ?_
        refine ux_callVi (As := [.int x3, .int (2 : Int32)]) (sp_Mo_of l x3 (2 : Int32) _) (by omega) cv_Mo_of wk_866 rfl rfl rfl rfl rfl (Nat.le_of_ble_eq_true rfl) (dg hd_Mo_isSo 23 rfl) (fun r1 σ2 _ => ?_)
        refine ux_icmp_ne 42 (dg hd_Mo_isSo 24 rfl) (by decide) (fun _ => ?_) (fun _ => ?_)
        · refine ux_iconst (1 : Int32) (dg hd_Mo_isSo 25 rfl) (by decide) ?_
          refine ux_goto 43 (dg hd_Mo_isSo 26 rfl) (by decide) ?_
          refine ux_istore_n [(2, .int (1 : Int32)), (0, .ref 0), (1, .int x1), (3, .int x3)] (dg hd_Mo_isSo 28 rfl) (by decide) rfl ?_
          refine ux_iincN (1 : Int32) (fun y4 => [(3, .int y4), (2, .int (1 : Int32)), (0, .ref 0), (1, .int x1)]) (dg hd_Mo_isSo 29 rfl) rfl (by decide) (by decide) (fun _ => rfl) (fun y4 => ?_)
          refine ux_goto 4 (dg hd_Mo_isSo 30 rfl) (by decide) ?_
          refine ux_wk [(0, .ref 0), (1, .int x1), (2, .int (1 : Int32)), (3, .int y4)] [2, 3, 1, 0] rfl ?_
          exact ih x1 (1 : Int32) y4 σ2
        · refine ux_iconst (0 : Int32) (dg hd_Mo_isSo 27 rfl) (by decide) ?_
          refine ux_istore_n [(2, .int (0 : Int32)), (0, .ref 0), (1, .int x1), (3, .int x3)] (dg hd_Mo_isSo 28 rfl) (by decide) rfl ?_
          refine ux_iincN (1 : Int32) (fun y3 => [(3, .int y3), (2, .int (0 : Int32)), (0, .ref 0), (1, .int x1)]) (dg hd_Mo_isSo 29 rfl) rfl (by decide) (by decide) (fun _ => rfl) (fun y3 => ?_)
          refine ux_goto 4 (dg hd_Mo_isSo 30 rfl) (by decide) ?_
          refine ux_wk [(0, .ref 0), (1, .int x1), (2, .int (0 : Int32)), (3, .int y3)] [2, 3, 1, 0] rfl ?_
          exact ih x1 (0 : Int32) y3 σ2
def Mo_isSo (p1 : Int32) (σ : St) : Option (Int32 × St) :=
  Mo_isSo_L4 1000 p1 (1 : Int32) (0 : Int32) σ
set_option maxRecDepth 100000 in
theorem sp_Mo_isSo (l : Launch) (p1 : Int32) (σ : St) : Spc l shM 3 md_Mo_isSo [.ref 0, .int p1] σ (Mo_isSo p1 σ) := by
  refine Spc_of_Ux [(0, .ref 0), (1, .int p1)] (by decide) rfl (Nat.le_of_ble_eq_true rfl) ?_
  unfold Mo_isSo
  refine ux_iconst (1 : Int32) (dg hd_Mo_isSo 0 rfl) (by decide) ?_
  refine ux_istore_n [(2, .int (1 : Int32)), (0, .ref 0), (1, .int p1)] (dg hd_Mo_isSo 1 rfl) (by decide) rfl ?_
  refine ux_iconst (0 : Int32) (dg hd_Mo_isSo 2 rfl) (by decide) ?_
  refine ux_istore_n [(3, .int (0 : Int32)), (2, .int (1 : Int32)), (0, .ref 0), (1, .int p1)] (dg hd_Mo_isSo 3 rfl) (by decide) rfl ?_
  refine ux_wk [(0, .ref 0), (1, .int p1), (2, .int (1 : Int32)), (3, .int (0 : Int32))] [2, 3, 1, 0] rfl ?_
  exact wk_Mo_isSo_L4 l 1000 p1 (1 : Int32) (0 : Int32) σ
def Mo_isSheet (p1 : Int32) (σ : St) : Option (Int32 × St) :=
  bnd (Mo_in p1 (0 : Int32) (3 : Int32) σ) (fun r1 σ2 =>
  grd (isB r1) (some (r1, σ2)))
set_option maxRecDepth 100000 in
theorem sp_Mo_isSheet (l : Launch) (p1 : Int32) (σ : St) : Spc l shM 3 md_Mo_isSheet [.int p1] σ (Mo_isSheet p1 σ) := by
  refine Spc_of_Ux [(0, .int p1)] (by decide) rfl (Nat.le_of_ble_eq_true rfl) ?_
  unfold Mo_isSheet
  refine ux_iload_n (dg hd_Mo_isSheet 0 rfl) rfl ?_
  refine ux_iconst (0 : Int32) (dg hd_Mo_isSheet 1 rfl) (by decide) ?_
  refine ux_iconst (3 : Int32) (dg hd_Mo_isSheet 2 rfl) (by decide) ?_
  refine ux_callSi (As := [.int p1, .int (0 : Int32), .int (3 : Int32)]) (sp_Mo_in l p1 (0 : Int32) (3 : Int32) _) (by omega) cs_Mo_in wk_844 rfl rfl (Nat.le_of_ble_eq_true rfl) (dg hd_Mo_isSheet 3 rfl) (fun r1 σ2 _ => ?_)
  exact ux_zretg rfl (dg hd_Mo_isSheet 4 rfl)
def Mo_notThere (p1 : Int32) (σ : St) : Option (Int32 × St) :=
  bnd (Mo_isSheet p1 σ) (fun r1 σ2 =>
  if r1 = (0 : Int32) then (
  some ((-1000000001 : Int32), σ2)) else (
  grd (inb p1 4) (
  if (σ2.2 5 p1.toNatClampNeg) = (0 : Int32) then (
  some ((-1000000002 : Int32), σ2)) else (
  some ((0 : Int32), σ2)))))
set_option maxRecDepth 100000 in
theorem sp_Mo_notThere (l : Launch) (p1 : Int32) (σ : St) : Spc l shM 4 md_Mo_notThere [.ref 0, .int p1] σ (Mo_notThere p1 σ) := by
  refine Spc_of_Ux [(0, .ref 0), (1, .int p1)] (by decide) rfl (Nat.le_of_ble_eq_true rfl) ?_
  unfold Mo_notThere
  refine ux_iload_n (dg hd_Mo_notThere 0 rfl) rfl ?_
  refine ux_callSi (As := [.int p1]) (sp_Mo_isSheet l p1 _) (by omega) cs_Mo_isSheet wk_1135 rfl rfl (Nat.le_of_ble_eq_true rfl) (dg hd_Mo_notThere 1 rfl) (fun r1 σ2 _ => ?_)
  refine ux_if_ne 12 (dg hd_Mo_notThere 2 rfl) (by decide) (fun _ => ?_) (fun _ => ?_)
  · refine ux_ldc (-1000000001 : Int32) wk_847 (dg hd_Mo_notThere 3 rfl) ?_
    refine ux_goto 27 (dg hd_Mo_notThere 4 rfl) (by decide) ?_
    exact ux_iret rfl (dg hd_Mo_notThere 13 rfl)
  · refine ux_aload_n (dg hd_Mo_notThere 5 rfl) rfl ?_
    refine ux_getr (q := 5) fcX7 5 (by decide) wk_778 rfl rfl (dg hd_Mo_notThere 6 rfl) ?_
    refine ux_iload_n (dg hd_Mo_notThere 7 rfl) rfl ?_
    refine ux_iald rfl (dg hd_Mo_notThere 8 rfl) ?_
    refine ux_if_ne 26 (dg hd_Mo_notThere 9 rfl) (by decide) (fun _ => ?_) (fun _ => ?_)
    · refine ux_ldc (-1000000002 : Int32) wk_1090 (dg hd_Mo_notThere 10 rfl) ?_
      refine ux_goto 27 (dg hd_Mo_notThere 11 rfl) (by decide) ?_
      exact ux_iret rfl (dg hd_Mo_notThere 13 rfl)
    · refine ux_iconst (0 : Int32) (dg hd_Mo_notThere 12 rfl) (by decide) ?_
      exact ux_iret rfl (dg hd_Mo_notThere 13 rfl)
def Mo_fits_L44 : Nat → Int32 → Int32 → Int32 → St → Option (Int32 × St)
  | 0, _, _, _, _ => none
  | n + 1, x1, x2, x3, σ =>
    if (99 : Int32) < x3 then (
    bnd (Mo_putsBack  σ) (fun r5 σ6 =>
    if x3 ≤ (99 : Int32) then (
    some (x3, σ6)) else (
    bnd (Mo_error (-1000000002 : Int32) σ6) (fun r7 σ8 =>
    some (r7, σ8))))) else (
    bnd (Mo_isSo x1 σ) (fun r9 σ10 =>
    if r9 = (0 : Int32) then (
    bnd (Mo_goesFor (1 : Int32) σ10) (fun r15 σ16 =>
    nam (x3 + (1 : Int32)) (fun y17 =>
    Mo_fits_L44 n x1 x2 y17 σ16))) else (
    bnd (Mo_putsBack  σ10) (fun r11 σ12 =>
    if x3 ≤ (99 : Int32) then (
    some (x3, σ12)) else (
    bnd (Mo_error (-1000000002 : Int32) σ12) (fun r13 σ14 =>
    some (r13, σ14)))))))
set_option maxRecDepth 100000 in
theorem wk_Mo_fits_L44 (l : Launch) : ∀ (n : Nat) (x1 x2 x3 : Int32) (σ : St), Ux l shM 9 md_Mo_fits 44 [(0, .ref 0), (1, .int x1), (2, .int x2), (3, .int x3)] [] σ (Mo_fits_L44 n x1 x2 x3 σ) := by
  intro n
  induction n with
  | zero => intros; exact ux_none
  | succ n ih =>
    intro x1 x2 x3 σ
    unfold Mo_fits_L44
    refine ux_iload_n (dg hd_Mo_fits 27 rfl) rfl ?_
    refine ux_bipush (99 : Int32) (dg hd_Mo_fits 28 rfl) (by decide) ?_
    refine ux_icmp_gt 69 (dg hd_Mo_fits 29 rfl) (by decide) (fun _ => ?_) (fun _ => ?_)
    · refine ux_aload_n (dg hd_Mo_fits 39 rfl) rfl ?_
      refine ux_callVv (As := []) (sp_Mo_putsBack l  _) (by omega) cv_Mo_putsBack wk_1082 rfl rfl rfl rfl rfl (Nat.le_of_ble_eq_true rfl) (dg hd_Mo_fits 40 rfl) (fun r5 σ6 _ => ?_)
      refine ux_iload_n (dg hd_Mo_fits 41 rfl) rfl ?_
      refine ux_bipush (99 : Int32) (dg hd_Mo_fits 42 rfl) (by decide) ?_
      refine ux_icmp_le 88 (dg hd_Mo_fits 43 rfl) (by decide) (fun _ => ?_) (fun _ => ?_)
      · refine ux_iload_n (dg hd_Mo_fits 48 rfl) rfl ?_
        exact ux_iret rfl (dg hd_Mo_fits 49 rfl)
      · refine ux_aload_n (dg hd_Mo_fits 44 rfl) rfl ?_
        refine ux_ldc (-1000000002 : Int32) wk_1090 (dg hd_Mo_fits 45 rfl) ?_
        refine ux_callVi (As := [.int (-1000000002 : Int32)]) (sp_Mo_error l (-1000000002 : Int32) _) (by omega) cv_Mo_error wk_848 rfl rfl rfl rfl rfl (Nat.le_of_ble_eq_true rfl) (dg hd_Mo_fits 46 rfl) (fun r7 σ8 _ => ?_)
        refine ux_goto 89 (dg hd_Mo_fits 47 rfl) (by decide) ?_
        exact ux_iret rfl (dg hd_Mo_fits 49 rfl)
    · refine ux_aload_n (dg hd_Mo_fits 30 rfl) rfl ?_
      refine ux_iload_n (dg hd_Mo_fits 31 rfl) rfl ?_
      refine ux_callVi (As := [.int x1]) (sp_Mo_isSo l x1 _) (by omega) cv_Mo_isSo wk_1138 rfl rfl rfl rfl rfl (Nat.le_of_ble_eq_true rfl) (dg hd_Mo_fits 32 rfl) (fun r9 σ10 _ => ?_)
      refine ux_if_ne 69 (dg hd_Mo_fits 33 rfl) (by decide) (fun _ => ?_) (fun _ => ?_)
      · refine ux_aload_n (dg hd_Mo_fits 34 rfl) rfl ?_
        refine ux_iconst (1 : Int32) (dg hd_Mo_fits 35 rfl) (by decide) ?_
        refine ux_callVv (As := [.int (1 : Int32)]) (sp_Mo_goesFor l (1 : Int32) _) (by omega) cv_Mo_goesFor wk_1078 rfl rfl rfl rfl rfl (Nat.le_of_ble_eq_true rfl) (dg hd_Mo_fits 36 rfl) (fun r15 σ16 _ => ?_)
        refine ux_iincN (1 : Int32) (fun y17 => [(3, .int y17), (0, .ref 0), (1, .int x1), (2, .int x2)]) (dg hd_Mo_fits 37 rfl) rfl (by decide) (by decide) (fun _ => rfl) (fun y17 => ?_)
        refine ux_goto 44 (dg hd_Mo_fits 38 rfl) (by decide) ?_
        refine ux_wk [(0, .ref 0), (1, .int x1), (2, .int x2), (3, .int y17)] [1, 2, 3, 0] rfl ?_
        exact ih x1 x2 y17 σ16
      · refine ux_aload_n (dg hd_Mo_fits 39 rfl) rfl ?_
        refine ux_callVv (As := []) (sp_Mo_putsBack l  _) (by omega) cv_Mo_putsBack wk_1082 rfl rfl rfl rfl rfl (Nat.le_of_ble_eq_true rfl) (dg hd_Mo_fits 40 rfl) (fun r11 σ12 _ => ?_)
        refine ux_iload_n (dg hd_Mo_fits 41 rfl) rfl ?_
        refine ux_bipush (99 : Int32) (dg hd_Mo_fits 42 rfl) (by decide) ?_
        refine ux_icmp_le 88 (dg hd_Mo_fits 43 rfl) (by decide) (fun _ => ?_) (fun _ => ?_)
        · refine ux_iload_n (dg hd_Mo_fits 48 rfl) rfl ?_
          exact ux_iret rfl (dg hd_Mo_fits 49 rfl)
        · refine ux_aload_n (dg hd_Mo_fits 44 rfl) rfl ?_
          refine ux_ldc (-1000000002 : Int32) wk_1090 (dg hd_Mo_fits 45 rfl) ?_
          refine ux_callVi (As := [.int (-1000000002 : Int32)]) (sp_Mo_error l (-1000000002 : Int32) _) (by omega) cv_Mo_error wk_848 rfl rfl rfl rfl rfl (Nat.le_of_ble_eq_true rfl) (dg hd_Mo_fits 46 rfl) (fun r13 σ14 _ => ?_)
          refine ux_goto 89 (dg hd_Mo_fits 47 rfl) (by decide) ?_
          exact ux_iret rfl (dg hd_Mo_fits 49 rfl)
def Mo_fits (p1 : Int32) (σ : St) : Option (Int32 × St) :=
  bnd (Mo_notThere p1 σ) (fun r1 σ2 =>
  if r1 = (0 : Int32) then (
  grd (inb p1 4) (
  grd (inb (2 : Int32) 366) (
  if (σ2.2 6 p1.toNatClampNeg) ≤ (σ2.2 1 (2 : Int32).toNatClampNeg) then (
  bnd (Mo_thinks  σ2) (fun r3 σ4 =>
  Mo_fits_L44 1000 p1 r1 (0 : Int32) σ4)) else (
  bnd (Mo_error (-1000000002 : Int32) σ2) (fun r18 σ19 =>
  some (r18, σ19)))))) else (
  bnd (Mo_error r1 σ2) (fun r20 σ21 =>
  some (r20, σ21))))
set_option maxRecDepth 100000 in
theorem sp_Mo_fits (l : Launch) (p1 : Int32) (σ : St) : Spc l shM 9 md_Mo_fits [.ref 0, .int p1] σ (Mo_fits p1 σ) := by
  refine Spc_of_Ux [(0, .ref 0), (1, .int p1)] (by decide) rfl (Nat.le_of_ble_eq_true rfl) ?_
  unfold Mo_fits
  refine ux_aload_n (dg hd_Mo_fits 0 rfl) rfl ?_
  refine ux_iload_n (dg hd_Mo_fits 1 rfl) rfl ?_
  refine ux_callVi (As := [.int p1]) (sp_Mo_notThere l p1 _) (by omega) cv_Mo_notThere wk_1131 rfl rfl rfl rfl rfl (Nat.le_of_ble_eq_true rfl) (dg hd_Mo_fits 2 rfl) (fun r1 σ2 _ => ?_)
  refine ux_istore_n [(2, .int r1), (0, .ref 0), (1, .int p1)] (dg hd_Mo_fits 3 rfl) (by decide) rfl ?_
  refine ux_iload_n (dg hd_Mo_fits 4 rfl) rfl ?_
  refine ux_if_eq 16 (dg hd_Mo_fits 5 rfl) (by decide) (fun _ => ?_) (fun _ => ?_)
  · refine ux_aload_n (dg hd_Mo_fits 10 rfl) rfl ?_
    refine ux_getr (q := 6) fcX7 6 (by decide) wk_779 rfl rfl (dg hd_Mo_fits 11 rfl) ?_
    refine ux_iload_n (dg hd_Mo_fits 12 rfl) rfl ?_
    refine ux_iald rfl (dg hd_Mo_fits 13 rfl) ?_
    refine ux_aload_n (dg hd_Mo_fits 14 rfl) rfl ?_
    refine ux_getr (q := 1) fcX7 0 (by decide) wk_773 rfl rfl (dg hd_Mo_fits 15 rfl) ?_
    refine ux_iconst (2 : Int32) (dg hd_Mo_fits 16 rfl) (by decide) ?_
    refine ux_iald rfl (dg hd_Mo_fits 17 rfl) ?_
    refine ux_icmp_le 38 (dg hd_Mo_fits 18 rfl) (by decide) (fun _ => ?_) (fun _ => ?_)
    · refine ux_aload_n (dg hd_Mo_fits 23 rfl) rfl ?_
      refine ux_callVv (As := []) (sp_Mo_thinks l  _) (by omega) cv_Mo_thinks wk_1071 rfl rfl rfl rfl rfl (Nat.le_of_ble_eq_true rfl) (dg hd_Mo_fits 24 rfl) (fun r3 σ4 _ => ?_)
      refine ux_iconst (0 : Int32) (dg hd_Mo_fits 25 rfl) (by decide) ?_
      refine ux_istore_n [(3, .int (0 : Int32)), (2, .int r1), (0, .ref 0), (1, .int p1)] (dg hd_Mo_fits 26 rfl) (by decide) rfl ?_
      refine ux_wk [(0, .ref 0), (1, .int p1), (2, .int r1), (3, .int (0 : Int32))] [2, 3, 1, 0] rfl ?_
      exact wk_Mo_fits_L44 l 1000 p1 r1 (0 : Int32) σ4
    · refine ux_aload_n (dg hd_Mo_fits 19 rfl) rfl ?_
      refine ux_ldc (-1000000002 : Int32) wk_1090 (dg hd_Mo_fits 20 rfl) ?_
      refine ux_callVi (As := [.int (-1000000002 : Int32)]) (sp_Mo_error l (-1000000002 : Int32) _) (by omega) cv_Mo_error wk_848 rfl rfl rfl rfl rfl (Nat.le_of_ble_eq_true rfl) (dg hd_Mo_fits 21 rfl) (fun r18 σ19 _ => ?_)
      exact ux_iret rfl (dg hd_Mo_fits 22 rfl)
  · refine ux_aload_n (dg hd_Mo_fits 6 rfl) rfl ?_
    refine ux_iload_n (dg hd_Mo_fits 7 rfl) rfl ?_
    refine ux_callVi (As := [.int r1]) (sp_Mo_error l r1 _) (by omega) cv_Mo_error wk_848 rfl rfl rfl rfl rfl (Nat.le_of_ble_eq_true rfl) (dg hd_Mo_fits 8 rfl) (fun r20 σ21 _ => ?_)
    exact ux_iret rfl (dg hd_Mo_fits 9 rfl)
def Mo_begins (p1 : Int32) (σ : St) : Option (Int32 × St) :=
  if (30 : Int32) ≤ (σ.1 0 19) then (
  some (0, σ)) else (
  grd (inb (σ.1 0 19) 30) (
  nas (sA σ 13 (σ.1 0 19).toNatClampNeg p1) (fun σ1 =>
  nas (sF σ1 0 19 ((σ1.1 0 19) + (1 : Int32))) (fun σ2 =>
  some (0, σ2)))))
set_option maxRecDepth 100000 in
theorem sp_Mo_begins (l : Launch) (p1 : Int32) (σ : St) : Spc l shM 2 md_Mo_begins [.ref 0, .int p1] σ (Mo_begins p1 σ) := by
  refine Spc_of_Ux [(0, .ref 0), (1, .int p1)] (by decide) rfl (Nat.le_of_ble_eq_true rfl) ?_
  unfold Mo_begins
  refine ux_aload_n (dg hd_Mo_begins 0 rfl) rfl ?_
  refine ux_get fcX7 19 (by decide) wk_792 rfl rfl (dg hd_Mo_begins 1 rfl) ?_
  refine ux_bipush (30 : Int32) (dg hd_Mo_begins 2 rfl) (by decide) ?_
  refine ux_icmp_ge 29 (dg hd_Mo_begins 3 rfl) (by decide) (fun _ => ?_) (fun _ => ?_)
  · exact ux_vret rfl (dg hd_Mo_begins 16 rfl)
  · refine ux_aload_n (dg hd_Mo_begins 4 rfl) rfl ?_
    refine ux_getr (q := 13) fcX7 18 (by decide) wk_791 rfl rfl (dg hd_Mo_begins 5 rfl) ?_
    refine ux_aload_n (dg hd_Mo_begins 6 rfl) rfl ?_
    refine ux_get fcX7 19 (by decide) wk_792 rfl rfl (dg hd_Mo_begins 7 rfl) ?_
    refine ux_iload_n (dg hd_Mo_begins 8 rfl) rfl ?_
    refine ux_iast rfl (dg hd_Mo_begins 9 rfl) ?_
    refine ux_nas (fun σ1 => ?_)
    refine ux_aload_n (dg hd_Mo_begins 10 rfl) rfl ?_
    refine ux_dupr (dg hd_Mo_begins 11 rfl) ?_
    refine ux_get fcX7 19 (by decide) wk_792 rfl rfl (dg hd_Mo_begins 12 rfl) ?_
    refine ux_iconst (1 : Int32) (dg hd_Mo_begins 13 rfl) (by decide) ?_
    refine ux_iadd (dg hd_Mo_begins 14 rfl) ?_
    refine ux_put fcX7 19 (by decide) wk_792 rfl rfl ⟨rfl, rfl⟩ rfl rfl (dg hd_Mo_begins 15 rfl) ?_
    refine ux_nas (fun σ2 => ?_)
    exact ux_vret rfl (dg hd_Mo_begins 16 rfl)
def Mo_plainSings (p1 : Int32) (p2 : Int32) (σ : St) : Option (Int32 × St) :=
  bnd (Mo_begins (10 : Int32) σ) (fun r1 σ2 =>
  some ((p2 + p1), σ2))
set_option maxRecDepth 100000 in
theorem sp_Mo_plainSings (l : Launch) (p1 : Int32) (p2 : Int32) (σ : St) : Spc l shM 3 md_Mo_plainSings [.ref 0, .int p1, .int p2] σ (Mo_plainSings p1 p2 σ) := by
  refine Spc_of_Ux [(0, .ref 0), (1, .int p1), (2, .int p2)] (by decide) rfl (Nat.le_of_ble_eq_true rfl) ?_
  unfold Mo_plainSings
  refine ux_aload_n (dg hd_Mo_plainSings 0 rfl) rfl ?_
  refine ux_bipush (10 : Int32) (dg hd_Mo_plainSings 1 rfl) (by decide) ?_
  refine ux_callVv (As := [.int (10 : Int32)]) (sp_Mo_begins l (10 : Int32) _) (by omega) cv_Mo_begins wk_1154 rfl rfl rfl rfl rfl (Nat.le_of_ble_eq_true rfl) (dg hd_Mo_plainSings 2 rfl) (fun r1 σ2 _ => ?_)
  refine ux_iload_n (dg hd_Mo_plainSings 3 rfl) rfl ?_
  refine ux_iload_n (dg hd_Mo_plainSings 4 rfl) rfl ?_
  refine ux_iadd (dg hd_Mo_plainSings 5 rfl) ?_
  exact ux_iret rfl (dg hd_Mo_plainSings 6 rfl)
def Mo_masterSings (p1 : Int32) (p2 : Int32) (σ : St) : Option (Int32 × St) :=
  bnd (Mo_begins (20 : Int32) σ) (fun r1 σ2 =>
  bnd (Mo_plainSings p1 p2 σ2) (fun r3 σ4 =>
  some ((r3 - (4 : Int32)), σ4)))
set_option maxRecDepth 100000 in
theorem sp_Mo_masterSings (l : Launch) (p1 : Int32) (p2 : Int32) (σ : St) : Spc l shM 4 md_Mo_masterSings [.ref 0, .int p1, .int p2] σ (Mo_masterSings p1 p2 σ) := by
  refine Spc_of_Ux [(0, .ref 0), (1, .int p1), (2, .int p2)] (by decide) rfl (Nat.le_of_ble_eq_true rfl) ?_
  unfold Mo_masterSings
  refine ux_aload_n (dg hd_Mo_masterSings 0 rfl) rfl ?_
  refine ux_bipush (20 : Int32) (dg hd_Mo_masterSings 1 rfl) (by decide) ?_
  refine ux_callVv (As := [.int (20 : Int32)]) (sp_Mo_begins l (20 : Int32) _) (by omega) cv_Mo_begins wk_1154 rfl rfl rfl rfl rfl (Nat.le_of_ble_eq_true rfl) (dg hd_Mo_masterSings 2 rfl) (fun r1 σ2 _ => ?_)
  refine ux_aload_n (dg hd_Mo_masterSings 3 rfl) rfl ?_
  refine ux_iload_n (dg hd_Mo_masterSings 4 rfl) rfl ?_
  refine ux_iload_n (dg hd_Mo_masterSings 5 rfl) rfl ?_
  refine ux_callVi (As := [.int p1, .int p2]) (sp_Mo_plainSings l p1 p2 _) (by omega) cv_Mo_plainSings wk_1158 rfl rfl rfl rfl rfl (Nat.le_of_ble_eq_true rfl) (dg hd_Mo_masterSings 6 rfl) (fun r3 σ4 _ => ?_)
  refine ux_iconst (4 : Int32) (dg hd_Mo_masterSings 7 rfl) (by decide) ?_
  refine ux_isub (dg hd_Mo_masterSings 8 rfl) ?_
  exact ux_iret rfl (dg hd_Mo_masterSings 9 rfl)
def Mo_sings (p1 : Int32) (p2 : Int32) (σ : St) : Option (Int32 × St) :=
  bnd (Mo_of p1 (0 : Int32) σ) (fun r1 σ2 =>
  if r1 = (1 : Int32) then (
  bnd (Mo_masterSings p1 p2 σ2) (fun r3 σ4 =>
  some (r3, σ4))) else if r1 = (4 : Int32) then (
  bnd (Mo_begins (50 : Int32) σ2) (fun r6 σ7 =>
  bnd (Mo_masterSings p1 p2 σ7) (fun r8 σ9 =>
  some ((r8 * (3 : Int32)), σ9)))) else if r1 = (6 : Int32) then (
  bnd (Mo_begins (70 : Int32) σ2) (fun r11 σ12 =>
  some ((9 : Int32), σ12))) else (
  bnd (Mo_plainSings p1 p2 σ2) (fun r14 σ15 =>
  some (r14, σ15))))
set_option maxRecDepth 100000 in
theorem sp_Mo_sings (l : Launch) (p1 : Int32) (p2 : Int32) (σ : St) : Spc l shM 5 md_Mo_sings [.ref 0, .int p1, .int p2] σ (Mo_sings p1 p2 σ) := by
  refine Spc_of_Ux [(0, .ref 0), (1, .int p1), (2, .int p2)] (by decide) rfl (Nat.le_of_ble_eq_true rfl) ?_
  unfold Mo_sings
  refine ux_aload_n (dg hd_Mo_sings 0 rfl) rfl ?_
  refine ux_iload_n (dg hd_Mo_sings 1 rfl) rfl ?_
  refine ux_iconst (0 : Int32) (dg hd_Mo_sings 2 rfl) (by decide) ?_
  refine ux_callVi (As := [.int p1, .int (0 : Int32)]) (sp_Mo_of l p1 (0 : Int32) _) (by omega) cv_Mo_of wk_866 rfl rfl rfl rfl rfl (Nat.le_of_ble_eq_true rfl) (dg hd_Mo_sings 3 rfl) (fun r1 σ2 _ => ?_)
  refine ux_case (1 : Int32) (fun _ => ?_) (fun c5 => ?_)
  · refine ux_look 40 (dg hd_Mo_sings 4 rfl) rfl rfl (by decide) ?_
    refine ux_aload_n (dg hd_Mo_sings 5 rfl) rfl ?_
    refine ux_iload_n (dg hd_Mo_sings 6 rfl) rfl ?_
    refine ux_iload_n (dg hd_Mo_sings 7 rfl) rfl ?_
    refine ux_callVi (As := [.int p1, .int p2]) (sp_Mo_masterSings l p1 p2 _) (by omega) cv_Mo_masterSings wk_1150 rfl rfl rfl rfl rfl (Nat.le_of_ble_eq_true rfl) (dg hd_Mo_sings 8 rfl) (fun r3 σ4 _ => ?_)
    exact ux_iret rfl (dg hd_Mo_sings 9 rfl)
  refine ux_case (4 : Int32) (fun _ => ?_) (fun c10 => ?_)
  · refine ux_look 47 (dg hd_Mo_sings 4 rfl) rfl rfl (by decide) ?_
    refine ux_aload_n (dg hd_Mo_sings 10 rfl) rfl ?_
    refine ux_bipush (50 : Int32) (dg hd_Mo_sings 11 rfl) (by decide) ?_
    refine ux_callVv (As := [.int (50 : Int32)]) (sp_Mo_begins l (50 : Int32) _) (by omega) cv_Mo_begins wk_1154 rfl rfl rfl rfl rfl (Nat.le_of_ble_eq_true rfl) (dg hd_Mo_sings 12 rfl) (fun r6 σ7 _ => ?_)
    refine ux_aload_n (dg hd_Mo_sings 13 rfl) rfl ?_
    refine ux_iload_n (dg hd_Mo_sings 14 rfl) rfl ?_
    refine ux_iload_n (dg hd_Mo_sings 15 rfl) rfl ?_
    refine ux_callVi (As := [.int p1, .int p2]) (sp_Mo_masterSings l p1 p2 _) (by omega) cv_Mo_masterSings wk_1150 rfl rfl rfl rfl rfl (Nat.le_of_ble_eq_true rfl) (dg hd_Mo_sings 16 rfl) (fun r8 σ9 _ => ?_)
    refine ux_iconst (3 : Int32) (dg hd_Mo_sings 17 rfl) (by decide) ?_
    refine ux_imul (dg hd_Mo_sings 18 rfl) ?_
    exact ux_iret rfl (dg hd_Mo_sings 19 rfl)
  refine ux_case (6 : Int32) (fun _ => ?_) (fun c13 => ?_)
  · refine ux_look 62 (dg hd_Mo_sings 4 rfl) rfl rfl (by decide) ?_
    refine ux_aload_n (dg hd_Mo_sings 20 rfl) rfl ?_
    refine ux_bipush (70 : Int32) (dg hd_Mo_sings 21 rfl) (by decide) ?_
    refine ux_callVv (As := [.int (70 : Int32)]) (sp_Mo_begins l (70 : Int32) _) (by omega) cv_Mo_begins wk_1154 rfl rfl rfl rfl rfl (Nat.le_of_ble_eq_true rfl) (dg hd_Mo_sings 22 rfl) (fun r11 σ12 _ => ?_)
    refine ux_bipush (9 : Int32) (dg hd_Mo_sings 23 rfl) (by decide) ?_
    exact ux_iret rfl (dg hd_Mo_sings 24 rfl)
  refine ux_look (off := 65) 71 (dg hd_Mo_sings 4 rfl) rfl ((lv_osw (a := 1) c5 (by decide)).trans <| (lv_osw (a := 4) c10 (by decide)).trans <| (lv_osw (a := 6) c13 (by decide)).trans <| rfl) (by decide) ?_
  refine ux_aload_n (dg hd_Mo_sings 25 rfl) rfl ?_
  refine ux_iload_n (dg hd_Mo_sings 26 rfl) rfl ?_
  refine ux_iload_n (dg hd_Mo_sings 27 rfl) rfl ?_
  refine ux_callVi (As := [.int p1, .int p2]) (sp_Mo_plainSings l p1 p2 _) (by omega) cv_Mo_plainSings wk_1158 rfl rfl rfl rfl rfl (Nat.le_of_ble_eq_true rfl) (dg hd_Mo_sings 28 rfl) (fun r14 σ15 _ => ?_)
  exact ux_iret rfl (dg hd_Mo_sings 29 rfl)
def Mo_plainJumps (p1 : Int32) (p2 : Int32) (σ : St) : Option (Int32 × St) :=
  bnd (Mo_begins (11 : Int32) σ) (fun r1 σ2 =>
  bnd (Mo_sings p1 p2 σ2) (fun r3 σ4 =>
  some ((r3 * (2 : Int32)), σ4)))
set_option maxRecDepth 100000 in
theorem sp_Mo_plainJumps (l : Launch) (p1 : Int32) (p2 : Int32) (σ : St) : Spc l shM 6 md_Mo_plainJumps [.ref 0, .int p1, .int p2] σ (Mo_plainJumps p1 p2 σ) := by
  refine Spc_of_Ux [(0, .ref 0), (1, .int p1), (2, .int p2)] (by decide) rfl (Nat.le_of_ble_eq_true rfl) ?_
  unfold Mo_plainJumps
  refine ux_aload_n (dg hd_Mo_plainJumps 0 rfl) rfl ?_
  refine ux_bipush (11 : Int32) (dg hd_Mo_plainJumps 1 rfl) (by decide) ?_
  refine ux_callVv (As := [.int (11 : Int32)]) (sp_Mo_begins l (11 : Int32) _) (by omega) cv_Mo_begins wk_1154 rfl rfl rfl rfl rfl (Nat.le_of_ble_eq_true rfl) (dg hd_Mo_plainJumps 2 rfl) (fun r1 σ2 _ => ?_)
  refine ux_aload_n (dg hd_Mo_plainJumps 3 rfl) rfl ?_
  refine ux_iload_n (dg hd_Mo_plainJumps 4 rfl) rfl ?_
  refine ux_iload_n (dg hd_Mo_plainJumps 5 rfl) rfl ?_
  refine ux_callVi (As := [.int p1, .int p2]) (sp_Mo_sings l p1 p2 _) (by omega) cv_Mo_sings wk_1146 rfl rfl rfl rfl rfl (Nat.le_of_ble_eq_true rfl) (dg hd_Mo_plainJumps 6 rfl) (fun r3 σ4 _ => ?_)
  refine ux_iconst (2 : Int32) (dg hd_Mo_plainJumps 7 rfl) (by decide) ?_
  refine ux_imul (dg hd_Mo_plainJumps 8 rfl) ?_
  exact ux_iret rfl (dg hd_Mo_plainJumps 9 rfl)
def Mo_conJumps (p1 : Int32) (p2 : Int32) (σ : St) : Option (Int32 × St) :=
  bnd (Mo_begins (30 : Int32) σ) (fun r1 σ2 =>
  bnd (Mo_plainJumps p1 p2 σ2) (fun r3 σ4 =>
  some ((-r3), σ4)))
set_option maxRecDepth 100000 in
theorem sp_Mo_conJumps (l : Launch) (p1 : Int32) (p2 : Int32) (σ : St) : Spc l shM 7 md_Mo_conJumps [.ref 0, .int p1, .int p2] σ (Mo_conJumps p1 p2 σ) := by
  refine Spc_of_Ux [(0, .ref 0), (1, .int p1), (2, .int p2)] (by decide) rfl (Nat.le_of_ble_eq_true rfl) ?_
  unfold Mo_conJumps
  refine ux_aload_n (dg hd_Mo_conJumps 0 rfl) rfl ?_
  refine ux_bipush (30 : Int32) (dg hd_Mo_conJumps 1 rfl) (by decide) ?_
  refine ux_callVv (As := [.int (30 : Int32)]) (sp_Mo_begins l (30 : Int32) _) (by omega) cv_Mo_begins wk_1154 rfl rfl rfl rfl rfl (Nat.le_of_ble_eq_true rfl) (dg hd_Mo_conJumps 2 rfl) (fun r1 σ2 _ => ?_)
  refine ux_aload_n (dg hd_Mo_conJumps 3 rfl) rfl ?_
  refine ux_iload_n (dg hd_Mo_conJumps 4 rfl) rfl ?_
  refine ux_iload_n (dg hd_Mo_conJumps 5 rfl) rfl ?_
  refine ux_callVi (As := [.int p1, .int p2]) (sp_Mo_plainJumps l p1 p2 _) (by omega) cv_Mo_plainJumps wk_1170 rfl rfl rfl rfl rfl (Nat.le_of_ble_eq_true rfl) (dg hd_Mo_conJumps 6 rfl) (fun r3 σ4 _ => ?_)
  refine ux_ineg (dg hd_Mo_conJumps 7 rfl) ?_
  exact ux_iret rfl (dg hd_Mo_conJumps 8 rfl)
def Mo_jumps (p1 : Int32) (p2 : Int32) (σ : St) : Option (Int32 × St) :=
  bnd (Mo_of p1 (0 : Int32) σ) (fun r1 σ2 =>
  if r1 = (2 : Int32) then (
  bnd (Mo_conJumps p1 p2 σ2) (fun r3 σ4 =>
  some (r3, σ4))) else if r1 = (3 : Int32) then (
  bnd (Mo_plainJumps p1 p2 σ2) (fun r6 σ7 =>
  some (r6, σ7))) else if r1 = (4 : Int32) then (
  bnd (Mo_plainJumps p1 p2 σ2) (fun r9 σ10 =>
  some (r9, σ10))) else if r1 = (5 : Int32) then (
  bnd (Mo_begins (60 : Int32) σ2) (fun r12 σ13 =>
  bnd (Mo_conJumps p1 (p2 + (1 : Int32)) σ13) (fun r14 σ15 =>
  some (r14, σ15)))) else if r1 = (6 : Int32) then (
  bnd (Mo_begins (71 : Int32) σ2) (fun r17 σ18 =>
  bnd (Mo_plainJumps p1 p2 σ18) (fun r19 σ20 =>
  bnd (Mo_of p1 (1 : Int32) σ20) (fun r21 σ22 =>
  some ((r19 + r21), σ22))))) else (
  bnd (Mo_plainJumps p1 p2 σ2) (fun r24 σ25 =>
  some (r24, σ25))))
set_option maxRecDepth 100000 in
theorem sp_Mo_jumps (l : Launch) (p1 : Int32) (p2 : Int32) (σ : St) : Spc l shM 8 md_Mo_jumps [.ref 0, .int p1, .int p2] σ (Mo_jumps p1 p2 σ) := by
  refine Spc_of_Ux [(0, .ref 0), (1, .int p1), (2, .int p2)] (by decide) rfl (Nat.le_of_ble_eq_true rfl) ?_
  unfold Mo_jumps
  refine ux_aload_n (dg hd_Mo_jumps 0 rfl) rfl ?_
  refine ux_iload_n (dg hd_Mo_jumps 1 rfl) rfl ?_
  refine ux_iconst (0 : Int32) (dg hd_Mo_jumps 2 rfl) (by decide) ?_
  refine ux_callVi (As := [.int p1, .int (0 : Int32)]) (sp_Mo_of l p1 (0 : Int32) _) (by omega) cv_Mo_of wk_866 rfl rfl rfl rfl rfl (Nat.le_of_ble_eq_true rfl) (dg hd_Mo_jumps 3 rfl) (fun r1 σ2 _ => ?_)
  refine ux_case (2 : Int32) (fun _ => ?_) (fun c5 => ?_)
  · refine ux_tabIn 40 (dg hd_Mo_jumps 4 rfl) (by decide) (by decide) rfl (by decide) ?_
    refine ux_aload_n (dg hd_Mo_jumps 5 rfl) rfl ?_
    refine ux_iload_n (dg hd_Mo_jumps 6 rfl) rfl ?_
    refine ux_iload_n (dg hd_Mo_jumps 7 rfl) rfl ?_
    refine ux_callVi (As := [.int p1, .int p2]) (sp_Mo_conJumps l p1 p2 _) (by omega) cv_Mo_conJumps wk_1166 rfl rfl rfl rfl rfl (Nat.le_of_ble_eq_true rfl) (dg hd_Mo_jumps 8 rfl) (fun r3 σ4 _ => ?_)
    exact ux_iret rfl (dg hd_Mo_jumps 9 rfl)
  refine ux_case (3 : Int32) (fun _ => ?_) (fun c8 => ?_)
  · refine ux_tabIn 82 (dg hd_Mo_jumps 4 rfl) (by decide) (by decide) rfl (by decide) ?_
    refine ux_aload_n (dg hd_Mo_jumps 33 rfl) rfl ?_
    refine ux_iload_n (dg hd_Mo_jumps 34 rfl) rfl ?_
    refine ux_iload_n (dg hd_Mo_jumps 35 rfl) rfl ?_
    refine ux_callVi (As := [.int p1, .int p2]) (sp_Mo_plainJumps l p1 p2 _) (by omega) cv_Mo_plainJumps wk_1170 rfl rfl rfl rfl rfl (Nat.le_of_ble_eq_true rfl) (dg hd_Mo_jumps 36 rfl) (fun r6 σ7 _ => ?_)
    exact ux_iret rfl (dg hd_Mo_jumps 37 rfl)
  refine ux_case (4 : Int32) (fun _ => ?_) (fun c11 => ?_)
  · refine ux_tabIn 82 (dg hd_Mo_jumps 4 rfl) (by decide) (by decide) rfl (by decide) ?_
    refine ux_aload_n (dg hd_Mo_jumps 33 rfl) rfl ?_
    refine ux_iload_n (dg hd_Mo_jumps 34 rfl) rfl ?_
    refine ux_iload_n (dg hd_Mo_jumps 35 rfl) rfl ?_
    refine ux_callVi (As := [.int p1, .int p2]) (sp_Mo_plainJumps l p1 p2 _) (by omega) cv_Mo_plainJumps wk_1170 rfl rfl rfl rfl rfl (Nat.le_of_ble_eq_true rfl) (dg hd_Mo_jumps 36 rfl) (fun r9 σ10 _ => ?_)
    exact ux_iret rfl (dg hd_Mo_jumps 37 rfl)
  refine ux_case (5 : Int32) (fun _ => ?_) (fun c16 => ?_)
  · refine ux_tabIn 47 (dg hd_Mo_jumps 4 rfl) (by decide) (by decide) rfl (by decide) ?_
    refine ux_aload_n (dg hd_Mo_jumps 10 rfl) rfl ?_
    refine ux_bipush (60 : Int32) (dg hd_Mo_jumps 11 rfl) (by decide) ?_
    refine ux_callVv (As := [.int (60 : Int32)]) (sp_Mo_begins l (60 : Int32) _) (by omega) cv_Mo_begins wk_1154 rfl rfl rfl rfl rfl (Nat.le_of_ble_eq_true rfl) (dg hd_Mo_jumps 12 rfl) (fun r12 σ13 _ => ?_)
    refine ux_aload_n (dg hd_Mo_jumps 13 rfl) rfl ?_
    refine ux_iload_n (dg hd_Mo_jumps 14 rfl) rfl ?_
    refine ux_iload_n (dg hd_Mo_jumps 15 rfl) rfl ?_
    refine ux_iconst (1 : Int32) (dg hd_Mo_jumps 16 rfl) (by decide) ?_
    refine ux_iadd (dg hd_Mo_jumps 17 rfl) ?_
    refine ux_callVi (As := [.int p1, .int (p2 + (1 : Int32))]) (sp_Mo_conJumps l p1 (p2 + (1 : Int32)) _) (by omega) cv_Mo_conJumps wk_1166 rfl rfl rfl rfl rfl (Nat.le_of_ble_eq_true rfl) (dg hd_Mo_jumps 18 rfl) (fun r14 σ15 _ => ?_)
    exact ux_iret rfl (dg hd_Mo_jumps 19 rfl)
  refine ux_case (6 : Int32) (fun _ => ?_) (fun c23 => ?_)
  · refine ux_tabIn 62 (dg hd_Mo_jumps 4 rfl) (by decide) (by decide) rfl (by decide) ?_
    refine ux_aload_n (dg hd_Mo_jumps 20 rfl) rfl ?_
    refine ux_bipush (71 : Int32) (dg hd_Mo_jumps 21 rfl) (by decide) ?_
    refine ux_callVv (As := [.int (71 : Int32)]) (sp_Mo_begins l (71 : Int32) _) (by omega) cv_Mo_begins wk_1154 rfl rfl rfl rfl rfl (Nat.le_of_ble_eq_true rfl) (dg hd_Mo_jumps 22 rfl) (fun r17 σ18 _ => ?_)
    refine ux_aload_n (dg hd_Mo_jumps 23 rfl) rfl ?_
    refine ux_iload_n (dg hd_Mo_jumps 24 rfl) rfl ?_
    refine ux_iload_n (dg hd_Mo_jumps 25 rfl) rfl ?_
    refine ux_callVi (As := [.int p1, .int p2]) (sp_Mo_plainJumps l p1 p2 _) (by omega) cv_Mo_plainJumps wk_1170 rfl rfl rfl rfl rfl (Nat.le_of_ble_eq_true rfl) (dg hd_Mo_jumps 26 rfl) (fun r19 σ20 _ => ?_)
    refine ux_aload_n (dg hd_Mo_jumps 27 rfl) rfl ?_
    refine ux_iload_n (dg hd_Mo_jumps 28 rfl) rfl ?_
    refine ux_iconst (1 : Int32) (dg hd_Mo_jumps 29 rfl) (by decide) ?_
    refine ux_callVi (As := [.int p1, .int (1 : Int32)]) (sp_Mo_of l p1 (1 : Int32) _) (by omega) cv_Mo_of wk_866 rfl rfl rfl rfl rfl (Nat.le_of_ble_eq_true rfl) (dg hd_Mo_jumps 30 rfl) (fun r21 σ22 _ => ?_)
    refine ux_iadd (dg hd_Mo_jumps 31 rfl) ?_
    exact ux_iret rfl (dg hd_Mo_jumps 32 rfl)
  refine ux_tabOut 82 (dg hd_Mo_jumps 4 rfl) (by have hc5 := lv_neT (a := 2) c5 (by decide); have hc8 := lv_neT (a := 3) c8 (by decide); have hc11 := lv_neT (a := 4) c11 (by decide); have hc16 := lv_neT (a := 5) c16 (by decide); have hc23 := lv_neT (a := 6) c23 (by decide); omega) (by decide) ?_
  refine ux_aload_n (dg hd_Mo_jumps 33 rfl) rfl ?_
  refine ux_iload_n (dg hd_Mo_jumps 34 rfl) rfl ?_
  refine ux_iload_n (dg hd_Mo_jumps 35 rfl) rfl ?_
  refine ux_callVi (As := [.int p1, .int p2]) (sp_Mo_plainJumps l p1 p2 _) (by omega) cv_Mo_plainJumps wk_1170 rfl rfl rfl rfl rfl (Nat.le_of_ble_eq_true rfl) (dg hd_Mo_jumps 36 rfl) (fun r24 σ25 _ => ?_)
  exact ux_iret rfl (dg hd_Mo_jumps 37 rfl)
def Mo_plainClaps (p1 : Int32) (p2 : Int32) (σ : St) : Option (Int32 × St) :=
  bnd (Mo_begins (12 : Int32) σ) (fun r1 σ2 =>
  bnd (Mo_jumps p1 p2 σ2) (fun r3 σ4 =>
  bnd (Mo_of p1 (1 : Int32) σ4) (fun r5 σ6 =>
  some ((r3 - r5), σ6))))
set_option maxRecDepth 100000 in
theorem sp_Mo_plainClaps (l : Launch) (p1 : Int32) (p2 : Int32) (σ : St) : Spc l shM 9 md_Mo_plainClaps [.ref 0, .int p1, .int p2] σ (Mo_plainClaps p1 p2 σ) := by
  refine Spc_of_Ux [(0, .ref 0), (1, .int p1), (2, .int p2)] (by decide) rfl (Nat.le_of_ble_eq_true rfl) ?_
  unfold Mo_plainClaps
  refine ux_aload_n (dg hd_Mo_plainClaps 0 rfl) rfl ?_
  refine ux_bipush (12 : Int32) (dg hd_Mo_plainClaps 1 rfl) (by decide) ?_
  refine ux_callVv (As := [.int (12 : Int32)]) (sp_Mo_begins l (12 : Int32) _) (by omega) cv_Mo_begins wk_1154 rfl rfl rfl rfl rfl (Nat.le_of_ble_eq_true rfl) (dg hd_Mo_plainClaps 2 rfl) (fun r1 σ2 _ => ?_)
  refine ux_aload_n (dg hd_Mo_plainClaps 3 rfl) rfl ?_
  refine ux_iload_n (dg hd_Mo_plainClaps 4 rfl) rfl ?_
  refine ux_iload_n (dg hd_Mo_plainClaps 5 rfl) rfl ?_
  refine ux_callVi (As := [.int p1, .int p2]) (sp_Mo_jumps l p1 p2 _) (by omega) cv_Mo_jumps wk_1162 rfl rfl rfl rfl rfl (Nat.le_of_ble_eq_true rfl) (dg hd_Mo_plainClaps 6 rfl) (fun r3 σ4 _ => ?_)
  refine ux_aload_n (dg hd_Mo_plainClaps 7 rfl) rfl ?_
  refine ux_iload_n (dg hd_Mo_plainClaps 8 rfl) rfl ?_
  refine ux_iconst (1 : Int32) (dg hd_Mo_plainClaps 9 rfl) (by decide) ?_
  refine ux_callVi (As := [.int p1, .int (1 : Int32)]) (sp_Mo_of l p1 (1 : Int32) _) (by omega) cv_Mo_of wk_866 rfl rfl rfl rfl rfl (Nat.le_of_ble_eq_true rfl) (dg hd_Mo_plainClaps 10 rfl) (fun r5 σ6 _ => ?_)
  refine ux_isub (dg hd_Mo_plainClaps 11 rfl) ?_
  exact ux_iret rfl (dg hd_Mo_plainClaps 12 rfl)
def Mo_claps (p1 : Int32) (p2 : Int32) (σ : St) : Option (Int32 × St) :=
  bnd (Mo_of p1 (0 : Int32) σ) (fun r1 σ2 =>
  if r1 = (3 : Int32) then (
  bnd (Mo_begins (40 : Int32) σ2) (fun r3 σ4 =>
  grd (nz (2 : Int32)) (
  bnd (Mo_plainClaps p1 (p2 / (2 : Int32)) σ4) (fun r5 σ6 =>
  some (r5, σ6))))) else if r1 = (4 : Int32) then (
  bnd (Mo_begins (51 : Int32) σ2) (fun r8 σ9 =>
  bnd (Mo_plainClaps p1 p2 σ9) (fun r10 σ11 =>
  some ((r10 ^^^ p1), σ11)))) else (
  bnd (Mo_plainClaps p1 p2 σ2) (fun r13 σ14 =>
  some (r13, σ14))))
set_option maxRecDepth 100000 in
theorem sp_Mo_claps (l : Launch) (p1 : Int32) (p2 : Int32) (σ : St) : Spc l shM 10 md_Mo_claps [.ref 0, .int p1, .int p2] σ (Mo_claps p1 p2 σ) := by
  refine Spc_of_Ux [(0, .ref 0), (1, .int p1), (2, .int p2)] (by decide) rfl (Nat.le_of_ble_eq_true rfl) ?_
  unfold Mo_claps
  refine ux_aload_n (dg hd_Mo_claps 0 rfl) rfl ?_
  refine ux_iload_n (dg hd_Mo_claps 1 rfl) rfl ?_
  refine ux_iconst (0 : Int32) (dg hd_Mo_claps 2 rfl) (by decide) ?_
  refine ux_callVi (As := [.int p1, .int (0 : Int32)]) (sp_Mo_of l p1 (0 : Int32) _) (by omega) cv_Mo_of wk_866 rfl rfl rfl rfl rfl (Nat.le_of_ble_eq_true rfl) (dg hd_Mo_claps 3 rfl) (fun r1 σ2 _ => ?_)
  refine ux_case (3 : Int32) (fun _ => ?_) (fun c7 => ?_)
  · refine ux_look 32 (dg hd_Mo_claps 4 rfl) rfl rfl (by decide) ?_
    refine ux_aload_n (dg hd_Mo_claps 5 rfl) rfl ?_
    refine ux_bipush (40 : Int32) (dg hd_Mo_claps 6 rfl) (by decide) ?_
    refine ux_callVv (As := [.int (40 : Int32)]) (sp_Mo_begins l (40 : Int32) _) (by omega) cv_Mo_begins wk_1154 rfl rfl rfl rfl rfl (Nat.le_of_ble_eq_true rfl) (dg hd_Mo_claps 7 rfl) (fun r3 σ4 _ => ?_)
    refine ux_aload_n (dg hd_Mo_claps 8 rfl) rfl ?_
    refine ux_iload_n (dg hd_Mo_claps 9 rfl) rfl ?_
    refine ux_iload_n (dg hd_Mo_claps 10 rfl) rfl ?_
    refine ux_iconst (2 : Int32) (dg hd_Mo_claps 11 rfl) (by decide) ?_
    refine ux_idiv (dg hd_Mo_claps 12 rfl) ?_
    refine ux_callVi (As := [.int p1, .int (p2 / (2 : Int32))]) (sp_Mo_plainClaps l p1 (p2 / (2 : Int32)) _) (by omega) cv_Mo_plainClaps wk_1178 rfl rfl rfl rfl rfl (Nat.le_of_ble_eq_true rfl) (dg hd_Mo_claps 13 rfl) (fun r5 σ6 _ => ?_)
    exact ux_iret rfl (dg hd_Mo_claps 14 rfl)
  refine ux_case (4 : Int32) (fun _ => ?_) (fun c12 => ?_)
  · refine ux_look 47 (dg hd_Mo_claps 4 rfl) rfl rfl (by decide) ?_
    refine ux_aload_n (dg hd_Mo_claps 15 rfl) rfl ?_
    refine ux_bipush (51 : Int32) (dg hd_Mo_claps 16 rfl) (by decide) ?_
    refine ux_callVv (As := [.int (51 : Int32)]) (sp_Mo_begins l (51 : Int32) _) (by omega) cv_Mo_begins wk_1154 rfl rfl rfl rfl rfl (Nat.le_of_ble_eq_true rfl) (dg hd_Mo_claps 17 rfl) (fun r8 σ9 _ => ?_)
    refine ux_aload_n (dg hd_Mo_claps 18 rfl) rfl ?_
    refine ux_iload_n (dg hd_Mo_claps 19 rfl) rfl ?_
    refine ux_iload_n (dg hd_Mo_claps 20 rfl) rfl ?_
    refine ux_callVi (As := [.int p1, .int p2]) (sp_Mo_plainClaps l p1 p2 _) (by omega) cv_Mo_plainClaps wk_1178 rfl rfl rfl rfl rfl (Nat.le_of_ble_eq_true rfl) (dg hd_Mo_claps 21 rfl) (fun r10 σ11 _ => ?_)
    refine ux_iload_n (dg hd_Mo_claps 22 rfl) rfl ?_
    refine ux_ixor (dg hd_Mo_claps 23 rfl) ?_
    exact ux_iret rfl (dg hd_Mo_claps 24 rfl)
  refine ux_look (off := 56) 62 (dg hd_Mo_claps 4 rfl) rfl ((lv_osw (a := 3) c7 (by decide)).trans <| (lv_osw (a := 4) c12 (by decide)).trans <| rfl) (by decide) ?_
  refine ux_aload_n (dg hd_Mo_claps 25 rfl) rfl ?_
  refine ux_iload_n (dg hd_Mo_claps 26 rfl) rfl ?_
  refine ux_iload_n (dg hd_Mo_claps 27 rfl) rfl ?_
  refine ux_callVi (As := [.int p1, .int p2]) (sp_Mo_plainClaps l p1 p2 _) (by omega) cv_Mo_plainClaps wk_1178 rfl rfl rfl rfl rfl (Nat.le_of_ble_eq_true rfl) (dg hd_Mo_claps 28 rfl) (fun r13 σ14 _ => ?_)
  exact ux_iret rfl (dg hd_Mo_claps 29 rfl)
def Mo_plainParts (p1 : Int32) (p2 : Int32) (σ : St) : Option (Int32 × St) :=
  bnd (Mo_begins (13 : Int32) σ) (fun r1 σ2 =>
  bnd (Mo_of p1 (1 : Int32) σ2) (fun r3 σ4 =>
  nam (r3 - p1) (fun y5 =>
  if y5 = (0 : Int32) then (
  nas (sF σ4 0 20 (1 : Int32)) (fun σ7 =>
  if (σ7.1 0 20) = (0 : Int32) then (
  grd (nz y5) (
  some ((p2 / y5), σ7))) else (
  some ((0 : Int32), σ7)))) else (
  nas (sF σ4 0 20 (0 : Int32)) (fun σ6 =>
  if (σ6.1 0 20) = (0 : Int32) then (
  grd (nz y5) (
  some ((p2 / y5), σ6))) else (
  some ((0 : Int32), σ6)))))))
set_option maxRecDepth 100000 in
theorem sp_Mo_plainParts (l : Launch) (p1 : Int32) (p2 : Int32) (σ : St) : Spc l shM 3 md_Mo_plainParts [.ref 0, .int p1, .int p2] σ (Mo_plainParts p1 p2 σ) := by
  refine Spc_of_Ux [(0, .ref 0), (1, .int p1), (2, .int p2)] (by decide) rfl (Nat.le_of_ble_eq_true rfl) ?_
  unfold Mo_plainParts
  refine ux_aload_n (dg hd_Mo_plainParts 0 rfl) rfl ?_
  refine ux_bipush (13 : Int32) (dg hd_Mo_plainParts 1 rfl) (by decide) ?_
  refine ux_callVv (As := [.int (13 : Int32)]) (sp_Mo_begins l (13 : Int32) _) (by omega) cv_Mo_begins wk_1154 rfl rfl rfl rfl rfl (Nat.le_of_ble_eq_true rfl) (dg hd_Mo_plainParts 2 rfl) (fun r1 σ2 _ => ?_)
  refine ux_aload_n (dg hd_Mo_plainParts 3 rfl) rfl ?_
  refine ux_iload_n (dg hd_Mo_plainParts 4 rfl) rfl ?_
  refine ux_iconst (1 : Int32) (dg hd_Mo_plainParts 5 rfl) (by decide) ?_
  refine ux_callVi (As := [.int p1, .int (1 : Int32)]) (sp_Mo_of l p1 (1 : Int32) _) (by omega) cv_Mo_of wk_866 rfl rfl rfl rfl rfl (Nat.le_of_ble_eq_true rfl) (dg hd_Mo_plainParts 6 rfl) (fun r3 σ4 _ => ?_)
  refine ux_iload_n (dg hd_Mo_plainParts 7 rfl) rfl ?_
  refine ux_isub (dg hd_Mo_plainParts 8 rfl) ?_
  refine ux_nam (fun y5 => ?_)
  refine ux_istore_n [(3, .int y5), (0, .ref 0), (1, .int p1), (2, .int p2)] (dg hd_Mo_plainParts 9 rfl) (by decide) rfl ?_
  refine ux_aload_n (dg hd_Mo_plainParts 10 rfl) rfl ?_
  refine ux_iload_n (dg hd_Mo_plainParts 11 rfl) rfl ?_
  refine ux_if_ne 24 (dg hd_Mo_plainParts 12 rfl) (by decide) (fun _ => ?_) (fun _ => ?_)
  · refine ux_iconst (1 : Int32) (dg hd_Mo_plainParts 13 rfl) (by decide) ?_
    refine ux_goto 25 (dg hd_Mo_plainParts 14 rfl) (by decide) ?_
    refine ux_put fcX7 20 (by decide) wk_793 rfl rfl (isB_n (by decide)) rfl rfl (dg hd_Mo_plainParts 16 rfl) ?_
    refine ux_nas (fun σ7 => ?_)
    refine ux_aload_n (dg hd_Mo_plainParts 17 rfl) rfl ?_
    refine ux_get fcX7 20 (by decide) wk_793 rfl rfl (dg hd_Mo_plainParts 18 rfl) ?_
    refine ux_if_eq 39 (dg hd_Mo_plainParts 19 rfl) (by decide) (fun _ => ?_) (fun _ => ?_)
    · refine ux_iload_n (dg hd_Mo_plainParts 22 rfl) rfl ?_
      refine ux_iload_n (dg hd_Mo_plainParts 23 rfl) rfl ?_
      refine ux_idiv (dg hd_Mo_plainParts 24 rfl) ?_
      exact ux_iret rfl (dg hd_Mo_plainParts 25 rfl)
    · refine ux_iconst (0 : Int32) (dg hd_Mo_plainParts 20 rfl) (by decide) ?_
      refine ux_goto 42 (dg hd_Mo_plainParts 21 rfl) (by decide) ?_
      exact ux_iret rfl (dg hd_Mo_plainParts 25 rfl)
  · refine ux_iconst (0 : Int32) (dg hd_Mo_plainParts 15 rfl) (by decide) ?_
    refine ux_put fcX7 20 (by decide) wk_793 rfl rfl (isB_n (by decide)) rfl rfl (dg hd_Mo_plainParts 16 rfl) ?_
    refine ux_nas (fun σ6 => ?_)
    refine ux_aload_n (dg hd_Mo_plainParts 17 rfl) rfl ?_
    refine ux_get fcX7 20 (by decide) wk_793 rfl rfl (dg hd_Mo_plainParts 18 rfl) ?_
    refine ux_if_eq 39 (dg hd_Mo_plainParts 19 rfl) (by decide) (fun _ => ?_) (fun _ => ?_)
    · refine ux_iload_n (dg hd_Mo_plainParts 22 rfl) rfl ?_
      refine ux_iload_n (dg hd_Mo_plainParts 23 rfl) rfl ?_
      refine ux_idiv (dg hd_Mo_plainParts 24 rfl) ?_
      exact ux_iret rfl (dg hd_Mo_plainParts 25 rfl)
    · refine ux_iconst (0 : Int32) (dg hd_Mo_plainParts 20 rfl) (by decide) ?_
      refine ux_goto 42 (dg hd_Mo_plainParts 21 rfl) (by decide) ?_
      exact ux_iret rfl (dg hd_Mo_plainParts 25 rfl)
def Mo_partsBy (p1 : Int32) (p2 : Int32) (σ : St) : Option (Int32 × St) :=
  bnd (Mo_of p1 (0 : Int32) σ) (fun r1 σ2 =>
  if r1 = (1 : Int32) then (
  bnd (Mo_begins (21 : Int32) σ2) (fun r3 σ4 =>
  bnd (Mo_plainParts p1 p2 σ4) (fun r5 σ6 =>
  if (σ6.1 0 20) = (0 : Int32) then (
  bnd (Mo_jumps p1 (1 : Int32) σ6) (fun r7 σ8 =>
  some ((r5 + r7), σ8))) else (
  some ((0 : Int32), σ6))))) else (
  bnd (Mo_of p1 (0 : Int32) σ2) (fun r9 σ10 =>
  if r9 = (4 : Int32) then (
  bnd (Mo_begins (21 : Int32) σ10) (fun r13 σ14 =>
  bnd (Mo_plainParts p1 p2 σ14) (fun r15 σ16 =>
  if (σ16.1 0 20) = (0 : Int32) then (
  bnd (Mo_jumps p1 (1 : Int32) σ16) (fun r17 σ18 =>
  some ((r15 + r17), σ18))) else (
  some ((0 : Int32), σ16))))) else (
  bnd (Mo_plainParts p1 p2 σ10) (fun r11 σ12 =>
  some (r11, σ12))))))
set_option maxRecDepth 100000 in
theorem sp_Mo_partsBy (l : Launch) (p1 : Int32) (p2 : Int32) (σ : St) : Spc l shM 9 md_Mo_partsBy [.ref 0, .int p1, .int p2] σ (Mo_partsBy p1 p2 σ) := by
  refine Spc_of_Ux [(0, .ref 0), (1, .int p1), (2, .int p2)] (by decide) rfl (Nat.le_of_ble_eq_true rfl) ?_
  unfold Mo_partsBy
  refine ux_aload_n (dg hd_Mo_partsBy 0 rfl) rfl ?_
  refine ux_iload_n (dg hd_Mo_partsBy 1 rfl) rfl ?_
  refine ux_iconst (0 : Int32) (dg hd_Mo_partsBy 2 rfl) (by decide) ?_
  refine ux_callVi (As := [.int p1, .int (0 : Int32)]) (sp_Mo_of l p1 (0 : Int32) _) (by omega) cv_Mo_of wk_866 rfl rfl rfl rfl rfl (Nat.le_of_ble_eq_true rfl) (dg hd_Mo_partsBy 3 rfl) (fun r1 σ2 _ => ?_)
  refine ux_iconst (1 : Int32) (dg hd_Mo_partsBy 4 rfl) (by decide) ?_
  refine ux_icmp_eq 20 (dg hd_Mo_partsBy 5 rfl) (by decide) (fun _ => ?_) (fun _ => ?_)
  · refine ux_aload_n (dg hd_Mo_partsBy 12 rfl) rfl ?_
    refine ux_bipush (21 : Int32) (dg hd_Mo_partsBy 13 rfl) (by decide) ?_
    refine ux_callVv (As := [.int (21 : Int32)]) (sp_Mo_begins l (21 : Int32) _) (by omega) cv_Mo_begins wk_1154 rfl rfl rfl rfl rfl (Nat.le_of_ble_eq_true rfl) (dg hd_Mo_partsBy 14 rfl) (fun r3 σ4 _ => ?_)
    refine ux_aload_n (dg hd_Mo_partsBy 15 rfl) rfl ?_
    refine ux_iload_n (dg hd_Mo_partsBy 16 rfl) rfl ?_
    refine ux_iload_n (dg hd_Mo_partsBy 17 rfl) rfl ?_
    refine ux_callVi (As := [.int p1, .int p2]) (sp_Mo_plainParts l p1 p2 _) (by omega) cv_Mo_plainParts wk_1186 rfl rfl rfl rfl rfl (Nat.le_of_ble_eq_true rfl) (dg hd_Mo_partsBy 18 rfl) (fun r5 σ6 _ => ?_)
    refine ux_istore_n [(3, .int r5), (0, .ref 0), (1, .int p1), (2, .int p2)] (dg hd_Mo_partsBy 19 rfl) (by decide) rfl ?_
    refine ux_aload_n (dg hd_Mo_partsBy 20 rfl) rfl ?_
    refine ux_get fcX7 20 (by decide) wk_793 rfl rfl (dg hd_Mo_partsBy 21 rfl) ?_
    refine ux_if_eq 44 (dg hd_Mo_partsBy 22 rfl) (by decide) (fun _ => ?_) (fun _ => ?_)
    · refine ux_iload_n (dg hd_Mo_partsBy 25 rfl) rfl ?_
      refine ux_aload_n (dg hd_Mo_partsBy 26 rfl) rfl ?_
      refine ux_iload_n (dg hd_Mo_partsBy 27 rfl) rfl ?_
      refine ux_iconst (1 : Int32) (dg hd_Mo_partsBy 28 rfl) (by decide) ?_
      refine ux_callVi (As := [.int p1, .int (1 : Int32)]) (sp_Mo_jumps l p1 (1 : Int32) _) (by omega) cv_Mo_jumps wk_1162 rfl rfl rfl rfl rfl (Nat.le_of_ble_eq_true rfl) (dg hd_Mo_partsBy 29 rfl) (fun r7 σ8 _ => ?_)
      refine ux_iadd (dg hd_Mo_partsBy 30 rfl) ?_
      exact ux_iret rfl (dg hd_Mo_partsBy 31 rfl)
    · refine ux_iconst (0 : Int32) (dg hd_Mo_partsBy 23 rfl) (by decide) ?_
      refine ux_goto 52 (dg hd_Mo_partsBy 24 rfl) (by decide) ?_
      exact ux_iret rfl (dg hd_Mo_partsBy 31 rfl)
  · refine ux_aload_n (dg hd_Mo_partsBy 6 rfl) rfl ?_
    refine ux_iload_n (dg hd_Mo_partsBy 7 rfl) rfl ?_
    refine ux_iconst (0 : Int32) (dg hd_Mo_partsBy 8 rfl) (by decide) ?_
    refine ux_callVi (As := [.int p1, .int (0 : Int32)]) (sp_Mo_of l p1 (0 : Int32) _) (by omega) cv_Mo_of wk_866 rfl rfl rfl rfl rfl (Nat.le_of_ble_eq_true rfl) (dg hd_Mo_partsBy 9 rfl) (fun r9 σ10 _ => ?_)
    refine ux_iconst (4 : Int32) (dg hd_Mo_partsBy 10 rfl) (by decide) ?_
    refine ux_icmp_ne 53 (dg hd_Mo_partsBy 11 rfl) (by decide) (fun _ => ?_) (fun _ => ?_)
    · refine ux_aload_n (dg hd_Mo_partsBy 12 rfl) rfl ?_
      refine ux_bipush (21 : Int32) (dg hd_Mo_partsBy 13 rfl) (by decide) ?_
      refine ux_callVv (As := [.int (21 : Int32)]) (sp_Mo_begins l (21 : Int32) _) (by omega) cv_Mo_begins wk_1154 rfl rfl rfl rfl rfl (Nat.le_of_ble_eq_true rfl) (dg hd_Mo_partsBy 14 rfl) (fun r13 σ14 _ => ?_)
      refine ux_aload_n (dg hd_Mo_partsBy 15 rfl) rfl ?_
      refine ux_iload_n (dg hd_Mo_partsBy 16 rfl) rfl ?_
      refine ux_iload_n (dg hd_Mo_partsBy 17 rfl) rfl ?_
      refine ux_callVi (As := [.int p1, .int p2]) (sp_Mo_plainParts l p1 p2 _) (by omega) cv_Mo_plainParts wk_1186 rfl rfl rfl rfl rfl (Nat.le_of_ble_eq_true rfl) (dg hd_Mo_partsBy 18 rfl) (fun r15 σ16 _ => ?_)
      refine ux_istore_n [(3, .int r15), (0, .ref 0), (1, .int p1), (2, .int p2)] (dg hd_Mo_partsBy 19 rfl) (by decide) rfl ?_
      refine ux_aload_n (dg hd_Mo_partsBy 20 rfl) rfl ?_
      refine ux_get fcX7 20 (by decide) wk_793 rfl rfl (dg hd_Mo_partsBy 21 rfl) ?_
      refine ux_if_eq 44 (dg hd_Mo_partsBy 22 rfl) (by decide) (fun _ => ?_) (fun _ => ?_)
      · refine ux_iload_n (dg hd_Mo_partsBy 25 rfl) rfl ?_
        refine ux_aload_n (dg hd_Mo_partsBy 26 rfl) rfl ?_
        refine ux_iload_n (dg hd_Mo_partsBy 27 rfl) rfl ?_
        refine ux_iconst (1 : Int32) (dg hd_Mo_partsBy 28 rfl) (by decide) ?_
        refine ux_callVi (As := [.int p1, .int (1 : Int32)]) (sp_Mo_jumps l p1 (1 : Int32) _) (by omega) cv_Mo_jumps wk_1162 rfl rfl rfl rfl rfl (Nat.le_of_ble_eq_true rfl) (dg hd_Mo_partsBy 29 rfl) (fun r17 σ18 _ => ?_)
        refine ux_iadd (dg hd_Mo_partsBy 30 rfl) ?_
        exact ux_iret rfl (dg hd_Mo_partsBy 31 rfl)
      · refine ux_iconst (0 : Int32) (dg hd_Mo_partsBy 23 rfl) (by decide) ?_
        refine ux_goto 52 (dg hd_Mo_partsBy 24 rfl) (by decide) ?_
        exact ux_iret rfl (dg hd_Mo_partsBy 31 rfl)
    · refine ux_aload_n (dg hd_Mo_partsBy 32 rfl) rfl ?_
      refine ux_iload_n (dg hd_Mo_partsBy 33 rfl) rfl ?_
      refine ux_iload_n (dg hd_Mo_partsBy 34 rfl) rfl ?_
      refine ux_callVi (As := [.int p1, .int p2]) (sp_Mo_plainParts l p1 p2 _) (by omega) cv_Mo_plainParts wk_1186 rfl rfl rfl rfl rfl (Nat.le_of_ble_eq_true rfl) (dg hd_Mo_partsBy 35 rfl) (fun r11 σ12 _ => ?_)
      exact ux_iret rfl (dg hd_Mo_partsBy 36 rfl)
