def Mo_likesOf (p1 : Int32) (p2 : Int32) (σ : St) : Option (Int32 × St) :=
  bnd (Mo_leansOf p1 p2 σ) (fun r1 σ2 =>
  bnd (Mo_of p1 (3 : Int32) σ2) (fun r3 σ4 =>
  bnd (Mo_gives (1 : Int32) r1 p2 r3 σ4) (fun r5 σ6 =>
  some (r5, σ6))))
set_option maxRecDepth 100000 in
theorem sp_Mo_likesOf (l : Launch) (p1 : Int32) (p2 : Int32) (σ : St) : Spc l shM 5 md_Mo_likesOf [.ref 0, .int p1, .int p2] σ (Mo_likesOf p1 p2 σ) := by
  refine Spc_of_Ux [(0, .ref 0), (1, .int p1), (2, .int p2)] (by decide) rfl (Nat.le_of_ble_eq_true rfl) ?_
  unfold Mo_likesOf
  refine ux_aload_n (dg hd_Mo_likesOf 0 rfl) rfl ?_
  refine ux_iconst (1 : Int32) (dg hd_Mo_likesOf 1 rfl) (by decide) ?_
  refine ux_aload_n (dg hd_Mo_likesOf 2 rfl) rfl ?_
  refine ux_iload_n (dg hd_Mo_likesOf 3 rfl) rfl ?_
  refine ux_iload_n (dg hd_Mo_likesOf 4 rfl) rfl ?_
  refine ux_callVi (As := [.int p1, .int p2]) (sp_Mo_leansOf l p1 p2 _) (by omega) cv_Mo_leansOf wk_952 rfl rfl rfl rfl rfl (Nat.le_of_ble_eq_true rfl) (dg hd_Mo_likesOf 5 rfl) (fun r1 σ2 _ => ?_)
  refine ux_iload_n (dg hd_Mo_likesOf 6 rfl) rfl ?_
  refine ux_aload_n (dg hd_Mo_likesOf 7 rfl) rfl ?_
  refine ux_iload_n (dg hd_Mo_likesOf 8 rfl) rfl ?_
  refine ux_iconst (3 : Int32) (dg hd_Mo_likesOf 9 rfl) (by decide) ?_
  refine ux_callVi (As := [.int p1, .int (3 : Int32)]) (sp_Mo_of l p1 (3 : Int32) _) (by omega) cv_Mo_of wk_866 rfl rfl rfl rfl rfl (Nat.le_of_ble_eq_true rfl) (dg hd_Mo_likesOf 10 rfl) (fun r3 σ4 _ => ?_)
  refine ux_callVi (As := [.int (1 : Int32), .int r1, .int p2, .int r3]) (sp_Mo_gives l (1 : Int32) r1 p2 r3 _) (by omega) cv_Mo_gives wk_893 rfl rfl rfl rfl rfl (Nat.le_of_ble_eq_true rfl) (dg hd_Mo_likesOf 11 rfl) (fun r5 σ6 _ => ?_)
  exact ux_iret rfl (dg hd_Mo_likesOf 12 rfl)
def Mo_doesTake (p1 : Int32) (p2 : Int32) (σ : St) : Option (Int32 × St) :=
  bnd (Mo_likesOf p1 p2 σ) (fun r1 σ2 =>
  grd (inb (7 : Int32) 366) (
  if r1 < (σ2.2 1 (7 : Int32).toNatClampNeg) then (
  some ((0 : Int32), σ2)) else (
  some ((1 : Int32), σ2))))
set_option maxRecDepth 100000 in
theorem sp_Mo_doesTake (l : Launch) (p1 : Int32) (p2 : Int32) (σ : St) : Spc l shM 6 md_Mo_doesTake [.ref 0, .int p1, .int p2] σ (Mo_doesTake p1 p2 σ) := by
  refine Spc_of_Ux [(0, .ref 0), (1, .int p1), (2, .int p2)] (by decide) rfl (Nat.le_of_ble_eq_true rfl) ?_
  unfold Mo_doesTake
  refine ux_aload_n (dg hd_Mo_doesTake 0 rfl) rfl ?_
  refine ux_iload_n (dg hd_Mo_doesTake 1 rfl) rfl ?_
  refine ux_iload_n (dg hd_Mo_doesTake 2 rfl) rfl ?_
  refine ux_callVi (As := [.int p1, .int p2]) (sp_Mo_likesOf l p1 p2 _) (by omega) cv_Mo_likesOf wk_948 rfl rfl rfl rfl rfl (Nat.le_of_ble_eq_true rfl) (dg hd_Mo_doesTake 3 rfl) (fun r1 σ2 _ => ?_)
  refine ux_aload_n (dg hd_Mo_doesTake 4 rfl) rfl ?_
  refine ux_getr (q := 1) fcX7 0 (by decide) wk_773 rfl rfl (dg hd_Mo_doesTake 5 rfl) ?_
  refine ux_bipush (7 : Int32) (dg hd_Mo_doesTake 6 rfl) (by decide) ?_
  refine ux_iald rfl (dg hd_Mo_doesTake 7 rfl) ?_
  refine ux_icmp_lt 20 (dg hd_Mo_doesTake 8 rfl) (by decide) (fun _ => ?_) (fun _ => ?_)
  · refine ux_iconst (0 : Int32) (dg hd_Mo_doesTake 11 rfl) (by decide) ?_
    exact ux_zret rfl (dg hd_Mo_doesTake 12 rfl) (isB_n (by decide))
  · refine ux_iconst (1 : Int32) (dg hd_Mo_doesTake 9 rfl) (by decide) ?_
    refine ux_goto 21 (dg hd_Mo_doesTake 10 rfl) (by decide) ?_
    exact ux_zret rfl (dg hd_Mo_doesTake 12 rfl) (isB_n (by decide))
def Mo_isTaken_L4 : Nat → Int32 → Int32 → Int32 → St → Option (Int32 × St)
  | 0, _, _, _, _ => none
  | n + 1, x1, x2, x3, σ =>
    grd (inb (2 : Int32) 366) (
    if (σ.2 1 (2 : Int32).toNatClampNeg) ≤ x3 then (
    grd (isB x2) (some (x2, σ))) else (
    if x2 = (0 : Int32) then (
    grd (isB x2) (some (x2, σ))) else (
    bnd (Mo_isIn x3 σ) (fun r1 σ2 =>
    if r1 = (0 : Int32) then (
    nam (x3 + (1 : Int32)) (fun y3 =>
    Mo_isTaken_L4 n x1 (1 : Int32) y3 σ2)) else (
    bnd (Mo_doesTake x3 x1 σ2) (fun r4 σ5 =>
    if r4 = (0 : Int32) then (
    nam (x3 + (1 : Int32)) (fun y6 =>
    Mo_isTaken_L4 n x1 (0 : Int32) y6 σ5)) else (
    nam (x3 + (1 : Int32)) (fun y7 =>
    Mo_isTaken_L4 n x1 (1 : Int32) y7 σ5))))))))
set_option maxRecDepth 100000 in
theorem wk_Mo_isTaken_L4 (l : Launch) : ∀ (n : Nat) (x1 x2 x3 : Int32) (σ : St), Ux l shM 7 md_Mo_isTaken 4 [(0, .ref 0), (1, .int x1), (2, .int x2), (3, .int x3)] [] σ (Mo_isTaken_L4 n x1 x2 x3 σ) := by
  intro n
  induction n with
  | zero => intros; exact ux_none
  | succ n ih =>
    intro x1 x2 x3 σ
    unfold Mo_isTaken_L4
    refine ux_iload_n (dg hd_Mo_isTaken 4 rfl) rfl ?_
    refine ux_aload_n (dg hd_Mo_isTaken 5 rfl) rfl ?_
    refine ux_getr (q := 1) fcX7 0 (by decide) wk_773 rfl rfl (dg hd_Mo_isTaken 6 rfl) ?_
    refine ux_iconst (2 : Int32) (dg hd_Mo_isTaken 7 rfl) (by decide) ?_
    refine ux_iald rfl (dg hd_Mo_isTaken 8 rfl) ?_
    refine ux_icmp_ge 47 (dg hd_Mo_isTaken 9 rfl) (by decide) (fun _ => ?_) (fun _ => ?_)
    · refine ux_iload_n (dg hd_Mo_isTaken 27 rfl) rfl ?_
      exact ux_zretg rfl (dg hd_Mo_isTaken 28 rfl)
    · refine ux_iload_n (dg hd_Mo_isTaken 10 rfl) rfl ?_
      refine ux_if_eq 47 (dg hd_Mo_isTaken 11 rfl) (by decide) (fun _ => ?_) (fun _ => ?_)
      · refine ux_iload_n (dg hd_Mo_isTaken 27 rfl) rfl ?_
        exact ux_zretg rfl (dg hd_Mo_isTaken 28 rfl)
      · refine ux_aload_n (dg hd_Mo_isTaken 12 rfl) rfl ?_
        refine ux_iload_n (dg hd_Mo_isTaken 13 rfl) rfl ?_
        refine ux_callVi (As := [.int x3]) (sp_Mo_isIn l x3 _) (by omega) cv_Mo_isIn wk_886 rfl rfl rfl rfl rfl (Nat.le_of_ble_eq_true rfl) (dg hd_Mo_isTaken 14 rfl) (fun r1 σ2 _ => ?_)
        refine ux_if_eq 35 (dg hd_Mo_isTaken 15 rfl) (by decide) (fun _ => ?_) (fun _ => ?_)
        · refine ux_iconst (1 : Int32) (dg hd_Mo_isTaken 21 rfl) (by decide) ?_
          refine ux_goto 40 (dg hd_Mo_isTaken 22 rfl) (by decide) ?_
          refine ux_istore_n [(2, .int (1 : Int32)), (0, .ref 0), (1, .int x1), (3, .int x3)] (dg hd_Mo_isTaken 24 rfl) (by decide) rfl ?_
          refine ux_iincN (1 : Int32) (fun y3 => [(3, .int y3), (2, .int (1 : Int32)), (0, .ref 0), (1, .int x1)]) (dg hd_Mo_isTaken 25 rfl) rfl (by decide) (by decide) (fun _ => rfl) (fun y3 => ?_)
          refine ux_goto 4 (dg hd_Mo_isTaken 26 rfl) (by decide) ?_
          refine ux_wk [(0, .ref 0), (1, .int x1), (2, .int (1 : Int32)), (3, .int y3)] [2, 3, 1, 0] rfl ?_
          exact ih x1 (1 : Int32) y3 σ2
        · refine ux_aload_n (dg hd_Mo_isTaken 16 rfl) rfl ?_
          refine ux_iload_n (dg hd_Mo_isTaken 17 rfl) rfl ?_
          refine ux_iload_n (dg hd_Mo_isTaken 18 rfl) rfl ?_
          refine ux_callVi (As := [.int x3, .int x1]) (sp_Mo_doesTake l x3 x1 _) (by omega) cv_Mo_doesTake wk_972 rfl rfl rfl rfl rfl (Nat.le_of_ble_eq_true rfl) (dg hd_Mo_isTaken 19 rfl) (fun r4 σ5 _ => ?_)
          refine ux_if_eq 39 (dg hd_Mo_isTaken 20 rfl) (by decide) (fun _ => ?_) (fun _ => ?_)
          · refine ux_iconst (0 : Int32) (dg hd_Mo_isTaken 23 rfl) (by decide) ?_
            refine ux_istore_n [(2, .int (0 : Int32)), (0, .ref 0), (1, .int x1), (3, .int x3)] (dg hd_Mo_isTaken 24 rfl) (by decide) rfl ?_
            refine ux_iincN (1 : Int32) (fun y6 => [(3, .int y6), (2, .int (0 : Int32)), (0, .ref 0), (1, .int x1)]) (dg hd_Mo_isTaken 25 rfl) rfl (by decide) (by decide) (fun _ => rfl) (fun y6 => ?_)
            refine ux_goto 4 (dg hd_Mo_isTaken 26 rfl) (by decide) ?_
            refine ux_wk [(0, .ref 0), (1, .int x1), (2, .int (0 : Int32)), (3, .int y6)] [2, 3, 1, 0] rfl ?_
            exact ih x1 (0 : Int32) y6 σ5
          · refine ux_iconst (1 : Int32) (dg hd_Mo_isTaken 21 rfl) (by decide) ?_
            refine ux_goto 40 (dg hd_Mo_isTaken 22 rfl) (by decide) ?_
            refine ux_istore_n [(2, .int (1 : Int32)), (0, .ref 0), (1, .int x1), (3, .int x3)] (dg hd_Mo_isTaken 24 rfl) (by decide) rfl ?_
            refine ux_iincN (1 : Int32) (fun y7 => [(3, .int y7), (2, .int (1 : Int32)), (0, .ref 0), (1, .int x1)]) (dg hd_Mo_isTaken 25 rfl) rfl (by decide) (by decide) (fun _ => rfl) (fun y7 => ?_)
            refine ux_goto 4 (dg hd_Mo_isTaken 26 rfl) (by decide) ?_
            refine ux_wk [(0, .ref 0), (1, .int x1), (2, .int (1 : Int32)), (3, .int y7)] [2, 3, 1, 0] rfl ?_
            exact ih x1 (1 : Int32) y7 σ5
def Mo_isTaken (p1 : Int32) (σ : St) : Option (Int32 × St) :=
  Mo_isTaken_L4 1000 p1 (1 : Int32) (0 : Int32) σ
set_option maxRecDepth 100000 in
theorem sp_Mo_isTaken (l : Launch) (p1 : Int32) (σ : St) : Spc l shM 7 md_Mo_isTaken [.ref 0, .int p1] σ (Mo_isTaken p1 σ) := by
  refine Spc_of_Ux [(0, .ref 0), (1, .int p1)] (by decide) rfl (Nat.le_of_ble_eq_true rfl) ?_
  unfold Mo_isTaken
  refine ux_iconst (1 : Int32) (dg hd_Mo_isTaken 0 rfl) (by decide) ?_
  refine ux_istore_n [(2, .int (1 : Int32)), (0, .ref 0), (1, .int p1)] (dg hd_Mo_isTaken 1 rfl) (by decide) rfl ?_
  refine ux_iconst (0 : Int32) (dg hd_Mo_isTaken 2 rfl) (by decide) ?_
  refine ux_istore_n [(3, .int (0 : Int32)), (2, .int (1 : Int32)), (0, .ref 0), (1, .int p1)] (dg hd_Mo_isTaken 3 rfl) (by decide) rfl ?_
  refine ux_wk [(0, .ref 0), (1, .int p1), (2, .int (1 : Int32)), (3, .int (0 : Int32))] [2, 3, 1, 0] rfl ?_
  exact wk_Mo_isTaken_L4 l 1000 p1 (1 : Int32) (0 : Int32) σ
def Mo_isKm (p1 : Int32) (σ : St) : Option (Int32 × St) :=
  bnd (Mo_in p1 (0 : Int32) (69 : Int32) σ) (fun r1 σ2 =>
  grd (isB r1) (some (r1, σ2)))
set_option maxRecDepth 100000 in
theorem sp_Mo_isKm (l : Launch) (p1 : Int32) (σ : St) : Spc l shM 3 md_Mo_isKm [.int p1] σ (Mo_isKm p1 σ) := by
  refine Spc_of_Ux [(0, .int p1)] (by decide) rfl (Nat.le_of_ble_eq_true rfl) ?_
  unfold Mo_isKm
  refine ux_iload_n (dg hd_Mo_isKm 0 rfl) rfl ?_
  refine ux_iconst (0 : Int32) (dg hd_Mo_isKm 1 rfl) (by decide) ?_
  refine ux_bipush (69 : Int32) (dg hd_Mo_isKm 2 rfl) (by decide) ?_
  refine ux_callSi (As := [.int p1, .int (0 : Int32), .int (69 : Int32)]) (sp_Mo_in l p1 (0 : Int32) (69 : Int32) _) (by omega) cs_Mo_in wk_844 rfl rfl (Nat.le_of_ble_eq_true rfl) (dg hd_Mo_isKm 3 rfl) (fun r1 σ2 _ => ?_)
  exact ux_zretg rfl (dg hd_Mo_isKm 4 rfl)
def Mo_jumper (p1 : Int32) (p2 : Int32) (p3 : Int32) (σ : St) : Option (Int32 × St) :=
  bnd (Mo_isKm p1 σ) (fun r1 σ2 =>
  if r1 = (0 : Int32) then (
  bnd (Mo_error (-1000000001 : Int32) σ2) (fun r3 σ4 =>
  some (r3, σ4))) else (
  bnd (Mo_in p2 (0 : Int32) (99 : Int32) σ2) (fun r5 σ6 =>
  if r5 = (0 : Int32) then (
  bnd (Mo_error (-1000000001 : Int32) σ6) (fun r7 σ8 =>
  some (r7, σ8))) else (
  bnd (Mo_in p3 (0 : Int32) (1 : Int32) σ6) (fun r9 σ10 =>
  if r9 = (0 : Int32) then (
  bnd (Mo_error (-1000000001 : Int32) σ10) (fun r25 σ26 =>
  some (r25, σ26))) else (
  grd (inb (2 : Int32) 366) (
  nam (σ10.2 1 (2 : Int32).toNatClampNeg) (fun y11 =>
  if y11 = (6 : Int32) then (
  bnd (Mo_error (-1000000004 : Int32) σ10) (fun r23 σ24 =>
  some (r23, σ24))) else (
  grd (inb (2 : Int32) 366) (
  grd (inb (2 : Int32) 366) (
  nas (sA σ10 1 (2 : Int32).toNatClampNeg ((σ10.2 1 (2 : Int32).toNatClampNeg) + (1 : Int32))) (fun σ12 =>
  grd (nz (10 : Int32)) (
  bnd (Mo_lets y11 (0 : Int32) (p1 / (10 : Int32)) σ12) (fun r13 σ14 =>
  grd (nz (10 : Int32)) (
  bnd (Mo_lets y11 (1 : Int32) (irm p1 (10 : Int32)) σ14) (fun r15 σ16 =>
  bnd (Mo_lets y11 (2 : Int32) p2 σ16) (fun r17 σ18 =>
  bnd (Mo_lets y11 (3 : Int32) p3 σ18) (fun r19 σ20 =>
  bnd (Mo_lets y11 (4 : Int32) (0 : Int32) σ20) (fun r21 σ22 =>
  some (y11, σ22))))))))))))))))))))
set_option maxRecDepth 100000 in
theorem sp_Mo_jumper (l : Launch) (p1 : Int32) (p2 : Int32) (p3 : Int32) (σ : St) : Spc l shM 4 md_Mo_jumper [.ref 0, .int p1, .int p2, .int p3] σ (Mo_jumper p1 p2 p3 σ) := by
  refine Spc_of_Ux [(0, .ref 0), (1, .int p1), (2, .int p2), (3, .int p3)] (by decide) rfl (Nat.le_of_ble_eq_true rfl) ?_
  unfold Mo_jumper
  refine ux_iload_n (dg hd_Mo_jumper 0 rfl) rfl ?_
  refine ux_callSi (As := [.int p1]) (sp_Mo_isKm l p1 _) (by omega) cs_Mo_isKm wk_841 rfl rfl (Nat.le_of_ble_eq_true rfl) (dg hd_Mo_jumper 1 rfl) (fun r1 σ2 _ => ?_)
  refine ux_if_eq 26 (dg hd_Mo_jumper 2 rfl) (by decide) (fun _ => ?_) (fun _ => ?_)
  · refine ux_aload_n (dg hd_Mo_jumper 13 rfl) rfl ?_
    refine ux_ldc (-1000000001 : Int32) wk_847 (dg hd_Mo_jumper 14 rfl) ?_
    refine ux_callVi (As := [.int (-1000000001 : Int32)]) (sp_Mo_error l (-1000000001 : Int32) _) (by omega) cv_Mo_error wk_848 rfl rfl rfl rfl rfl (Nat.le_of_ble_eq_true rfl) (dg hd_Mo_jumper 15 rfl) (fun r3 σ4 _ => ?_)
    exact ux_iret rfl (dg hd_Mo_jumper 16 rfl)
  · refine ux_iload_n (dg hd_Mo_jumper 3 rfl) rfl ?_
    refine ux_iconst (0 : Int32) (dg hd_Mo_jumper 4 rfl) (by decide) ?_
    refine ux_bipush (99 : Int32) (dg hd_Mo_jumper 5 rfl) (by decide) ?_
    refine ux_callSi (As := [.int p2, .int (0 : Int32), .int (99 : Int32)]) (sp_Mo_in l p2 (0 : Int32) (99 : Int32) _) (by omega) cs_Mo_in wk_844 rfl rfl (Nat.le_of_ble_eq_true rfl) (dg hd_Mo_jumper 6 rfl) (fun r5 σ6 _ => ?_)
    refine ux_if_eq 26 (dg hd_Mo_jumper 7 rfl) (by decide) (fun _ => ?_) (fun _ => ?_)
    · refine ux_aload_n (dg hd_Mo_jumper 13 rfl) rfl ?_
      refine ux_ldc (-1000000001 : Int32) wk_847 (dg hd_Mo_jumper 14 rfl) ?_
      refine ux_callVi (As := [.int (-1000000001 : Int32)]) (sp_Mo_error l (-1000000001 : Int32) _) (by omega) cv_Mo_error wk_848 rfl rfl rfl rfl rfl (Nat.le_of_ble_eq_true rfl) (dg hd_Mo_jumper 15 rfl) (fun r7 σ8 _ => ?_)
      exact ux_iret rfl (dg hd_Mo_jumper 16 rfl)
    · refine ux_iload_n (dg hd_Mo_jumper 8 rfl) rfl ?_
      refine ux_iconst (0 : Int32) (dg hd_Mo_jumper 9 rfl) (by decide) ?_
      refine ux_iconst (1 : Int32) (dg hd_Mo_jumper 10 rfl) (by decide) ?_
      refine ux_callSi (As := [.int p3, .int (0 : Int32), .int (1 : Int32)]) (sp_Mo_in l p3 (0 : Int32) (1 : Int32) _) (by omega) cs_Mo_in wk_844 rfl rfl (Nat.le_of_ble_eq_true rfl) (dg hd_Mo_jumper 11 rfl) (fun r9 σ10 _ => ?_)
      refine ux_if_ne 33 (dg hd_Mo_jumper 12 rfl) (by decide) (fun _ => ?_) (fun _ => ?_)
      · refine ux_aload_n (dg hd_Mo_jumper 13 rfl) rfl ?_
        refine ux_ldc (-1000000001 : Int32) wk_847 (dg hd_Mo_jumper 14 rfl) ?_
        refine ux_callVi (As := [.int (-1000000001 : Int32)]) (sp_Mo_error l (-1000000001 : Int32) _) (by omega) cv_Mo_error wk_848 rfl rfl rfl rfl rfl (Nat.le_of_ble_eq_true rfl) (dg hd_Mo_jumper 15 rfl) (fun r25 σ26 _ => ?_)
        exact ux_iret rfl (dg hd_Mo_jumper 16 rfl)
      · refine ux_aload_n (dg hd_Mo_jumper 17 rfl) rfl ?_
        refine ux_getr (q := 1) fcX7 0 (by decide) wk_773 rfl rfl (dg hd_Mo_jumper 18 rfl) ?_
        refine ux_iconst (2 : Int32) (dg hd_Mo_jumper 19 rfl) (by decide) ?_
        refine ux_iald rfl (dg hd_Mo_jumper 20 rfl) ?_
        refine ux_nam (fun y11 => ?_)
        refine ux_istore [(4, .int y11), (0, .ref 0), (1, .int p1), (2, .int p2), (3, .int p3)] (dg hd_Mo_jumper 21 rfl) (by decide) rfl ?_
        refine ux_iload (dg hd_Mo_jumper 22 rfl) rfl ?_
        refine ux_bipush (6 : Int32) (dg hd_Mo_jumper 23 rfl) (by decide) ?_
        refine ux_icmp_ne 55 (dg hd_Mo_jumper 24 rfl) (by decide) (fun _ => ?_) (fun _ => ?_)
        · refine ux_aload_n (dg hd_Mo_jumper 25 rfl) rfl ?_
          refine ux_ldc (-1000000004 : Int32) wk_853 (dg hd_Mo_jumper 26 rfl) ?_
          refine ux_callVi (As := [.int (-1000000004 : Int32)]) (sp_Mo_error l (-1000000004 : Int32) _) (by omega) cv_Mo_error wk_848 rfl rfl rfl rfl rfl (Nat.le_of_ble_eq_true rfl) (dg hd_Mo_jumper 27 rfl) (fun r23 σ24 _ => ?_)
          exact ux_iret rfl (dg hd_Mo_jumper 28 rfl)
        · refine ux_aload_n (dg hd_Mo_jumper 29 rfl) rfl ?_
          refine ux_getr (q := 1) fcX7 0 (by decide) wk_773 rfl rfl (dg hd_Mo_jumper 30 rfl) ?_
          refine ux_iconst (2 : Int32) (dg hd_Mo_jumper 31 rfl) (by decide) ?_
          refine ux_dup2 (dg hd_Mo_jumper 32 rfl) ?_
          refine ux_iald rfl (dg hd_Mo_jumper 33 rfl) ?_
          refine ux_iconst (1 : Int32) (dg hd_Mo_jumper 34 rfl) (by decide) ?_
          refine ux_iadd (dg hd_Mo_jumper 35 rfl) ?_
          refine ux_iast rfl (dg hd_Mo_jumper 36 rfl) ?_
          refine ux_nas (fun σ12 => ?_)
          refine ux_aload_n (dg hd_Mo_jumper 37 rfl) rfl ?_
          refine ux_iload (dg hd_Mo_jumper 38 rfl) rfl ?_
          refine ux_iconst (0 : Int32) (dg hd_Mo_jumper 39 rfl) (by decide) ?_
          refine ux_iload_n (dg hd_Mo_jumper 40 rfl) rfl ?_
          refine ux_bipush (10 : Int32) (dg hd_Mo_jumper 41 rfl) (by decide) ?_
          refine ux_idiv (dg hd_Mo_jumper 42 rfl) ?_
          refine ux_callVv (As := [.int y11, .int (0 : Int32), .int (p1 / (10 : Int32))]) (sp_Mo_lets l y11 (0 : Int32) (p1 / (10 : Int32)) _) (by omega) cv_Mo_lets wk_854 rfl rfl rfl rfl rfl (Nat.le_of_ble_eq_true rfl) (dg hd_Mo_jumper 43 rfl) (fun r13 σ14 _ => ?_)
          refine ux_aload_n (dg hd_Mo_jumper 44 rfl) rfl ?_
          refine ux_iload (dg hd_Mo_jumper 45 rfl) rfl ?_
          refine ux_iconst (1 : Int32) (dg hd_Mo_jumper 46 rfl) (by decide) ?_
          refine ux_iload_n (dg hd_Mo_jumper 47 rfl) rfl ?_
          refine ux_bipush (10 : Int32) (dg hd_Mo_jumper 48 rfl) (by decide) ?_
          refine ux_irem (dg hd_Mo_jumper 49 rfl) ?_
          refine ux_callVv (As := [.int y11, .int (1 : Int32), .int (irm p1 (10 : Int32))]) (sp_Mo_lets l y11 (1 : Int32) (irm p1 (10 : Int32)) _) (by omega) cv_Mo_lets wk_854 rfl rfl rfl rfl rfl (Nat.le_of_ble_eq_true rfl) (dg hd_Mo_jumper 50 rfl) (fun r15 σ16 _ => ?_)
          refine ux_aload_n (dg hd_Mo_jumper 51 rfl) rfl ?_
          refine ux_iload (dg hd_Mo_jumper 52 rfl) rfl ?_
          refine ux_iconst (2 : Int32) (dg hd_Mo_jumper 53 rfl) (by decide) ?_
          refine ux_iload_n (dg hd_Mo_jumper 54 rfl) rfl ?_
          refine ux_callVv (As := [.int y11, .int (2 : Int32), .int p2]) (sp_Mo_lets l y11 (2 : Int32) p2 _) (by omega) cv_Mo_lets wk_854 rfl rfl rfl rfl rfl (Nat.le_of_ble_eq_true rfl) (dg hd_Mo_jumper 55 rfl) (fun r17 σ18 _ => ?_)
          refine ux_aload_n (dg hd_Mo_jumper 56 rfl) rfl ?_
          refine ux_iload (dg hd_Mo_jumper 57 rfl) rfl ?_
          refine ux_iconst (3 : Int32) (dg hd_Mo_jumper 58 rfl) (by decide) ?_
          refine ux_iload_n (dg hd_Mo_jumper 59 rfl) rfl ?_
          refine ux_callVv (As := [.int y11, .int (3 : Int32), .int p3]) (sp_Mo_lets l y11 (3 : Int32) p3 _) (by omega) cv_Mo_lets wk_854 rfl rfl rfl rfl rfl (Nat.le_of_ble_eq_true rfl) (dg hd_Mo_jumper 60 rfl) (fun r19 σ20 _ => ?_)
          refine ux_aload_n (dg hd_Mo_jumper 61 rfl) rfl ?_
          refine ux_iload (dg hd_Mo_jumper 62 rfl) rfl ?_
          refine ux_iconst (4 : Int32) (dg hd_Mo_jumper 63 rfl) (by decide) ?_
          refine ux_iconst (0 : Int32) (dg hd_Mo_jumper 64 rfl) (by decide) ?_
          refine ux_callVv (As := [.int y11, .int (4 : Int32), .int (0 : Int32)]) (sp_Mo_lets l y11 (4 : Int32) (0 : Int32) _) (by omega) cv_Mo_lets wk_854 rfl rfl rfl rfl rfl (Nat.le_of_ble_eq_true rfl) (dg hd_Mo_jumper 65 rfl) (fun r21 σ22 _ => ?_)
          refine ux_iload (dg hd_Mo_jumper 66 rfl) rfl ?_
          exact ux_iret rfl (dg hd_Mo_jumper 67 rfl)
def Mo_jumperIs (p1 : Int32) (p2 : Int32) (σ : St) : Option (Int32 × St) :=
  bnd (Mo_isJumper p1 σ) (fun r1 σ2 =>
  if r1 = (0 : Int32) then (
  bnd (Mo_error (-1000000001 : Int32) σ2) (fun r3 σ4 =>
  some (r3, σ4))) else (
  bnd (Mo_in p2 (0 : Int32) (5 : Int32) σ2) (fun r5 σ6 =>
  if r5 = (0 : Int32) then (
  bnd (Mo_error (-1000000001 : Int32) σ6) (fun r11 σ12 =>
  some (r11, σ12))) else (
  if (5 : Int32) ≤ p2 then (
  bnd (Mo_costsOf p1 σ6) (fun r7 σ8 =>
  some (r7, σ8))) else (
  bnd (Mo_of p1 p2 σ6) (fun r9 σ10 =>
  some (r9, σ10)))))))
set_option maxRecDepth 100000 in
theorem sp_Mo_jumperIs (l : Launch) (p1 : Int32) (p2 : Int32) (σ : St) : Spc l shM 7 md_Mo_jumperIs [.ref 0, .int p1, .int p2] σ (Mo_jumperIs p1 p2 σ) := by
  refine Spc_of_Ux [(0, .ref 0), (1, .int p1), (2, .int p2)] (by decide) rfl (Nat.le_of_ble_eq_true rfl) ?_
  unfold Mo_jumperIs
  refine ux_aload_n (dg hd_Mo_jumperIs 0 rfl) rfl ?_
  refine ux_iload_n (dg hd_Mo_jumperIs 1 rfl) rfl ?_
  refine ux_callVi (As := [.int p1]) (sp_Mo_isJumper l p1 _) (by omega) cv_Mo_isJumper wk_862 rfl rfl rfl rfl rfl (Nat.le_of_ble_eq_true rfl) (dg hd_Mo_jumperIs 2 rfl) (fun r1 σ2 _ => ?_)
  refine ux_if_eq 17 (dg hd_Mo_jumperIs 3 rfl) (by decide) (fun _ => ?_) (fun _ => ?_)
  · refine ux_aload_n (dg hd_Mo_jumperIs 9 rfl) rfl ?_
    refine ux_ldc (-1000000001 : Int32) wk_847 (dg hd_Mo_jumperIs 10 rfl) ?_
    refine ux_callVi (As := [.int (-1000000001 : Int32)]) (sp_Mo_error l (-1000000001 : Int32) _) (by omega) cv_Mo_error wk_848 rfl rfl rfl rfl rfl (Nat.le_of_ble_eq_true rfl) (dg hd_Mo_jumperIs 11 rfl) (fun r3 σ4 _ => ?_)
    exact ux_iret rfl (dg hd_Mo_jumperIs 12 rfl)
  · refine ux_iload_n (dg hd_Mo_jumperIs 4 rfl) rfl ?_
    refine ux_iconst (0 : Int32) (dg hd_Mo_jumperIs 5 rfl) (by decide) ?_
    refine ux_iconst (5 : Int32) (dg hd_Mo_jumperIs 6 rfl) (by decide) ?_
    refine ux_callSi (As := [.int p2, .int (0 : Int32), .int (5 : Int32)]) (sp_Mo_in l p2 (0 : Int32) (5 : Int32) _) (by omega) cs_Mo_in wk_844 rfl rfl (Nat.le_of_ble_eq_true rfl) (dg hd_Mo_jumperIs 7 rfl) (fun r5 σ6 _ => ?_)
    refine ux_if_ne 24 (dg hd_Mo_jumperIs 8 rfl) (by decide) (fun _ => ?_) (fun _ => ?_)
    · refine ux_aload_n (dg hd_Mo_jumperIs 9 rfl) rfl ?_
      refine ux_ldc (-1000000001 : Int32) wk_847 (dg hd_Mo_jumperIs 10 rfl) ?_
      refine ux_callVi (As := [.int (-1000000001 : Int32)]) (sp_Mo_error l (-1000000001 : Int32) _) (by omega) cv_Mo_error wk_848 rfl rfl rfl rfl rfl (Nat.le_of_ble_eq_true rfl) (dg hd_Mo_jumperIs 11 rfl) (fun r11 σ12 _ => ?_)
      exact ux_iret rfl (dg hd_Mo_jumperIs 12 rfl)
    · refine ux_iload_n (dg hd_Mo_jumperIs 13 rfl) rfl ?_
      refine ux_iconst (5 : Int32) (dg hd_Mo_jumperIs 14 rfl) (by decide) ?_
      refine ux_icmp_ge 38 (dg hd_Mo_jumperIs 15 rfl) (by decide) (fun _ => ?_) (fun _ => ?_)
      · refine ux_aload_n (dg hd_Mo_jumperIs 21 rfl) rfl ?_
        refine ux_iload_n (dg hd_Mo_jumperIs 22 rfl) rfl ?_
        refine ux_callVi (As := [.int p1]) (sp_Mo_costsOf l p1 _) (by omega) cv_Mo_costsOf wk_870 rfl rfl rfl rfl rfl (Nat.le_of_ble_eq_true rfl) (dg hd_Mo_jumperIs 23 rfl) (fun r7 σ8 _ => ?_)
        exact ux_iret rfl (dg hd_Mo_jumperIs 24 rfl)
      · refine ux_aload_n (dg hd_Mo_jumperIs 16 rfl) rfl ?_
        refine ux_iload_n (dg hd_Mo_jumperIs 17 rfl) rfl ?_
        refine ux_iload_n (dg hd_Mo_jumperIs 18 rfl) rfl ?_
        refine ux_callVi (As := [.int p1, .int p2]) (sp_Mo_of l p1 p2 _) (by omega) cv_Mo_of wk_866 rfl rfl rfl rfl rfl (Nat.le_of_ble_eq_true rfl) (dg hd_Mo_jumperIs 19 rfl) (fun r9 σ10 _ => ?_)
        refine ux_goto 43 (dg hd_Mo_jumperIs 20 rfl) (by decide) ?_
        exact ux_iret rfl (dg hd_Mo_jumperIs 24 rfl)
def Mo_become (p1 : Int32) (p2 : Int32) (σ : St) : Option (Int32 × St) :=
  bnd (Mo_isJumper p1 σ) (fun r1 σ2 =>
  if r1 = (0 : Int32) then (
  bnd (Mo_error (-1000000001 : Int32) σ2) (fun r3 σ4 =>
  some (r3, σ4))) else (
  bnd (Mo_isKm p2 σ2) (fun r5 σ6 =>
  if r5 = (0 : Int32) then (
  bnd (Mo_error (-1000000001 : Int32) σ6) (fun r11 σ12 =>
  some (r11, σ12))) else (
  grd (nz (10 : Int32)) (
  bnd (Mo_lets p1 (1 : Int32) (irm p2 (10 : Int32)) σ6) (fun r7 σ8 =>
  grd (nz (10 : Int32)) (
  bnd (Mo_becomes ((10 : Int32) + ((5 : Int32) * p1)) (p2 / (10 : Int32)) σ8) (fun r9 σ10 =>
  some (r9, σ10)))))))))
set_option maxRecDepth 100000 in
theorem sp_Mo_become (l : Launch) (p1 : Int32) (p2 : Int32) (σ : St) : Spc l shM 4 md_Mo_become [.ref 0, .int p1, .int p2] σ (Mo_become p1 p2 σ) := by
  refine Spc_of_Ux [(0, .ref 0), (1, .int p1), (2, .int p2)] (by decide) rfl (Nat.le_of_ble_eq_true rfl) ?_
  unfold Mo_become
  refine ux_aload_n (dg hd_Mo_become 0 rfl) rfl ?_
  refine ux_iload_n (dg hd_Mo_become 1 rfl) rfl ?_
  refine ux_callVi (As := [.int p1]) (sp_Mo_isJumper l p1 _) (by omega) cv_Mo_isJumper wk_862 rfl rfl rfl rfl rfl (Nat.le_of_ble_eq_true rfl) (dg hd_Mo_become 2 rfl) (fun r1 σ2 _ => ?_)
  refine ux_if_eq 15 (dg hd_Mo_become 3 rfl) (by decide) (fun _ => ?_) (fun _ => ?_)
  · refine ux_aload_n (dg hd_Mo_become 7 rfl) rfl ?_
    refine ux_ldc (-1000000001 : Int32) wk_847 (dg hd_Mo_become 8 rfl) ?_
    refine ux_callVi (As := [.int (-1000000001 : Int32)]) (sp_Mo_error l (-1000000001 : Int32) _) (by omega) cv_Mo_error wk_848 rfl rfl rfl rfl rfl (Nat.le_of_ble_eq_true rfl) (dg hd_Mo_become 9 rfl) (fun r3 σ4 _ => ?_)
    exact ux_iret rfl (dg hd_Mo_become 10 rfl)
  · refine ux_iload_n (dg hd_Mo_become 4 rfl) rfl ?_
    refine ux_callSi (As := [.int p2]) (sp_Mo_isKm l p2 _) (by omega) cs_Mo_isKm wk_841 rfl rfl (Nat.le_of_ble_eq_true rfl) (dg hd_Mo_become 5 rfl) (fun r5 σ6 _ => ?_)
    refine ux_if_ne 22 (dg hd_Mo_become 6 rfl) (by decide) (fun _ => ?_) (fun _ => ?_)
    · refine ux_aload_n (dg hd_Mo_become 7 rfl) rfl ?_
      refine ux_ldc (-1000000001 : Int32) wk_847 (dg hd_Mo_become 8 rfl) ?_
      refine ux_callVi (As := [.int (-1000000001 : Int32)]) (sp_Mo_error l (-1000000001 : Int32) _) (by omega) cv_Mo_error wk_848 rfl rfl rfl rfl rfl (Nat.le_of_ble_eq_true rfl) (dg hd_Mo_become 9 rfl) (fun r11 σ12 _ => ?_)
      exact ux_iret rfl (dg hd_Mo_become 10 rfl)
    · refine ux_aload_n (dg hd_Mo_become 11 rfl) rfl ?_
      refine ux_iload_n (dg hd_Mo_become 12 rfl) rfl ?_
      refine ux_iconst (1 : Int32) (dg hd_Mo_become 13 rfl) (by decide) ?_
      refine ux_iload_n (dg hd_Mo_become 14 rfl) rfl ?_
      refine ux_bipush (10 : Int32) (dg hd_Mo_become 15 rfl) (by decide) ?_
      refine ux_irem (dg hd_Mo_become 16 rfl) ?_
      refine ux_callVv (As := [.int p1, .int (1 : Int32), .int (irm p2 (10 : Int32))]) (sp_Mo_lets l p1 (1 : Int32) (irm p2 (10 : Int32)) _) (by omega) cv_Mo_lets wk_854 rfl rfl rfl rfl rfl (Nat.le_of_ble_eq_true rfl) (dg hd_Mo_become 17 rfl) (fun r7 σ8 _ => ?_)
      refine ux_aload_n (dg hd_Mo_become 18 rfl) rfl ?_
      refine ux_bipush (10 : Int32) (dg hd_Mo_become 19 rfl) (by decide) ?_
      refine ux_iconst (5 : Int32) (dg hd_Mo_become 20 rfl) (by decide) ?_
      refine ux_iload_n (dg hd_Mo_become 21 rfl) rfl ?_
      refine ux_imul (dg hd_Mo_become 22 rfl) ?_
      refine ux_iadd (dg hd_Mo_become 23 rfl) ?_
      refine ux_iload_n (dg hd_Mo_become 24 rfl) rfl ?_
      refine ux_bipush (10 : Int32) (dg hd_Mo_become 25 rfl) (by decide) ?_
      refine ux_idiv (dg hd_Mo_become 26 rfl) ?_
      refine ux_callVi (As := [.int ((10 : Int32) + ((5 : Int32) * p1)), .int (p2 / (10 : Int32))]) (sp_Mo_becomes l ((10 : Int32) + ((5 : Int32) * p1)) (p2 / (10 : Int32)) _) (by omega) cv_Mo_becomes wk_911 rfl rfl rfl rfl rfl (Nat.le_of_ble_eq_true rfl) (dg hd_Mo_become 27 rfl) (fun r9 σ10 _ => ?_)
      exact ux_iret rfl (dg hd_Mo_become 28 rfl)
def Mo_as (p1 : Int32) (p2 : Int32) (σ : St) : Option (Int32 × St) :=
  bnd (Mo_isJumper p1 σ) (fun r1 σ2 =>
  if r1 = (0 : Int32) then (
  bnd (Mo_error (-1000000001 : Int32) σ2) (fun r3 σ4 =>
  some (r3, σ4))) else (
  bnd (Mo_in p2 (0 : Int32) (6 : Int32) σ2) (fun r5 σ6 =>
  if r5 = (0 : Int32) then (
  bnd (Mo_error (-1000000001 : Int32) σ6) (fun r45 σ46 =>
  some (r45, σ46))) else (
  bnd (Mo_of p1 (0 : Int32) σ6) (fun r7 σ8 =>
  if p2 = (0 : Int32) then (
  if (1 : Int32) = (0 : Int32) then (
  bnd (Mo_error (-1000000005 : Int32) σ8) (fun r9 σ10 =>
  some (r9, σ10))) else (
  bnd (Mo_of p1 (1 : Int32) σ8) (fun r11 σ12 =>
  some (r11, σ12)))) else (
  if p2 = r7 then (
  if (1 : Int32) = (0 : Int32) then (
  bnd (Mo_error (-1000000005 : Int32) σ8) (fun r13 σ14 =>
  some (r13, σ14))) else (
  bnd (Mo_of p1 (1 : Int32) σ8) (fun r15 σ16 =>
  some (r15, σ16)))) else (
  if p2 = (1 : Int32) then (
  if r7 = (4 : Int32) then (
  if (1 : Int32) = (0 : Int32) then (
  bnd (Mo_error (-1000000005 : Int32) σ8) (fun r29 σ30 =>
  some (r29, σ30))) else (
  bnd (Mo_of p1 (1 : Int32) σ8) (fun r31 σ32 =>
  some (r31, σ32)))) else (
  if p2 = (2 : Int32) then (
  if r7 = (5 : Int32) then (
  if (1 : Int32) = (0 : Int32) then (
  bnd (Mo_error (-1000000005 : Int32) σ8) (fun r41 σ42 =>
  some (r41, σ42))) else (
  bnd (Mo_of p1 (1 : Int32) σ8) (fun r43 σ44 =>
  some (r43, σ44)))) else (
  if (0 : Int32) = (0 : Int32) then (
  bnd (Mo_error (-1000000005 : Int32) σ8) (fun r37 σ38 =>
  some (r37, σ38))) else (
  bnd (Mo_of p1 (1 : Int32) σ8) (fun r39 σ40 =>
  some (r39, σ40))))) else (
  if (0 : Int32) = (0 : Int32) then (
  bnd (Mo_error (-1000000005 : Int32) σ8) (fun r33 σ34 =>
  some (r33, σ34))) else (
  bnd (Mo_of p1 (1 : Int32) σ8) (fun r35 σ36 =>
  some (r35, σ36)))))) else (
  if p2 = (2 : Int32) then (
  if r7 = (5 : Int32) then (
  if (1 : Int32) = (0 : Int32) then (
  bnd (Mo_error (-1000000005 : Int32) σ8) (fun r25 σ26 =>
  some (r25, σ26))) else (
  bnd (Mo_of p1 (1 : Int32) σ8) (fun r27 σ28 =>
  some (r27, σ28)))) else (
  if (0 : Int32) = (0 : Int32) then (
  bnd (Mo_error (-1000000005 : Int32) σ8) (fun r21 σ22 =>
  some (r21, σ22))) else (
  bnd (Mo_of p1 (1 : Int32) σ8) (fun r23 σ24 =>
  some (r23, σ24))))) else (
  if (0 : Int32) = (0 : Int32) then (
  bnd (Mo_error (-1000000005 : Int32) σ8) (fun r17 σ18 =>
  some (r17, σ18))) else (
  bnd (Mo_of p1 (1 : Int32) σ8) (fun r19 σ20 =>
  some (r19, σ20))))))))))))
set_option maxRecDepth 100000 in
theorem sp_Mo_as (l : Launch) (p1 : Int32) (p2 : Int32) (σ : St) : Spc l shM 4 md_Mo_as [.ref 0, .int p1, .int p2] σ (Mo_as p1 p2 σ) := by
  refine Spc_of_Ux [(0, .ref 0), (1, .int p1), (2, .int p2)] (by decide) rfl (Nat.le_of_ble_eq_true rfl) ?_
  unfold Mo_as
  refine ux_aload_n (dg hd_Mo_as 0 rfl) rfl ?_
  refine ux_iload_n (dg hd_Mo_as 1 rfl) rfl ?_
  refine ux_callVi (As := [.int p1]) (sp_Mo_isJumper l p1 _) (by omega) cv_Mo_isJumper wk_862 rfl rfl rfl rfl rfl (Nat.le_of_ble_eq_true rfl) (dg hd_Mo_as 2 rfl) (fun r1 σ2 _ => ?_)
  refine ux_if_eq 18 (dg hd_Mo_as 3 rfl) (by decide) (fun _ => ?_) (fun _ => ?_)
  · refine ux_aload_n (dg hd_Mo_as 9 rfl) rfl ?_
    refine ux_ldc (-1000000001 : Int32) wk_847 (dg hd_Mo_as 10 rfl) ?_
    refine ux_callVi (As := [.int (-1000000001 : Int32)]) (sp_Mo_error l (-1000000001 : Int32) _) (by omega) cv_Mo_error wk_848 rfl rfl rfl rfl rfl (Nat.le_of_ble_eq_true rfl) (dg hd_Mo_as 11 rfl) (fun r3 σ4 _ => ?_)
    exact ux_iret rfl (dg hd_Mo_as 12 rfl)
  · refine ux_iload_n (dg hd_Mo_as 4 rfl) rfl ?_
    refine ux_iconst (0 : Int32) (dg hd_Mo_as 5 rfl) (by decide) ?_
    refine ux_bipush (6 : Int32) (dg hd_Mo_as 6 rfl) (by decide) ?_
    refine ux_callSi (As := [.int p2, .int (0 : Int32), .int (6 : Int32)]) (sp_Mo_in l p2 (0 : Int32) (6 : Int32) _) (by omega) cs_Mo_in wk_844 rfl rfl (Nat.le_of_ble_eq_true rfl) (dg hd_Mo_as 7 rfl) (fun r5 σ6 _ => ?_)
    refine ux_if_ne 25 (dg hd_Mo_as 8 rfl) (by decide) (fun _ => ?_) (fun _ => ?_)
    · refine ux_aload_n (dg hd_Mo_as 9 rfl) rfl ?_
      refine ux_ldc (-1000000001 : Int32) wk_847 (dg hd_Mo_as 10 rfl) ?_
      refine ux_callVi (As := [.int (-1000000001 : Int32)]) (sp_Mo_error l (-1000000001 : Int32) _) (by omega) cv_Mo_error wk_848 rfl rfl rfl rfl rfl (Nat.le_of_ble_eq_true rfl) (dg hd_Mo_as 11 rfl) (fun r45 σ46 _ => ?_)
      exact ux_iret rfl (dg hd_Mo_as 12 rfl)
    · refine ux_aload_n (dg hd_Mo_as 13 rfl) rfl ?_
      refine ux_iload_n (dg hd_Mo_as 14 rfl) rfl ?_
      refine ux_iconst (0 : Int32) (dg hd_Mo_as 15 rfl) (by decide) ?_
      refine ux_callVi (As := [.int p1, .int (0 : Int32)]) (sp_Mo_of l p1 (0 : Int32) _) (by omega) cv_Mo_of wk_866 rfl rfl rfl rfl rfl (Nat.le_of_ble_eq_true rfl) (dg hd_Mo_as 16 rfl) (fun r7 σ8 _ => ?_)
      refine ux_istore_n [(3, .int r7), (0, .ref 0), (1, .int p1), (2, .int p2)] (dg hd_Mo_as 17 rfl) (by decide) rfl ?_
      refine ux_iload_n (dg hd_Mo_as 18 rfl) rfl ?_
      refine ux_if_eq 61 (dg hd_Mo_as 19 rfl) (by decide) (fun _ => ?_) (fun _ => ?_)
      · refine ux_iconst (1 : Int32) (dg hd_Mo_as 35 rfl) (by decide) ?_
        refine ux_goto 66 (dg hd_Mo_as 36 rfl) (by decide) ?_
        refine ux_istore [(4, .int (1 : Int32)), (3, .int r7), (0, .ref 0), (1, .int p1), (2, .int p2)] (dg hd_Mo_as 38 rfl) (by decide) rfl ?_
        refine ux_iload (dg hd_Mo_as 39 rfl) rfl ?_
        refine ux_if_eq 82 (dg hd_Mo_as 40 rfl) (by decide) (fun _ => ?_) (fun _ => ?_)
        · refine ux_aload_n (dg hd_Mo_as 46 rfl) rfl ?_
          refine ux_ldc (-1000000005 : Int32) wk_919 (dg hd_Mo_as 47 rfl) ?_
          refine ux_callVi (As := [.int (-1000000005 : Int32)]) (sp_Mo_error l (-1000000005 : Int32) _) (by omega) cv_Mo_error wk_848 rfl rfl rfl rfl rfl (Nat.le_of_ble_eq_true rfl) (dg hd_Mo_as 48 rfl) (fun r9 σ10 _ => ?_)
          exact ux_iret rfl (dg hd_Mo_as 49 rfl)
        · refine ux_aload_n (dg hd_Mo_as 41 rfl) rfl ?_
          refine ux_iload_n (dg hd_Mo_as 42 rfl) rfl ?_
          refine ux_iconst (1 : Int32) (dg hd_Mo_as 43 rfl) (by decide) ?_
          refine ux_callVi (As := [.int p1, .int (1 : Int32)]) (sp_Mo_of l p1 (1 : Int32) _) (by omega) cv_Mo_of wk_866 rfl rfl rfl rfl rfl (Nat.le_of_ble_eq_true rfl) (dg hd_Mo_as 44 rfl) (fun r11 σ12 _ => ?_)
          refine ux_goto 88 (dg hd_Mo_as 45 rfl) (by decide) ?_
          exact ux_iret rfl (dg hd_Mo_as 49 rfl)
      · refine ux_iload_n (dg hd_Mo_as 20 rfl) rfl ?_
        refine ux_iload_n (dg hd_Mo_as 21 rfl) rfl ?_
        refine ux_icmp_eq 61 (dg hd_Mo_as 22 rfl) (by decide) (fun _ => ?_) (fun _ => ?_)
        · refine ux_iconst (1 : Int32) (dg hd_Mo_as 35 rfl) (by decide) ?_
          refine ux_goto 66 (dg hd_Mo_as 36 rfl) (by decide) ?_
          refine ux_istore [(4, .int (1 : Int32)), (3, .int r7), (0, .ref 0), (1, .int p1), (2, .int p2)] (dg hd_Mo_as 38 rfl) (by decide) rfl ?_
          refine ux_iload (dg hd_Mo_as 39 rfl) rfl ?_
          refine ux_if_eq 82 (dg hd_Mo_as 40 rfl) (by decide) (fun _ => ?_) (fun _ => ?_)
          · refine ux_aload_n (dg hd_Mo_as 46 rfl) rfl ?_
            refine ux_ldc (-1000000005 : Int32) wk_919 (dg hd_Mo_as 47 rfl) ?_
            refine ux_callVi (As := [.int (-1000000005 : Int32)]) (sp_Mo_error l (-1000000005 : Int32) _) (by omega) cv_Mo_error wk_848 rfl rfl rfl rfl rfl (Nat.le_of_ble_eq_true rfl) (dg hd_Mo_as 48 rfl) (fun r13 σ14 _ => ?_)
            exact ux_iret rfl (dg hd_Mo_as 49 rfl)
          · refine ux_aload_n (dg hd_Mo_as 41 rfl) rfl ?_
            refine ux_iload_n (dg hd_Mo_as 42 rfl) rfl ?_
            refine ux_iconst (1 : Int32) (dg hd_Mo_as 43 rfl) (by decide) ?_
            refine ux_callVi (As := [.int p1, .int (1 : Int32)]) (sp_Mo_of l p1 (1 : Int32) _) (by omega) cv_Mo_of wk_866 rfl rfl rfl rfl rfl (Nat.le_of_ble_eq_true rfl) (dg hd_Mo_as 44 rfl) (fun r15 σ16 _ => ?_)
            refine ux_goto 88 (dg hd_Mo_as 45 rfl) (by decide) ?_
            exact ux_iret rfl (dg hd_Mo_as 49 rfl)
        · refine ux_iload_n (dg hd_Mo_as 23 rfl) rfl ?_
          refine ux_iconst (1 : Int32) (dg hd_Mo_as 24 rfl) (by decide) ?_
          refine ux_icmp_ne 51 (dg hd_Mo_as 25 rfl) (by decide) (fun _ => ?_) (fun _ => ?_)
          · refine ux_iload_n (dg hd_Mo_as 26 rfl) rfl ?_
            refine ux_iconst (4 : Int32) (dg hd_Mo_as 27 rfl) (by decide) ?_
            refine ux_icmp_eq 61 (dg hd_Mo_as 28 rfl) (by decide) (fun _ => ?_) (fun _ => ?_)
            · refine ux_iconst (1 : Int32) (dg hd_Mo_as 35 rfl) (by decide) ?_
              refine ux_goto 66 (dg hd_Mo_as 36 rfl) (by decide) ?_
              refine ux_istore [(4, .int (1 : Int32)), (3, .int r7), (0, .ref 0), (1, .int p1), (2, .int p2)] (dg hd_Mo_as 38 rfl) (by decide) rfl ?_
              refine ux_iload (dg hd_Mo_as 39 rfl) rfl ?_
              refine ux_if_eq 82 (dg hd_Mo_as 40 rfl) (by decide) (fun _ => ?_) (fun _ => ?_)
              · refine ux_aload_n (dg hd_Mo_as 46 rfl) rfl ?_
                refine ux_ldc (-1000000005 : Int32) wk_919 (dg hd_Mo_as 47 rfl) ?_
                refine ux_callVi (As := [.int (-1000000005 : Int32)]) (sp_Mo_error l (-1000000005 : Int32) _) (by omega) cv_Mo_error wk_848 rfl rfl rfl rfl rfl (Nat.le_of_ble_eq_true rfl) (dg hd_Mo_as 48 rfl) (fun r29 σ30 _ => ?_)
                exact ux_iret rfl (dg hd_Mo_as 49 rfl)
              · refine ux_aload_n (dg hd_Mo_as 41 rfl) rfl ?_
                refine ux_iload_n (dg hd_Mo_as 42 rfl) rfl ?_
                refine ux_iconst (1 : Int32) (dg hd_Mo_as 43 rfl) (by decide) ?_
                refine ux_callVi (As := [.int p1, .int (1 : Int32)]) (sp_Mo_of l p1 (1 : Int32) _) (by omega) cv_Mo_of wk_866 rfl rfl rfl rfl rfl (Nat.le_of_ble_eq_true rfl) (dg hd_Mo_as 44 rfl) (fun r31 σ32 _ => ?_)
                refine ux_goto 88 (dg hd_Mo_as 45 rfl) (by decide) ?_
                exact ux_iret rfl (dg hd_Mo_as 49 rfl)
            · refine ux_iload_n (dg hd_Mo_as 29 rfl) rfl ?_
              refine ux_iconst (2 : Int32) (dg hd_Mo_as 30 rfl) (by decide) ?_
              refine ux_icmp_ne 65 (dg hd_Mo_as 31 rfl) (by decide) (fun _ => ?_) (fun _ => ?_)
              · refine ux_iload_n (dg hd_Mo_as 32 rfl) rfl ?_
                refine ux_iconst (5 : Int32) (dg hd_Mo_as 33 rfl) (by decide) ?_
                refine ux_icmp_ne 65 (dg hd_Mo_as 34 rfl) (by decide) (fun _ => ?_) (fun _ => ?_)
                · refine ux_iconst (1 : Int32) (dg hd_Mo_as 35 rfl) (by decide) ?_
                  refine ux_goto 66 (dg hd_Mo_as 36 rfl) (by decide) ?_
                  refine ux_istore [(4, .int (1 : Int32)), (3, .int r7), (0, .ref 0), (1, .int p1), (2, .int p2)] (dg hd_Mo_as 38 rfl) (by decide) rfl ?_
                  refine ux_iload (dg hd_Mo_as 39 rfl) rfl ?_
                  refine ux_if_eq 82 (dg hd_Mo_as 40 rfl) (by decide) (fun _ => ?_) (fun _ => ?_)
                  · refine ux_aload_n (dg hd_Mo_as 46 rfl) rfl ?_
                    refine ux_ldc (-1000000005 : Int32) wk_919 (dg hd_Mo_as 47 rfl) ?_
                    refine ux_callVi (As := [.int (-1000000005 : Int32)]) (sp_Mo_error l (-1000000005 : Int32) _) (by omega) cv_Mo_error wk_848 rfl rfl rfl rfl rfl (Nat.le_of_ble_eq_true rfl) (dg hd_Mo_as 48 rfl) (fun r41 σ42 _ => ?_)
                    exact ux_iret rfl (dg hd_Mo_as 49 rfl)
                  · refine ux_aload_n (dg hd_Mo_as 41 rfl) rfl ?_
                    refine ux_iload_n (dg hd_Mo_as 42 rfl) rfl ?_
                    refine ux_iconst (1 : Int32) (dg hd_Mo_as 43 rfl) (by decide) ?_
                    refine ux_callVi (As := [.int p1, .int (1 : Int32)]) (sp_Mo_of l p1 (1 : Int32) _) (by omega) cv_Mo_of wk_866 rfl rfl rfl rfl rfl (Nat.le_of_ble_eq_true rfl) (dg hd_Mo_as 44 rfl) (fun r43 σ44 _ => ?_)
                    refine ux_goto 88 (dg hd_Mo_as 45 rfl) (by decide) ?_
                    exact ux_iret rfl (dg hd_Mo_as 49 rfl)
                · refine ux_iconst (0 : Int32) (dg hd_Mo_as 37 rfl) (by decide) ?_
                  refine ux_istore [(4, .int (0 : Int32)), (3, .int r7), (0, .ref 0), (1, .int p1), (2, .int p2)] (dg hd_Mo_as 38 rfl) (by decide) rfl ?_
                  refine ux_iload (dg hd_Mo_as 39 rfl) rfl ?_
                  refine ux_if_eq 82 (dg hd_Mo_as 40 rfl) (by decide) (fun _ => ?_) (fun _ => ?_)
                  · refine ux_aload_n (dg hd_Mo_as 46 rfl) rfl ?_
                    refine ux_ldc (-1000000005 : Int32) wk_919 (dg hd_Mo_as 47 rfl) ?_
                    refine ux_callVi (As := [.int (-1000000005 : Int32)]) (sp_Mo_error l (-1000000005 : Int32) _) (by omega) cv_Mo_error wk_848 rfl rfl rfl rfl rfl (Nat.le_of_ble_eq_true rfl) (dg hd_Mo_as 48 rfl) (fun r37 σ38 _ => ?_)
                    exact ux_iret rfl (dg hd_Mo_as 49 rfl)
                  · refine ux_aload_n (dg hd_Mo_as 41 rfl) rfl ?_
                    refine ux_iload_n (dg hd_Mo_as 42 rfl) rfl ?_
                    refine ux_iconst (1 : Int32) (dg hd_Mo_as 43 rfl) (by decide) ?_
                    refine ux_callVi (As := [.int p1, .int (1 : Int32)]) (sp_Mo_of l p1 (1 : Int32) _) (by omega) cv_Mo_of wk_866 rfl rfl rfl rfl rfl (Nat.le_of_ble_eq_true rfl) (dg hd_Mo_as 44 rfl) (fun r39 σ40 _ => ?_)
                    refine ux_goto 88 (dg hd_Mo_as 45 rfl) (by decide) ?_
                    exact ux_iret rfl (dg hd_Mo_as 49 rfl)
              · refine ux_iconst (0 : Int32) (dg hd_Mo_as 37 rfl) (by decide) ?_
                refine ux_istore [(4, .int (0 : Int32)), (3, .int r7), (0, .ref 0), (1, .int p1), (2, .int p2)] (dg hd_Mo_as 38 rfl) (by decide) rfl ?_
                refine ux_iload (dg hd_Mo_as 39 rfl) rfl ?_
                refine ux_if_eq 82 (dg hd_Mo_as 40 rfl) (by decide) (fun _ => ?_) (fun _ => ?_)
                · refine ux_aload_n (dg hd_Mo_as 46 rfl) rfl ?_
                  refine ux_ldc (-1000000005 : Int32) wk_919 (dg hd_Mo_as 47 rfl) ?_
                  refine ux_callVi (As := [.int (-1000000005 : Int32)]) (sp_Mo_error l (-1000000005 : Int32) _) (by omega) cv_Mo_error wk_848 rfl rfl rfl rfl rfl (Nat.le_of_ble_eq_true rfl) (dg hd_Mo_as 48 rfl) (fun r33 σ34 _ => ?_)
                  exact ux_iret rfl (dg hd_Mo_as 49 rfl)
                · refine ux_aload_n (dg hd_Mo_as 41 rfl) rfl ?_
                  refine ux_iload_n (dg hd_Mo_as 42 rfl) rfl ?_
                  refine ux_iconst (1 : Int32) (dg hd_Mo_as 43 rfl) (by decide) ?_
                  refine ux_callVi (As := [.int p1, .int (1 : Int32)]) (sp_Mo_of l p1 (1 : Int32) _) (by omega) cv_Mo_of wk_866 rfl rfl rfl rfl rfl (Nat.le_of_ble_eq_true rfl) (dg hd_Mo_as 44 rfl) (fun r35 σ36 _ => ?_)
                  refine ux_goto 88 (dg hd_Mo_as 45 rfl) (by decide) ?_
                  exact ux_iret rfl (dg hd_Mo_as 49 rfl)
          · refine ux_iload_n (dg hd_Mo_as 29 rfl) rfl ?_
            refine ux_iconst (2 : Int32) (dg hd_Mo_as 30 rfl) (by decide) ?_
            refine ux_icmp_ne 65 (dg hd_Mo_as 31 rfl) (by decide) (fun _ => ?_) (fun _ => ?_)
            · refine ux_iload_n (dg hd_Mo_as 32 rfl) rfl ?_
              refine ux_iconst (5 : Int32) (dg hd_Mo_as 33 rfl) (by decide) ?_
              refine ux_icmp_ne 65 (dg hd_Mo_as 34 rfl) (by decide) (fun _ => ?_) (fun _ => ?_)
              · refine ux_iconst (1 : Int32) (dg hd_Mo_as 35 rfl) (by decide) ?_
                refine ux_goto 66 (dg hd_Mo_as 36 rfl) (by decide) ?_
                refine ux_istore [(4, .int (1 : Int32)), (3, .int r7), (0, .ref 0), (1, .int p1), (2, .int p2)] (dg hd_Mo_as 38 rfl) (by decide) rfl ?_
                refine ux_iload (dg hd_Mo_as 39 rfl) rfl ?_
                refine ux_if_eq 82 (dg hd_Mo_as 40 rfl) (by decide) (fun _ => ?_) (fun _ => ?_)
                · refine ux_aload_n (dg hd_Mo_as 46 rfl) rfl ?_
                  refine ux_ldc (-1000000005 : Int32) wk_919 (dg hd_Mo_as 47 rfl) ?_
                  refine ux_callVi (As := [.int (-1000000005 : Int32)]) (sp_Mo_error l (-1000000005 : Int32) _) (by omega) cv_Mo_error wk_848 rfl rfl rfl rfl rfl (Nat.le_of_ble_eq_true rfl) (dg hd_Mo_as 48 rfl) (fun r25 σ26 _ => ?_)
                  exact ux_iret rfl (dg hd_Mo_as 49 rfl)
                · refine ux_aload_n (dg hd_Mo_as 41 rfl) rfl ?_
                  refine ux_iload_n (dg hd_Mo_as 42 rfl) rfl ?_
                  refine ux_iconst (1 : Int32) (dg hd_Mo_as 43 rfl) (by decide) ?_
                  refine ux_callVi (As := [.int p1, .int (1 : Int32)]) (sp_Mo_of l p1 (1 : Int32) _) (by omega) cv_Mo_of wk_866 rfl rfl rfl rfl rfl (Nat.le_of_ble_eq_true rfl) (dg hd_Mo_as 44 rfl) (fun r27 σ28 _ => ?_)
                  refine ux_goto 88 (dg hd_Mo_as 45 rfl) (by decide) ?_
                  exact ux_iret rfl (dg hd_Mo_as 49 rfl)
              · refine ux_iconst (0 : Int32) (dg hd_Mo_as 37 rfl) (by decide) ?_
                refine ux_istore [(4, .int (0 : Int32)), (3, .int r7), (0, .ref 0), (1, .int p1), (2, .int p2)] (dg hd_Mo_as 38 rfl) (by decide) rfl ?_
                refine ux_iload (dg hd_Mo_as 39 rfl) rfl ?_
                refine ux_if_eq 82 (dg hd_Mo_as 40 rfl) (by decide) (fun _ => ?_) (fun _ => ?_)
                · refine ux_aload_n (dg hd_Mo_as 46 rfl) rfl ?_
                  refine ux_ldc (-1000000005 : Int32) wk_919 (dg hd_Mo_as 47 rfl) ?_
                  refine ux_callVi (As := [.int (-1000000005 : Int32)]) (sp_Mo_error l (-1000000005 : Int32) _) (by omega) cv_Mo_error wk_848 rfl rfl rfl rfl rfl (Nat.le_of_ble_eq_true rfl) (dg hd_Mo_as 48 rfl) (fun r21 σ22 _ => ?_)
                  exact ux_iret rfl (dg hd_Mo_as 49 rfl)
                · refine ux_aload_n (dg hd_Mo_as 41 rfl) rfl ?_
                  refine ux_iload_n (dg hd_Mo_as 42 rfl) rfl ?_
                  refine ux_iconst (1 : Int32) (dg hd_Mo_as 43 rfl) (by decide) ?_
                  refine ux_callVi (As := [.int p1, .int (1 : Int32)]) (sp_Mo_of l p1 (1 : Int32) _) (by omega) cv_Mo_of wk_866 rfl rfl rfl rfl rfl (Nat.le_of_ble_eq_true rfl) (dg hd_Mo_as 44 rfl) (fun r23 σ24 _ => ?_)
                  refine ux_goto 88 (dg hd_Mo_as 45 rfl) (by decide) ?_
                  exact ux_iret rfl (dg hd_Mo_as 49 rfl)
            · refine ux_iconst (0 : Int32) (dg hd_Mo_as 37 rfl) (by decide) ?_
              refine ux_istore [(4, .int (0 : Int32)), (3, .int r7), (0, .ref 0), (1, .int p1), (2, .int p2)] (dg hd_Mo_as 38 rfl) (by decide) rfl ?_
              refine ux_iload (dg hd_Mo_as 39 rfl) rfl ?_
              refine ux_if_eq 82 (dg hd_Mo_as 40 rfl) (by decide) (fun _ => ?_) (fun _ => ?_)
              · refine ux_aload_n (dg hd_Mo_as 46 rfl) rfl ?_
                refine ux_ldc (-1000000005 : Int32) wk_919 (dg hd_Mo_as 47 rfl) ?_
                refine ux_callVi (As := [.int (-1000000005 : Int32)]) (sp_Mo_error l (-1000000005 : Int32) _) (by omega) cv_Mo_error wk_848 rfl rfl rfl rfl rfl (Nat.le_of_ble_eq_true rfl) (dg hd_Mo_as 48 rfl) (fun r17 σ18 _ => ?_)
                exact ux_iret rfl (dg hd_Mo_as 49 rfl)
              · refine ux_aload_n (dg hd_Mo_as 41 rfl) rfl ?_
                refine ux_iload_n (dg hd_Mo_as 42 rfl) rfl ?_
                refine ux_iconst (1 : Int32) (dg hd_Mo_as 43 rfl) (by decide) ?_
                refine ux_callVi (As := [.int p1, .int (1 : Int32)]) (sp_Mo_of l p1 (1 : Int32) _) (by omega) cv_Mo_of wk_866 rfl rfl rfl rfl rfl (Nat.le_of_ble_eq_true rfl) (dg hd_Mo_as 44 rfl) (fun r19 σ20 _ => ?_)
                refine ux_goto 88 (dg hd_Mo_as 45 rfl) (by decide) ?_
                exact ux_iret rfl (dg hd_Mo_as 49 rfl)
def Mo_jump (p1 : Int32) (p2 : Int32) (σ : St) : Option (Int32 × St) :=
  bnd (Mo_isJumper p1 σ) (fun r1 σ2 =>
  if r1 = (0 : Int32) then (
  bnd (Mo_error (-1000000001 : Int32) σ2) (fun r3 σ4 =>
  some (r3, σ4))) else (
  bnd (Mo_in p2 (0 : Int32) (1 : Int32) σ2) (fun r5 σ6 =>
  if r5 = (0 : Int32) then (
  bnd (Mo_error (-1000000001 : Int32) σ6) (fun r15 σ16 =>
  some (r15, σ16))) else (
  if p2 = (1 : Int32) then (
  bnd (Mo_doesTurn  σ6) (fun r9 σ10 =>
  if r9 = (0 : Int32) then (
  bnd (Mo_error (-1000000003 : Int32) σ10) (fun r13 σ14 =>
  some (r13, σ14))) else (
  bnd (Mo_becomes (((10 : Int32) + ((5 : Int32) * p1)) + (4 : Int32)) p2 σ10) (fun r11 σ12 =>
  some (r11, σ12))))) else (
  bnd (Mo_becomes (((10 : Int32) + ((5 : Int32) * p1)) + (4 : Int32)) p2 σ6) (fun r7 σ8 =>
  some (r7, σ8)))))))
set_option maxRecDepth 100000 in
theorem sp_Mo_jump (l : Launch) (p1 : Int32) (p2 : Int32) (σ : St) : Spc l shM 4 md_Mo_jump [.ref 0, .int p1, .int p2] σ (Mo_jump p1 p2 σ) := by
  refine Spc_of_Ux [(0, .ref 0), (1, .int p1), (2, .int p2)] (by decide) rfl (Nat.le_of_ble_eq_true rfl) ?_
  unfold Mo_jump
  refine ux_aload_n (dg hd_Mo_jump 0 rfl) rfl ?_
  refine ux_iload_n (dg hd_Mo_jump 1 rfl) rfl ?_
  refine ux_callVi (As := [.int p1]) (sp_Mo_isJumper l p1 _) (by omega) cv_Mo_isJumper wk_862 rfl rfl rfl rfl rfl (Nat.le_of_ble_eq_true rfl) (dg hd_Mo_jump 2 rfl) (fun r1 σ2 _ => ?_)
  refine ux_if_eq 17 (dg hd_Mo_jump 3 rfl) (by decide) (fun _ => ?_) (fun _ => ?_)
  · refine ux_aload_n (dg hd_Mo_jump 9 rfl) rfl ?_
    refine ux_ldc (-1000000001 : Int32) wk_847 (dg hd_Mo_jump 10 rfl) ?_
    refine ux_callVi (As := [.int (-1000000001 : Int32)]) (sp_Mo_error l (-1000000001 : Int32) _) (by omega) cv_Mo_error wk_848 rfl rfl rfl rfl rfl (Nat.le_of_ble_eq_true rfl) (dg hd_Mo_jump 11 rfl) (fun r3 σ4 _ => ?_)
    exact ux_iret rfl (dg hd_Mo_jump 12 rfl)
  · refine ux_iload_n (dg hd_Mo_jump 4 rfl) rfl ?_
    refine ux_iconst (0 : Int32) (dg hd_Mo_jump 5 rfl) (by decide) ?_
    refine ux_iconst (1 : Int32) (dg hd_Mo_jump 6 rfl) (by decide) ?_
    refine ux_callSi (As := [.int p2, .int (0 : Int32), .int (1 : Int32)]) (sp_Mo_in l p2 (0 : Int32) (1 : Int32) _) (by omega) cs_Mo_in wk_844 rfl rfl (Nat.le_of_ble_eq_true rfl) (dg hd_Mo_jump 7 rfl) (fun r5 σ6 _ => ?_)
    refine ux_if_ne 24 (dg hd_Mo_jump 8 rfl) (by decide) (fun _ => ?_) (fun _ => ?_)
    · refine ux_aload_n (dg hd_Mo_jump 9 rfl) rfl ?_
      refine ux_ldc (-1000000001 : Int32) wk_847 (dg hd_Mo_jump 10 rfl) ?_
      refine ux_callVi (As := [.int (-1000000001 : Int32)]) (sp_Mo_error l (-1000000001 : Int32) _) (by omega) cv_Mo_error wk_848 rfl rfl rfl rfl rfl (Nat.le_of_ble_eq_true rfl) (dg hd_Mo_jump 11 rfl) (fun r15 σ16 _ => ?_)
      exact ux_iret rfl (dg hd_Mo_jump 12 rfl)
    · refine ux_iload_n (dg hd_Mo_jump 13 rfl) rfl ?_
      refine ux_iconst (1 : Int32) (dg hd_Mo_jump 14 rfl) (by decide) ?_
      refine ux_icmp_ne 45 (dg hd_Mo_jump 15 rfl) (by decide) (fun _ => ?_) (fun _ => ?_)
      · refine ux_aload_n (dg hd_Mo_jump 16 rfl) rfl ?_
        refine ux_callVi (As := []) (sp_Mo_doesTurn l  _) (by omega) cv_Mo_doesTurn wk_924 rfl rfl rfl rfl rfl (Nat.le_of_ble_eq_true rfl) (dg hd_Mo_jump 17 rfl) (fun r9 σ10 _ => ?_)
        refine ux_if_ne 45 (dg hd_Mo_jump 18 rfl) (by decide) (fun _ => ?_) (fun _ => ?_)
        · refine ux_aload_n (dg hd_Mo_jump 19 rfl) rfl ?_
          refine ux_ldc (-1000000003 : Int32) wk_928 (dg hd_Mo_jump 20 rfl) ?_
          refine ux_callVi (As := [.int (-1000000003 : Int32)]) (sp_Mo_error l (-1000000003 : Int32) _) (by omega) cv_Mo_error wk_848 rfl rfl rfl rfl rfl (Nat.le_of_ble_eq_true rfl) (dg hd_Mo_jump 21 rfl) (fun r13 σ14 _ => ?_)
          refine ux_goto 58 (dg hd_Mo_jump 22 rfl) (by decide) ?_
          exact ux_iret rfl (dg hd_Mo_jump 33 rfl)
        · refine ux_aload_n (dg hd_Mo_jump 23 rfl) rfl ?_
          refine ux_bipush (10 : Int32) (dg hd_Mo_jump 24 rfl) (by decide) ?_
          refine ux_iconst (5 : Int32) (dg hd_Mo_jump 25 rfl) (by decide) ?_
          refine ux_iload_n (dg hd_Mo_jump 26 rfl) rfl ?_
          refine ux_imul (dg hd_Mo_jump 27 rfl) ?_
          refine ux_iadd (dg hd_Mo_jump 28 rfl) ?_
          refine ux_iconst (4 : Int32) (dg hd_Mo_jump 29 rfl) (by decide) ?_
          refine ux_iadd (dg hd_Mo_jump 30 rfl) ?_
          refine ux_iload_n (dg hd_Mo_jump 31 rfl) rfl ?_
          refine ux_callVi (As := [.int (((10 : Int32) + ((5 : Int32) * p1)) + (4 : Int32)), .int p2]) (sp_Mo_becomes l (((10 : Int32) + ((5 : Int32) * p1)) + (4 : Int32)) p2 _) (by omega) cv_Mo_becomes wk_911 rfl rfl rfl rfl rfl (Nat.le_of_ble_eq_true rfl) (dg hd_Mo_jump 32 rfl) (fun r11 σ12 _ => ?_)
          exact ux_iret rfl (dg hd_Mo_jump 33 rfl)
      · refine ux_aload_n (dg hd_Mo_jump 23 rfl) rfl ?_
        refine ux_bipush (10 : Int32) (dg hd_Mo_jump 24 rfl) (by decide) ?_
        refine ux_iconst (5 : Int32) (dg hd_Mo_jump 25 rfl) (by decide) ?_
        refine ux_iload_n (dg hd_Mo_jump 26 rfl) rfl ?_
        refine ux_imul (dg hd_Mo_jump 27 rfl) ?_
        refine ux_iadd (dg hd_Mo_jump 28 rfl) ?_
        refine ux_iconst (4 : Int32) (dg hd_Mo_jump 29 rfl) (by decide) ?_
        refine ux_iadd (dg hd_Mo_jump 30 rfl) ?_
        refine ux_iload_n (dg hd_Mo_jump 31 rfl) rfl ?_
        refine ux_callVi (As := [.int (((10 : Int32) + ((5 : Int32) * p1)) + (4 : Int32)), .int p2]) (sp_Mo_becomes l (((10 : Int32) + ((5 : Int32) * p1)) + (4 : Int32)) p2 _) (by omega) cv_Mo_becomes wk_911 rfl rfl rfl rfl rfl (Nat.le_of_ble_eq_true rfl) (dg hd_Mo_jump 32 rfl) (fun r7 σ8 _ => ?_)
        exact ux_iret rfl (dg hd_Mo_jump 33 rfl)
def Mo_rest (p1 : Int32) (p2 : Int32) (σ : St) : Option (Int32 × St) :=
  bnd (Mo_isJumper p1 σ) (fun r1 σ2 =>
  if r1 = (0 : Int32) then (
  bnd (Mo_error (-1000000001 : Int32) σ2) (fun r3 σ4 =>
  some (r3, σ4))) else (
  bnd (Mo_in p2 (0 : Int32) (99 : Int32) σ2) (fun r5 σ6 =>
  if r5 = (0 : Int32) then (
  bnd (Mo_error (-1000000001 : Int32) σ6) (fun r7 σ8 =>
  some (r7, σ8))) else (
  bnd (Mo_becomes (((10 : Int32) + ((5 : Int32) * p1)) + (2 : Int32)) p2 σ6) (fun r9 σ10 =>
  some (r9, σ10))))))
set_option maxRecDepth 100000 in
theorem sp_Mo_rest (l : Launch) (p1 : Int32) (p2 : Int32) (σ : St) : Spc l shM 4 md_Mo_rest [.ref 0, .int p1, .int p2] σ (Mo_rest p1 p2 σ) := by
  refine Spc_of_Ux [(0, .ref 0), (1, .int p1), (2, .int p2)] (by decide) rfl (Nat.le_of_ble_eq_true rfl) ?_
  unfold Mo_rest
  refine ux_aload_n (dg hd_Mo_rest 0 rfl) rfl ?_
  refine ux_iload_n (dg hd_Mo_rest 1 rfl) rfl ?_
  refine ux_callVi (As := [.int p1]) (sp_Mo_isJumper l p1 _) (by omega) cv_Mo_isJumper wk_862 rfl rfl rfl rfl rfl (Nat.le_of_ble_eq_true rfl) (dg hd_Mo_rest 2 rfl) (fun r1 σ2 _ => ?_)
  refine ux_if_eq 34 (dg hd_Mo_rest 3 rfl) (by decide) (fun _ => ?_) (fun _ => ?_)
  · refine ux_aload_n (dg hd_Mo_rest 20 rfl) rfl ?_
    refine ux_ldc (-1000000001 : Int32) wk_847 (dg hd_Mo_rest 21 rfl) ?_
    refine ux_callVi (As := [.int (-1000000001 : Int32)]) (sp_Mo_error l (-1000000001 : Int32) _) (by omega) cv_Mo_error wk_848 rfl rfl rfl rfl rfl (Nat.le_of_ble_eq_true rfl) (dg hd_Mo_rest 22 rfl) (fun r3 σ4 _ => ?_)
    exact ux_iret rfl (dg hd_Mo_rest 23 rfl)
  · refine ux_iload_n (dg hd_Mo_rest 4 rfl) rfl ?_
    refine ux_iconst (0 : Int32) (dg hd_Mo_rest 5 rfl) (by decide) ?_
    refine ux_bipush (99 : Int32) (dg hd_Mo_rest 6 rfl) (by decide) ?_
    refine ux_callSi (As := [.int p2, .int (0 : Int32), .int (99 : Int32)]) (sp_Mo_in l p2 (0 : Int32) (99 : Int32) _) (by omega) cs_Mo_in wk_844 rfl rfl (Nat.le_of_ble_eq_true rfl) (dg hd_Mo_rest 7 rfl) (fun r5 σ6 _ => ?_)
    refine ux_if_eq 34 (dg hd_Mo_rest 8 rfl) (by decide) (fun _ => ?_) (fun _ => ?_)
    · refine ux_aload_n (dg hd_Mo_rest 20 rfl) rfl ?_
      refine ux_ldc (-1000000001 : Int32) wk_847 (dg hd_Mo_rest 21 rfl) ?_
      refine ux_callVi (As := [.int (-1000000001 : Int32)]) (sp_Mo_error l (-1000000001 : Int32) _) (by omega) cv_Mo_error wk_848 rfl rfl rfl rfl rfl (Nat.le_of_ble_eq_true rfl) (dg hd_Mo_rest 22 rfl) (fun r7 σ8 _ => ?_)
      exact ux_iret rfl (dg hd_Mo_rest 23 rfl)
    · refine ux_aload_n (dg hd_Mo_rest 9 rfl) rfl ?_
      refine ux_bipush (10 : Int32) (dg hd_Mo_rest 10 rfl) (by decide) ?_
      refine ux_iconst (5 : Int32) (dg hd_Mo_rest 11 rfl) (by decide) ?_
      refine ux_iload_n (dg hd_Mo_rest 12 rfl) rfl ?_
      refine ux_imul (dg hd_Mo_rest 13 rfl) ?_
      refine ux_iadd (dg hd_Mo_rest 14 rfl) ?_
      refine ux_iconst (2 : Int32) (dg hd_Mo_rest 15 rfl) (by decide) ?_
      refine ux_iadd (dg hd_Mo_rest 16 rfl) ?_
      refine ux_iload_n (dg hd_Mo_rest 17 rfl) rfl ?_
      refine ux_callVi (As := [.int (((10 : Int32) + ((5 : Int32) * p1)) + (2 : Int32)), .int p2]) (sp_Mo_becomes l (((10 : Int32) + ((5 : Int32) * p1)) + (2 : Int32)) p2 _) (by omega) cv_Mo_becomes wk_911 rfl rfl rfl rfl rfl (Nat.le_of_ble_eq_true rfl) (dg hd_Mo_rest 18 rfl) (fun r9 σ10 _ => ?_)
      refine ux_goto 40 (dg hd_Mo_rest 19 rfl) (by decide) ?_
      exact ux_iret rfl (dg hd_Mo_rest 23 rfl)
def Mo_spell (p1 : Int32) (p2 : Int32) (σ : St) : Option (Int32 × St) :=
  bnd (Mo_in p1 (0 : Int32) (1 : Int32) σ) (fun r1 σ2 =>
  if r1 = (0 : Int32) then (
  bnd (Mo_error (-1000000001 : Int32) σ2) (fun r3 σ4 =>
  some (r3, σ4))) else (
  bnd (Mo_in p2 (0 : Int32) (99 : Int32) σ2) (fun r5 σ6 =>
  if r5 = (0 : Int32) then (
  bnd (Mo_error (-1000000001 : Int32) σ6) (fun r7 σ8 =>
  some (r7, σ8))) else (
  bnd (Mo_becomes ((5 : Int32) + p1) p2 σ6) (fun r9 σ10 =>
  some (r9, σ10))))))
set_option maxRecDepth 100000 in
theorem sp_Mo_spell (l : Launch) (p1 : Int32) (p2 : Int32) (σ : St) : Spc l shM 3 md_Mo_spell [.ref 0, .int p1, .int p2] σ (Mo_spell p1 p2 σ) := by
  refine Spc_of_Ux [(0, .ref 0), (1, .int p1), (2, .int p2)] (by decide) rfl (Nat.le_of_ble_eq_true rfl) ?_
  unfold Mo_spell
  refine ux_iload_n (dg hd_Mo_spell 0 rfl) rfl ?_
  refine ux_iconst (0 : Int32) (dg hd_Mo_spell 1 rfl) (by decide) ?_
  refine ux_iconst (1 : Int32) (dg hd_Mo_spell 2 rfl) (by decide) ?_
  refine ux_callSi (As := [.int p1, .int (0 : Int32), .int (1 : Int32)]) (sp_Mo_in l p1 (0 : Int32) (1 : Int32) _) (by omega) cs_Mo_in wk_844 rfl rfl (Nat.le_of_ble_eq_true rfl) (dg hd_Mo_spell 3 rfl) (fun r1 σ2 _ => ?_)
  refine ux_if_eq 30 (dg hd_Mo_spell 4 rfl) (by decide) (fun _ => ?_) (fun _ => ?_)
  · refine ux_aload_n (dg hd_Mo_spell 17 rfl) rfl ?_
    refine ux_ldc (-1000000001 : Int32) wk_847 (dg hd_Mo_spell 18 rfl) ?_
    refine ux_callVi (As := [.int (-1000000001 : Int32)]) (sp_Mo_error l (-1000000001 : Int32) _) (by omega) cv_Mo_error wk_848 rfl rfl rfl rfl rfl (Nat.le_of_ble_eq_true rfl) (dg hd_Mo_spell 19 rfl) (fun r3 σ4 _ => ?_)
    exact ux_iret rfl (dg hd_Mo_spell 20 rfl)
  · refine ux_iload_n (dg hd_Mo_spell 5 rfl) rfl ?_
    refine ux_iconst (0 : Int32) (dg hd_Mo_spell 6 rfl) (by decide) ?_
    refine ux_bipush (99 : Int32) (dg hd_Mo_spell 7 rfl) (by decide) ?_
    refine ux_callSi (As := [.int p2, .int (0 : Int32), .int (99 : Int32)]) (sp_Mo_in l p2 (0 : Int32) (99 : Int32) _) (by omega) cs_Mo_in wk_844 rfl rfl (Nat.le_of_ble_eq_true rfl) (dg hd_Mo_spell 8 rfl) (fun r5 σ6 _ => ?_)
    refine ux_if_eq 30 (dg hd_Mo_spell 9 rfl) (by decide) (fun _ => ?_) (fun _ => ?_)
    · refine ux_aload_n (dg hd_Mo_spell 17 rfl) rfl ?_
      refine ux_ldc (-1000000001 : Int32) wk_847 (dg hd_Mo_spell 18 rfl) ?_
      refine ux_callVi (As := [.int (-1000000001 : Int32)]) (sp_Mo_error l (-1000000001 : Int32) _) (by omega) cv_Mo_error wk_848 rfl rfl rfl rfl rfl (Nat.le_of_ble_eq_true rfl) (dg hd_Mo_spell 19 rfl) (fun r7 σ8 _ => ?_)
      exact ux_iret rfl (dg hd_Mo_spell 20 rfl)
    · refine ux_aload_n (dg hd_Mo_spell 10 rfl) rfl ?_
      refine ux_iconst (5 : Int32) (dg hd_Mo_spell 11 rfl) (by decide) ?_
      refine ux_iload_n (dg hd_Mo_spell 12 rfl) rfl ?_
      refine ux_iadd (dg hd_Mo_spell 13 rfl) ?_
      refine ux_iload_n (dg hd_Mo_spell 14 rfl) rfl ?_
      refine ux_callVi (As := [.int ((5 : Int32) + p1), .int p2]) (sp_Mo_becomes l ((5 : Int32) + p1) p2 _) (by omega) cv_Mo_becomes wk_911 rfl rfl rfl rfl rfl (Nat.le_of_ble_eq_true rfl) (dg hd_Mo_spell 15 rfl) (fun r9 σ10 _ => ?_)
      refine ux_goto 36 (dg hd_Mo_spell 16 rfl) (by decide) ?_
      exact ux_iret rfl (dg hd_Mo_spell 20 rfl)
def Mo_bar (p1 : Int32) (σ : St) : Option (Int32 × St) :=
  bnd (Mo_in p1 (0 : Int32) (99 : Int32) σ) (fun r1 σ2 =>
  if r1 = (0 : Int32) then (
  bnd (Mo_error (-1000000001 : Int32) σ2) (fun r3 σ4 =>
  some (r3, σ4))) else (
  bnd (Mo_becomes (7 : Int32) p1 σ2) (fun r5 σ6 =>
  some (r5, σ6))))
set_option maxRecDepth 100000 in
theorem sp_Mo_bar (l : Launch) (p1 : Int32) (σ : St) : Spc l shM 3 md_Mo_bar [.ref 0, .int p1] σ (Mo_bar p1 σ) := by
  refine Spc_of_Ux [(0, .ref 0), (1, .int p1)] (by decide) rfl (Nat.le_of_ble_eq_true rfl) ?_
  unfold Mo_bar
  refine ux_iload_n (dg hd_Mo_bar 0 rfl) rfl ?_
  refine ux_iconst (0 : Int32) (dg hd_Mo_bar 1 rfl) (by decide) ?_
  refine ux_bipush (99 : Int32) (dg hd_Mo_bar 2 rfl) (by decide) ?_
  refine ux_callSi (As := [.int p1, .int (0 : Int32), .int (99 : Int32)]) (sp_Mo_in l p1 (0 : Int32) (99 : Int32) _) (by omega) cs_Mo_in wk_844 rfl rfl (Nat.le_of_ble_eq_true rfl) (dg hd_Mo_bar 3 rfl) (fun r1 σ2 _ => ?_)
  refine ux_if_eq 20 (dg hd_Mo_bar 4 rfl) (by decide) (fun _ => ?_) (fun _ => ?_)
  · refine ux_aload_n (dg hd_Mo_bar 10 rfl) rfl ?_
    refine ux_ldc (-1000000001 : Int32) wk_847 (dg hd_Mo_bar 11 rfl) ?_
    refine ux_callVi (As := [.int (-1000000001 : Int32)]) (sp_Mo_error l (-1000000001 : Int32) _) (by omega) cv_Mo_error wk_848 rfl rfl rfl rfl rfl (Nat.le_of_ble_eq_true rfl) (dg hd_Mo_bar 12 rfl) (fun r3 σ4 _ => ?_)
    exact ux_iret rfl (dg hd_Mo_bar 13 rfl)
  · refine ux_aload_n (dg hd_Mo_bar 5 rfl) rfl ?_
    refine ux_bipush (7 : Int32) (dg hd_Mo_bar 6 rfl) (by decide) ?_
    refine ux_iload_n (dg hd_Mo_bar 7 rfl) rfl ?_
    refine ux_callVi (As := [.int (7 : Int32), .int p1]) (sp_Mo_becomes l (7 : Int32) p1 _) (by omega) cv_Mo_becomes wk_911 rfl rfl rfl rfl rfl (Nat.le_of_ble_eq_true rfl) (dg hd_Mo_bar 8 rfl) (fun r5 σ6 _ => ?_)
    refine ux_goto 26 (dg hd_Mo_bar 9 rfl) (by decide) ?_
    exact ux_iret rfl (dg hd_Mo_bar 13 rfl)
def Mo_liking (p1 : Int32) (p2 : Int32) (σ : St) : Option (Int32 × St) :=
  bnd (Mo_isJumper p1 σ) (fun r1 σ2 =>
  if r1 = (0 : Int32) then (
  bnd (Mo_error (-1000000001 : Int32) σ2) (fun r3 σ4 =>
  some (r3, σ4))) else (
  bnd (Mo_isTreaty p2 σ2) (fun r5 σ6 =>
  if r5 = (0 : Int32) then (
  bnd (Mo_error (-1000000001 : Int32) σ6) (fun r7 σ8 =>
  some (r7, σ8))) else (
  bnd (Mo_likesOf p1 p2 σ6) (fun r9 σ10 =>
  some (r9, σ10))))))
set_option maxRecDepth 100000 in
theorem sp_Mo_liking (l : Launch) (p1 : Int32) (p2 : Int32) (σ : St) : Spc l shM 6 md_Mo_liking [.ref 0, .int p1, .int p2] σ (Mo_liking p1 p2 σ) := by
  refine Spc_of_Ux [(0, .ref 0), (1, .int p1), (2, .int p2)] (by decide) rfl (Nat.le_of_ble_eq_true rfl) ?_
  unfold Mo_liking
  refine ux_aload_n (dg hd_Mo_liking 0 rfl) rfl ?_
  refine ux_iload_n (dg hd_Mo_liking 1 rfl) rfl ?_
  refine ux_callVi (As := [.int p1]) (sp_Mo_isJumper l p1 _) (by omega) cv_Mo_isJumper wk_862 rfl rfl rfl rfl rfl (Nat.le_of_ble_eq_true rfl) (dg hd_Mo_liking 2 rfl) (fun r1 σ2 _ => ?_)
  refine ux_if_eq 24 (dg hd_Mo_liking 3 rfl) (by decide) (fun _ => ?_) (fun _ => ?_)
  · refine ux_aload_n (dg hd_Mo_liking 12 rfl) rfl ?_
    refine ux_ldc (-1000000001 : Int32) wk_847 (dg hd_Mo_liking 13 rfl) ?_
    refine ux_callVi (As := [.int (-1000000001 : Int32)]) (sp_Mo_error l (-1000000001 : Int32) _) (by omega) cv_Mo_error wk_848 rfl rfl rfl rfl rfl (Nat.le_of_ble_eq_true rfl) (dg hd_Mo_liking 14 rfl) (fun r3 σ4 _ => ?_)
    exact ux_iret rfl (dg hd_Mo_liking 15 rfl)
  · refine ux_iload_n (dg hd_Mo_liking 4 rfl) rfl ?_
    refine ux_callSi (As := [.int p2]) (sp_Mo_isTreaty l p2 _) (by omega) cs_Mo_isTreaty wk_945 rfl rfl (Nat.le_of_ble_eq_true rfl) (dg hd_Mo_liking 5 rfl) (fun r5 σ6 _ => ?_)
    refine ux_if_eq 24 (dg hd_Mo_liking 6 rfl) (by decide) (fun _ => ?_) (fun _ => ?_)
    · refine ux_aload_n (dg hd_Mo_liking 12 rfl) rfl ?_
      refine ux_ldc (-1000000001 : Int32) wk_847 (dg hd_Mo_liking 13 rfl) ?_
      refine ux_callVi (As := [.int (-1000000001 : Int32)]) (sp_Mo_error l (-1000000001 : Int32) _) (by omega) cv_Mo_error wk_848 rfl rfl rfl rfl rfl (Nat.le_of_ble_eq_true rfl) (dg hd_Mo_liking 14 rfl) (fun r7 σ8 _ => ?_)
      exact ux_iret rfl (dg hd_Mo_liking 15 rfl)
    · refine ux_aload_n (dg hd_Mo_liking 7 rfl) rfl ?_
      refine ux_iload_n (dg hd_Mo_liking 8 rfl) rfl ?_
      refine ux_iload_n (dg hd_Mo_liking 9 rfl) rfl ?_
      refine ux_callVi (As := [.int p1, .int p2]) (sp_Mo_likesOf l p1 p2 _) (by omega) cv_Mo_likesOf wk_948 rfl rfl rfl rfl rfl (Nat.le_of_ble_eq_true rfl) (dg hd_Mo_liking 10 rfl) (fun r9 σ10 _ => ?_)
      refine ux_goto 30 (dg hd_Mo_liking 11 rfl) (by decide) ?_
      exact ux_iret rfl (dg hd_Mo_liking 15 rfl)
def Mo_mayTalk (p1 : Int32) (σ : St) : Option (Int32 × St) :=
  bnd (Mo_isIn p1 σ) (fun r1 σ2 =>
  if r1 = (0 : Int32) then (
  some ((0 : Int32), σ2)) else (
  bnd (Mo_doesTurn  σ2) (fun r3 σ4 =>
  if r3 = (0 : Int32) then (
  some ((0 : Int32), σ4)) else (
  bnd (Mo_word  σ4) (fun r5 σ6 =>
  if r5 = (3 : Int32) then (
  some ((0 : Int32), σ6)) else (
  some ((1 : Int32), σ6)))))))
set_option maxRecDepth 100000 in
theorem sp_Mo_mayTalk (l : Launch) (p1 : Int32) (σ : St) : Spc l shM 4 md_Mo_mayTalk [.ref 0, .int p1] σ (Mo_mayTalk p1 σ) := by
  refine Spc_of_Ux [(0, .ref 0), (1, .int p1)] (by decide) rfl (Nat.le_of_ble_eq_true rfl) ?_
  unfold Mo_mayTalk
  refine ux_aload_n (dg hd_Mo_mayTalk 0 rfl) rfl ?_
  refine ux_iload_n (dg hd_Mo_mayTalk 1 rfl) rfl ?_
  refine ux_callVi (As := [.int p1]) (sp_Mo_isIn l p1 _) (by omega) cv_Mo_isIn wk_886 rfl rfl rfl rfl rfl (Nat.le_of_ble_eq_true rfl) (dg hd_Mo_mayTalk 2 rfl) (fun r1 σ2 _ => ?_)
  refine ux_if_eq 27 (dg hd_Mo_mayTalk 3 rfl) (by decide) (fun _ => ?_) (fun _ => ?_)
  · refine ux_iconst (0 : Int32) (dg hd_Mo_mayTalk 13 rfl) (by decide) ?_
    exact ux_zret rfl (dg hd_Mo_mayTalk 14 rfl) (isB_n (by decide))
  · refine ux_aload_n (dg hd_Mo_mayTalk 4 rfl) rfl ?_
    refine ux_callVi (As := []) (sp_Mo_doesTurn l  _) (by omega) cv_Mo_doesTurn wk_924 rfl rfl rfl rfl rfl (Nat.le_of_ble_eq_true rfl) (dg hd_Mo_mayTalk 5 rfl) (fun r3 σ4 _ => ?_)
    refine ux_if_eq 27 (dg hd_Mo_mayTalk 6 rfl) (by decide) (fun _ => ?_) (fun _ => ?_)
    · refine ux_iconst (0 : Int32) (dg hd_Mo_mayTalk 13 rfl) (by decide) ?_
      exact ux_zret rfl (dg hd_Mo_mayTalk 14 rfl) (isB_n (by decide))
    · refine ux_aload_n (dg hd_Mo_mayTalk 7 rfl) rfl ?_
      refine ux_callVi (As := []) (sp_Mo_word l  _) (by omega) cv_Mo_word wk_878 rfl rfl rfl rfl rfl (Nat.le_of_ble_eq_true rfl) (dg hd_Mo_mayTalk 8 rfl) (fun r5 σ6 _ => ?_)
      refine ux_iconst (3 : Int32) (dg hd_Mo_mayTalk 9 rfl) (by decide) ?_
      refine ux_icmp_eq 27 (dg hd_Mo_mayTalk 10 rfl) (by decide) (fun _ => ?_) (fun _ => ?_)
      · refine ux_iconst (0 : Int32) (dg hd_Mo_mayTalk 13 rfl) (by decide) ?_
        exact ux_zret rfl (dg hd_Mo_mayTalk 14 rfl) (isB_n (by decide))
      · refine ux_iconst (1 : Int32) (dg hd_Mo_mayTalk 11 rfl) (by decide) ?_
        refine ux_goto 28 (dg hd_Mo_mayTalk 12 rfl) (by decide) ?_
        exact ux_zret rfl (dg hd_Mo_mayTalk 14 rfl) (isB_n (by decide))
def Mo_talks (p1 : Int32) (σ : St) : Option (Int32 × St) :=
  bnd (Mo_isTaken p1 σ) (fun r1 σ2 =>
  if r1 = (0 : Int32) then (
  grd (inb (3 : Int32) 366) (
  grd (inb (3 : Int32) 366) (
  nas (sA σ2 1 (3 : Int32).toNatClampNeg (σ2.2 1 (3 : Int32).toNatClampNeg)) (fun σ3 =>
  grd (isB r1) (some (r1, σ3)))))) else (
  grd (inb (3 : Int32) 366) (
  nas (sA σ2 1 (3 : Int32).toNatClampNeg p1) (fun σ4 =>
  grd (isB r1) (some (r1, σ4))))))
set_option maxRecDepth 100000 in
theorem sp_Mo_talks (l : Launch) (p1 : Int32) (σ : St) : Spc l shM 8 md_Mo_talks [.ref 0, .int p1] σ (Mo_talks p1 σ) := by
  refine Spc_of_Ux [(0, .ref 0), (1, .int p1)] (by decide) rfl (Nat.le_of_ble_eq_true rfl) ?_
  unfold Mo_talks
  refine ux_aload_n (dg hd_Mo_talks 0 rfl) rfl ?_
  refine ux_iload_n (dg hd_Mo_talks 1 rfl) rfl ?_
  refine ux_callVi (As := [.int p1]) (sp_Mo_isTaken l p1 _) (by omega) cv_Mo_isTaken wk_968 rfl rfl rfl rfl rfl (Nat.le_of_ble_eq_true rfl) (dg hd_Mo_talks 2 rfl) (fun r1 σ2 _ => ?_)
  refine ux_istore_n [(2, .int r1), (0, .ref 0), (1, .int p1)] (dg hd_Mo_talks 3 rfl) (by decide) rfl ?_
  refine ux_aload_n (dg hd_Mo_talks 4 rfl) rfl ?_
  refine ux_getr (q := 1) fcX7 0 (by decide) wk_773 rfl rfl (dg hd_Mo_talks 5 rfl) ?_
  refine ux_iconst (3 : Int32) (dg hd_Mo_talks 6 rfl) (by decide) ?_
  refine ux_iload_n (dg hd_Mo_talks 7 rfl) rfl ?_
  refine ux_if_eq 19 (dg hd_Mo_talks 8 rfl) (by decide) (fun _ => ?_) (fun _ => ?_)
  · refine ux_aload_n (dg hd_Mo_talks 11 rfl) rfl ?_
    refine ux_getr (q := 1) fcX7 0 (by decide) wk_773 rfl rfl (dg hd_Mo_talks 12 rfl) ?_
    refine ux_iconst (3 : Int32) (dg hd_Mo_talks 13 rfl) (by decide) ?_
    refine ux_iald rfl (dg hd_Mo_talks 14 rfl) ?_
    refine ux_iast rfl (dg hd_Mo_talks 15 rfl) ?_
    refine ux_nas (fun σ3 => ?_)
    refine ux_iload_n (dg hd_Mo_talks 16 rfl) rfl ?_
    exact ux_zretg rfl (dg hd_Mo_talks 17 rfl)
  · refine ux_iload_n (dg hd_Mo_talks 9 rfl) rfl ?_
    refine ux_goto 25 (dg hd_Mo_talks 10 rfl) (by decide) ?_
    refine ux_iast rfl (dg hd_Mo_talks 15 rfl) ?_
    refine ux_nas (fun σ4 => ?_)
    refine ux_iload_n (dg hd_Mo_talks 16 rfl) rfl ?_
    exact ux_zretg rfl (dg hd_Mo_talks 17 rfl)
def Mo_talk (p1 : Int32) (p2 : Int32) (σ : St) : Option (Int32 × St) :=
  bnd (Mo_isJumper p1 σ) (fun r1 σ2 =>
  if r1 = (0 : Int32) then (
  bnd (Mo_error (-1000000001 : Int32) σ2) (fun r3 σ4 =>
  some (r3, σ4))) else (
  bnd (Mo_isTreaty p2 σ2) (fun r5 σ6 =>
  if r5 = (0 : Int32) then (
  bnd (Mo_error (-1000000001 : Int32) σ6) (fun r13 σ14 =>
  some (r13, σ14))) else (
  bnd (Mo_mayTalk p1 σ6) (fun r7 σ8 =>
  if r7 = (0 : Int32) then (
  bnd (Mo_error (-1000000003 : Int32) σ8) (fun r11 σ12 =>
  some (r11, σ12))) else (
  bnd (Mo_talks p2 σ8) (fun r9 σ10 =>
  if r9 = (0 : Int32) then (
  some ((0 : Int32), σ10)) else (
  some ((1 : Int32), σ10)))))))))
set_option maxRecDepth 100000 in
theorem sp_Mo_talk (l : Launch) (p1 : Int32) (p2 : Int32) (σ : St) : Spc l shM 9 md_Mo_talk [.ref 0, .int p1, .int p2] σ (Mo_talk p1 p2 σ) := by
  refine Spc_of_Ux [(0, .ref 0), (1, .int p1), (2, .int p2)] (by decide) rfl (Nat.le_of_ble_eq_true rfl) ?_
  unfold Mo_talk
  refine ux_aload_n (dg hd_Mo_talk 0 rfl) rfl ?_
  refine ux_iload_n (dg hd_Mo_talk 1 rfl) rfl ?_
  refine ux_callVi (As := [.int p1]) (sp_Mo_isJumper l p1 _) (by omega) cv_Mo_isJumper wk_862 rfl rfl rfl rfl rfl (Nat.le_of_ble_eq_true rfl) (dg hd_Mo_talk 2 rfl) (fun r1 σ2 _ => ?_)
  refine ux_if_eq 15 (dg hd_Mo_talk 3 rfl) (by decide) (fun _ => ?_) (fun _ => ?_)
  · refine ux_aload_n (dg hd_Mo_talk 7 rfl) rfl ?_
    refine ux_ldc (-1000000001 : Int32) wk_847 (dg hd_Mo_talk 8 rfl) ?_
    refine ux_callVi (As := [.int (-1000000001 : Int32)]) (sp_Mo_error l (-1000000001 : Int32) _) (by omega) cv_Mo_error wk_848 rfl rfl rfl rfl rfl (Nat.le_of_ble_eq_true rfl) (dg hd_Mo_talk 9 rfl) (fun r3 σ4 _ => ?_)
    exact ux_iret rfl (dg hd_Mo_talk 10 rfl)
  · refine ux_iload_n (dg hd_Mo_talk 4 rfl) rfl ?_
    refine ux_callSi (As := [.int p2]) (sp_Mo_isTreaty l p2 _) (by omega) cs_Mo_isTreaty wk_945 rfl rfl (Nat.le_of_ble_eq_true rfl) (dg hd_Mo_talk 5 rfl) (fun r5 σ6 _ => ?_)
    refine ux_if_ne 22 (dg hd_Mo_talk 6 rfl) (by decide) (fun _ => ?_) (fun _ => ?_)
    · refine ux_aload_n (dg hd_Mo_talk 7 rfl) rfl ?_
      refine ux_ldc (-1000000001 : Int32) wk_847 (dg hd_Mo_talk 8 rfl) ?_
      refine ux_callVi (As := [.int (-1000000001 : Int32)]) (sp_Mo_error l (-1000000001 : Int32) _) (by omega) cv_Mo_error wk_848 rfl rfl rfl rfl rfl (Nat.le_of_ble_eq_true rfl) (dg hd_Mo_talk 9 rfl) (fun r13 σ14 _ => ?_)
      exact ux_iret rfl (dg hd_Mo_talk 10 rfl)
    · refine ux_aload_n (dg hd_Mo_talk 11 rfl) rfl ?_
      refine ux_iload_n (dg hd_Mo_talk 12 rfl) rfl ?_
      refine ux_callVi (As := [.int p1]) (sp_Mo_mayTalk l p1 _) (by omega) cv_Mo_mayTalk wk_960 rfl rfl rfl rfl rfl (Nat.le_of_ble_eq_true rfl) (dg hd_Mo_talk 13 rfl) (fun r7 σ8 _ => ?_)
      refine ux_if_ne 37 (dg hd_Mo_talk 14 rfl) (by decide) (fun _ => ?_) (fun _ => ?_)
      · refine ux_aload_n (dg hd_Mo_talk 15 rfl) rfl ?_
        refine ux_ldc (-1000000003 : Int32) wk_928 (dg hd_Mo_talk 16 rfl) ?_
        refine ux_callVi (As := [.int (-1000000003 : Int32)]) (sp_Mo_error l (-1000000003 : Int32) _) (by omega) cv_Mo_error wk_848 rfl rfl rfl rfl rfl (Nat.le_of_ble_eq_true rfl) (dg hd_Mo_talk 17 rfl) (fun r11 σ12 _ => ?_)
        exact ux_iret rfl (dg hd_Mo_talk 18 rfl)
      · refine ux_aload_n (dg hd_Mo_talk 19 rfl) rfl ?_
        refine ux_iload_n (dg hd_Mo_talk 20 rfl) rfl ?_
        refine ux_callVi (As := [.int p2]) (sp_Mo_talks l p2 _) (by omega) cv_Mo_talks wk_964 rfl rfl rfl rfl rfl (Nat.le_of_ble_eq_true rfl) (dg hd_Mo_talk 21 rfl) (fun r9 σ10 _ => ?_)
        refine ux_if_eq 49 (dg hd_Mo_talk 22 rfl) (by decide) (fun _ => ?_) (fun _ => ?_)
        · refine ux_iconst (0 : Int32) (dg hd_Mo_talk 25 rfl) (by decide) ?_
          exact ux_iret rfl (dg hd_Mo_talk 26 rfl)
        · refine ux_iconst (1 : Int32) (dg hd_Mo_talk 23 rfl) (by decide) ?_
          refine ux_goto 50 (dg hd_Mo_talk 24 rfl) (by decide) ?_
          exact ux_iret rfl (dg hd_Mo_talk 26 rfl)
def Mo_feed_L41 : Nat → Int64 → Int32 → Int32 → St → Option (Int32 × St)
  | 0, _, _, _, _ => none
  | n + 1, p1, x3, x4, σ =>
    if x3 ≤ x4 then (
    grd (inb (8 : Int32) 366) (
    some ((σ.2 1 (8 : Int32).toNatClampNeg), σ))) else (
    grd (inb (8 : Int32) 366) (
    grd (inb ((40 : Int32) + (σ.2 1 (8 : Int32).toNatClampNeg)) 366) (
    nas (sA σ 1 ((40 : Int32) + (σ.2 1 (8 : Int32).toNatClampNeg)).toNatClampNeg (Int64.toInt32 ((lsh p1 ((8 : Int32) * x4)) &&& (255 : Int64)))) (fun σ3 =>
    grd (inb (8 : Int32) 366) (
    grd (inb (8 : Int32) 366) (
    nas (sA σ3 1 (8 : Int32).toNatClampNeg ((σ3.2 1 (8 : Int32).toNatClampNeg) + (1 : Int32))) (fun σ4 =>
    nam (x4 + (1 : Int32)) (fun y5 =>
    Mo_feed_L41 n p1 x3 y5 σ4))))))))
set_option maxRecDepth 100000 in
theorem wk_Mo_feed_L41 (l : Launch) (p1 : Int64) : ∀ (n : Nat) (x3 x4 : Int32) (σ : St), Ux l shM 3 md_Mo_feed 41 [(0, .ref 0), (1, .long p1), (3, .int x3), (4, .int x4)] [] σ (Mo_feed_L41 n p1 x3 x4 σ) := by
  intro n
  induction n with
  | zero => intros; exact ux_none
  | succ n ih =>
    intro x3 x4 σ
    unfold Mo_feed_L41
    refine ux_iload (dg hd_Mo_feed 23 rfl) rfl ?_
    refine ux_iload_n (dg hd_Mo_feed 24 rfl) rfl ?_
    refine ux_icmp_ge 91 (dg hd_Mo_feed 25 rfl) (by decide) (fun _ => ?_) (fun _ => ?_)
    · refine ux_aload_n (dg hd_Mo_feed 53 rfl) rfl ?_
      refine ux_getr (q := 1) fcX7 0 (by decide) wk_773 rfl rfl (dg hd_Mo_feed 54 rfl) ?_
      refine ux_bipush (8 : Int32) (dg hd_Mo_feed 55 rfl) (by decide) ?_
      refine ux_iald rfl (dg hd_Mo_feed 56 rfl) ?_
      exact ux_iret rfl (dg hd_Mo_feed 57 rfl)
    · refine ux_aload_n (dg hd_Mo_feed 26 rfl) rfl ?_
      refine ux_getr (q := 1) fcX7 0 (by decide) wk_773 rfl rfl (dg hd_Mo_feed 27 rfl) ?_
      refine ux_bipush (40 : Int32) (dg hd_Mo_feed 28 rfl) (by decide) ?_
      refine ux_aload_n (dg hd_Mo_feed 29 rfl) rfl ?_
      refine ux_getr (q := 1) fcX7 0 (by decide) wk_773 rfl rfl (dg hd_Mo_feed 30 rfl) ?_
      refine ux_bipush (8 : Int32) (dg hd_Mo_feed 31 rfl) (by decide) ?_
      refine ux_iald rfl (dg hd_Mo_feed 32 rfl) ?_
      refine ux_iadd (dg hd_Mo_feed 33 rfl) ?_
      refine ux_lload_n (dg hd_Mo_feed 34 rfl) rfl ?_
      refine ux_bipush (8 : Int32) (dg hd_Mo_feed 35 rfl) (by decide) ?_
      refine ux_iload (dg hd_Mo_feed 36 rfl) rfl ?_
      refine ux_imul (dg hd_Mo_feed 37 rfl) ?_
      refine ux_lshr (dg hd_Mo_feed 38 rfl) ?_
      refine ux_ldc2 (255 : Int64) wk_980 (dg hd_Mo_feed 39 rfl) ?_
      refine ux_land (dg hd_Mo_feed 40 rfl) ?_
      refine ux_l2i (dg hd_Mo_feed 41 rfl) ?_
      refine ux_iast rfl (dg hd_Mo_feed 42 rfl) ?_
      refine ux_nas (fun σ3 => ?_)
      refine ux_aload_n (dg hd_Mo_feed 43 rfl) rfl ?_
      refine ux_getr (q := 1) fcX7 0 (by decide) wk_773 rfl rfl (dg hd_Mo_feed 44 rfl) ?_
      refine ux_bipush (8 : Int32) (dg hd_Mo_feed 45 rfl) (by decide) ?_
      refine ux_dup2 (dg hd_Mo_feed 46 rfl) ?_
      refine ux_iald rfl (dg hd_Mo_feed 47 rfl) ?_
      refine ux_iconst (1 : Int32) (dg hd_Mo_feed 48 rfl) (by decide) ?_
      refine ux_iadd (dg hd_Mo_feed 49 rfl) ?_
      refine ux_iast rfl (dg hd_Mo_feed 50 rfl) ?_
      refine ux_nas (fun σ4 => ?_)
      refine ux_iincN (1 : Int32) (fun y5 => [(4, .int y5), (0, .ref 0), (1, .long p1), (3, .int x3)]) (dg hd_Mo_feed 51 rfl) rfl (by decide) (by decide) (fun _ => rfl) (fun y5 => ?_)
      refine ux_goto 41 (dg hd_Mo_feed 52 rfl) (by decide) ?_
      refine ux_wk [(0, .ref 0), (1, .long p1), (3, .int x3), (4, .int y5)] [1, 2, 3, 0] rfl ?_
      exact ih x3 y5 σ4
def Mo_feed (p1 : Int64) (p2 : Int32) (σ : St) : Option (Int32 × St) :=
  bnd (Mo_in p2 (1 : Int32) (8 : Int32) σ) (fun r1 σ2 =>
  if r1 = (0 : Int32) then (
  bnd (Mo_error (-1000000001 : Int32) σ2) (fun r8 σ9 =>
  some (r8, σ9))) else (
  grd (inb (8 : Int32) 366) (
  if ((σ2.2 1 (8 : Int32).toNatClampNeg) + p2) ≤ (60 : Int32) then (
  Mo_feed_L41 1000 p1 p2 (0 : Int32) σ2) else (
  bnd (Mo_error (-1000000004 : Int32) σ2) (fun r6 σ7 =>
  some (r6, σ7))))))
set_option maxRecDepth 100000 in
theorem sp_Mo_feed (l : Launch) (p1 : Int64) (p2 : Int32) (σ : St) : Spc l shM 3 md_Mo_feed [.ref 0, .long p1, .int p2] σ (Mo_feed p1 p2 σ) := by
  refine Spc_of_Ux [(0, .ref 0), (1, .long p1), (3, .int p2)] (by decide) rfl (Nat.le_of_ble_eq_true rfl) ?_
  unfold Mo_feed
  refine ux_iload_n (dg hd_Mo_feed 0 rfl) rfl ?_
  refine ux_iconst (1 : Int32) (dg hd_Mo_feed 1 rfl) (by decide) ?_
  refine ux_bipush (8 : Int32) (dg hd_Mo_feed 2 rfl) (by decide) ?_
  refine ux_callSi (As := [.int p2, .int (1 : Int32), .int (8 : Int32)]) (sp_Mo_in l p2 (1 : Int32) (8 : Int32) _) (by omega) cs_Mo_in wk_844 rfl rfl (Nat.le_of_ble_eq_true rfl) (dg hd_Mo_feed 3 rfl) (fun r1 σ2 _ => ?_)
  refine ux_if_ne 17 (dg hd_Mo_feed 4 rfl) (by decide) (fun _ => ?_) (fun _ => ?_)
  · refine ux_aload_n (dg hd_Mo_feed 5 rfl) rfl ?_
    refine ux_ldc (-1000000001 : Int32) wk_847 (dg hd_Mo_feed 6 rfl) ?_
    refine ux_callVi (As := [.int (-1000000001 : Int32)]) (sp_Mo_error l (-1000000001 : Int32) _) (by omega) cv_Mo_error wk_848 rfl rfl rfl rfl rfl (Nat.le_of_ble_eq_true rfl) (dg hd_Mo_feed 7 rfl) (fun r8 σ9 _ => ?_)
    exact ux_iret rfl (dg hd_Mo_feed 8 rfl)
  · refine ux_aload_n (dg hd_Mo_feed 9 rfl) rfl ?_
    refine ux_getr (q := 1) fcX7 0 (by decide) wk_773 rfl rfl (dg hd_Mo_feed 10 rfl) ?_
    refine ux_bipush (8 : Int32) (dg hd_Mo_feed 11 rfl) (by decide) ?_
    refine ux_iald rfl (dg hd_Mo_feed 12 rfl) ?_
    refine ux_iload_n (dg hd_Mo_feed 13 rfl) rfl ?_
    refine ux_iadd (dg hd_Mo_feed 14 rfl) ?_
    refine ux_bipush (60 : Int32) (dg hd_Mo_feed 15 rfl) (by decide) ?_
    refine ux_icmp_le 38 (dg hd_Mo_feed 16 rfl) (by decide) (fun _ => ?_) (fun _ => ?_)
    · refine ux_iconst (0 : Int32) (dg hd_Mo_feed 21 rfl) (by decide) ?_
      refine ux_istore [(4, .int (0 : Int32)), (0, .ref 0), (1, .long p1), (3, .int p2)] (dg hd_Mo_feed 22 rfl) (by decide) rfl ?_
      refine ux_wk [(0, .ref 0), (1, .long p1), (3, .int p2), (4, .int (0 : Int32))] [1, 2, 3, 0] rfl ?_
      exact wk_Mo_feed_L41 l p1 1000 p2 (0 : Int32) σ2
    · refine ux_aload_n (dg hd_Mo_feed 17 rfl) rfl ?_
      refine ux_ldc (-1000000004 : Int32) wk_853 (dg hd_Mo_feed 18 rfl) ?_
      refine ux_callVi (As := [.int (-1000000004 : Int32)]) (sp_Mo_error l (-1000000004 : Int32) _) (by omega) cv_Mo_error wk_848 rfl rfl rfl rfl rfl (Nat.le_of_ble_eq_true rfl) (dg hd_Mo_feed 19 rfl) (fun r6 σ7 _ => ?_)
      exact ux_iret rfl (dg hd_Mo_feed 20 rfl)
def Mo_look  (σ : St) : Option (Int32 × St) :=
  grd (inb (8 : Int32) 366) (
  if (σ.2 1 (8 : Int32).toNatClampNeg) ≤ (σ.1 0 13) then (
  some ((-1 : Int32), σ)) else (
  grd (inb ((40 : Int32) + (σ.1 0 13)) 366) (
  some ((σ.2 1 ((40 : Int32) + (σ.1 0 13)).toNatClampNeg), σ))))
set_option maxRecDepth 100000 in
theorem sp_Mo_look (l : Launch) (σ : St) : Spc l shM 2 md_Mo_look [.ref 0] σ (Mo_look  σ) := by
  refine Spc_of_Ux [(0, .ref 0)] (by decide) rfl (Nat.le_of_ble_eq_true rfl) ?_
  unfold Mo_look
  refine ux_aload_n (dg hd_Mo_look 0 rfl) rfl ?_
  refine ux_get fcX7 13 (by decide) wk_786 rfl rfl (dg hd_Mo_look 1 rfl) ?_
  refine ux_aload_n (dg hd_Mo_look 2 rfl) rfl ?_
  refine ux_getr (q := 1) fcX7 0 (by decide) wk_773 rfl rfl (dg hd_Mo_look 3 rfl) ?_
  refine ux_bipush (8 : Int32) (dg hd_Mo_look 4 rfl) (by decide) ?_
  refine ux_iald rfl (dg hd_Mo_look 5 rfl) ?_
  refine ux_icmp_ge 29 (dg hd_Mo_look 6 rfl) (by decide) (fun _ => ?_) (fun _ => ?_)
  · refine ux_iconst (-1 : Int32) (dg hd_Mo_look 15 rfl) (by decide) ?_
    exact ux_iret rfl (dg hd_Mo_look 16 rfl)
  · refine ux_aload_n (dg hd_Mo_look 7 rfl) rfl ?_
    refine ux_getr (q := 1) fcX7 0 (by decide) wk_773 rfl rfl (dg hd_Mo_look 8 rfl) ?_
    refine ux_bipush (40 : Int32) (dg hd_Mo_look 9 rfl) (by decide) ?_
    refine ux_aload_n (dg hd_Mo_look 10 rfl) rfl ?_
    refine ux_get fcX7 13 (by decide) wk_786 rfl rfl (dg hd_Mo_look 11 rfl) ?_
    refine ux_iadd (dg hd_Mo_look 12 rfl) ?_
    refine ux_iald rfl (dg hd_Mo_look 13 rfl) ?_
    refine ux_goto 30 (dg hd_Mo_look 14 rfl) (by decide) ?_
    exact ux_iret rfl (dg hd_Mo_look 16 rfl)
def Mo_lays (p1 : Int32) (p2 : Int32) (σ : St) : Option (Int32 × St) :=
  if (60 : Int32) ≤ (σ.1 0 12) then (
  some (0, σ)) else (
  grd (inb (σ.1 0 12) 60) (
  nas (sA σ 8 (σ.1 0 12).toNatClampNeg p1) (fun σ1 =>
  grd (inb (σ1.1 0 12) 60) (
  nas (sA σ1 9 (σ1.1 0 12).toNatClampNeg p2) (fun σ2 =>
  nas (sF σ2 0 12 ((σ2.1 0 12) + (1 : Int32))) (fun σ3 =>
  some (0, σ3)))))))
set_option maxRecDepth 100000 in
theorem sp_Mo_lays (l : Launch) (p1 : Int32) (p2 : Int32) (σ : St) : Spc l shM 2 md_Mo_lays [.ref 0, .int p1, .int p2] σ (Mo_lays p1 p2 σ) := by
  refine Spc_of_Ux [(0, .ref 0), (1, .int p1), (2, .int p2)] (by decide) rfl (Nat.le_of_ble_eq_true rfl) ?_
  unfold Mo_lays
  refine ux_aload_n (dg hd_Mo_lays 0 rfl) rfl ?_
  refine ux_get fcX7 12 (by decide) wk_785 rfl rfl (dg hd_Mo_lays 1 rfl) ?_
  refine ux_aload_n (dg hd_Mo_lays 2 rfl) rfl ?_
  refine ux_getr (q := 8) fcX7 8 (by decide) wk_781 rfl rfl (dg hd_Mo_lays 3 rfl) ?_
  refine ux_alen (60 : Int32) rfl rfl (dg hd_Mo_lays 4 rfl) ?_
  refine ux_icmp_ge 42 (dg hd_Mo_lays 5 rfl) (by decide) (fun _ => ?_) (fun _ => ?_)
  · exact ux_vret rfl (dg hd_Mo_lays 24 rfl)
  · refine ux_aload_n (dg hd_Mo_lays 6 rfl) rfl ?_
    refine ux_getr (q := 8) fcX7 8 (by decide) wk_781 rfl rfl (dg hd_Mo_lays 7 rfl) ?_
    refine ux_aload_n (dg hd_Mo_lays 8 rfl) rfl ?_
    refine ux_get fcX7 12 (by decide) wk_785 rfl rfl (dg hd_Mo_lays 9 rfl) ?_
    refine ux_iload_n (dg hd_Mo_lays 10 rfl) rfl ?_
    refine ux_iast rfl (dg hd_Mo_lays 11 rfl) ?_
    refine ux_nas (fun σ1 => ?_)
    refine ux_aload_n (dg hd_Mo_lays 12 rfl) rfl ?_
    refine ux_getr (q := 9) fcX7 9 (by decide) wk_782 rfl rfl (dg hd_Mo_lays 13 rfl) ?_
    refine ux_aload_n (dg hd_Mo_lays 14 rfl) rfl ?_
    refine ux_get fcX7 12 (by decide) wk_785 rfl rfl (dg hd_Mo_lays 15 rfl) ?_
    refine ux_iload_n (dg hd_Mo_lays 16 rfl) rfl ?_
    refine ux_iast rfl (dg hd_Mo_lays 17 rfl) ?_
    refine ux_nas (fun σ2 => ?_)
    refine ux_aload_n (dg hd_Mo_lays 18 rfl) rfl ?_
    refine ux_dupr (dg hd_Mo_lays 19 rfl) ?_
    refine ux_get fcX7 12 (by decide) wk_785 rfl rfl (dg hd_Mo_lays 20 rfl) ?_
    refine ux_iconst (1 : Int32) (dg hd_Mo_lays 21 rfl) (by decide) ?_
    refine ux_iadd (dg hd_Mo_lays 22 rfl) ?_
    refine ux_put fcX7 12 (by decide) wk_785 rfl rfl ⟨rfl, rfl⟩ rfl rfl (dg hd_Mo_lays 23 rfl) ?_
    refine ux_nas (fun σ3 => ?_)
    exact ux_vret rfl (dg hd_Mo_lays 24 rfl)
def Mo_nameOf (p1 : Int32) (σ : St) : Option (Int32 × St) :=
  if p1 = (98 : Int32) then (
  if (σ.1 0 16) = (0 : Int32) then (
  if p1 = (99 : Int32) then (
  some ((0 : Int32), σ)) else (
  if p1 = (98 : Int32) then (
  some ((1 : Int32), σ)) else (
  some ((2 : Int32), σ)))) else (
  some ((-1 : Int32), σ))) else if p1 = (99 : Int32) then (
  if (σ.1 0 16) = (0 : Int32) then (
  if p1 = (99 : Int32) then (
  some ((0 : Int32), σ)) else (
  if p1 = (98 : Int32) then (
  some ((1 : Int32), σ)) else (
  some ((2 : Int32), σ)))) else (
  some ((-1 : Int32), σ))) else if p1 = (100 : Int32) then (
  some ((-1 : Int32), σ)) else if p1 = (101 : Int32) then (
  some ((-1 : Int32), σ)) else if p1 = (102 : Int32) then (
  some ((-1 : Int32), σ)) else if p1 = (103 : Int32) then (
  some ((-1 : Int32), σ)) else if p1 = (104 : Int32) then (
  some ((-1 : Int32), σ)) else if p1 = (105 : Int32) then (
  some ((-1 : Int32), σ)) else if p1 = (106 : Int32) then (
  some ((-1 : Int32), σ)) else if p1 = (107 : Int32) then (
  some ((-1 : Int32), σ)) else if p1 = (108 : Int32) then (
  if (σ.1 0 16) = (1 : Int32) then (
  if p1 = (108 : Int32) then (
  some ((0 : Int32), σ)) else (
  if p1 = (116 : Int32) then (
  some ((1 : Int32), σ)) else (
  some ((2 : Int32), σ)))) else (
  some ((-1 : Int32), σ))) else if p1 = (109 : Int32) then (
  some ((-1 : Int32), σ)) else if p1 = (110 : Int32) then (
  some ((-1 : Int32), σ)) else if p1 = (111 : Int32) then (
  some ((-1 : Int32), σ)) else if p1 = (112 : Int32) then (
  if (σ.1 0 16) = (0 : Int32) then (
  if p1 = (99 : Int32) then (
  some ((0 : Int32), σ)) else (
  if p1 = (98 : Int32) then (
  some ((1 : Int32), σ)) else (
  some ((2 : Int32), σ)))) else (
  some ((-1 : Int32), σ))) else if p1 = (113 : Int32) then (
  some ((-1 : Int32), σ)) else if p1 = (114 : Int32) then (
  some ((-1 : Int32), σ)) else if p1 = (115 : Int32) then (
  if (σ.1 0 16) = (1 : Int32) then (
  if p1 = (108 : Int32) then (
  some ((0 : Int32), σ)) else (
  if p1 = (116 : Int32) then (
  some ((1 : Int32), σ)) else (
  some ((2 : Int32), σ)))) else (
  some ((-1 : Int32), σ))) else if p1 = (116 : Int32) then (
  if (σ.1 0 16) = (1 : Int32) then (
  if p1 = (108 : Int32) then (
  some ((0 : Int32), σ)) else (
  if p1 = (116 : Int32) then (
  some ((1 : Int32), σ)) else (
  some ((2 : Int32), σ)))) else (
  some ((-1 : Int32), σ))) else (
  some ((-1 : Int32), σ))
set_option maxRecDepth 100000 in
theorem sp_Mo_nameOf (l : Launch) (p1 : Int32) (σ : St) : Spc l shM 2 md_Mo_nameOf [.ref 0, .int p1] σ (Mo_nameOf p1 σ) := by
  refine Spc_of_Ux [(0, .ref 0), (1, .int p1)] (by decide) rfl (Nat.le_of_ble_eq_true rfl) ?_
  unfold Mo_nameOf
  refine ux_iload_n (dg hd_Mo_nameOf 0 rfl) rfl ?_
  refine ux_case (98 : Int32) (fun _ => ?_) (fun c1 => ?_)
  · refine ux_tabIn 92 (dg hd_Mo_nameOf 1 rfl) (by decide) (by decide) rfl (by decide) ?_
    refine ux_aload_n (dg hd_Mo_nameOf 2 rfl) rfl ?_
    refine ux_get fcX7 16 (by decide) wk_789 rfl rfl (dg hd_Mo_nameOf 3 rfl) ?_
    refine ux_if_eq 103 (dg hd_Mo_nameOf 4 rfl) (by decide) (fun _ => ?_) (fun _ => ?_)
    · refine ux_iload_n (dg hd_Mo_nameOf 7 rfl) rfl ?_
      refine ux_bipush (99 : Int32) (dg hd_Mo_nameOf 8 rfl) (by decide) ?_
      refine ux_icmp_ne 113 (dg hd_Mo_nameOf 9 rfl) (by decide) (fun _ => ?_) (fun _ => ?_)
      · refine ux_iconst (0 : Int32) (dg hd_Mo_nameOf 10 rfl) (by decide) ?_
        refine ux_goto 124 (dg hd_Mo_nameOf 11 rfl) (by decide) ?_
        exact ux_iret rfl (dg hd_Mo_nameOf 18 rfl)
      · refine ux_iload_n (dg hd_Mo_nameOf 12 rfl) rfl ?_
        refine ux_bipush (98 : Int32) (dg hd_Mo_nameOf 13 rfl) (by decide) ?_
        refine ux_icmp_ne 123 (dg hd_Mo_nameOf 14 rfl) (by decide) (fun _ => ?_) (fun _ => ?_)
        · refine ux_iconst (1 : Int32) (dg hd_Mo_nameOf 15 rfl) (by decide) ?_
          refine ux_goto 124 (dg hd_Mo_nameOf 16 rfl) (by decide) ?_
          exact ux_iret rfl (dg hd_Mo_nameOf 18 rfl)
        · refine ux_iconst (2 : Int32) (dg hd_Mo_nameOf 17 rfl) (by decide) ?_
          exact ux_iret rfl (dg hd_Mo_nameOf 18 rfl)
    · refine ux_iconst (-1 : Int32) (dg hd_Mo_nameOf 5 rfl) (by decide) ?_
      refine ux_goto 124 (dg hd_Mo_nameOf 6 rfl) (by decide) ?_
      exact ux_iret rfl (dg hd_Mo_nameOf 18 rfl)
  refine ux_case (99 : Int32) (fun _ => ?_) (fun c2 => ?_)
  · refine ux_tabIn 92 (dg hd_Mo_nameOf 1 rfl) (by decide) (by decide) rfl (by decide) ?_
    refine ux_aload_n (dg hd_Mo_nameOf 2 rfl) rfl ?_
    refine ux_get fcX7 16 (by decide) wk_789 rfl rfl (dg hd_Mo_nameOf 3 rfl) ?_
    refine ux_if_eq 103 (dg hd_Mo_nameOf 4 rfl) (by decide) (fun _ => ?_) (fun _ => ?_)
    · refine ux_iload_n (dg hd_Mo_nameOf 7 rfl) rfl ?_
      refine ux_bipush (99 : Int32) (dg hd_Mo_nameOf 8 rfl) (by decide) ?_
      refine ux_icmp_ne 113 (dg hd_Mo_nameOf 9 rfl) (by decide) (fun _ => ?_) (fun _ => ?_)
      · refine ux_iconst (0 : Int32) (dg hd_Mo_nameOf 10 rfl) (by decide) ?_
        refine ux_goto 124 (dg hd_Mo_nameOf 11 rfl) (by decide) ?_
        exact ux_iret rfl (dg hd_Mo_nameOf 18 rfl)
      · refine ux_iload_n (dg hd_Mo_nameOf 12 rfl) rfl ?_
        refine ux_bipush (98 : Int32) (dg hd_Mo_nameOf 13 rfl) (by decide) ?_
        refine ux_icmp_ne 123 (dg hd_Mo_nameOf 14 rfl) (by decide) (fun _ => ?_) (fun _ => ?_)
        · refine ux_iconst (1 : Int32) (dg hd_Mo_nameOf 15 rfl) (by decide) ?_
          refine ux_goto 124 (dg hd_Mo_nameOf 16 rfl) (by decide) ?_
          exact ux_iret rfl (dg hd_Mo_nameOf 18 rfl)
        · refine ux_iconst (2 : Int32) (dg hd_Mo_nameOf 17 rfl) (by decide) ?_
          exact ux_iret rfl (dg hd_Mo_nameOf 18 rfl)
    · refine ux_iconst (-1 : Int32) (dg hd_Mo_nameOf 5 rfl) (by decide) ?_
      refine ux_goto 124 (dg hd_Mo_nameOf 6 rfl) (by decide) ?_
      exact ux_iret rfl (dg hd_Mo_nameOf 18 rfl)
  refine ux_case (100 : Int32) (fun _ => ?_) (fun c3 => ?_)
  · refine ux_tabIn 159 (dg hd_Mo_nameOf 1 rfl) (by decide) (by decide) rfl (by decide) ?_
    refine ux_iconst (-1 : Int32) (dg hd_Mo_nameOf 37 rfl) (by decide) ?_
    exact ux_iret rfl (dg hd_Mo_nameOf 38 rfl)
  refine ux_case (101 : Int32) (fun _ => ?_) (fun c4 => ?_)
  · refine ux_tabIn 159 (dg hd_Mo_nameOf 1 rfl) (by decide) (by decide) rfl (by decide) ?_
    refine ux_iconst (-1 : Int32) (dg hd_Mo_nameOf 37 rfl) (by decide) ?_
    exact ux_iret rfl (dg hd_Mo_nameOf 38 rfl)
  refine ux_case (102 : Int32) (fun _ => ?_) (fun c5 => ?_)
  · refine ux_tabIn 159 (dg hd_Mo_nameOf 1 rfl) (by decide) (by decide) rfl (by decide) ?_
    refine ux_iconst (-1 : Int32) (dg hd_Mo_nameOf 37 rfl) (by decide) ?_
    exact ux_iret rfl (dg hd_Mo_nameOf 38 rfl)
  refine ux_case (103 : Int32) (fun _ => ?_) (fun c6 => ?_)
  · refine ux_tabIn 159 (dg hd_Mo_nameOf 1 rfl) (by decide) (by decide) rfl (by decide) ?_
    refine ux_iconst (-1 : Int32) (dg hd_Mo_nameOf 37 rfl) (by decide) ?_
    exact ux_iret rfl (dg hd_Mo_nameOf 38 rfl)
  refine ux_case (104 : Int32) (fun _ => ?_) (fun c7 => ?_)
  · refine ux_tabIn 159 (dg hd_Mo_nameOf 1 rfl) (by decide) (by decide) rfl (by decide) ?_
    refine ux_iconst (-1 : Int32) (dg hd_Mo_nameOf 37 rfl) (by decide) ?_
    exact ux_iret rfl (dg hd_Mo_nameOf 38 rfl)
  refine ux_case (105 : Int32) (fun _ => ?_) (fun c8 => ?_)
  · refine ux_tabIn 159 (dg hd_Mo_nameOf 1 rfl) (by decide) (by decide) rfl (by decide) ?_
    refine ux_iconst (-1 : Int32) (dg hd_Mo_nameOf 37 rfl) (by decide) ?_
    exact ux_iret rfl (dg hd_Mo_nameOf 38 rfl)
  refine ux_case (106 : Int32) (fun _ => ?_) (fun c9 => ?_)
  · refine ux_tabIn 159 (dg hd_Mo_nameOf 1 rfl) (by decide) (by decide) rfl (by decide) ?_
    refine ux_iconst (-1 : Int32) (dg hd_Mo_nameOf 37 rfl) (by decide) ?_
    exact ux_iret rfl (dg hd_Mo_nameOf 38 rfl)
  refine ux_case (107 : Int32) (fun _ => ?_) (fun c10 => ?_)
  · refine ux_tabIn 159 (dg hd_Mo_nameOf 1 rfl) (by decide) (by decide) rfl (by decide) ?_
    refine ux_iconst (-1 : Int32) (dg hd_Mo_nameOf 37 rfl) (by decide) ?_
    exact ux_iret rfl (dg hd_Mo_nameOf 38 rfl)
  refine ux_case (108 : Int32) (fun _ => ?_) (fun c11 => ?_)
  · refine ux_tabIn 125 (dg hd_Mo_nameOf 1 rfl) (by decide) (by decide) rfl (by decide) ?_
    refine ux_aload_n (dg hd_Mo_nameOf 19 rfl) rfl ?_
    refine ux_get fcX7 16 (by decide) wk_789 rfl rfl (dg hd_Mo_nameOf 20 rfl) ?_
    refine ux_iconst (1 : Int32) (dg hd_Mo_nameOf 21 rfl) (by decide) ?_
    refine ux_icmp_eq 137 (dg hd_Mo_nameOf 22 rfl) (by decide) (fun _ => ?_) (fun _ => ?_)
    · refine ux_iload_n (dg hd_Mo_nameOf 25 rfl) rfl ?_
      refine ux_bipush (108 : Int32) (dg hd_Mo_nameOf 26 rfl) (by decide) ?_
      refine ux_icmp_ne 147 (dg hd_Mo_nameOf 27 rfl) (by decide) (fun _ => ?_) (fun _ => ?_)
      · refine ux_iconst (0 : Int32) (dg hd_Mo_nameOf 28 rfl) (by decide) ?_
        refine ux_goto 158 (dg hd_Mo_nameOf 29 rfl) (by decide) ?_
        exact ux_iret rfl (dg hd_Mo_nameOf 36 rfl)
      · refine ux_iload_n (dg hd_Mo_nameOf 30 rfl) rfl ?_
        refine ux_bipush (116 : Int32) (dg hd_Mo_nameOf 31 rfl) (by decide) ?_
        refine ux_icmp_ne 157 (dg hd_Mo_nameOf 32 rfl) (by decide) (fun _ => ?_) (fun _ => ?_)
        · refine ux_iconst (1 : Int32) (dg hd_Mo_nameOf 33 rfl) (by decide) ?_
          refine ux_goto 158 (dg hd_Mo_nameOf 34 rfl) (by decide) ?_
          exact ux_iret rfl (dg hd_Mo_nameOf 36 rfl)
        · refine ux_iconst (2 : Int32) (dg hd_Mo_nameOf 35 rfl) (by decide) ?_
          exact ux_iret rfl (dg hd_Mo_nameOf 36 rfl)
    · refine ux_iconst (-1 : Int32) (dg hd_Mo_nameOf 23 rfl) (by decide) ?_
      refine ux_goto 158 (dg hd_Mo_nameOf 24 rfl) (by decide) ?_
      exact ux_iret rfl (dg hd_Mo_nameOf 36 rfl)
  refine ux_case (109 : Int32) (fun _ => ?_) (fun c12 => ?_)
  · refine ux_tabIn 159 (dg hd_Mo_nameOf 1 rfl) (by decide) (by decide) rfl (by decide) ?_
    refine ux_iconst (-1 : Int32) (dg hd_Mo_nameOf 37 rfl) (by decide) ?_
    exact ux_iret rfl (dg hd_Mo_nameOf 38 rfl)
  refine ux_case (110 : Int32) (fun _ => ?_) (fun c13 => ?_)
  · refine ux_tabIn 159 (dg hd_Mo_nameOf 1 rfl) (by decide) (by decide) rfl (by decide) ?_
    refine ux_iconst (-1 : Int32) (dg hd_Mo_nameOf 37 rfl) (by decide) ?_
    exact ux_iret rfl (dg hd_Mo_nameOf 38 rfl)
  refine ux_case (111 : Int32) (fun _ => ?_) (fun c14 => ?_)
  · refine ux_tabIn 159 (dg hd_Mo_nameOf 1 rfl) (by decide) (by decide) rfl (by decide) ?_
    refine ux_iconst (-1 : Int32) (dg hd_Mo_nameOf 37 rfl) (by decide) ?_
    exact ux_iret rfl (dg hd_Mo_nameOf 38 rfl)
  refine ux_case (112 : Int32) (fun _ => ?_) (fun c15 => ?_)
  · refine ux_tabIn 92 (dg hd_Mo_nameOf 1 rfl) (by decide) (by decide) rfl (by decide) ?_
    refine ux_aload_n (dg hd_Mo_nameOf 2 rfl) rfl ?_
    refine ux_get fcX7 16 (by decide) wk_789 rfl rfl (dg hd_Mo_nameOf 3 rfl) ?_
    refine ux_if_eq 103 (dg hd_Mo_nameOf 4 rfl) (by decide) (fun _ => ?_) (fun _ => ?_)
    · refine ux_iload_n (dg hd_Mo_nameOf 7 rfl) rfl ?_
      refine ux_bipush (99 : Int32) (dg hd_Mo_nameOf 8 rfl) (by decide) ?_
      refine ux_icmp_ne 113 (dg hd_Mo_nameOf 9 rfl) (by decide) (fun _ => ?_) (fun _ => ?_)
      · refine ux_iconst (0 : Int32) (dg hd_Mo_nameOf 10 rfl) (by decide) ?_
        refine ux_goto 124 (dg hd_Mo_nameOf 11 rfl) (by decide) ?_
        exact ux_iret rfl (dg hd_Mo_nameOf 18 rfl)
      · refine ux_iload_n (dg hd_Mo_nameOf 12 rfl) rfl ?_
        refine ux_bipush (98 : Int32) (dg hd_Mo_nameOf 13 rfl) (by decide) ?_
        refine ux_icmp_ne 123 (dg hd_Mo_nameOf 14 rfl) (by decide) (fun _ => ?_) (fun _ => ?_)
        · refine ux_iconst (1 : Int32) (dg hd_Mo_nameOf 15 rfl) (by decide) ?_
          refine ux_goto 124 (dg hd_Mo_nameOf 16 rfl) (by decide) ?_
          exact ux_iret rfl (dg hd_Mo_nameOf 18 rfl)
        · refine ux_iconst (2 : Int32) (dg hd_Mo_nameOf 17 rfl) (by decide) ?_
          exact ux_iret rfl (dg hd_Mo_nameOf 18 rfl)
    · refine ux_iconst (-1 : Int32) (dg hd_Mo_nameOf 5 rfl) (by decide) ?_
      refine ux_goto 124 (dg hd_Mo_nameOf 6 rfl) (by decide) ?_
      exact ux_iret rfl (dg hd_Mo_nameOf 18 rfl)
  refine ux_case (113 : Int32) (fun _ => ?_) (fun c16 => ?_)
  · refine ux_tabIn 159 (dg hd_Mo_nameOf 1 rfl) (by decide) (by decide) rfl (by decide) ?_
    refine ux_iconst (-1 : Int32) (dg hd_Mo_nameOf 37 rfl) (by decide) ?_
    exact ux_iret rfl (dg hd_Mo_nameOf 38 rfl)
  refine ux_case (114 : Int32) (fun _ => ?_) (fun c17 => ?_)
  · refine ux_tabIn 159 (dg hd_Mo_nameOf 1 rfl) (by decide) (by decide) rfl (by decide) ?_
    refine ux_iconst (-1 : Int32) (dg hd_Mo_nameOf 37 rfl) (by decide) ?_
    exact ux_iret rfl (dg hd_Mo_nameOf 38 rfl)
  refine ux_case (115 : Int32) (fun _ => ?_) (fun c18 => ?_)
  · refine ux_tabIn 125 (dg hd_Mo_nameOf 1 rfl) (by decide) (by decide) rfl (by decide) ?_
    refine ux_aload_n (dg hd_Mo_nameOf 19 rfl) rfl ?_
    refine ux_get fcX7 16 (by decide) wk_789 rfl rfl (dg hd_Mo_nameOf 20 rfl) ?_
    refine ux_iconst (1 : Int32) (dg hd_Mo_nameOf 21 rfl) (by decide) ?_
    refine ux_icmp_eq 137 (dg hd_Mo_nameOf 22 rfl) (by decide) (fun _ => ?_) (fun _ => ?_)
    · refine ux_iload_n (dg hd_Mo_nameOf 25 rfl) rfl ?_
      refine ux_bipush (108 : Int32) (dg hd_Mo_nameOf 26 rfl) (by decide) ?_
      refine ux_icmp_ne 147 (dg hd_Mo_nameOf 27 rfl) (by decide) (fun _ => ?_) (fun _ => ?_)
      · refine ux_iconst (0 : Int32) (dg hd_Mo_nameOf 28 rfl) (by decide) ?_
        refine ux_goto 158 (dg hd_Mo_nameOf 29 rfl) (by decide) ?_
        exact ux_iret rfl (dg hd_Mo_nameOf 36 rfl)
      · refine ux_iload_n (dg hd_Mo_nameOf 30 rfl) rfl ?_
        refine ux_bipush (116 : Int32) (dg hd_Mo_nameOf 31 rfl) (by decide) ?_
        refine ux_icmp_ne 157 (dg hd_Mo_nameOf 32 rfl) (by decide) (fun _ => ?_) (fun _ => ?_)
        · refine ux_iconst (1 : Int32) (dg hd_Mo_nameOf 33 rfl) (by decide) ?_
          refine ux_goto 158 (dg hd_Mo_nameOf 34 rfl) (by decide) ?_
          exact ux_iret rfl (dg hd_Mo_nameOf 36 rfl)
        · refine ux_iconst (2 : Int32) (dg hd_Mo_nameOf 35 rfl) (by decide) ?_
          exact ux_iret rfl (dg hd_Mo_nameOf 36 rfl)
    · refine ux_iconst (-1 : Int32) (dg hd_Mo_nameOf 23 rfl) (by decide) ?_
      refine ux_goto 158 (dg hd_Mo_nameOf 24 rfl) (by decide) ?_
      exact ux_iret rfl (dg hd_Mo_nameOf 36 rfl)
  refine ux_case (116 : Int32) (fun _ => ?_) (fun c19 => ?_)
  · refine ux_tabIn 125 (dg hd_Mo_nameOf 1 rfl) (by decide) (by decide) rfl (by decide) ?_
    refine ux_aload_n (dg hd_Mo_nameOf 19 rfl) rfl ?_
    refine ux_get fcX7 16 (by decide) wk_789 rfl rfl (dg hd_Mo_nameOf 20 rfl) ?_
    refine ux_iconst (1 : Int32) (dg hd_Mo_nameOf 21 rfl) (by decide) ?_
    refine ux_icmp_eq 137 (dg hd_Mo_nameOf 22 rfl) (by decide) (fun _ => ?_) (fun _ => ?_)
    · refine ux_iload_n (dg hd_Mo_nameOf 25 rfl) rfl ?_
      refine ux_bipush (108 : Int32) (dg hd_Mo_nameOf 26 rfl) (by decide) ?_
      refine ux_icmp_ne 147 (dg hd_Mo_nameOf 27 rfl) (by decide) (fun _ => ?_) (fun _ => ?_)
      · refine ux_iconst (0 : Int32) (dg hd_Mo_nameOf 28 rfl) (by decide) ?_
        refine ux_goto 158 (dg hd_Mo_nameOf 29 rfl) (by decide) ?_
        exact ux_iret rfl (dg hd_Mo_nameOf 36 rfl)
      · refine ux_iload_n (dg hd_Mo_nameOf 30 rfl) rfl ?_
        refine ux_bipush (116 : Int32) (dg hd_Mo_nameOf 31 rfl) (by decide) ?_
        refine ux_icmp_ne 157 (dg hd_Mo_nameOf 32 rfl) (by decide) (fun _ => ?_) (fun _ => ?_)
        · refine ux_iconst (1 : Int32) (dg hd_Mo_nameOf 33 rfl) (by decide) ?_
          refine ux_goto 158 (dg hd_Mo_nameOf 34 rfl) (by decide) ?_
          exact ux_iret rfl (dg hd_Mo_nameOf 36 rfl)
        · refine ux_iconst (2 : Int32) (dg hd_Mo_nameOf 35 rfl) (by decide) ?_
          exact ux_iret rfl (dg hd_Mo_nameOf 36 rfl)
    · refine ux_iconst (-1 : Int32) (dg hd_Mo_nameOf 23 rfl) (by decide) ?_
      refine ux_goto 158 (dg hd_Mo_nameOf 24 rfl) (by decide) ?_
      exact ux_iret rfl (dg hd_Mo_nameOf 36 rfl)
  refine ux_tabOut 159 (dg hd_Mo_nameOf 1 rfl) (by have hc1 := lv_neT (a := 98) c1 (by decide); have hc2 := lv_neT (a := 99) c2 (by decide); have hc3 := lv_neT (a := 100) c3 (by decide); have hc4 := lv_neT (a := 101) c4 (by decide); have hc5 := lv_neT (a := 102) c5 (by decide); have hc6 := lv_neT (a := 103) c6 (by decide); have hc7 := lv_neT (a := 104) c7 (by decide); have hc8 := lv_neT (a := 105) c8 (by decide); have hc9 := lv_neT (a := 106) c9 (by decide); have hc10 := lv_neT (a := 107) c10 (by decide); have hc11 := lv_neT (a := 108) c11 (by decide); have hc12 := lv_neT (a := 109) c12 (by decide); have hc13 := lv_neT (a := 110) c13 (by decide); have hc14 := lv_neT (a := 111) c14 (by decide); have hc15 := lv_neT (a := 112) c15 (by decide); have hc16 := lv_neT (a := 113) c16 (by decide); have hc17 := lv_neT (a := 114) c17 (by decide); have hc18 := lv_neT (a := 115) c18 (by decide); have hc19 := lv_neT (a := 116) c19 (by decide); omega) (by decide) ?_
  refine ux_iconst (-1 : Int32) (dg hd_Mo_nameOf 37 rfl) (by decide) ?_
  exact ux_iret rfl (dg hd_Mo_nameOf 38 rfl)
