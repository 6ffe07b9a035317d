def Mn_balks (p1 : Int32) (σ : St) : Option (Int32 × St) :=
  bnd (Mn_isWithin p1 (1 : Int32) σ) (fun r1 σ2 =>
  if r1 = (0 : Int32) then (
  bnd (Mn_error (1 : Int32) σ2) (fun r9 σ10 =>
  some (r9, σ10))) else (
  bnd (Rp_howManyIn 15  σ2) (fun r3 σ4 =>
  if r3 = (0 : Int32) then (
  bnd (Mn_error (3 : Int32) σ4) (fun r7 σ8 =>
  some (r7, σ8))) else (
  bnd (Rp_whoBalks 15  σ4) (fun r5 σ6 =>
  if p1 = (0 : Int32) then (
  some (r5, σ6)) else (
  grd (inb r5 6) (
  some ((σ6.2 23 r5.toNatClampNeg), σ6))))))))
set_option maxRecDepth 100000 in
theorem sp_Mn_balks (l : Launch) (p1 : Int32) (σ : St) : Spc l shC 8 md_Mn_balks [.ref 0, .int p1] σ (Mn_balks p1 σ) := by
  refine Spc_of_Ux [(0, .ref 0), (1, .int p1)] (by decide) rfl (Nat.le_of_ble_eq_true rfl) ?_
  unfold Mn_balks
  refine ux_iload_n (dg hd_Mn_balks 0 rfl) rfl ?_
  refine ux_iconst (1 : Int32) (dg hd_Mn_balks 1 rfl) (by decide) ?_
  refine ux_callSi (As := [.int p1, .int (1 : Int32)]) (sp_Mn_isWithin l p1 (1 : Int32) _) (by omega) cs_Mn_isWithin wk_322 rfl rfl (Nat.le_of_ble_eq_true rfl) (dg hd_Mn_balks 2 rfl) (fun r1 σ2 _ => ?_)
  refine ux_if_ne 14 (dg hd_Mn_balks 3 rfl) (by decide) (fun _ => ?_) (fun _ => ?_)
  · refine ux_aload_n (dg hd_Mn_balks 4 rfl) rfl ?_
    refine ux_iconst (1 : Int32) (dg hd_Mn_balks 5 rfl) (by decide) ?_
    refine ux_callVi (As := [.int (1 : Int32)]) (sp_Mn_error l (1 : Int32) _) (by omega) cv_Mn_error wk_325 rfl rfl rfl rfl rfl (Nat.le_of_ble_eq_true rfl) (dg hd_Mn_balks 6 rfl) (fun r9 σ10 _ => ?_)
    exact ux_iret rfl (dg hd_Mn_balks 7 rfl)
  · refine ux_aload_n (dg hd_Mn_balks 8 rfl) rfl ?_
    refine ux_getr (q := 15) fcX6 0 (by decide) wk_278 rfl rfl (dg hd_Mn_balks 9 rfl) ?_
    refine ux_callVi (As := []) (sp_Rp_howManyIn l rp15  _) (by omega) cv_Rp_howManyIn wk_608 rfl rfl (rpO rp15) rfl rfl (Nat.le_of_ble_eq_true rfl) (dg hd_Mn_balks 10 rfl) (fun r3 σ4 _ => ?_)
    refine ux_if_ne 30 (dg hd_Mn_balks 11 rfl) (by decide) (fun _ => ?_) (fun _ => ?_)
    · refine ux_aload_n (dg hd_Mn_balks 12 rfl) rfl ?_
      refine ux_iconst (3 : Int32) (dg hd_Mn_balks 13 rfl) (by decide) ?_
      refine ux_callVi (As := [.int (3 : Int32)]) (sp_Mn_error l (3 : Int32) _) (by omega) cv_Mn_error wk_325 rfl rfl rfl rfl rfl (Nat.le_of_ble_eq_true rfl) (dg hd_Mn_balks 14 rfl) (fun r7 σ8 _ => ?_)
      exact ux_iret rfl (dg hd_Mn_balks 15 rfl)
    · refine ux_aload_n (dg hd_Mn_balks 16 rfl) rfl ?_
      refine ux_getr (q := 15) fcX6 0 (by decide) wk_278 rfl rfl (dg hd_Mn_balks 17 rfl) ?_
      refine ux_callVi (As := []) (sp_Rp_whoBalks l rp15  _) (by omega) cv_Rp_whoBalks wk_617 rfl rfl (rpO rp15) rfl rfl (Nat.le_of_ble_eq_true rfl) (dg hd_Mn_balks 18 rfl) (fun r5 σ6 _ => ?_)
      refine ux_istore_n [(2, .int r5), (0, .ref 0), (1, .int p1)] (dg hd_Mn_balks 19 rfl) (by decide) rfl ?_
      refine ux_iload_n (dg hd_Mn_balks 20 rfl) rfl ?_
      refine ux_if_ne 46 (dg hd_Mn_balks 21 rfl) (by decide) (fun _ => ?_) (fun _ => ?_)
      · refine ux_iload_n (dg hd_Mn_balks 22 rfl) rfl ?_
        refine ux_goto 55 (dg hd_Mn_balks 23 rfl) (by decide) ?_
        exact ux_iret rfl (dg hd_Mn_balks 29 rfl)
      · refine ux_aload_n (dg hd_Mn_balks 24 rfl) rfl ?_
        refine ux_getr (q := 15) fcX6 0 (by decide) wk_278 rfl rfl (dg hd_Mn_balks 25 rfl) ?_
        refine ux_getr (q := 23) fcX1 8 (by decide) wk_138 (rpO rp15) rfl (dg hd_Mn_balks 26 rfl) ?_
        refine ux_iload_n (dg hd_Mn_balks 27 rfl) rfl ?_
        refine ux_iald (rpA8 rp15) (dg hd_Mn_balks 28 rfl) ?_
        exact ux_iret rfl (dg hd_Mn_balks 29 rfl)
def Mn_soon_L26 : Nat → Int32 → Int32 → St → Option (Int32 × St)
  | 0, _, _, _ => none
  | n + 1, x1, x2, σ =>
    if (99 : Int32) < x2 then (
    bnd (Mn_error (2 : Int32) σ) (fun r5 σ6 =>
    some (r5, σ6))) else (
    bnd (Rp_howManyIn 24  σ) (fun r7 σ8 =>
    if r7 ≤ (0 : Int32) then (
    bnd (Rp_pass 24  σ8) (fun r9 σ10 =>
    nam (x2 + (1 : Int32)) (fun y11 =>
    Mn_soon_L26 n x1 y11 σ10))) else (
    bnd (Rp_mayTalk 24  σ8) (fun r12 σ13 =>
    if r12 = (0 : Int32) then (
    bnd (Rp_pass 24  σ13) (fun r14 σ15 =>
    nam (x2 + (1 : Int32)) (fun y16 =>
    Mn_soon_L26 n x1 y16 σ15))) else (
    bnd (Rp_isTaken 24 x1 σ13) (fun r17 σ18 =>
    if r17 = (0 : Int32) then (
    bnd (Rp_pass 24  σ18) (fun r19 σ20 =>
    nam (x2 + (1 : Int32)) (fun y21 =>
    Mn_soon_L26 n x1 y21 σ20))) else (
    some (x2, σ18))))))))
set_option maxRecDepth 100000 in
theorem wk_Mn_soon_L26 (l : Launch) : ∀ (n : Nat) (x1 x2 : Int32) (σ : St), Ux l shC 7 md_Mn_soon 26 [(0, .ref 0), (1, .int x1), (2, .int x2)] [] σ (Mn_soon_L26 n x1 x2 σ) := by
  intro n
  induction n with
  | zero => intros; exact ux_none
  | succ n ih =>
    intro x1 x2 σ
    unfold Mn_soon_L26
    refine ux_iload_n (dg hd_Mn_soon 14 rfl) rfl ?_
    refine ux_bipush (99 : Int32) (dg hd_Mn_soon 15 rfl) (by decide) ?_
    refine ux_icmp_gt 79 (dg hd_Mn_soon 16 rfl) (by decide) (fun _ => ?_) (fun _ => ?_)
    · refine ux_aload_n (dg hd_Mn_soon 38 rfl) rfl ?_
      refine ux_iconst (2 : Int32) (dg hd_Mn_soon 39 rfl) (by decide) ?_
      refine ux_callVi (As := [.int (2 : Int32)]) (sp_Mn_error l (2 : Int32) _) (by omega) cv_Mn_error wk_325 rfl rfl rfl rfl rfl (Nat.le_of_ble_eq_true rfl) (dg hd_Mn_soon 40 rfl) (fun r5 σ6 _ => ?_)
      exact ux_iret rfl (dg hd_Mn_soon 41 rfl)
    · refine ux_aload_n (dg hd_Mn_soon 17 rfl) rfl ?_
      refine ux_getr (q := 24) fcX6 1 (by decide) wk_279 rfl rfl (dg hd_Mn_soon 18 rfl) ?_
      refine ux_callVi (As := []) (sp_Rp_howManyIn l rp24  _) (by omega) cv_Rp_howManyIn wk_608 rfl rfl (rpO rp24) rfl rfl (Nat.le_of_ble_eq_true rfl) (dg hd_Mn_soon 19 rfl) (fun r7 σ8 _ => ?_)
      refine ux_if_le 65 (dg hd_Mn_soon 20 rfl) (by decide) (fun _ => ?_) (fun _ => ?_)
      · refine ux_aload_n (dg hd_Mn_soon 32 rfl) rfl ?_
        refine ux_getr (q := 24) fcX6 1 (by decide) wk_279 rfl rfl (dg hd_Mn_soon 33 rfl) ?_
        refine ux_callVi (As := []) (sp_Rp_pass l rp24  _) (by omega) cv_Rp_pass wk_551 rfl rfl (rpO rp24) rfl rfl (Nat.le_of_ble_eq_true rfl) (dg hd_Mn_soon 34 rfl) (fun r9 σ10 _ => ?_)
        refine ux_pop (dg hd_Mn_soon 35 rfl) ?_
        refine ux_iincN (1 : Int32) (fun y11 => [(2, .int y11), (0, .ref 0), (1, .int x1)]) (dg hd_Mn_soon 36 rfl) rfl (by decide) (by decide) (fun _ => rfl) (fun y11 => ?_)
        refine ux_goto 26 (dg hd_Mn_soon 37 rfl) (by decide) ?_
        refine ux_wk [(0, .ref 0), (1, .int x1), (2, .int y11)] [1, 2, 0] rfl ?_
        exact ih x1 y11 σ10
      · refine ux_aload_n (dg hd_Mn_soon 21 rfl) rfl ?_
        refine ux_getr (q := 24) fcX6 1 (by decide) wk_279 rfl rfl (dg hd_Mn_soon 22 rfl) ?_
        refine ux_callVi (As := []) (sp_Rp_mayTalk l rp24  _) (by omega) cv_Rp_mayTalk wk_449 rfl rfl (rpO rp24) rfl rfl (Nat.le_of_ble_eq_true rfl) (dg hd_Mn_soon 23 rfl) (fun r12 σ13 _ => ?_)
        refine ux_if_eq 65 (dg hd_Mn_soon 24 rfl) (by decide) (fun _ => ?_) (fun _ => ?_)
        · refine ux_aload_n (dg hd_Mn_soon 32 rfl) rfl ?_
          refine ux_getr (q := 24) fcX6 1 (by decide) wk_279 rfl rfl (dg hd_Mn_soon 33 rfl) ?_
          refine ux_callVi (As := []) (sp_Rp_pass l rp24  _) (by omega) cv_Rp_pass wk_551 rfl rfl (rpO rp24) rfl rfl (Nat.le_of_ble_eq_true rfl) (dg hd_Mn_soon 34 rfl) (fun r14 σ15 _ => ?_)
          refine ux_pop (dg hd_Mn_soon 35 rfl) ?_
          refine ux_iincN (1 : Int32) (fun y16 => [(2, .int y16), (0, .ref 0), (1, .int x1)]) (dg hd_Mn_soon 36 rfl) rfl (by decide) (by decide) (fun _ => rfl) (fun y16 => ?_)
          refine ux_goto 26 (dg hd_Mn_soon 37 rfl) (by decide) ?_
          refine ux_wk [(0, .ref 0), (1, .int x1), (2, .int y16)] [1, 2, 0] rfl ?_
          exact ih x1 y16 σ15
        · refine ux_aload_n (dg hd_Mn_soon 25 rfl) rfl ?_
          refine ux_getr (q := 24) fcX6 1 (by decide) wk_279 rfl rfl (dg hd_Mn_soon 26 rfl) ?_
          refine ux_iload_n (dg hd_Mn_soon 27 rfl) rfl ?_
          refine ux_callVi (As := [.int x1]) (sp_Rp_isTaken l rp24 x1 _) (by omega) cv_Rp_isTaken wk_454 rfl rfl (rpO rp24) rfl rfl (Nat.le_of_ble_eq_true rfl) (dg hd_Mn_soon 28 rfl) (fun r17 σ18 _ => ?_)
          refine ux_if_eq 65 (dg hd_Mn_soon 29 rfl) (by decide) (fun _ => ?_) (fun _ => ?_)
          · refine ux_aload_n (dg hd_Mn_soon 32 rfl) rfl ?_
            refine ux_getr (q := 24) fcX6 1 (by decide) wk_279 rfl rfl (dg hd_Mn_soon 33 rfl) ?_
            refine ux_callVi (As := []) (sp_Rp_pass l rp24  _) (by omega) cv_Rp_pass wk_551 rfl rfl (rpO rp24) rfl rfl (Nat.le_of_ble_eq_true rfl) (dg hd_Mn_soon 34 rfl) (fun r19 σ20 _ => ?_)
            refine ux_pop (dg hd_Mn_soon 35 rfl) ?_
            refine ux_iincN (1 : Int32) (fun y21 => [(2, .int y21), (0, .ref 0), (1, .int x1)]) (dg hd_Mn_soon 36 rfl) rfl (by decide) (by decide) (fun _ => rfl) (fun y21 => ?_)
            refine ux_goto 26 (dg hd_Mn_soon 37 rfl) (by decide) ?_
            refine ux_wk [(0, .ref 0), (1, .int x1), (2, .int y21)] [1, 2, 0] rfl ?_
            exact ih x1 y21 σ20
          · refine ux_iload_n (dg hd_Mn_soon 30 rfl) rfl ?_
            exact ux_iret rfl (dg hd_Mn_soon 31 rfl)
def Mn_soon (p1 : Int32) (σ : St) : Option (Int32 × St) :=
  bnd (Mn_isTreaty p1 σ) (fun r1 σ2 =>
  if r1 = (0 : Int32) then (
  bnd (Mn_error (1 : Int32) σ2) (fun r22 σ23 =>
  some (r22, σ23))) else (
  bnd (Rp_copy 24 15 σ2) (fun r3 σ4 =>
  Mn_soon_L26 1000 p1 (0 : Int32) σ4)))
set_option maxRecDepth 100000 in
theorem sp_Mn_soon (l : Launch) (p1 : Int32) (σ : St) : Spc l shC 7 md_Mn_soon [.ref 0, .int p1] σ (Mn_soon p1 σ) := by
  refine Spc_of_Ux [(0, .ref 0), (1, .int p1)] (by decide) rfl (Nat.le_of_ble_eq_true rfl) ?_
  unfold Mn_soon
  refine ux_iload_n (dg hd_Mn_soon 0 rfl) rfl ?_
  refine ux_callSi (As := [.int p1]) (sp_Mn_isTreaty l p1 _) (by omega) cs_Mn_isTreaty wk_434 rfl rfl (Nat.le_of_ble_eq_true rfl) (dg hd_Mn_soon 1 rfl) (fun r1 σ2 _ => ?_)
  refine ux_if_ne 13 (dg hd_Mn_soon 2 rfl) (by decide) (fun _ => ?_) (fun _ => ?_)
  · refine ux_aload_n (dg hd_Mn_soon 3 rfl) rfl ?_
    refine ux_iconst (1 : Int32) (dg hd_Mn_soon 4 rfl) (by decide) ?_
    refine ux_callVi (As := [.int (1 : Int32)]) (sp_Mn_error l (1 : Int32) _) (by omega) cv_Mn_error wk_325 rfl rfl rfl rfl rfl (Nat.le_of_ble_eq_true rfl) (dg hd_Mn_soon 5 rfl) (fun r22 σ23 _ => ?_)
    exact ux_iret rfl (dg hd_Mn_soon 6 rfl)
  · refine ux_aload_n (dg hd_Mn_soon 7 rfl) rfl ?_
    refine ux_getr (q := 24) fcX6 1 (by decide) wk_279 rfl rfl (dg hd_Mn_soon 8 rfl) ?_
    refine ux_aload_n (dg hd_Mn_soon 9 rfl) rfl ?_
    refine ux_getr (q := 15) fcX6 0 (by decide) wk_278 rfl rfl (dg hd_Mn_soon 10 rfl) ?_
    refine ux_callVv (As := [.ref 15]) (sp_Rp_copy l rp24 rp15  _) (by omega) cv_Rp_copy wk_586 rfl rfl (rpO rp24) rfl rfl (Nat.le_of_ble_eq_true rfl) (dg hd_Mn_soon 11 rfl) (fun r3 σ4 _ => ?_)
    refine ux_iconst (0 : Int32) (dg hd_Mn_soon 12 rfl) (by decide) ?_
    refine ux_istore_n [(2, .int (0 : Int32)), (0, .ref 0), (1, .int p1)] (dg hd_Mn_soon 13 rfl) (by decide) rfl ?_
    refine ux_wk [(0, .ref 0), (1, .int p1), (2, .int (0 : Int32))] [1, 2, 0] rfl ?_
    exact wk_Mn_soon_L26 l 1000 p1 (0 : Int32) σ4
def Mn_meets_L26 : Nat → Int32 → Int32 → Int32 → Int32 → Int32 → St → Option (Int32 × St)
  | 0, _, _, _, _, _, _ => none
  | n + 1, x1, x2, x3, x4, x5, σ =>
    if (x2 * x4) ≤ x5 then (
    bnd (Mn_error (2 : Int32) σ) (fun r7 σ8 =>
    some (r7, σ8))) else (
    nam ((σ.1 15 10) + x5) (fun y9 =>
    grd (nz x2) (
    if (irm y9 x2) = x1 then (
    grd (nz x4) (
    if (irm y9 x4) = x3 then (
    some (y9, σ)) else (
    nam (x5 + (1 : Int32)) (fun y11 =>
    Mn_meets_L26 n x1 x2 x3 x4 y11 σ)))) else (
    nam (x5 + (1 : Int32)) (fun y10 =>
    Mn_meets_L26 n x1 x2 x3 x4 y10 σ)))))
set_option maxRecDepth 100000 in
theorem wk_Mn_meets_L26 (l : Launch) : ∀ (n : Nat) (x1 x2 x3 x4 x5 : Int32) (σ : St), Ux l shC 4 md_Mn_meets 26 [(0, .ref 0), (1, .int x1), (2, .int x2), (3, .int x3), (4, .int x4), (5, .int x5)] [] σ (Mn_meets_L26 n x1 x2 x3 x4 x5 σ) := by
  intro n
  induction n with
  | zero => intros; exact ux_none
  | succ n ih =>
    intro x1 x2 x3 x4 x5 σ
    unfold Mn_meets_L26
    refine ux_iload (dg hd_Mn_meets 14 rfl) rfl ?_
    refine ux_iload_n (dg hd_Mn_meets 15 rfl) rfl ?_
    refine ux_iload (dg hd_Mn_meets 16 rfl) rfl ?_
    refine ux_imul (dg hd_Mn_meets 17 rfl) ?_
    refine ux_icmp_ge 73 (dg hd_Mn_meets 18 rfl) (by decide) (fun _ => ?_) (fun _ => ?_)
    · refine ux_aload_n (dg hd_Mn_meets 39 rfl) rfl ?_
      refine ux_iconst (2 : Int32) (dg hd_Mn_meets 40 rfl) (by decide) ?_
      refine ux_callVi (As := [.int (2 : Int32)]) (sp_Mn_error l (2 : Int32) _) (by omega) cv_Mn_error wk_325 rfl rfl rfl rfl rfl (Nat.le_of_ble_eq_true rfl) (dg hd_Mn_meets 41 rfl) (fun r7 σ8 _ => ?_)
      exact ux_iret rfl (dg hd_Mn_meets 42 rfl)
    · refine ux_aload_n (dg hd_Mn_meets 19 rfl) rfl ?_
      refine ux_getr (q := 15) fcX6 0 (by decide) wk_278 rfl rfl (dg hd_Mn_meets 20 rfl) ?_
      refine ux_get fcX1 10 (by decide) wk_142 (rpO rp15) rfl (dg hd_Mn_meets 21 rfl) ?_
      refine ux_iload (dg hd_Mn_meets 22 rfl) rfl ?_
      refine ux_iadd (dg hd_Mn_meets 23 rfl) ?_
      refine ux_nam (fun y9 => ?_)
      refine ux_istore [(6, .int y9), (0, .ref 0), (1, .int x1), (2, .int x2), (3, .int x3), (4, .int x4), (5, .int x5)] (dg hd_Mn_meets 24 rfl) (by decide) rfl ?_
      refine ux_iload (dg hd_Mn_meets 25 rfl) rfl ?_
      refine ux_iload_n (dg hd_Mn_meets 26 rfl) rfl ?_
      refine ux_irem (dg hd_Mn_meets 27 rfl) ?_
      refine ux_iload_n (dg hd_Mn_meets 28 rfl) rfl ?_
      refine ux_icmp_ne 67 (dg hd_Mn_meets 29 rfl) (by decide) (fun _ => ?_) (fun _ => ?_)
      · refine ux_iload (dg hd_Mn_meets 30 rfl) rfl ?_
        refine ux_iload (dg hd_Mn_meets 31 rfl) rfl ?_
        refine ux_irem (dg hd_Mn_meets 32 rfl) ?_
        refine ux_iload_n (dg hd_Mn_meets 33 rfl) rfl ?_
        refine ux_icmp_ne 67 (dg hd_Mn_meets 34 rfl) (by decide) (fun _ => ?_) (fun _ => ?_)
        · refine ux_iload (dg hd_Mn_meets 35 rfl) rfl ?_
          exact ux_iret rfl (dg hd_Mn_meets 36 rfl)
        · refine ux_iincN (1 : Int32) (fun y11 => [(5, .int y11), (6, .int y9), (0, .ref 0), (1, .int x1), (2, .int x2), (3, .int x3), (4, .int x4)]) (dg hd_Mn_meets 37 rfl) rfl (by decide) (by decide) (fun _ => rfl) (fun y11 => ?_)
          refine ux_goto 26 (dg hd_Mn_meets 38 rfl) (by decide) ?_
          refine ux_wk [(0, .ref 0), (1, .int x1), (2, .int x2), (3, .int x3), (4, .int x4), (5, .int y11)] [2, 3, 4, 5, 6, 0] rfl ?_
          exact ih x1 x2 x3 x4 y11 σ
      · refine ux_iincN (1 : Int32) (fun y10 => [(5, .int y10), (6, .int y9), (0, .ref 0), (1, .int x1), (2, .int x2), (3, .int x3), (4, .int x4)]) (dg hd_Mn_meets 37 rfl) rfl (by decide) (by decide) (fun _ => rfl) (fun y10 => ?_)
        refine ux_goto 26 (dg hd_Mn_meets 38 rfl) (by decide) ?_
        refine ux_wk [(0, .ref 0), (1, .int x1), (2, .int x2), (3, .int x3), (4, .int x4), (5, .int y10)] [2, 3, 4, 5, 6, 0] rfl ?_
        exact ih x1 x2 x3 x4 y10 σ
def Mn_meets (p1 : Int32) (p2 : Int32) (p3 : Int32) (p4 : Int32) (σ : St) : Option (Int32 × St) :=
  bnd (Mn_isRest p1 p2 σ) (fun r1 σ2 =>
  if r1 = (0 : Int32) then (
  bnd (Mn_error (1 : Int32) σ2) (fun r3 σ4 =>
  some (r3, σ4))) else (
  bnd (Mn_isRest p3 p4 σ2) (fun r5 σ6 =>
  if r5 = (0 : Int32) then (
  bnd (Mn_error (1 : Int32) σ6) (fun r12 σ13 =>
  some (r12, σ13))) else (
  Mn_meets_L26 1000 p1 p2 p3 p4 (0 : Int32) σ6))))
set_option maxRecDepth 100000 in
theorem sp_Mn_meets (l : Launch) (p1 : Int32) (p2 : Int32) (p3 : Int32) (p4 : Int32) (σ : St) : Spc l shC 4 md_Mn_meets [.ref 0, .int p1, .int p2, .int p3, .int p4] σ (Mn_meets p1 p2 p3 p4 σ) := by
  refine Spc_of_Ux [(0, .ref 0), (1, .int p1), (2, .int p2), (3, .int p3), (4, .int p4)] (by decide) rfl (Nat.le_of_ble_eq_true rfl) ?_
  unfold Mn_meets
  refine ux_iload_n (dg hd_Mn_meets 0 rfl) rfl ?_
  refine ux_iload_n (dg hd_Mn_meets 1 rfl) rfl ?_
  refine ux_callSi (As := [.int p1, .int p2]) (sp_Mn_isRest l p1 p2 _) (by omega) cs_Mn_isRest wk_634 rfl rfl (Nat.le_of_ble_eq_true rfl) (dg hd_Mn_meets 2 rfl) (fun r1 σ2 _ => ?_)
  refine ux_if_eq 17 (dg hd_Mn_meets 3 rfl) (by decide) (fun _ => ?_) (fun _ => ?_)
  · refine ux_aload_n (dg hd_Mn_meets 8 rfl) rfl ?_
    refine ux_iconst (1 : Int32) (dg hd_Mn_meets 9 rfl) (by decide) ?_
    refine ux_callVi (As := [.int (1 : Int32)]) (sp_Mn_error l (1 : Int32) _) (by omega) cv_Mn_error wk_325 rfl rfl rfl rfl rfl (Nat.le_of_ble_eq_true rfl) (dg hd_Mn_meets 10 rfl) (fun r3 σ4 _ => ?_)
    exact ux_iret rfl (dg hd_Mn_meets 11 rfl)
  · refine ux_iload_n (dg hd_Mn_meets 4 rfl) rfl ?_
    refine ux_iload (dg hd_Mn_meets 5 rfl) rfl ?_
    refine ux_callSi (As := [.int p3, .int p4]) (sp_Mn_isRest l p3 p4 _) (by omega) cs_Mn_isRest wk_634 rfl rfl (Nat.le_of_ble_eq_true rfl) (dg hd_Mn_meets 6 rfl) (fun r5 σ6 _ => ?_)
    refine ux_if_ne 23 (dg hd_Mn_meets 7 rfl) (by decide) (fun _ => ?_) (fun _ => ?_)
    · refine ux_aload_n (dg hd_Mn_meets 8 rfl) rfl ?_
      refine ux_iconst (1 : Int32) (dg hd_Mn_meets 9 rfl) (by decide) ?_
      refine ux_callVi (As := [.int (1 : Int32)]) (sp_Mn_error l (1 : Int32) _) (by omega) cv_Mn_error wk_325 rfl rfl rfl rfl rfl (Nat.le_of_ble_eq_true rfl) (dg hd_Mn_meets 10 rfl) (fun r12 σ13 _ => ?_)
      exact ux_iret rfl (dg hd_Mn_meets 11 rfl)
    · refine ux_iconst (0 : Int32) (dg hd_Mn_meets 12 rfl) (by decide) ?_
      refine ux_istore [(5, .int (0 : Int32)), (0, .ref 0), (1, .int p1), (2, .int p2), (3, .int p3), (4, .int p4)] (dg hd_Mn_meets 13 rfl) (by decide) rfl ?_
      refine ux_wk [(0, .ref 0), (1, .int p1), (2, .int p2), (3, .int p3), (4, .int p4), (5, .int (0 : Int32))] [1, 2, 3, 4, 5, 0] rfl ?_
      exact wk_Mn_meets_L26 l 1000 p1 p2 p3 p4 (0 : Int32) σ6
def Mn_odds_L30 : Nat → Int32 → Int32 → Int32 → Int32 → St → Option (Int32 × St)
  | 0, _, _, _, _, _ => none
  | n + 1, x1, x2, x3, x4, σ =>
    if (64 : Int32) ≤ x4 then (
    if x3 = (0 : Int32) then (
    if x2 = (0 : Int32) then (
    grd (nz (64 : Int32)) (
    some ((x3 / (64 : Int32)), σ))) else (
    grd (nz (64 : Int32)) (
    some (((64 : Int32) / (64 : Int32)), σ)))) else (
    nam (x3 &&& (-x3)) (fun y7 =>
    if x2 = (0 : Int32) then (
    grd (nz y7) (
    some ((x3 / y7), σ))) else (
    grd (nz y7) (
    some (((64 : Int32) / y7), σ)))))) else (
    bnd (Rp_likes 15 x1 x4 σ) (fun r8 σ9 =>
    if r8 < (σ9.1 15 12) then (
    nam (x4 + (1 : Int32)) (fun y10 =>
    Mn_odds_L30 n x1 x2 x3 y10 σ9)) else (
    nam (x3 + (1 : Int32)) (fun y11 =>
    nam (x4 + (1 : Int32)) (fun y12 =>
    Mn_odds_L30 n x1 x2 y11 y12 σ9)))))
set_option maxRecDepth 100000 in
theorem wk_Mn_odds_L30 (l : Launch) : ∀ (n : Nat) (x1 x2 x3 x4 : Int32) (σ : St), Ux l shC 6 md_Mn_odds 30 [(0, .ref 0), (1, .int x1), (2, .int x2), (3, .int x3), (4, .int x4)] [] σ (Mn_odds_L30 n x1 x2 x3 x4 σ) := by
  intro n
  induction n with
  | zero => intros; exact ux_none
  | succ n ih =>
    intro x1 x2 x3 x4 σ
    unfold Mn_odds_L30
    refine ux_iload (dg hd_Mn_odds 17 rfl) rfl ?_
    refine ux_bipush (64 : Int32) (dg hd_Mn_odds 18 rfl) (by decide) ?_
    refine ux_icmp_ge 66 (dg hd_Mn_odds 19 rfl) (by decide) (fun _ => ?_) (fun _ => ?_)
    · refine ux_iload_n (dg hd_Mn_odds 32 rfl) rfl ?_
      refine ux_if_ne 75 (dg hd_Mn_odds 33 rfl) (by decide) (fun _ => ?_) (fun _ => ?_)
      · refine ux_bipush (64 : Int32) (dg hd_Mn_odds 34 rfl) (by decide) ?_
        refine ux_goto 79 (dg hd_Mn_odds 35 rfl) (by decide) ?_
        refine ux_istore [(4, .int (64 : Int32)), (0, .ref 0), (1, .int x1), (2, .int x2), (3, .int x3)] (dg hd_Mn_odds 40 rfl) (by decide) rfl ?_
        refine ux_iload_n (dg hd_Mn_odds 41 rfl) rfl ?_
        refine ux_if_ne 89 (dg hd_Mn_odds 42 rfl) (by decide) (fun _ => ?_) (fun _ => ?_)
        · refine ux_iload_n (dg hd_Mn_odds 43 rfl) rfl ?_
          refine ux_goto 91 (dg hd_Mn_odds 44 rfl) (by decide) ?_
          refine ux_iload (dg hd_Mn_odds 46 rfl) rfl ?_
          refine ux_idiv (dg hd_Mn_odds 47 rfl) ?_
          exact ux_iret rfl (dg hd_Mn_odds 48 rfl)
        · refine ux_bipush (64 : Int32) (dg hd_Mn_odds 45 rfl) (by decide) ?_
          refine ux_iload (dg hd_Mn_odds 46 rfl) rfl ?_
          refine ux_idiv (dg hd_Mn_odds 47 rfl) ?_
          exact ux_iret rfl (dg hd_Mn_odds 48 rfl)
      · refine ux_iload_n (dg hd_Mn_odds 36 rfl) rfl ?_
        refine ux_iload_n (dg hd_Mn_odds 37 rfl) rfl ?_
        refine ux_ineg (dg hd_Mn_odds 38 rfl) ?_
        refine ux_iand (dg hd_Mn_odds 39 rfl) ?_
        refine ux_nam (fun y7 => ?_)
        refine ux_istore [(4, .int y7), (0, .ref 0), (1, .int x1), (2, .int x2), (3, .int x3)] (dg hd_Mn_odds 40 rfl) (by decide) rfl ?_
        refine ux_iload_n (dg hd_Mn_odds 41 rfl) rfl ?_
        refine ux_if_ne 89 (dg hd_Mn_odds 42 rfl) (by decide) (fun _ => ?_) (fun _ => ?_)
        · refine ux_iload_n (dg hd_Mn_odds 43 rfl) rfl ?_
          refine ux_goto 91 (dg hd_Mn_odds 44 rfl) (by decide) ?_
          refine ux_iload (dg hd_Mn_odds 46 rfl) rfl ?_
          refine ux_idiv (dg hd_Mn_odds 47 rfl) ?_
          exact ux_iret rfl (dg hd_Mn_odds 48 rfl)
        · refine ux_bipush (64 : Int32) (dg hd_Mn_odds 45 rfl) (by decide) ?_
          refine ux_iload (dg hd_Mn_odds 46 rfl) rfl ?_
          refine ux_idiv (dg hd_Mn_odds 47 rfl) ?_
          exact ux_iret rfl (dg hd_Mn_odds 48 rfl)
    · refine ux_aload_n (dg hd_Mn_odds 20 rfl) rfl ?_
      refine ux_getr (q := 15) fcX6 0 (by decide) wk_278 rfl rfl (dg hd_Mn_odds 21 rfl) ?_
      refine ux_iload_n (dg hd_Mn_odds 22 rfl) rfl ?_
      refine ux_iload (dg hd_Mn_odds 23 rfl) rfl ?_
      refine ux_callVi (As := [.int x1, .int x4]) (sp_Rp_likes l rp15 x1 x4 _) (by omega) cv_Rp_likes wk_437 rfl rfl (rpO rp15) rfl rfl (Nat.le_of_ble_eq_true rfl) (dg hd_Mn_odds 24 rfl) (fun r8 σ9 _ => ?_)
      refine ux_aload_n (dg hd_Mn_odds 25 rfl) rfl ?_
      refine ux_getr (q := 15) fcX6 0 (by decide) wk_278 rfl rfl (dg hd_Mn_odds 26 rfl) ?_
      refine ux_get fcX1 12 (by decide) wk_146 (rpO rp15) rfl (dg hd_Mn_odds 27 rfl) ?_
      refine ux_icmp_lt 60 (dg hd_Mn_odds 28 rfl) (by decide) (fun _ => ?_) (fun _ => ?_)
      · refine ux_iincN (1 : Int32) (fun y10 => [(4, .int y10), (0, .ref 0), (1, .int x1), (2, .int x2), (3, .int x3)]) (dg hd_Mn_odds 30 rfl) rfl (by decide) (by decide) (fun _ => rfl) (fun y10 => ?_)
        refine ux_goto 30 (dg hd_Mn_odds 31 rfl) (by decide) ?_
        refine ux_wk [(0, .ref 0), (1, .int x1), (2, .int x2), (3, .int x3), (4, .int y10)] [1, 2, 3, 4, 0] rfl ?_
        exact ih x1 x2 x3 y10 σ9
      · refine ux_iincN (1 : Int32) (fun y11 => [(3, .int y11), (0, .ref 0), (1, .int x1), (2, .int x2), (4, .int x4)]) (dg hd_Mn_odds 29 rfl) rfl (by decide) (by decide) (fun _ => rfl) (fun y11 => ?_)
        refine ux_iincN (1 : Int32) (fun y12 => [(4, .int y12), (3, .int y11), (0, .ref 0), (1, .int x1), (2, .int x2)]) (dg hd_Mn_odds 30 rfl) rfl (by decide) (by decide) (fun _ => rfl) (fun y12 => ?_)
        refine ux_goto 30 (dg hd_Mn_odds 31 rfl) (by decide) ?_
        refine ux_wk [(0, .ref 0), (1, .int x1), (2, .int x2), (3, .int y11), (4, .int y12)] [2, 3, 4, 1, 0] rfl ?_
        exact ih x1 x2 y11 y12 σ9
def Mn_odds (p1 : Int32) (p2 : Int32) (σ : St) : Option (Int32 × St) :=
  bnd (Rp_has 15 p1 σ) (fun r1 σ2 =>
  if r1 = (0 : Int32) then (
  bnd (Mn_error (1 : Int32) σ2) (fun r3 σ4 =>
  some (r3, σ4))) else (
  bnd (Mn_isWithin p2 (1 : Int32) σ2) (fun r5 σ6 =>
  if r5 = (0 : Int32) then (
  bnd (Mn_error (1 : Int32) σ6) (fun r13 σ14 =>
  some (r13, σ14))) else (
  Mn_odds_L30 1000 p1 p2 (0 : Int32) (0 : Int32) σ6))))
set_option maxRecDepth 100000 in
theorem sp_Mn_odds (l : Launch) (p1 : Int32) (p2 : Int32) (σ : St) : Spc l shC 6 md_Mn_odds [.ref 0, .int p1, .int p2] σ (Mn_odds p1 p2 σ) := by
  refine Spc_of_Ux [(0, .ref 0), (1, .int p1), (2, .int p2)] (by decide) rfl (Nat.le_of_ble_eq_true rfl) ?_
  unfold Mn_odds
  refine ux_aload_n (dg hd_Mn_odds 0 rfl) rfl ?_
  refine ux_getr (q := 15) fcX6 0 (by decide) wk_278 rfl rfl (dg hd_Mn_odds 1 rfl) ?_
  refine ux_iload_n (dg hd_Mn_odds 2 rfl) rfl ?_
  refine ux_callVi (As := [.int p1]) (sp_Rp_has l rp15 p1 _) (by omega) cv_Rp_has wk_342 rfl rfl (rpO rp15) rfl rfl (Nat.le_of_ble_eq_true rfl) (dg hd_Mn_odds 3 rfl) (fun r1 σ2 _ => ?_)
  refine ux_if_eq 19 (dg hd_Mn_odds 4 rfl) (by decide) (fun _ => ?_) (fun _ => ?_)
  · refine ux_aload_n (dg hd_Mn_odds 9 rfl) rfl ?_
    refine ux_iconst (1 : Int32) (dg hd_Mn_odds 10 rfl) (by decide) ?_
    refine ux_callVi (As := [.int (1 : Int32)]) (sp_Mn_error l (1 : Int32) _) (by omega) cv_Mn_error wk_325 rfl rfl rfl rfl rfl (Nat.le_of_ble_eq_true rfl) (dg hd_Mn_odds 11 rfl) (fun r3 σ4 _ => ?_)
    exact ux_iret rfl (dg hd_Mn_odds 12 rfl)
  · refine ux_iload_n (dg hd_Mn_odds 5 rfl) rfl ?_
    refine ux_iconst (1 : Int32) (dg hd_Mn_odds 6 rfl) (by decide) ?_
    refine ux_callSi (As := [.int p2, .int (1 : Int32)]) (sp_Mn_isWithin l p2 (1 : Int32) _) (by omega) cs_Mn_isWithin wk_322 rfl rfl (Nat.le_of_ble_eq_true rfl) (dg hd_Mn_odds 7 rfl) (fun r5 σ6 _ => ?_)
    refine ux_if_ne 25 (dg hd_Mn_odds 8 rfl) (by decide) (fun _ => ?_) (fun _ => ?_)
    · refine ux_aload_n (dg hd_Mn_odds 9 rfl) rfl ?_
      refine ux_iconst (1 : Int32) (dg hd_Mn_odds 10 rfl) (by decide) ?_
      refine ux_callVi (As := [.int (1 : Int32)]) (sp_Mn_error l (1 : Int32) _) (by omega) cv_Mn_error wk_325 rfl rfl rfl rfl rfl (Nat.le_of_ble_eq_true rfl) (dg hd_Mn_odds 11 rfl) (fun r13 σ14 _ => ?_)
      exact ux_iret rfl (dg hd_Mn_odds 12 rfl)
    · refine ux_iconst (0 : Int32) (dg hd_Mn_odds 13 rfl) (by decide) ?_
      refine ux_istore_n [(3, .int (0 : Int32)), (0, .ref 0), (1, .int p1), (2, .int p2)] (dg hd_Mn_odds 14 rfl) (by decide) rfl ?_
      refine ux_iconst (0 : Int32) (dg hd_Mn_odds 15 rfl) (by decide) ?_
      refine ux_istore [(4, .int (0 : Int32)), (3, .int (0 : Int32)), (0, .ref 0), (1, .int p1), (2, .int p2)] (dg hd_Mn_odds 16 rfl) (by decide) rfl ?_
      refine ux_wk [(0, .ref 0), (1, .int p1), (2, .int p2), (3, .int (0 : Int32)), (4, .int (0 : Int32))] [2, 3, 4, 1, 0] rfl ?_
      exact wk_Mn_odds_L30 l 1000 p1 p2 (0 : Int32) (0 : Int32) σ6
def Mn_fits_L44 : Nat → Int32 → Int32 → St → Option (Int32 × St)
  | 0, _, _, _ => none
  | n + 1, x1, x2, σ =>
    if (99 : Int32) < x2 then (
    bnd (Mn_error (2 : Int32) σ) (fun r8 σ9 =>
    some (r8, σ9))) else (
    grd (inb x1 [54, 56, 58, 60].length) (wid ([54, 56, 58, 60].getD x1.toNatClampNeg 0) (fun q10 =>
    bnd (Rp_breathsRight 24 q10 σ) (fun r11 σ12 =>
    grd (inb x1 [54, 56, 58, 60].length) (wid ([54, 56, 58, 60].getD x1.toNatClampNeg 0) (fun q13 =>
    if r11 = (σ12.1 q13 2) then (
    some (x2, σ12)) else (
    bnd (Rp_pass 24  σ12) (fun r14 σ15 =>
    nam (x2 + (1 : Int32)) (fun y16 =>
    Mn_fits_L44 n x1 y16 σ15)))))))))
set_option maxRecDepth 100000 in
theorem wk_Mn_fits_L44 (l : Launch) : ∀ (n : Nat) (x1 x2 : Int32) (σ : St), Ux l shC 7 md_Mn_fits 44 [(0, .ref 0), (1, .int x1), (2, .int x2)] [] σ (Mn_fits_L44 n x1 x2 σ) := by
  intro n
  induction n with
  | zero => intros; exact ux_none
  | succ n ih =>
    intro x1 x2 σ
    unfold Mn_fits_L44
    refine ux_iload_n (dg hd_Mn_fits 24 rfl) rfl ?_
    refine ux_bipush (99 : Int32) (dg hd_Mn_fits 25 rfl) (by decide) ?_
    refine ux_icmp_gt 91 (dg hd_Mn_fits 26 rfl) (by decide) (fun _ => ?_) (fun _ => ?_)
    · refine ux_aload_n (dg hd_Mn_fits 48 rfl) rfl ?_
      refine ux_iconst (2 : Int32) (dg hd_Mn_fits 49 rfl) (by decide) ?_
      refine ux_callVi (As := [.int (2 : Int32)]) (sp_Mn_error l (2 : Int32) _) (by omega) cv_Mn_error wk_325 rfl rfl rfl rfl rfl (Nat.le_of_ble_eq_true rfl) (dg hd_Mn_fits 50 rfl) (fun r8 σ9 _ => ?_)
      exact ux_iret rfl (dg hd_Mn_fits 51 rfl)
    · refine ux_aload_n (dg hd_Mn_fits 27 rfl) rfl ?_
      refine ux_getr (q := 24) fcX6 1 (by decide) wk_279 rfl rfl (dg hd_Mn_fits 28 rfl) ?_
      refine ux_aload_n (dg hd_Mn_fits 29 rfl) rfl ?_
      refine ux_getr (q := 53) fcX6 8 (by decide) wk_286 rfl rfl (dg hd_Mn_fits 30 rfl) ?_
      refine ux_iload_n (dg hd_Mn_fits 31 rfl) rfl ?_
      refine ux_aald rfl (fun _ => rfl) (dg hd_Mn_fits 32 rfl) (fun q10 hq10 => ?_)
      have hq10 := mem_rw hq10
      refine ux_callVi (As := [.ref q10]) (sp_Rp_breathsRight l rp24 hq10  _) (by omega) cv_Rp_breathsRight wk_652 rfl rfl (rpO rp24) rfl rfl (Nat.le_of_ble_eq_true rfl) (dg hd_Mn_fits 33 rfl) (fun r11 σ12 _ => ?_)
      refine ux_aload_n (dg hd_Mn_fits 34 rfl) rfl ?_
      refine ux_getr (q := 53) fcX6 8 (by decide) wk_286 rfl rfl (dg hd_Mn_fits 35 rfl) ?_
      refine ux_iload_n (dg hd_Mn_fits 36 rfl) rfl ?_
      refine ux_aald rfl (fun _ => rfl) (dg hd_Mn_fits 37 rfl) (fun q13 hq13 => ?_)
      have hq13 := mem_rw hq13
      refine ux_get fcX2 2 (by decide) wk_241 (rwO hq13) rfl (dg hd_Mn_fits 38 rfl) ?_
      refine ux_icmp_ne 77 (dg hd_Mn_fits 39 rfl) (by decide) (fun _ => ?_) (fun _ => ?_)
      · refine ux_iload_n (dg hd_Mn_fits 40 rfl) rfl ?_
        exact ux_iret rfl (dg hd_Mn_fits 41 rfl)
      · refine ux_aload_n (dg hd_Mn_fits 42 rfl) rfl ?_
        refine ux_getr (q := 24) fcX6 1 (by decide) wk_279 rfl rfl (dg hd_Mn_fits 43 rfl) ?_
        refine ux_callVi (As := []) (sp_Rp_pass l rp24  _) (by omega) cv_Rp_pass wk_551 rfl rfl (rpO rp24) rfl rfl (Nat.le_of_ble_eq_true rfl) (dg hd_Mn_fits 44 rfl) (fun r14 σ15 _ => ?_)
        refine ux_pop (dg hd_Mn_fits 45 rfl) ?_
        refine ux_iincN (1 : Int32) (fun y16 => [(2, .int y16), (0, .ref 0), (1, .int x1)]) (dg hd_Mn_fits 46 rfl) rfl (by decide) (by decide) (fun _ => rfl) (fun y16 => ?_)
        refine ux_goto 44 (dg hd_Mn_fits 47 rfl) (by decide) ?_
        refine ux_wk [(0, .ref 0), (1, .int x1), (2, .int y16)] [1, 2, 0] rfl ?_
        exact ih x1 y16 σ15
def Mn_fits (p1 : Int32) (σ : St) : Option (Int32 × St) :=
  bnd (Mn_isSheet p1 σ) (fun r1 σ2 =>
  if r1 = (0 : Int32) then (
  bnd (Mn_error (1 : Int32) σ2) (fun r19 σ20 =>
  some (r19, σ20))) else (
  grd (inb p1 [54, 56, 58, 60].length) (wid ([54, 56, 58, 60].getD p1.toNatClampNeg 0) (fun q3 =>
  bnd (Rw_isMissing q3  σ2) (fun r4 σ5 =>
  if r4 = (0 : Int32) then (
  bnd (Rp_copy 24 15 σ5) (fun r6 σ7 =>
  Mn_fits_L44 1000 p1 (0 : Int32) σ7)) else (
  bnd (Mn_error (2 : Int32) σ5) (fun r17 σ18 =>
  some (r17, σ18))))))))
set_option maxRecDepth 100000 in
theorem sp_Mn_fits (l : Launch) (p1 : Int32) (σ : St) : Spc l shC 7 md_Mn_fits [.ref 0, .int p1] σ (Mn_fits p1 σ) := by
  refine Spc_of_Ux [(0, .ref 0), (1, .int p1)] (by decide) rfl (Nat.le_of_ble_eq_true rfl) ?_
  unfold Mn_fits
  refine ux_iload_n (dg hd_Mn_fits 0 rfl) rfl ?_
  refine ux_callSi (As := [.int p1]) (sp_Mn_isSheet l p1 _) (by omega) cs_Mn_isSheet wk_645 rfl rfl (Nat.le_of_ble_eq_true rfl) (dg hd_Mn_fits 1 rfl) (fun r1 σ2 _ => ?_)
  refine ux_if_ne 13 (dg hd_Mn_fits 2 rfl) (by decide) (fun _ => ?_) (fun _ => ?_)
  · refine ux_aload_n (dg hd_Mn_fits 3 rfl) rfl ?_
    refine ux_iconst (1 : Int32) (dg hd_Mn_fits 4 rfl) (by decide) ?_
    refine ux_callVi (As := [.int (1 : Int32)]) (sp_Mn_error l (1 : Int32) _) (by omega) cv_Mn_error wk_325 rfl rfl rfl rfl rfl (Nat.le_of_ble_eq_true rfl) (dg hd_Mn_fits 5 rfl) (fun r19 σ20 _ => ?_)
    exact ux_iret rfl (dg hd_Mn_fits 6 rfl)
  · refine ux_aload_n (dg hd_Mn_fits 7 rfl) rfl ?_
    refine ux_getr (q := 53) fcX6 8 (by decide) wk_286 rfl rfl (dg hd_Mn_fits 8 rfl) ?_
    refine ux_iload_n (dg hd_Mn_fits 9 rfl) rfl ?_
    refine ux_aald rfl (fun _ => rfl) (dg hd_Mn_fits 10 rfl) (fun q3 hq3 => ?_)
    have hq3 := mem_rw hq3
    refine ux_callVi (As := []) (sp_Rw_isMissing l hq3  _) (by omega) cv_Rw_isMissing wk_648 rfl rfl (rwO hq3) rfl rfl (Nat.le_of_ble_eq_true rfl) (dg hd_Mn_fits 11 rfl) (fun r4 σ5 _ => ?_)
    refine ux_if_eq 31 (dg hd_Mn_fits 12 rfl) (by decide) (fun _ => ?_) (fun _ => ?_)
    · refine ux_aload_n (dg hd_Mn_fits 17 rfl) rfl ?_
      refine ux_getr (q := 24) fcX6 1 (by decide) wk_279 rfl rfl (dg hd_Mn_fits 18 rfl) ?_
      refine ux_aload_n (dg hd_Mn_fits 19 rfl) rfl ?_
      refine ux_getr (q := 15) fcX6 0 (by decide) wk_278 rfl rfl (dg hd_Mn_fits 20 rfl) ?_
      refine ux_callVv (As := [.ref 15]) (sp_Rp_copy l rp24 rp15  _) (by omega) cv_Rp_copy wk_586 rfl rfl (rpO rp24) rfl rfl (Nat.le_of_ble_eq_true rfl) (dg hd_Mn_fits 21 rfl) (fun r6 σ7 _ => ?_)
      refine ux_iconst (0 : Int32) (dg hd_Mn_fits 22 rfl) (by decide) ?_
      refine ux_istore_n [(2, .int (0 : Int32)), (0, .ref 0), (1, .int p1)] (dg hd_Mn_fits 23 rfl) (by decide) rfl ?_
      refine ux_wk [(0, .ref 0), (1, .int p1), (2, .int (0 : Int32))] [1, 2, 0] rfl ?_
      exact wk_Mn_fits_L44 l 1000 p1 (0 : Int32) σ7
    · refine ux_aload_n (dg hd_Mn_fits 13 rfl) rfl ?_
      refine ux_iconst (2 : Int32) (dg hd_Mn_fits 14 rfl) (by decide) ?_
      refine ux_callVi (As := [.int (2 : Int32)]) (sp_Mn_error l (2 : Int32) _) (by omega) cv_Mn_error wk_325 rfl rfl rfl rfl rfl (Nat.le_of_ble_eq_true rfl) (dg hd_Mn_fits 15 rfl) (fun r17 σ18 _ => ?_)
      exact ux_iret rfl (dg hd_Mn_fits 16 rfl)
def Mn_voice (p1 : Int32) (p2 : Int32) (p3 : Int32) (σ : St) : Option (Int32 × St) :=
  bnd (Rp_has 15 p1 σ) (fun r1 σ2 =>
  if r1 = (0 : Int32) then (
  bnd (Mn_error (1 : Int32) σ2) (fun r3 σ4 =>
  some (r3, σ4))) else (
  bnd (Mn_isWithin p2 (3 : Int32) σ2) (fun r5 σ6 =>
  if r5 = (0 : Int32) then (
  bnd (Mn_error (1 : Int32) σ6) (fun r11 σ12 =>
  some (r11, σ12))) else (
  grd (inb p1 6) (
  grd (inb p1 6) (
  bnd (Th_speak (σ6.2 16 p1.toNatClampNeg) p1 (σ6.2 17 p1.toNatClampNeg) p2 p3 σ6) (fun r7 σ8 =>
  if (σ8.1 62 2) = (0 : Int32) then (
  some (r7, σ8)) else (
  bnd (Mn_error (6 : Int32) σ8) (fun r9 σ10 =>
  some (r9, σ10))))))))))
set_option maxRecDepth 100000 in
theorem sp_Mn_voice (l : Launch) (p1 : Int32) (p2 : Int32) (p3 : Int32) (σ : St) : Spc l shC 66 md_Mn_voice [.ref 0, .int p1, .int p2, .int p3] σ (Mn_voice p1 p2 p3 σ) := by
  refine Spc_of_Ux [(0, .ref 0), (1, .int p1), (2, .int p2), (3, .int p3)] (by decide) rfl (Nat.le_of_ble_eq_true rfl) ?_
  unfold Mn_voice
  refine ux_aload_n (dg hd_Mn_voice 0 rfl) rfl ?_
  refine ux_getr (q := 15) fcX6 0 (by decide) wk_278 rfl rfl (dg hd_Mn_voice 1 rfl) ?_
  refine ux_iload_n (dg hd_Mn_voice 2 rfl) rfl ?_
  refine ux_callVi (As := [.int p1]) (sp_Rp_has l rp15 p1 _) (by omega) cv_Rp_has wk_342 rfl rfl (rpO rp15) rfl rfl (Nat.le_of_ble_eq_true rfl) (dg hd_Mn_voice 3 rfl) (fun r1 σ2 _ => ?_)
  refine ux_if_eq 19 (dg hd_Mn_voice 4 rfl) (by decide) (fun _ => ?_) (fun _ => ?_)
  · refine ux_aload_n (dg hd_Mn_voice 9 rfl) rfl ?_
    refine ux_iconst (1 : Int32) (dg hd_Mn_voice 10 rfl) (by decide) ?_
    refine ux_callVi (As := [.int (1 : Int32)]) (sp_Mn_error l (1 : Int32) _) (by omega) cv_Mn_error wk_325 rfl rfl rfl rfl rfl (Nat.le_of_ble_eq_true rfl) (dg hd_Mn_voice 11 rfl) (fun r3 σ4 _ => ?_)
    exact ux_iret rfl (dg hd_Mn_voice 12 rfl)
  · refine ux_iload_n (dg hd_Mn_voice 5 rfl) rfl ?_
    refine ux_iconst (3 : Int32) (dg hd_Mn_voice 6 rfl) (by decide) ?_
    refine ux_callSi (As := [.int p2, .int (3 : Int32)]) (sp_Mn_isWithin l p2 (3 : Int32) _) (by omega) cs_Mn_isWithin wk_322 rfl rfl (Nat.le_of_ble_eq_true rfl) (dg hd_Mn_voice 7 rfl) (fun r5 σ6 _ => ?_)
    refine ux_if_ne 25 (dg hd_Mn_voice 8 rfl) (by decide) (fun _ => ?_) (fun _ => ?_)
    · refine ux_aload_n (dg hd_Mn_voice 9 rfl) rfl ?_
      refine ux_iconst (1 : Int32) (dg hd_Mn_voice 10 rfl) (by decide) ?_
      refine ux_callVi (As := [.int (1 : Int32)]) (sp_Mn_error l (1 : Int32) _) (by omega) cv_Mn_error wk_325 rfl rfl rfl rfl rfl (Nat.le_of_ble_eq_true rfl) (dg hd_Mn_voice 11 rfl) (fun r11 σ12 _ => ?_)
      exact ux_iret rfl (dg hd_Mn_voice 12 rfl)
    · refine ux_aload_n (dg hd_Mn_voice 13 rfl) rfl ?_
      refine ux_getr (q := 62) fcX6 9 (by decide) wk_287 rfl rfl (dg hd_Mn_voice 14 rfl) ?_
      refine ux_aload_n (dg hd_Mn_voice 15 rfl) rfl ?_
      refine ux_getr (q := 15) fcX6 0 (by decide) wk_278 rfl rfl (dg hd_Mn_voice 16 rfl) ?_
      refine ux_getr (q := 16) fcX1 1 (by decide) wk_125 (rpO rp15) rfl (dg hd_Mn_voice 17 rfl) ?_
      refine ux_iload_n (dg hd_Mn_voice 18 rfl) rfl ?_
      refine ux_iald (rpA1 rp15) (dg hd_Mn_voice 19 rfl) ?_
      refine ux_iload_n (dg hd_Mn_voice 20 rfl) rfl ?_
      refine ux_aload_n (dg hd_Mn_voice 21 rfl) rfl ?_
      refine ux_getr (q := 15) fcX6 0 (by decide) wk_278 rfl rfl (dg hd_Mn_voice 22 rfl) ?_
      refine ux_getr (q := 17) fcX1 2 (by decide) wk_127 (rpO rp15) rfl (dg hd_Mn_voice 23 rfl) ?_
      refine ux_iload_n (dg hd_Mn_voice 24 rfl) rfl ?_
      refine ux_iald (rpA2 rp15) (dg hd_Mn_voice 25 rfl) ?_
      refine ux_iload_n (dg hd_Mn_voice 26 rfl) rfl ?_
      refine ux_iload_n (dg hd_Mn_voice 27 rfl) rfl ?_
      refine ux_callVi (As := [.int (σ6.2 16 p1.toNatClampNeg), .int p1, .int (σ6.2 17 p1.toNatClampNeg), .int p2, .int p3]) (sp_Th_speak l (σ6.2 16 p1.toNatClampNeg) p1 (σ6.2 17 p1.toNatClampNeg) p2 p3 _) (by omega) cv_Th_speak wk_660 rfl rfl rfl rfl rfl (Nat.le_of_ble_eq_true rfl) (dg hd_Mn_voice 28 rfl) (fun r7 σ8 _ => ?_)
      refine ux_istore [(4, .int r7), (0, .ref 0), (1, .int p1), (2, .int p2), (3, .int p3)] (dg hd_Mn_voice 29 rfl) (by decide) rfl ?_
      refine ux_aload_n (dg hd_Mn_voice 30 rfl) rfl ?_
      refine ux_getr (q := 62) fcX6 9 (by decide) wk_287 rfl rfl (dg hd_Mn_voice 31 rfl) ?_
      refine ux_get fcX5 2 (by decide) wk_261 rfl rfl (dg hd_Mn_voice 32 rfl) ?_
      refine ux_if_eq 74 (dg hd_Mn_voice 33 rfl) (by decide) (fun _ => ?_) (fun _ => ?_)
      · refine ux_iload (dg hd_Mn_voice 38 rfl) rfl ?_
        exact ux_iret rfl (dg hd_Mn_voice 39 rfl)
      · refine ux_aload_n (dg hd_Mn_voice 34 rfl) rfl ?_
        refine ux_bipush (6 : Int32) (dg hd_Mn_voice 35 rfl) (by decide) ?_
        refine ux_callVi (As := [.int (6 : Int32)]) (sp_Mn_error l (6 : Int32) _) (by omega) cv_Mn_error wk_325 rfl rfl rfl rfl rfl (Nat.le_of_ble_eq_true rfl) (dg hd_Mn_voice 36 rfl) (fun r9 σ10 _ => ?_)
        refine ux_goto 76 (dg hd_Mn_voice 37 rfl) (by decide) ?_
        exact ux_iret rfl (dg hd_Mn_voice 39 rfl)
def Mn_body (p1 : Int32) (σ : St) : Option (Int32 × St) :=
  if p1 < (0 : Int32) then (
  bnd (Mn_error (2 : Int32) σ) (fun r1 σ2 =>
  some (r1, σ2))) else (
  if (σ.1 62 1) ≤ p1 then (
  bnd (Mn_error (2 : Int32) σ) (fun r3 σ4 =>
  some (r3, σ4))) else (
  grd (inb p1 30) (
  some ((σ.2 63 p1.toNatClampNeg), σ))))
set_option maxRecDepth 100000 in
theorem sp_Mn_body (l : Launch) (p1 : Int32) (σ : St) : Spc l shC 3 md_Mn_body [.ref 0, .int p1] σ (Mn_body p1 σ) := by
  refine Spc_of_Ux [(0, .ref 0), (1, .int p1)] (by decide) rfl (Nat.le_of_ble_eq_true rfl) ?_
  unfold Mn_body
  refine ux_iload_n (dg hd_Mn_body 0 rfl) rfl ?_
  refine ux_if_lt 27 (dg hd_Mn_body 1 rfl) (by decide) (fun _ => ?_) (fun _ => ?_)
  · refine ux_aload_n (dg hd_Mn_body 13 rfl) rfl ?_
    refine ux_iconst (2 : Int32) (dg hd_Mn_body 14 rfl) (by decide) ?_
    refine ux_callVi (As := [.int (2 : Int32)]) (sp_Mn_error l (2 : Int32) _) (by omega) cv_Mn_error wk_325 rfl rfl rfl rfl rfl (Nat.le_of_ble_eq_true rfl) (dg hd_Mn_body 15 rfl) (fun r1 σ2 _ => ?_)
    exact ux_iret rfl (dg hd_Mn_body 16 rfl)
  · refine ux_iload_n (dg hd_Mn_body 2 rfl) rfl ?_
    refine ux_aload_n (dg hd_Mn_body 3 rfl) rfl ?_
    refine ux_getr (q := 62) fcX6 9 (by decide) wk_287 rfl rfl (dg hd_Mn_body 4 rfl) ?_
    refine ux_get fcX5 1 (by decide) wk_259 rfl rfl (dg hd_Mn_body 5 rfl) ?_
    refine ux_icmp_ge 27 (dg hd_Mn_body 6 rfl) (by decide) (fun _ => ?_) (fun _ => ?_)
    · refine ux_aload_n (dg hd_Mn_body 13 rfl) rfl ?_
      refine ux_iconst (2 : Int32) (dg hd_Mn_body 14 rfl) (by decide) ?_
      refine ux_callVi (As := [.int (2 : Int32)]) (sp_Mn_error l (2 : Int32) _) (by omega) cv_Mn_error wk_325 rfl rfl rfl rfl rfl (Nat.le_of_ble_eq_true rfl) (dg hd_Mn_body 15 rfl) (fun r3 σ4 _ => ?_)
      exact ux_iret rfl (dg hd_Mn_body 16 rfl)
    · refine ux_aload_n (dg hd_Mn_body 7 rfl) rfl ?_
      refine ux_getr (q := 62) fcX6 9 (by decide) wk_287 rfl rfl (dg hd_Mn_body 8 rfl) ?_
      refine ux_getr (q := 63) fcX5 0 (by decide) wk_257 rfl rfl (dg hd_Mn_body 9 rfl) ?_
      refine ux_iload_n (dg hd_Mn_body 10 rfl) rfl ?_
      refine ux_iald rfl (dg hd_Mn_body 11 rfl) ?_
      refine ux_goto 32 (dg hd_Mn_body 12 rfl) (by decide) ?_
      exact ux_iret rfl (dg hd_Mn_body 16 rfl)
def Mn_sheet (p1 : Int32) (p2 : Int32) (p3 : Int32) (σ : St) : Option (Int32 × St) :=
  bnd (Mn_isSheet p1 σ) (fun r1 σ2 =>
  if r1 = (0 : Int32) then (
  bnd (Mn_error (1 : Int32) σ2) (fun r3 σ4 =>
  some (r3, σ4))) else (
  bnd (Mn_isBits p2 σ2) (fun r5 σ6 =>
  if r5 = (0 : Int32) then (
  bnd (Mn_error (1 : Int32) σ6) (fun r33 σ34 =>
  some (r33, σ34))) else (
  if p2 = (0 : Int32) then (
  if p2 = (0 : Int32) then (
  grd (inb p1 [54, 56, 58, 60].length) (wid ([54, 56, 58, 60].getD p1.toNatClampNeg 0) (fun q7 =>
  if p2 = (0 : Int32) then (
  bnd (Rw_begin q7 p2 (0 : Int32) σ6) (fun r10 σ11 =>
  some ((1 : Int32), σ11))) else (
  bnd (Rw_begin q7 p2 p3 σ6) (fun r8 σ9 =>
  some ((1 : Int32), σ9)))))) else (
  if p3 ≤ (24 : Int32) then (
  grd (inb p1 [54, 56, 58, 60].length) (wid ([54, 56, 58, 60].getD p1.toNatClampNeg 0) (fun q12 =>
  if p2 = (0 : Int32) then (
  bnd (Rw_begin q12 p2 (0 : Int32) σ6) (fun r15 σ16 =>
  some ((1 : Int32), σ16))) else (
  bnd (Rw_begin q12 p2 p3 σ6) (fun r13 σ14 =>
  some ((1 : Int32), σ14)))))) else (
  bnd (Mn_error (1 : Int32) σ6) (fun r17 σ18 =>
  some (r17, σ18))))) else (
  if (0 : Int32) ≤ p3 then (
  if p2 = (0 : Int32) then (
  grd (inb p1 [54, 56, 58, 60].length) (wid ([54, 56, 58, 60].getD p1.toNatClampNeg 0) (fun q19 =>
  if p2 = (0 : Int32) then (
  bnd (Rw_begin q19 p2 (0 : Int32) σ6) (fun r22 σ23 =>
  some ((1 : Int32), σ23))) else (
  bnd (Rw_begin q19 p2 p3 σ6) (fun r20 σ21 =>
  some ((1 : Int32), σ21)))))) else (
  if p3 ≤ (24 : Int32) then (
  grd (inb p1 [54, 56, 58, 60].length) (wid ([54, 56, 58, 60].getD p1.toNatClampNeg 0) (fun q24 =>
  if p2 = (0 : Int32) then (
  bnd (Rw_begin q24 p2 (0 : Int32) σ6) (fun r27 σ28 =>
  some ((1 : Int32), σ28))) else (
  bnd (Rw_begin q24 p2 p3 σ6) (fun r25 σ26 =>
  some ((1 : Int32), σ26)))))) else (
  bnd (Mn_error (1 : Int32) σ6) (fun r29 σ30 =>
  some (r29, σ30))))) else (
  bnd (Mn_error (3 : Int32) σ6) (fun r31 σ32 =>
  some (r31, σ32))))))))
set_option maxRecDepth 100000 in
theorem sp_Mn_sheet (l : Launch) (p1 : Int32) (p2 : Int32) (p3 : Int32) (σ : St) : Spc l shC 4 md_Mn_sheet [.ref 0, .int p1, .int p2, .int p3] σ (Mn_sheet p1 p2 p3 σ) := by
  refine Spc_of_Ux [(0, .ref 0), (1, .int p1), (2, .int p2), (3, .int p3)] (by decide) rfl (Nat.le_of_ble_eq_true rfl) ?_
  unfold Mn_sheet
  refine ux_iload_n (dg hd_Mn_sheet 0 rfl) rfl ?_
  refine ux_callSi (As := [.int p1]) (sp_Mn_isSheet l p1 _) (by omega) cs_Mn_isSheet wk_645 rfl rfl (Nat.le_of_ble_eq_true rfl) (dg hd_Mn_sheet 1 rfl) (fun r1 σ2 _ => ?_)
  refine ux_if_eq 14 (dg hd_Mn_sheet 2 rfl) (by decide) (fun _ => ?_) (fun _ => ?_)
  · refine ux_aload_n (dg hd_Mn_sheet 6 rfl) rfl ?_
    refine ux_iconst (1 : Int32) (dg hd_Mn_sheet 7 rfl) (by decide) ?_
    refine ux_callVi (As := [.int (1 : Int32)]) (sp_Mn_error l (1 : Int32) _) (by omega) cv_Mn_error wk_325 rfl rfl rfl rfl rfl (Nat.le_of_ble_eq_true rfl) (dg hd_Mn_sheet 8 rfl) (fun r3 σ4 _ => ?_)
    exact ux_iret rfl (dg hd_Mn_sheet 9 rfl)
  · refine ux_iload_n (dg hd_Mn_sheet 3 rfl) rfl ?_
    refine ux_callSi (As := [.int p2]) (sp_Mn_isBits l p2 _) (by omega) cs_Mn_isBits wk_691 rfl rfl (Nat.le_of_ble_eq_true rfl) (dg hd_Mn_sheet 4 rfl) (fun r5 σ6 _ => ?_)
    refine ux_if_ne 20 (dg hd_Mn_sheet 5 rfl) (by decide) (fun _ => ?_) (fun _ => ?_)
    · refine ux_aload_n (dg hd_Mn_sheet 6 rfl) rfl ?_
      refine ux_iconst (1 : Int32) (dg hd_Mn_sheet 7 rfl) (by decide) ?_
      refine ux_callVi (As := [.int (1 : Int32)]) (sp_Mn_error l (1 : Int32) _) (by omega) cv_Mn_error wk_325 rfl rfl rfl rfl rfl (Nat.le_of_ble_eq_true rfl) (dg hd_Mn_sheet 8 rfl) (fun r33 σ34 _ => ?_)
      exact ux_iret rfl (dg hd_Mn_sheet 9 rfl)
    · refine ux_iload_n (dg hd_Mn_sheet 10 rfl) rfl ?_
      refine ux_if_eq 34 (dg hd_Mn_sheet 11 rfl) (by decide) (fun _ => ?_) (fun _ => ?_)
      · refine ux_iload_n (dg hd_Mn_sheet 18 rfl) rfl ?_
        refine ux_if_eq 50 (dg hd_Mn_sheet 19 rfl) (by decide) (fun _ => ?_) (fun _ => ?_)
        · refine ux_aload_n (dg hd_Mn_sheet 27 rfl) rfl ?_
          refine ux_getr (q := 53) fcX6 8 (by decide) wk_286 rfl rfl (dg hd_Mn_sheet 28 rfl) ?_
          refine ux_iload_n (dg hd_Mn_sheet 29 rfl) rfl ?_
          refine ux_aald rfl (fun _ => rfl) (dg hd_Mn_sheet 30 rfl) (fun q7 hq7 => ?_)
          have hq7 := mem_rw hq7
          refine ux_iload_n (dg hd_Mn_sheet 31 rfl) rfl ?_
          refine ux_iload_n (dg hd_Mn_sheet 32 rfl) rfl ?_
          refine ux_if_ne 65 (dg hd_Mn_sheet 33 rfl) (by decide) (fun _ => ?_) (fun _ => ?_)
          · refine ux_iconst (0 : Int32) (dg hd_Mn_sheet 34 rfl) (by decide) ?_
            refine ux_goto 66 (dg hd_Mn_sheet 35 rfl) (by decide) ?_
            refine ux_callVv (As := [.int p2, .int (0 : Int32)]) (sp_Rw_begin l hq7 p2 (0 : Int32) _) (by omega) cv_Rw_begin wk_694 rfl rfl (rwO hq7) rfl rfl (Nat.le_of_ble_eq_true rfl) (dg hd_Mn_sheet 37 rfl) (fun r10 σ11 _ => ?_)
            refine ux_iconst (1 : Int32) (dg hd_Mn_sheet 38 rfl) (by decide) ?_
            exact ux_iret rfl (dg hd_Mn_sheet 39 rfl)
          · refine ux_iload_n (dg hd_Mn_sheet 36 rfl) rfl ?_
            refine ux_callVv (As := [.int p2, .int p3]) (sp_Rw_begin l hq7 p2 p3 _) (by omega) cv_Rw_begin wk_694 rfl rfl (rwO hq7) rfl rfl (Nat.le_of_ble_eq_true rfl) (dg hd_Mn_sheet 37 rfl) (fun r8 σ9 _ => ?_)
            refine ux_iconst (1 : Int32) (dg hd_Mn_sheet 38 rfl) (by decide) ?_
            exact ux_iret rfl (dg hd_Mn_sheet 39 rfl)
        · refine ux_iload_n (dg hd_Mn_sheet 20 rfl) rfl ?_
          refine ux_bipush (24 : Int32) (dg hd_Mn_sheet 21 rfl) (by decide) ?_
          refine ux_icmp_le 50 (dg hd_Mn_sheet 22 rfl) (by decide) (fun _ => ?_) (fun _ => ?_)
          · refine ux_aload_n (dg hd_Mn_sheet 27 rfl) rfl ?_
            refine ux_getr (q := 53) fcX6 8 (by decide) wk_286 rfl rfl (dg hd_Mn_sheet 28 rfl) ?_
            refine ux_iload_n (dg hd_Mn_sheet 29 rfl) rfl ?_
            refine ux_aald rfl (fun _ => rfl) (dg hd_Mn_sheet 30 rfl) (fun q12 hq12 => ?_)
            have hq12 := mem_rw hq12
            refine ux_iload_n (dg hd_Mn_sheet 31 rfl) rfl ?_
            refine ux_iload_n (dg hd_Mn_sheet 32 rfl) rfl ?_
            refine ux_if_ne 65 (dg hd_Mn_sheet 33 rfl) (by decide) (fun _ => ?_) (fun _ => ?_)
            · refine ux_iconst (0 : Int32) (dg hd_Mn_sheet 34 rfl) (by decide) ?_
              refine ux_goto 66 (dg hd_Mn_sheet 35 rfl) (by decide) ?_
              refine ux_callVv (As := [.int p2, .int (0 : Int32)]) (sp_Rw_begin l hq12 p2 (0 : Int32) _) (by omega) cv_Rw_begin wk_694 rfl rfl (rwO hq12) rfl rfl (Nat.le_of_ble_eq_true rfl) (dg hd_Mn_sheet 37 rfl) (fun r15 σ16 _ => ?_)
              refine ux_iconst (1 : Int32) (dg hd_Mn_sheet 38 rfl) (by decide) ?_
              exact ux_iret rfl (dg hd_Mn_sheet 39 rfl)
            · refine ux_iload_n (dg hd_Mn_sheet 36 rfl) rfl ?_
              refine ux_callVv (As := [.int p2, .int p3]) (sp_Rw_begin l hq12 p2 p3 _) (by omega) cv_Rw_begin wk_694 rfl rfl (rwO hq12) rfl rfl (Nat.le_of_ble_eq_true rfl) (dg hd_Mn_sheet 37 rfl) (fun r13 σ14 _ => ?_)
              refine ux_iconst (1 : Int32) (dg hd_Mn_sheet 38 rfl) (by decide) ?_
              exact ux_iret rfl (dg hd_Mn_sheet 39 rfl)
          · refine ux_aload_n (dg hd_Mn_sheet 23 rfl) rfl ?_
            refine ux_iconst (1 : Int32) (dg hd_Mn_sheet 24 rfl) (by decide) ?_
            refine ux_callVi (As := [.int (1 : Int32)]) (sp_Mn_error l (1 : Int32) _) (by omega) cv_Mn_error wk_325 rfl rfl rfl rfl rfl (Nat.le_of_ble_eq_true rfl) (dg hd_Mn_sheet 25 rfl) (fun r17 σ18 _ => ?_)
            exact ux_iret rfl (dg hd_Mn_sheet 26 rfl)
      · refine ux_iload_n (dg hd_Mn_sheet 12 rfl) rfl ?_
        refine ux_if_ge 34 (dg hd_Mn_sheet 13 rfl) (by decide) (fun _ => ?_) (fun _ => ?_)
        · refine ux_iload_n (dg hd_Mn_sheet 18 rfl) rfl ?_
          refine ux_if_eq 50 (dg hd_Mn_sheet 19 rfl) (by decide) (fun _ => ?_) (fun _ => ?_)
          · refine ux_aload_n (dg hd_Mn_sheet 27 rfl) rfl ?_
            refine ux_getr (q := 53) fcX6 8 (by decide) wk_286 rfl rfl (dg hd_Mn_sheet 28 rfl) ?_
            refine ux_iload_n (dg hd_Mn_sheet 29 rfl) rfl ?_
            refine ux_aald rfl (fun _ => rfl) (dg hd_Mn_sheet 30 rfl) (fun q19 hq19 => ?_)
            have hq19 := mem_rw hq19
            refine ux_iload_n (dg hd_Mn_sheet 31 rfl) rfl ?_
            refine ux_iload_n (dg hd_Mn_sheet 32 rfl) rfl ?_
            refine ux_if_ne 65 (dg hd_Mn_sheet 33 rfl) (by decide) (fun _ => ?_) (fun _ => ?_)
            · refine ux_iconst (0 : Int32) (dg hd_Mn_sheet 34 rfl) (by decide) ?_
              refine ux_goto 66 (dg hd_Mn_sheet 35 rfl) (by decide) ?_
              refine ux_callVv (As := [.int p2, .int (0 : Int32)]) (sp_Rw_begin l hq19 p2 (0 : Int32) _) (by omega) cv_Rw_begin wk_694 rfl rfl (rwO hq19) rfl rfl (Nat.le_of_ble_eq_true rfl) (dg hd_Mn_sheet 37 rfl) (fun r22 σ23 _ => ?_)
              refine ux_iconst (1 : Int32) (dg hd_Mn_sheet 38 rfl) (by decide) ?_
              exact ux_iret rfl (dg hd_Mn_sheet 39 rfl)
            · refine ux_iload_n (dg hd_Mn_sheet 36 rfl) rfl ?_
              refine ux_callVv (As := [.int p2, .int p3]) (sp_Rw_begin l hq19 p2 p3 _) (by omega) cv_Rw_begin wk_694 rfl rfl (rwO hq19) rfl rfl (Nat.le_of_ble_eq_true rfl) (dg hd_Mn_sheet 37 rfl) (fun r20 σ21 _ => ?_)
              refine ux_iconst (1 : Int32) (dg hd_Mn_sheet 38 rfl) (by decide) ?_
              exact ux_iret rfl (dg hd_Mn_sheet 39 rfl)
          · refine ux_iload_n (dg hd_Mn_sheet 20 rfl) rfl ?_
            refine ux_bipush (24 : Int32) (dg hd_Mn_sheet 21 rfl) (by decide) ?_
            refine ux_icmp_le 50 (dg hd_Mn_sheet 22 rfl) (by decide) (fun _ => ?_) (fun _ => ?_)
            · refine ux_aload_n (dg hd_Mn_sheet 27 rfl) rfl ?_
              refine ux_getr (q := 53) fcX6 8 (by decide) wk_286 rfl rfl (dg hd_Mn_sheet 28 rfl) ?_
              refine ux_iload_n (dg hd_Mn_sheet 29 rfl) rfl ?_
              refine ux_aald rfl (fun _ => rfl) (dg hd_Mn_sheet 30 rfl) (fun q24 hq24 => ?_)
              have hq24 := mem_rw hq24
              refine ux_iload_n (dg hd_Mn_sheet 31 rfl) rfl ?_
              refine ux_iload_n (dg hd_Mn_sheet 32 rfl) rfl ?_
              refine ux_if_ne 65 (dg hd_Mn_sheet 33 rfl) (by decide) (fun _ => ?_) (fun _ => ?_)
              · refine ux_iconst (0 : Int32) (dg hd_Mn_sheet 34 rfl) (by decide) ?_
                refine ux_goto 66 (dg hd_Mn_sheet 35 rfl) (by decide) ?_
                refine ux_callVv (As := [.int p2, .int (0 : Int32)]) (sp_Rw_begin l hq24 p2 (0 : Int32) _) (by omega) cv_Rw_begin wk_694 rfl rfl (rwO hq24) rfl rfl (Nat.le_of_ble_eq_true rfl) (dg hd_Mn_sheet 37 rfl) (fun r27 σ28 _ => ?_)
                refine ux_iconst (1 : Int32) (dg hd_Mn_sheet 38 rfl) (by decide) ?_
                exact ux_iret rfl (dg hd_Mn_sheet 39 rfl)
              · refine ux_iload_n (dg hd_Mn_sheet 36 rfl) rfl ?_
                refine ux_callVv (As := [.int p2, .int p3]) (sp_Rw_begin l hq24 p2 p3 _) (by omega) cv_Rw_begin wk_694 rfl rfl (rwO hq24) rfl rfl (Nat.le_of_ble_eq_true rfl) (dg hd_Mn_sheet 37 rfl) (fun r25 σ26 _ => ?_)
                refine ux_iconst (1 : Int32) (dg hd_Mn_sheet 38 rfl) (by decide) ?_
                exact ux_iret rfl (dg hd_Mn_sheet 39 rfl)
            · refine ux_aload_n (dg hd_Mn_sheet 23 rfl) rfl ?_
              refine ux_iconst (1 : Int32) (dg hd_Mn_sheet 24 rfl) (by decide) ?_
              refine ux_callVi (As := [.int (1 : Int32)]) (sp_Mn_error l (1 : Int32) _) (by omega) cv_Mn_error wk_325 rfl rfl rfl rfl rfl (Nat.le_of_ble_eq_true rfl) (dg hd_Mn_sheet 25 rfl) (fun r29 σ30 _ => ?_)
              exact ux_iret rfl (dg hd_Mn_sheet 26 rfl)
        · refine ux_aload_n (dg hd_Mn_sheet 14 rfl) rfl ?_
          refine ux_iconst (3 : Int32) (dg hd_Mn_sheet 15 rfl) (by decide) ?_
          refine ux_callVi (As := [.int (3 : Int32)]) (sp_Mn_error l (3 : Int32) _) (by omega) cv_Mn_error wk_325 rfl rfl rfl rfl rfl (Nat.le_of_ble_eq_true rfl) (dg hd_Mn_sheet 16 rfl) (fun r31 σ32 _ => ?_)
          exact ux_iret rfl (dg hd_Mn_sheet 17 rfl)
def Mn_put (p1 : Int32) (p2 : Int32) (p3 : Int32) (σ : St) : Option (Int32 × St) :=
  bnd (Mn_isSheet p1 σ) (fun r1 σ2 =>
  if r1 = (0 : Int32) then (
  bnd (Mn_error (1 : Int32) σ2) (fun r18 σ19 =>
  some (r18, σ19))) else (
  grd (inb p1 [54, 56, 58, 60].length) (wid ([54, 56, 58, 60].getD p1.toNatClampNeg 0) (fun q3 =>
  bnd (Rw_isMissing q3  σ2) (fun r4 σ5 =>
  if r4 = (0 : Int32) then (
  if p2 < (0 : Int32) then (
  bnd (Mn_error (1 : Int32) σ5) (fun r6 σ7 =>
  some (r6, σ7))) else (
  grd (inb p1 [54, 56, 58, 60].length) (wid ([54, 56, 58, 60].getD p1.toNatClampNeg 0) (fun q8 =>
  if p2 < (σ5.1 q8 2) then (
  grd (inb p1 [54, 56, 58, 60].length) (wid ([54, 56, 58, 60].getD p1.toNatClampNeg 0) (fun q9 =>
  grd (inb p1 [54, 56, 58, 60].length) (wid ([54, 56, 58, 60].getD p1.toNatClampNeg 0) (fun q10 =>
  bnd (Rw_lowest q10 p3 σ5) (fun r11 σ12 =>
  grd (inb p2 24) (
  nas (sA σ12 (q9 + 1) p2.toNatClampNeg r11) (fun σ13 =>
  some ((1 : Int32), σ13))))))))) else (
  bnd (Mn_error (1 : Int32) σ5) (fun r14 σ15 =>
  some (r14, σ15))))))) else (
  bnd (Mn_error (2 : Int32) σ5) (fun r16 σ17 =>
  some (r16, σ17))))))))
set_option maxRecDepth 100000 in
theorem sp_Mn_put (l : Launch) (p1 : Int32) (p2 : Int32) (p3 : Int32) (σ : St) : Spc l shC 4 md_Mn_put [.ref 0, .int p1, .int p2, .int p3] σ (Mn_put p1 p2 p3 σ) := by
  refine Spc_of_Ux [(0, .ref 0), (1, .int p1), (2, .int p2), (3, .int p3)] (by decide) rfl (Nat.le_of_ble_eq_true rfl) ?_
  unfold Mn_put
  refine ux_iload_n (dg hd_Mn_put 0 rfl) rfl ?_
  refine ux_callSi (As := [.int p1]) (sp_Mn_isSheet l p1 _) (by omega) cs_Mn_isSheet wk_645 rfl rfl (Nat.le_of_ble_eq_true rfl) (dg hd_Mn_put 1 rfl) (fun r1 σ2 _ => ?_)
  refine ux_if_ne 13 (dg hd_Mn_put 2 rfl) (by decide) (fun _ => ?_) (fun _ => ?_)
  · refine ux_aload_n (dg hd_Mn_put 3 rfl) rfl ?_
    refine ux_iconst (1 : Int32) (dg hd_Mn_put 4 rfl) (by decide) ?_
    refine ux_callVi (As := [.int (1 : Int32)]) (sp_Mn_error l (1 : Int32) _) (by omega) cv_Mn_error wk_325 rfl rfl rfl rfl rfl (Nat.le_of_ble_eq_true rfl) (dg hd_Mn_put 5 rfl) (fun r18 σ19 _ => ?_)
    exact ux_iret rfl (dg hd_Mn_put 6 rfl)
  · refine ux_aload_n (dg hd_Mn_put 7 rfl) rfl ?_
    refine ux_getr (q := 53) fcX6 8 (by decide) wk_286 rfl rfl (dg hd_Mn_put 8 rfl) ?_
    refine ux_iload_n (dg hd_Mn_put 9 rfl) rfl ?_
    refine ux_aald rfl (fun _ => rfl) (dg hd_Mn_put 10 rfl) (fun q3 hq3 => ?_)
    have hq3 := mem_rw hq3
    refine ux_callVi (As := []) (sp_Rw_isMissing l hq3  _) (by omega) cv_Rw_isMissing wk_648 rfl rfl (rwO hq3) rfl rfl (Nat.le_of_ble_eq_true rfl) (dg hd_Mn_put 11 rfl) (fun r4 σ5 _ => ?_)
    refine ux_if_eq 31 (dg hd_Mn_put 12 rfl) (by decide) (fun _ => ?_) (fun _ => ?_)
    · refine ux_iload_n (dg hd_Mn_put 17 rfl) rfl ?_
      refine ux_if_lt 48 (dg hd_Mn_put 18 rfl) (by decide) (fun _ => ?_) (fun _ => ?_)
      · refine ux_aload_n (dg hd_Mn_put 26 rfl) rfl ?_
        refine ux_iconst (1 : Int32) (dg hd_Mn_put 27 rfl) (by decide) ?_
        refine ux_callVi (As := [.int (1 : Int32)]) (sp_Mn_error l (1 : Int32) _) (by omega) cv_Mn_error wk_325 rfl rfl rfl rfl rfl (Nat.le_of_ble_eq_true rfl) (dg hd_Mn_put 28 rfl) (fun r6 σ7 _ => ?_)
        exact ux_iret rfl (dg hd_Mn_put 29 rfl)
      · refine ux_iload_n (dg hd_Mn_put 19 rfl) rfl ?_
        refine ux_aload_n (dg hd_Mn_put 20 rfl) rfl ?_
        refine ux_getr (q := 53) fcX6 8 (by decide) wk_286 rfl rfl (dg hd_Mn_put 21 rfl) ?_
        refine ux_iload_n (dg hd_Mn_put 22 rfl) rfl ?_
        refine ux_aald rfl (fun _ => rfl) (dg hd_Mn_put 23 rfl) (fun q8 hq8 => ?_)
        have hq8 := mem_rw hq8
        refine ux_get fcX2 2 (by decide) wk_241 (rwO hq8) rfl (dg hd_Mn_put 24 rfl) ?_
        refine ux_icmp_lt 54 (dg hd_Mn_put 25 rfl) (by decide) (fun _ => ?_) (fun _ => ?_)
        · refine ux_aload_n (dg hd_Mn_put 30 rfl) rfl ?_
          refine ux_getr (q := 53) fcX6 8 (by decide) wk_286 rfl rfl (dg hd_Mn_put 31 rfl) ?_
          refine ux_iload_n (dg hd_Mn_put 32 rfl) rfl ?_
          refine ux_aald rfl (fun _ => rfl) (dg hd_Mn_put 33 rfl) (fun q9 hq9 => ?_)
          have hq9 := mem_rw hq9
          refine ux_getr (q := (q9 + 1)) fcX2 0 (by decide) wk_236 (rwO hq9) rfl (dg hd_Mn_put 34 rfl) ?_
          refine ux_iload_n (dg hd_Mn_put 35 rfl) rfl ?_
          refine ux_aload_n (dg hd_Mn_put 36 rfl) rfl ?_
          refine ux_getr (q := 53) fcX6 8 (by decide) wk_286 rfl rfl (dg hd_Mn_put 37 rfl) ?_
          refine ux_iload_n (dg hd_Mn_put 38 rfl) rfl ?_
          refine ux_aald rfl (fun _ => rfl) (dg hd_Mn_put 39 rfl) (fun q10 hq10 => ?_)
          have hq10 := mem_rw hq10
          refine ux_iload_n (dg hd_Mn_put 40 rfl) rfl ?_
          refine ux_callVi (As := [.int p3]) (sp_Rw_lowest l hq10 p3 _) (by omega) cv_Rw_lowest wk_702 rfl rfl (rwO hq10) rfl rfl (Nat.le_of_ble_eq_true rfl) (dg hd_Mn_put 41 rfl) (fun r11 σ12 _ => ?_)
          refine ux_iast (rwA hq9) (dg hd_Mn_put 42 rfl) ?_
          refine ux_nas (fun σ13 => ?_)
          refine ux_iconst (1 : Int32) (dg hd_Mn_put 43 rfl) (by decide) ?_
          exact ux_iret rfl (dg hd_Mn_put 44 rfl)
        · refine ux_aload_n (dg hd_Mn_put 26 rfl) rfl ?_
          refine ux_iconst (1 : Int32) (dg hd_Mn_put 27 rfl) (by decide) ?_
          refine ux_callVi (As := [.int (1 : Int32)]) (sp_Mn_error l (1 : Int32) _) (by omega) cv_Mn_error wk_325 rfl rfl rfl rfl rfl (Nat.le_of_ble_eq_true rfl) (dg hd_Mn_put 28 rfl) (fun r14 σ15 _ => ?_)
          exact ux_iret rfl (dg hd_Mn_put 29 rfl)
    · refine ux_aload_n (dg hd_Mn_put 13 rfl) rfl ?_
      refine ux_iconst (2 : Int32) (dg hd_Mn_put 14 rfl) (by decide) ?_
      refine ux_callVi (As := [.int (2 : Int32)]) (sp_Mn_error l (2 : Int32) _) (by omega) cv_Mn_error wk_325 rfl rfl rfl rfl rfl (Nat.le_of_ble_eq_true rfl) (dg hd_Mn_put 15 rfl) (fun r16 σ17 _ => ?_)
      exact ux_iret rfl (dg hd_Mn_put 16 rfl)
def Mn_move (p1 : Int32) (p2 : Int32) (p3 : Int32) (p4 : Int32) (p5 : Int32) (σ : St) : Option (Int32 × St) :=
  bnd (Mn_isSheet p1 σ) (fun r1 σ2 =>
  if r1 = (0 : Int32) then (
  bnd (Mn_error (1 : Int32) σ2) (fun r3 σ4 =>
  some (r3, σ4))) else (
  bnd (Mn_isSheet p3 σ2) (fun r5 σ6 =>
  if r5 = (0 : Int32) then (
  bnd (Mn_error (1 : Int32) σ6) (fun r28 σ29 =>
  some (r28, σ29))) else (
  grd (inb p1 [54, 56, 58, 60].length) (wid ([54, 56, 58, 60].getD p1.toNatClampNeg 0) (fun q7 =>
  grd (inb p3 [54, 56, 58, 60].length) (wid ([54, 56, 58, 60].getD p3.toNatClampNeg 0) (fun q8 =>
  bnd (Rw_isMissing q7  σ6) (fun r9 σ10 =>
  if r9 = (0 : Int32) then (
  bnd (Rw_isMissing q8  σ10) (fun r13 σ14 =>
  if r13 = (0 : Int32) then (
  if (σ14.1 q7 1) = (σ14.1 q8 1) then (
  bnd (Rw_holds q7 p2 p5 σ14) (fun r15 σ16 =>
  if r15 = (0 : Int32) then (
  bnd (Mn_error (1 : Int32) σ16) (fun r17 σ18 =>
  some (r17, σ18))) else (
  bnd (Rw_holds q8 p4 p5 σ16) (fun r19 σ20 =>
  if r19 = (0 : Int32) then (
  bnd (Mn_error (1 : Int32) σ20) (fun r22 σ23 =>
  some (r22, σ23))) else (
  grd (cpb p2 p4 p5 24 24) (
  nas (sC σ20 (q7 + 1) p2.toNatClampNeg (q8 + 1) p4.toNatClampNeg p5.toNatClampNeg) (fun σ21 =>
  some (p5, σ21)))))))) else (
  bnd (Mn_error (5 : Int32) σ14) (fun r24 σ25 =>
  some (r24, σ25)))) else (
  bnd (Mn_error (2 : Int32) σ14) (fun r26 σ27 =>
  some (r26, σ27))))) else (
  bnd (Mn_error (2 : Int32) σ10) (fun r11 σ12 =>
  some (r11, σ12))))))))))))
set_option maxRecDepth 100000 in
theorem sp_Mn_move (l : Launch) (p1 : Int32) (p2 : Int32) (p3 : Int32) (p4 : Int32) (p5 : Int32) (σ : St) : Spc l shC 4 md_Mn_move [.ref 0, .int p1, .int p2, .int p3, .int p4, .int p5] σ (Mn_move p1 p2 p3 p4 p5 σ) := by
  refine Spc_of_Ux [(0, .ref 0), (1, .int p1), (2, .int p2), (3, .int p3), (4, .int p4), (5, .int p5)] (by decide) rfl (Nat.le_of_ble_eq_true rfl) ?_
  unfold Mn_move
  refine ux_iload_n (dg hd_Mn_move 0 rfl) rfl ?_
  refine ux_callSi (As := [.int p1]) (sp_Mn_isSheet l p1 _) (by omega) cs_Mn_isSheet wk_645 rfl rfl (Nat.le_of_ble_eq_true rfl) (dg hd_Mn_move 1 rfl) (fun r1 σ2 _ => ?_)
  refine ux_if_eq 14 (dg hd_Mn_move 2 rfl) (by decide) (fun _ => ?_) (fun _ => ?_)
  · refine ux_aload_n (dg hd_Mn_move 6 rfl) rfl ?_
    refine ux_iconst (1 : Int32) (dg hd_Mn_move 7 rfl) (by decide) ?_
    refine ux_callVi (As := [.int (1 : Int32)]) (sp_Mn_error l (1 : Int32) _) (by omega) cv_Mn_error wk_325 rfl rfl rfl rfl rfl (Nat.le_of_ble_eq_true rfl) (dg hd_Mn_move 8 rfl) (fun r3 σ4 _ => ?_)
    exact ux_iret rfl (dg hd_Mn_move 9 rfl)
  · refine ux_iload_n (dg hd_Mn_move 3 rfl) rfl ?_
    refine ux_callSi (As := [.int p3]) (sp_Mn_isSheet l p3 _) (by omega) cs_Mn_isSheet wk_645 rfl rfl (Nat.le_of_ble_eq_true rfl) (dg hd_Mn_move 4 rfl) (fun r5 σ6 _ => ?_)
    refine ux_if_ne 20 (dg hd_Mn_move 5 rfl) (by decide) (fun _ => ?_) (fun _ => ?_)
    · refine ux_aload_n (dg hd_Mn_move 6 rfl) rfl ?_
      refine ux_iconst (1 : Int32) (dg hd_Mn_move 7 rfl) (by decide) ?_
      refine ux_callVi (As := [.int (1 : Int32)]) (sp_Mn_error l (1 : Int32) _) (by omega) cv_Mn_error wk_325 rfl rfl rfl rfl rfl (Nat.le_of_ble_eq_true rfl) (dg hd_Mn_move 8 rfl) (fun r28 σ29 _ => ?_)
      exact ux_iret rfl (dg hd_Mn_move 9 rfl)
    · refine ux_aload_n (dg hd_Mn_move 10 rfl) rfl ?_
      refine ux_getr (q := 53) fcX6 8 (by decide) wk_286 rfl rfl (dg hd_Mn_move 11 rfl) ?_
      refine ux_iload_n (dg hd_Mn_move 12 rfl) rfl ?_
      refine ux_aald rfl (fun _ => rfl) (dg hd_Mn_move 13 rfl) (fun q7 hq7 => ?_)
      have hq7 := mem_rw hq7
      refine ux_astore [(6, .ref q7), (0, .ref 0), (1, .int p1), (2, .int p2), (3, .int p3), (4, .int p4), (5, .int p5)] (dg hd_Mn_move 14 rfl) (by decide) rfl ?_
      refine ux_aload_n (dg hd_Mn_move 15 rfl) rfl ?_
      refine ux_getr (q := 53) fcX6 8 (by decide) wk_286 rfl rfl (dg hd_Mn_move 16 rfl) ?_
      refine ux_iload_n (dg hd_Mn_move 17 rfl) rfl ?_
      refine ux_aald rfl (fun _ => rfl) (dg hd_Mn_move 18 rfl) (fun q8 hq8 => ?_)
      have hq8 := mem_rw hq8
      refine ux_astore [(7, .ref q8), (6, .ref q7), (0, .ref 0), (1, .int p1), (2, .int p2), (3, .int p3), (4, .int p4), (5, .int p5)] (dg hd_Mn_move 19 rfl) (by decide) rfl ?_
      refine ux_aload (dg hd_Mn_move 20 rfl) rfl ?_
      refine ux_callVi (As := []) (sp_Rw_isMissing l hq7  _) (by omega) cv_Rw_isMissing wk_648 rfl rfl (rwO hq7) rfl rfl (Nat.le_of_ble_eq_true rfl) (dg hd_Mn_move 21 rfl) (fun r9 σ10 _ => ?_)
      refine ux_if_ne 52 (dg hd_Mn_move 22 rfl) (by decide) (fun _ => ?_) (fun _ => ?_)
      · refine ux_aload (dg hd_Mn_move 23 rfl) rfl ?_
        refine ux_callVi (As := []) (sp_Rw_isMissing l hq8  _) (by omega) cv_Rw_isMissing wk_648 rfl rfl (rwO hq8) rfl rfl (Nat.le_of_ble_eq_true rfl) (dg hd_Mn_move 24 rfl) (fun r13 σ14 _ => ?_)
        refine ux_if_eq 58 (dg hd_Mn_move 25 rfl) (by decide) (fun _ => ?_) (fun _ => ?_)
        · refine ux_aload (dg hd_Mn_move 30 rfl) rfl ?_
          refine ux_get fcX2 1 (by decide) wk_238 (rwO hq7) rfl (dg hd_Mn_move 31 rfl) ?_
          refine ux_aload (dg hd_Mn_move 32 rfl) rfl ?_
          refine ux_get fcX2 1 (by decide) wk_238 (rwO hq8) rfl (dg hd_Mn_move 33 rfl) ?_
          refine ux_icmp_eq 77 (dg hd_Mn_move 34 rfl) (by decide) (fun _ => ?_) (fun _ => ?_)
          · refine ux_aload (dg hd_Mn_move 39 rfl) rfl ?_
            refine ux_iload_n (dg hd_Mn_move 40 rfl) rfl ?_
            refine ux_iload (dg hd_Mn_move 41 rfl) rfl ?_
            refine ux_callVi (As := [.int p2, .int p5]) (sp_Rw_holds l hq7 p2 p5 _) (by omega) cv_Rw_holds wk_710 rfl rfl (rwO hq7) rfl rfl (Nat.le_of_ble_eq_true rfl) (dg hd_Mn_move 42 rfl) (fun r15 σ16 _ => ?_)
            refine ux_if_eq 100 (dg hd_Mn_move 43 rfl) (by decide) (fun _ => ?_) (fun _ => ?_)
            · refine ux_aload_n (dg hd_Mn_move 49 rfl) rfl ?_
              refine ux_iconst (1 : Int32) (dg hd_Mn_move 50 rfl) (by decide) ?_
              refine ux_callVi (As := [.int (1 : Int32)]) (sp_Mn_error l (1 : Int32) _) (by omega) cv_Mn_error wk_325 rfl rfl rfl rfl rfl (Nat.le_of_ble_eq_true rfl) (dg hd_Mn_move 51 rfl) (fun r17 σ18 _ => ?_)
              exact ux_iret rfl (dg hd_Mn_move 52 rfl)
            · refine ux_aload (dg hd_Mn_move 44 rfl) rfl ?_
              refine ux_iload (dg hd_Mn_move 45 rfl) rfl ?_
              refine ux_iload (dg hd_Mn_move 46 rfl) rfl ?_
              refine ux_callVi (As := [.int p4, .int p5]) (sp_Rw_holds l hq8 p4 p5 _) (by omega) cv_Rw_holds wk_710 rfl rfl (rwO hq8) rfl rfl (Nat.le_of_ble_eq_true rfl) (dg hd_Mn_move 47 rfl) (fun r19 σ20 _ => ?_)
              refine ux_if_ne 106 (dg hd_Mn_move 48 rfl) (by decide) (fun _ => ?_) (fun _ => ?_)
              · refine ux_aload_n (dg hd_Mn_move 49 rfl) rfl ?_
                refine ux_iconst (1 : Int32) (dg hd_Mn_move 50 rfl) (by decide) ?_
                refine ux_callVi (As := [.int (1 : Int32)]) (sp_Mn_error l (1 : Int32) _) (by omega) cv_Mn_error wk_325 rfl rfl rfl rfl rfl (Nat.le_of_ble_eq_true rfl) (dg hd_Mn_move 51 rfl) (fun r22 σ23 _ => ?_)
                exact ux_iret rfl (dg hd_Mn_move 52 rfl)
              · refine ux_aload (dg hd_Mn_move 53 rfl) rfl ?_
                refine ux_getr (q := (q7 + 1)) fcX2 0 (by decide) wk_236 (rwO hq7) rfl (dg hd_Mn_move 54 rfl) ?_
                refine ux_iload_n (dg hd_Mn_move 55 rfl) rfl ?_
                refine ux_aload (dg hd_Mn_move 56 rfl) rfl ?_
                refine ux_getr (q := (q8 + 1)) fcX2 0 (by decide) wk_236 (rwO hq8) rfl (dg hd_Mn_move 57 rfl) ?_
                refine ux_iload (dg hd_Mn_move 58 rfl) rfl ?_
                refine ux_iload (dg hd_Mn_move 59 rfl) rfl ?_
                refine ux_acopy (by omega) (Nat.le_of_ble_eq_true rfl) wk_714 wk_480 wk_479 wk_85 (rwA hq7) (rwA hq8) (dg hd_Mn_move 60 rfl) ?_
                refine ux_nas (fun σ21 => ?_)
                refine ux_iload (dg hd_Mn_move 61 rfl) rfl ?_
                exact ux_iret rfl (dg hd_Mn_move 62 rfl)
          · refine ux_aload_n (dg hd_Mn_move 35 rfl) rfl ?_
            refine ux_iconst (5 : Int32) (dg hd_Mn_move 36 rfl) (by decide) ?_
            refine ux_callVi (As := [.int (5 : Int32)]) (sp_Mn_error l (5 : Int32) _) (by omega) cv_Mn_error wk_325 rfl rfl rfl rfl rfl (Nat.le_of_ble_eq_true rfl) (dg hd_Mn_move 37 rfl) (fun r24 σ25 _ => ?_)
            exact ux_iret rfl (dg hd_Mn_move 38 rfl)
        · refine ux_aload_n (dg hd_Mn_move 26 rfl) rfl ?_
          refine ux_iconst (2 : Int32) (dg hd_Mn_move 27 rfl) (by decide) ?_
          refine ux_callVi (As := [.int (2 : Int32)]) (sp_Mn_error l (2 : Int32) _) (by omega) cv_Mn_error wk_325 rfl rfl rfl rfl rfl (Nat.le_of_ble_eq_true rfl) (dg hd_Mn_move 28 rfl) (fun r26 σ27 _ => ?_)
          exact ux_iret rfl (dg hd_Mn_move 29 rfl)
      · refine ux_aload_n (dg hd_Mn_move 26 rfl) rfl ?_
        refine ux_iconst (2 : Int32) (dg hd_Mn_move 27 rfl) (by decide) ?_
        refine ux_callVi (As := [.int (2 : Int32)]) (sp_Mn_error l (2 : Int32) _) (by omega) cv_Mn_error wk_325 rfl rfl rfl rfl rfl (Nat.le_of_ble_eq_true rfl) (dg hd_Mn_move 28 rfl) (fun r11 σ12 _ => ?_)
        exact ux_iret rfl (dg hd_Mn_move 29 rfl)
def Mn_breaths (p1 : Int32) (σ : St) : Option (Int32 × St) :=
  bnd (Mn_isSheet p1 σ) (fun r1 σ2 =>
  if r1 = (0 : Int32) then (
  bnd (Mn_error (1 : Int32) σ2) (fun r11 σ12 =>
  some (r11, σ12))) else (
  grd (inb p1 [54, 56, 58, 60].length) (wid ([54, 56, 58, 60].getD p1.toNatClampNeg 0) (fun q3 =>
  bnd (Rw_isMissing q3  σ2) (fun r4 σ5 =>
  if r4 = (0 : Int32) then (
  grd (inb p1 [54, 56, 58, 60].length) (wid ([54, 56, 58, 60].getD p1.toNatClampNeg 0) (fun q6 =>
  bnd (Rp_takeBreaths 15 q6 σ5) (fun r7 σ8 =>
  some (r7, σ8))))) else (
  bnd (Mn_error (2 : Int32) σ5) (fun r9 σ10 =>
  some (r9, σ10))))))))
set_option maxRecDepth 100000 in
theorem sp_Mn_breaths (l : Launch) (p1 : Int32) (σ : St) : Spc l shC 4 md_Mn_breaths [.ref 0, .int p1] σ (Mn_breaths p1 σ) := by
  refine Spc_of_Ux [(0, .ref 0), (1, .int p1)] (by decide) rfl (Nat.le_of_ble_eq_true rfl) ?_
  unfold Mn_breaths
  refine ux_iload_n (dg hd_Mn_breaths 0 rfl) rfl ?_
  refine ux_callSi (As := [.int p1]) (sp_Mn_isSheet l p1 _) (by omega) cs_Mn_isSheet wk_645 rfl rfl (Nat.le_of_ble_eq_true rfl) (dg hd_Mn_breaths 1 rfl) (fun r1 σ2 _ => ?_)
  refine ux_if_ne 13 (dg hd_Mn_breaths 2 rfl) (by decide) (fun _ => ?_) (fun _ => ?_)
  · refine ux_aload_n (dg hd_Mn_breaths 3 rfl) rfl ?_
    refine ux_iconst (1 : Int32) (dg hd_Mn_breaths 4 rfl) (by decide) ?_
    refine ux_callVi (As := [.int (1 : Int32)]) (sp_Mn_error l (1 : Int32) _) (by omega) cv_Mn_error wk_325 rfl rfl rfl rfl rfl (Nat.le_of_ble_eq_true rfl) (dg hd_Mn_breaths 5 rfl) (fun r11 σ12 _ => ?_)
    exact ux_iret rfl (dg hd_Mn_breaths 6 rfl)
  · refine ux_aload_n (dg hd_Mn_breaths 7 rfl) rfl ?_
    refine ux_getr (q := 53) fcX6 8 (by decide) wk_286 rfl rfl (dg hd_Mn_breaths 8 rfl) ?_
    refine ux_iload_n (dg hd_Mn_breaths 9 rfl) rfl ?_
    refine ux_aald rfl (fun _ => rfl) (dg hd_Mn_breaths 10 rfl) (fun q3 hq3 => ?_)
    have hq3 := mem_rw hq3
    refine ux_callVi (As := []) (sp_Rw_isMissing l hq3  _) (by omega) cv_Rw_isMissing wk_648 rfl rfl (rwO hq3) rfl rfl (Nat.le_of_ble_eq_true rfl) (dg hd_Mn_breaths 11 rfl) (fun r4 σ5 _ => ?_)
    refine ux_if_eq 33 (dg hd_Mn_breaths 12 rfl) (by decide) (fun _ => ?_) (fun _ => ?_)
    · refine ux_aload_n (dg hd_Mn_breaths 17 rfl) rfl ?_
      refine ux_getr (q := 15) fcX6 0 (by decide) wk_278 rfl rfl (dg hd_Mn_breaths 18 rfl) ?_
      refine ux_aload_n (dg hd_Mn_breaths 19 rfl) rfl ?_
      refine ux_getr (q := 53) fcX6 8 (by decide) wk_286 rfl rfl (dg hd_Mn_breaths 20 rfl) ?_
      refine ux_iload_n (dg hd_Mn_breaths 21 rfl) rfl ?_
      refine ux_aald rfl (fun _ => rfl) (dg hd_Mn_breaths 22 rfl) (fun q6 hq6 => ?_)
      have hq6 := mem_rw hq6
      refine ux_callVi (As := [.ref q6]) (sp_Rp_takeBreaths l rp15 hq6  _) (by omega) cv_Rp_takeBreaths wk_719 rfl rfl (rpO rp15) rfl rfl (Nat.le_of_ble_eq_true rfl) (dg hd_Mn_breaths 23 rfl) (fun r7 σ8 _ => ?_)
      exact ux_iret rfl (dg hd_Mn_breaths 24 rfl)
    · refine ux_aload_n (dg hd_Mn_breaths 13 rfl) rfl ?_
      refine ux_iconst (2 : Int32) (dg hd_Mn_breaths 14 rfl) (by decide) ?_
      refine ux_callVi (As := [.int (2 : Int32)]) (sp_Mn_error l (2 : Int32) _) (by omega) cv_Mn_error wk_325 rfl rfl rfl rfl rfl (Nat.le_of_ble_eq_true rfl) (dg hd_Mn_breaths 15 rfl) (fun r9 σ10 _ => ?_)
      refine ux_goto 46 (dg hd_Mn_breaths 16 rfl) (by decide) ?_
      exact ux_iret rfl (dg hd_Mn_breaths 24 rfl)
def Mn_judge (p1 : Int32) (σ : St) : Option (Int32 × St) :=
  bnd (Mn_isSheet p1 σ) (fun r1 σ2 =>
  if r1 = (0 : Int32) then (
  bnd (Mn_error (1 : Int32) σ2) (fun r11 σ12 =>
  some (r11, σ12))) else (
  grd (inb p1 [54, 56, 58, 60].length) (wid ([54, 56, 58, 60].getD p1.toNatClampNeg 0) (fun q3 =>
  bnd (Rw_isMissing q3  σ2) (fun r4 σ5 =>
  if r4 = (0 : Int32) then (
  grd (inb p1 [54, 56, 58, 60].length) (wid ([54, 56, 58, 60].getD p1.toNatClampNeg 0) (fun q6 =>
  bnd (Rp_costsRight 15 q6 σ5) (fun r7 σ8 =>
  some (r7, σ8))))) else (
  bnd (Mn_error (2 : Int32) σ5) (fun r9 σ10 =>
  some (r9, σ10))))))))
set_option maxRecDepth 100000 in
theorem sp_Mn_judge (l : Launch) (p1 : Int32) (σ : St) : Spc l shC 7 md_Mn_judge [.ref 0, .int p1] σ (Mn_judge p1 σ) := by
  refine Spc_of_Ux [(0, .ref 0), (1, .int p1)] (by decide) rfl (Nat.le_of_ble_eq_true rfl) ?_
  unfold Mn_judge
  refine ux_iload_n (dg hd_Mn_judge 0 rfl) rfl ?_
  refine ux_callSi (As := [.int p1]) (sp_Mn_isSheet l p1 _) (by omega) cs_Mn_isSheet wk_645 rfl rfl (Nat.le_of_ble_eq_true rfl) (dg hd_Mn_judge 1 rfl) (fun r1 σ2 _ => ?_)
  refine ux_if_ne 13 (dg hd_Mn_judge 2 rfl) (by decide) (fun _ => ?_) (fun _ => ?_)
  · refine ux_aload_n (dg hd_Mn_judge 3 rfl) rfl ?_
    refine ux_iconst (1 : Int32) (dg hd_Mn_judge 4 rfl) (by decide) ?_
    refine ux_callVi (As := [.int (1 : Int32)]) (sp_Mn_error l (1 : Int32) _) (by omega) cv_Mn_error wk_325 rfl rfl rfl rfl rfl (Nat.le_of_ble_eq_true rfl) (dg hd_Mn_judge 5 rfl) (fun r11 σ12 _ => ?_)
    exact ux_iret rfl (dg hd_Mn_judge 6 rfl)
  · refine ux_aload_n (dg hd_Mn_judge 7 rfl) rfl ?_
    refine ux_getr (q := 53) fcX6 8 (by decide) wk_286 rfl rfl (dg hd_Mn_judge 8 rfl) ?_
    refine ux_iload_n (dg hd_Mn_judge 9 rfl) rfl ?_
    refine ux_aald rfl (fun _ => rfl) (dg hd_Mn_judge 10 rfl) (fun q3 hq3 => ?_)
    have hq3 := mem_rw hq3
    refine ux_callVi (As := []) (sp_Rw_isMissing l hq3  _) (by omega) cv_Rw_isMissing wk_648 rfl rfl (rwO hq3) rfl rfl (Nat.le_of_ble_eq_true rfl) (dg hd_Mn_judge 11 rfl) (fun r4 σ5 _ => ?_)
    refine ux_if_eq 33 (dg hd_Mn_judge 12 rfl) (by decide) (fun _ => ?_) (fun _ => ?_)
    · refine ux_aload_n (dg hd_Mn_judge 17 rfl) rfl ?_
      refine ux_getr (q := 15) fcX6 0 (by decide) wk_278 rfl rfl (dg hd_Mn_judge 18 rfl) ?_
      refine ux_aload_n (dg hd_Mn_judge 19 rfl) rfl ?_
      refine ux_getr (q := 53) fcX6 8 (by decide) wk_286 rfl rfl (dg hd_Mn_judge 20 rfl) ?_
      refine ux_iload_n (dg hd_Mn_judge 21 rfl) rfl ?_
      refine ux_aald rfl (fun _ => rfl) (dg hd_Mn_judge 22 rfl) (fun q6 hq6 => ?_)
      have hq6 := mem_rw hq6
      refine ux_callVi (As := [.ref q6]) (sp_Rp_costsRight l rp15 hq6  _) (by omega) cv_Rp_costsRight wk_728 rfl rfl (rpO rp15) rfl rfl (Nat.le_of_ble_eq_true rfl) (dg hd_Mn_judge 23 rfl) (fun r7 σ8 _ => ?_)
      exact ux_iret rfl (dg hd_Mn_judge 24 rfl)
    · refine ux_aload_n (dg hd_Mn_judge 13 rfl) rfl ?_
      refine ux_iconst (2 : Int32) (dg hd_Mn_judge 14 rfl) (by decide) ?_
      refine ux_callVi (As := [.int (2 : Int32)]) (sp_Mn_error l (2 : Int32) _) (by omega) cv_Mn_error wk_325 rfl rfl rfl rfl rfl (Nat.le_of_ble_eq_true rfl) (dg hd_Mn_judge 15 rfl) (fun r9 σ10 _ => ?_)
      refine ux_goto 46 (dg hd_Mn_judge 16 rfl) (by decide) ?_
      exact ux_iret rfl (dg hd_Mn_judge 24 rfl)
def Mn_image  (σ : St) : Option (Int32 × St) :=
  bnd (Rp_copy 33 15 σ) (fun r1 σ2 =>
  bnd (Tp_copy 44 42 σ2) (fun r3 σ4 =>
  bnd (Rw_copy 51 49 σ4) (fun r5 σ6 =>
  nas (sF σ6 0 11 ((σ6.1 0 11) + (1 : Int32))) (fun σ7 =>
  some ((σ7.1 0 11), σ7)))))
set_option maxRecDepth 100000 in
theorem sp_Mn_image (l : Launch) (σ : St) : Spc l shC 5 md_Mn_image [.ref 0] σ (Mn_image  σ) := by
  refine Spc_of_Ux [(0, .ref 0)] (by decide) rfl (Nat.le_of_ble_eq_true rfl) ?_
  unfold Mn_image
  refine ux_aload_n (dg hd_Mn_image 0 rfl) rfl ?_
  refine ux_getr (q := 33) fcX6 2 (by decide) wk_280 rfl rfl (dg hd_Mn_image 1 rfl) ?_
  refine ux_aload_n (dg hd_Mn_image 2 rfl) rfl ?_
  refine ux_getr (q := 15) fcX6 0 (by decide) wk_278 rfl rfl (dg hd_Mn_image 3 rfl) ?_
  refine ux_callVv (As := [.ref 15]) (sp_Rp_copy l rp33 rp15  _) (by omega) cv_Rp_copy wk_586 rfl rfl (rpO rp33) rfl rfl (Nat.le_of_ble_eq_true rfl) (dg hd_Mn_image 4 rfl) (fun r1 σ2 _ => ?_)
  refine ux_aload_n (dg hd_Mn_image 5 rfl) rfl ?_
  refine ux_getr (q := 44) fcX6 4 (by decide) wk_282 rfl rfl (dg hd_Mn_image 6 rfl) ?_
  refine ux_aload_n (dg hd_Mn_image 7 rfl) rfl ?_
  refine ux_getr (q := 42) fcX6 3 (by decide) wk_281 rfl rfl (dg hd_Mn_image 8 rfl) ?_
  refine ux_callVv (As := [.ref 42]) (sp_Tp_copy l tp44 tp42  _) (by omega) cv_Tp_copy wk_736 rfl rfl (tpO tp44) rfl rfl (Nat.le_of_ble_eq_true rfl) (dg hd_Mn_image 9 rfl) (fun r3 σ4 _ => ?_)
  refine ux_aload_n (dg hd_Mn_image 10 rfl) rfl ?_
  refine ux_getr (q := 51) fcX6 7 (by decide) wk_285 rfl rfl (dg hd_Mn_image 11 rfl) ?_
  refine ux_aload_n (dg hd_Mn_image 12 rfl) rfl ?_
  refine ux_getr (q := 49) fcX6 6 (by decide) wk_284 rfl rfl (dg hd_Mn_image 13 rfl) ?_
  refine ux_callVv (As := [.ref 49]) (sp_Rw_copy l rw51 rw49  _) (by omega) cv_Rw_copy wk_741 rfl rfl (rwO rw51) rfl rfl (Nat.le_of_ble_eq_true rfl) (dg hd_Mn_image 14 rfl) (fun r5 σ6 _ => ?_)
  refine ux_aload_n (dg hd_Mn_image 15 rfl) rfl ?_
  refine ux_dupr (dg hd_Mn_image 16 rfl) ?_
  refine ux_get fcX6 11 (by decide) wk_289 rfl rfl (dg hd_Mn_image 17 rfl) ?_
  refine ux_iconst (1 : Int32) (dg hd_Mn_image 18 rfl) (by decide) ?_
  refine ux_iadd (dg hd_Mn_image 19 rfl) ?_
  refine ux_put fcX6 11 (by decide) wk_289 rfl rfl ⟨rfl, rfl⟩ rfl rfl (dg hd_Mn_image 20 rfl) ?_
  refine ux_nas (fun σ7 => ?_)
  refine ux_aload_n (dg hd_Mn_image 21 rfl) rfl ?_
  refine ux_get fcX6 11 (by decide) wk_289 rfl rfl (dg hd_Mn_image 22 rfl) ?_
  exact ux_iret rfl (dg hd_Mn_image 23 rfl)
def Mn_restore  (σ : St) : Option (Int32 × St) :=
  if (σ.1 0 11) = (0 : Int32) then (
  bnd (Mn_error (2 : Int32) σ) (fun r7 σ8 =>
  some (r7, σ8))) else (
  bnd (Rp_copy 15 33 σ) (fun r1 σ2 =>
  bnd (Tp_copy 42 44 σ2) (fun r3 σ4 =>
  bnd (Rw_copy 49 51 σ4) (fun r5 σ6 =>
  some ((σ6.1 15 10), σ6)))))
set_option maxRecDepth 100000 in
theorem sp_Mn_restore (l : Launch) (σ : St) : Spc l shC 5 md_Mn_restore [.ref 0] σ (Mn_restore  σ) := by
  refine Spc_of_Ux [(0, .ref 0)] (by decide) rfl (Nat.le_of_ble_eq_true rfl) ?_
  unfold Mn_restore
  refine ux_aload_n (dg hd_Mn_restore 0 rfl) rfl ?_
  refine ux_get fcX6 11 (by decide) wk_289 rfl rfl (dg hd_Mn_restore 1 rfl) ?_
  refine ux_if_ne 13 (dg hd_Mn_restore 2 rfl) (by decide) (fun _ => ?_) (fun _ => ?_)
  · refine ux_aload_n (dg hd_Mn_restore 3 rfl) rfl ?_
    refine ux_iconst (2 : Int32) (dg hd_Mn_restore 4 rfl) (by decide) ?_
    refine ux_callVi (As := [.int (2 : Int32)]) (sp_Mn_error l (2 : Int32) _) (by omega) cv_Mn_error wk_325 rfl rfl rfl rfl rfl (Nat.le_of_ble_eq_true rfl) (dg hd_Mn_restore 5 rfl) (fun r7 σ8 _ => ?_)
    exact ux_iret rfl (dg hd_Mn_restore 6 rfl)
  · refine ux_aload_n (dg hd_Mn_restore 7 rfl) rfl ?_
    refine ux_getr (q := 15) fcX6 0 (by decide) wk_278 rfl rfl (dg hd_Mn_restore 8 rfl) ?_
    refine ux_aload_n (dg hd_Mn_restore 9 rfl) rfl ?_
    refine ux_getr (q := 33) fcX6 2 (by decide) wk_280 rfl rfl (dg hd_Mn_restore 10 rfl) ?_
    refine ux_callVv (As := [.ref 33]) (sp_Rp_copy l rp15 rp33  _) (by omega) cv_Rp_copy wk_586 rfl rfl (rpO rp15) rfl rfl (Nat.le_of_ble_eq_true rfl) (dg hd_Mn_restore 11 rfl) (fun r1 σ2 _ => ?_)
    refine ux_aload_n (dg hd_Mn_restore 12 rfl) rfl ?_
    refine ux_getr (q := 42) fcX6 3 (by decide) wk_281 rfl rfl (dg hd_Mn_restore 13 rfl) ?_
    refine ux_aload_n (dg hd_Mn_restore 14 rfl) rfl ?_
    refine ux_getr (q := 44) fcX6 4 (by decide) wk_282 rfl rfl (dg hd_Mn_restore 15 rfl) ?_
    refine ux_callVv (As := [.ref 44]) (sp_Tp_copy l tp42 tp44  _) (by omega) cv_Tp_copy wk_736 rfl rfl (tpO tp42) rfl rfl (Nat.le_of_ble_eq_true rfl) (dg hd_Mn_restore 16 rfl) (fun r3 σ4 _ => ?_)
    refine ux_aload_n (dg hd_Mn_restore 17 rfl) rfl ?_
    refine ux_getr (q := 49) fcX6 6 (by decide) wk_284 rfl rfl (dg hd_Mn_restore 18 rfl) ?_
    refine ux_aload_n (dg hd_Mn_restore 19 rfl) rfl ?_
    refine ux_getr (q := 51) fcX6 7 (by decide) wk_285 rfl rfl (dg hd_Mn_restore 20 rfl) ?_
    refine ux_callVv (As := [.ref 51]) (sp_Rw_copy l rw49 rw51  _) (by omega) cv_Rw_copy wk_741 rfl rfl (rwO rw49) rfl rfl (Nat.le_of_ble_eq_true rfl) (dg hd_Mn_restore 21 rfl) (fun r5 σ6 _ => ?_)
    refine ux_aload_n (dg hd_Mn_restore 22 rfl) rfl ?_
    refine ux_getr (q := 15) fcX6 0 (by decide) wk_278 rfl rfl (dg hd_Mn_restore 23 rfl) ?_
    refine ux_get fcX1 10 (by decide) wk_142 (rpO rp15) rfl (dg hd_Mn_restore 24 rfl) ?_
    exact ux_iret rfl (dg hd_Mn_restore 25 rfl)
def Mn_tell (p1 : Int32) (σ : St) : Option (Int32 × St) :=
  if (σ.1 49 2) < (24 : Int32) then (
  grd (inb (σ.1 49 2) 24) (
  nas (sA σ 50 (σ.1 49 2).toNatClampNeg p1) (fun σ1 =>
  nas (sF σ1 49 2 ((σ1.1 49 2) + (1 : Int32))) (fun σ2 =>
  some ((σ2.1 49 2), σ2))))) else (
  bnd (Mn_error (4 : Int32) σ) (fun r3 σ4 =>
  some (r3, σ4)))
set_option maxRecDepth 100000 in
theorem sp_Mn_tell (l : Launch) (p1 : Int32) (σ : St) : Spc l shC 3 md_Mn_tell [.ref 0, .int p1] σ (Mn_tell p1 σ) := by
  refine Spc_of_Ux [(0, .ref 0), (1, .int p1)] (by decide) rfl (Nat.le_of_ble_eq_true rfl) ?_
  unfold Mn_tell
  refine ux_aload_n (dg hd_Mn_tell 0 rfl) rfl ?_
  refine ux_getr (q := 49) fcX6 6 (by decide) wk_284 rfl rfl (dg hd_Mn_tell 1 rfl) ?_
  refine ux_get fcX2 2 (by decide) wk_241 (rwO rw49) rfl (dg hd_Mn_tell 2 rfl) ?_
  refine ux_bipush (24 : Int32) (dg hd_Mn_tell 3 rfl) (by decide) ?_
  refine ux_icmp_lt 18 (dg hd_Mn_tell 4 rfl) (by decide) (fun _ => ?_) (fun _ => ?_)
  · refine ux_aload_n (dg hd_Mn_tell 9 rfl) rfl ?_
    refine ux_getr (q := 49) fcX6 6 (by decide) wk_284 rfl rfl (dg hd_Mn_tell 10 rfl) ?_
    refine ux_getr (q := 50) fcX2 0 (by decide) wk_236 (rwO rw49) rfl (dg hd_Mn_tell 11 rfl) ?_
    refine ux_aload_n (dg hd_Mn_tell 12 rfl) rfl ?_
    refine ux_getr (q := 49) fcX6 6 (by decide) wk_284 rfl rfl (dg hd_Mn_tell 13 rfl) ?_
    refine ux_get fcX2 2 (by decide) wk_241 (rwO rw49) rfl (dg hd_Mn_tell 14 rfl) ?_
    refine ux_iload_n (dg hd_Mn_tell 15 rfl) rfl ?_
    refine ux_iast (rwA rw49) (dg hd_Mn_tell 16 rfl) ?_
    refine ux_nas (fun σ1 => ?_)
    refine ux_aload_n (dg hd_Mn_tell 17 rfl) rfl ?_
    refine ux_getr (q := 49) fcX6 6 (by decide) wk_284 rfl rfl (dg hd_Mn_tell 18 rfl) ?_
    refine ux_dupr (dg hd_Mn_tell 19 rfl) ?_
    refine ux_get fcX2 2 (by decide) wk_241 (rwO rw49) rfl (dg hd_Mn_tell 20 rfl) ?_
    refine ux_iconst (1 : Int32) (dg hd_Mn_tell 21 rfl) (by decide) ?_
    refine ux_iadd (dg hd_Mn_tell 22 rfl) ?_
    refine ux_put fcX2 2 (by decide) wk_241 rfl rfl ⟨rfl, rfl⟩ (rwO rw49) rfl (dg hd_Mn_tell 23 rfl) ?_
    refine ux_nas (fun σ2 => ?_)
    refine ux_aload_n (dg hd_Mn_tell 24 rfl) rfl ?_
    refine ux_getr (q := 49) fcX6 6 (by decide) wk_284 rfl rfl (dg hd_Mn_tell 25 rfl) ?_
    refine ux_get fcX2 2 (by decide) wk_241 (rwO rw49) rfl (dg hd_Mn_tell 26 rfl) ?_
    exact ux_iret rfl (dg hd_Mn_tell 27 rfl)
  · refine ux_aload_n (dg hd_Mn_tell 5 rfl) rfl ?_
    refine ux_iconst (4 : Int32) (dg hd_Mn_tell 6 rfl) (by decide) ?_
    refine ux_callVi (As := [.int (4 : Int32)]) (sp_Mn_error l (4 : Int32) _) (by omega) cv_Mn_error wk_325 rfl rfl rfl rfl rfl (Nat.le_of_ble_eq_true rfl) (dg hd_Mn_tell 7 rfl) (fun r3 σ4 _ => ?_)
    exact ux_iret rfl (dg hd_Mn_tell 8 rfl)
def Mn_check  (σ : St) : Option (Int32 × St) :=
  nam (σ.1 49 2) (fun y1 =>
  bnd (Rp_breathsRight 15 49 σ) (fun r2 σ3 =>
  nas (sF σ3 49 2 (0 : Int32)) (fun σ4 =>
  if r2 = y1 then (
  some ((0 : Int32), σ4)) else (
  some (((1 : Int32) + r2), σ4)))))
set_option maxRecDepth 100000 in
theorem sp_Mn_check (l : Launch) (σ : St) : Spc l shC 3 md_Mn_check [.ref 0] σ (Mn_check  σ) := by
  refine Spc_of_Ux [(0, .ref 0)] (by decide) rfl (Nat.le_of_ble_eq_true rfl) ?_
  unfold Mn_check
  refine ux_aload_n (dg hd_Mn_check 0 rfl) rfl ?_
  refine ux_getr (q := 49) fcX6 6 (by decide) wk_284 rfl rfl (dg hd_Mn_check 1 rfl) ?_
  refine ux_get fcX2 2 (by decide) wk_241 (rwO rw49) rfl (dg hd_Mn_check 2 rfl) ?_
  refine ux_nam (fun y1 => ?_)
  refine ux_istore_n [(1, .int y1), (0, .ref 0)] (dg hd_Mn_check 3 rfl) (by decide) rfl ?_
  refine ux_aload_n (dg hd_Mn_check 4 rfl) rfl ?_
  refine ux_getr (q := 15) fcX6 0 (by decide) wk_278 rfl rfl (dg hd_Mn_check 5 rfl) ?_
  refine ux_aload_n (dg hd_Mn_check 6 rfl) rfl ?_
  refine ux_getr (q := 49) fcX6 6 (by decide) wk_284 rfl rfl (dg hd_Mn_check 7 rfl) ?_
  refine ux_callVi (As := [.ref 49]) (sp_Rp_breathsRight l rp15 rw49  _) (by omega) cv_Rp_breathsRight wk_652 rfl rfl (rpO rp15) rfl rfl (Nat.le_of_ble_eq_true rfl) (dg hd_Mn_check 8 rfl) (fun r2 σ3 _ => ?_)
  refine ux_istore_n [(2, .int r2), (1, .int y1), (0, .ref 0)] (dg hd_Mn_check 9 rfl) (by decide) rfl ?_
  refine ux_aload_n (dg hd_Mn_check 10 rfl) rfl ?_
  refine ux_getr (q := 49) fcX6 6 (by decide) wk_284 rfl rfl (dg hd_Mn_check 11 rfl) ?_
  refine ux_iconst (0 : Int32) (dg hd_Mn_check 12 rfl) (by decide) ?_
  refine ux_put fcX2 2 (by decide) wk_241 rfl rfl ⟨rfl, rfl⟩ (rwO rw49) rfl (dg hd_Mn_check 13 rfl) ?_
  refine ux_nas (fun σ4 => ?_)
  refine ux_iload_n (dg hd_Mn_check 14 rfl) rfl ?_
  refine ux_iload_n (dg hd_Mn_check 15 rfl) rfl ?_
  refine ux_icmp_ne 37 (dg hd_Mn_check 16 rfl) (by decide) (fun _ => ?_) (fun _ => ?_)
  · refine ux_iconst (0 : Int32) (dg hd_Mn_check 17 rfl) (by decide) ?_
    refine ux_goto 40 (dg hd_Mn_check 18 rfl) (by decide) ?_
    exact ux_iret rfl (dg hd_Mn_check 22 rfl)
  · refine ux_iconst (1 : Int32) (dg hd_Mn_check 19 rfl) (by decide) ?_
    refine ux_iload_n (dg hd_Mn_check 20 rfl) rfl ?_
    refine ux_iadd (dg hd_Mn_check 21 rfl) ?_
    exact ux_iret rfl (dg hd_Mn_check 22 rfl)
def Mn_count (p1 : Int32) (σ : St) : Option (Int32 × St) :=
  if p1 = (0 : Int32) then (
  some ((σ.1 15 9), σ)) else if p1 = (1 : Int32) then (
  bnd (Rp_setIn 15  σ) (fun r2 σ3 =>
  some (r2, σ3))) else if p1 = (2 : Int32) then (
  some ((σ.1 15 10), σ)) else if p1 = (3 : Int32) then (
  some ((σ.1 15 11), σ)) else if p1 = (4 : Int32) then (
  some ((σ.1 15 13), σ)) else if p1 = (5 : Int32) then (
  grd (inb (0 : Int32) 2) (
  some ((σ.2 21 (0 : Int32).toNatClampNeg), σ))) else if p1 = (6 : Int32) then (
  grd (inb (1 : Int32) 2) (
  some ((σ.2 21 (1 : Int32).toNatClampNeg), σ))) else if p1 = (7 : Int32) then (
  some ((σ.1 15 12), σ)) else if p1 = (8 : Int32) then (
  some ((σ.1 42 1), σ)) else if p1 = (9 : Int32) then (
  some ((σ.1 49 2), σ)) else if p1 = (10 : Int32) then (
  some ((σ.1 62 1), σ)) else if p1 = (11 : Int32) then (
  some ((σ.1 15 14), σ)) else (
  bnd (Mn_error (1 : Int32) σ) (fun r15 σ16 =>
  some (r15, σ16)))
set_option maxRecDepth 100000 in
theorem sp_Mn_count (l : Launch) (p1 : Int32) (σ : St) : Spc l shC 3 md_Mn_count [.ref 0, .int p1] σ (Mn_count p1 σ) := by
  refine Spc_of_Ux [(0, .ref 0), (1, .int p1)] (by decide) rfl (Nat.le_of_ble_eq_true rfl) ?_
  unfold Mn_count
  refine ux_iload_n (dg hd_Mn_count 0 rfl) rfl ?_
  refine ux_case (0 : Int32) (fun _ => ?_) (fun c1 => ?_)
  · refine ux_tabIn 64 (dg hd_Mn_count 1 rfl) (by decide) (by decide) rfl (by decide) ?_
    refine ux_aload_n (dg hd_Mn_count 2 rfl) rfl ?_
    refine ux_getr (q := 15) fcX6 0 (by decide) wk_278 rfl rfl (dg hd_Mn_count 3 rfl) ?_
    refine ux_get fcX1 9 (by decide) wk_139 (rpO rp15) rfl (dg hd_Mn_count 4 rfl) ?_
    exact ux_iret rfl (dg hd_Mn_count 5 rfl)
  refine ux_case (1 : Int32) (fun _ => ?_) (fun c4 => ?_)
  · refine ux_tabIn 72 (dg hd_Mn_count 1 rfl) (by decide) (by decide) rfl (by decide) ?_
    refine ux_aload_n (dg hd_Mn_count 6 rfl) rfl ?_
    refine ux_getr (q := 15) fcX6 0 (by decide) wk_278 rfl rfl (dg hd_Mn_count 7 rfl) ?_
    refine ux_callVi (As := []) (sp_Rp_setIn l rp15  _) (by omega) cv_Rp_setIn wk_762 rfl rfl (rpO rp15) rfl rfl (Nat.le_of_ble_eq_true rfl) (dg hd_Mn_count 8 rfl) (fun r2 σ3 _ => ?_)
    exact ux_iret rfl (dg hd_Mn_count 9 rfl)
  refine ux_case (2 : Int32) (fun _ => ?_) (fun c5 => ?_)
  · refine ux_tabIn 80 (dg hd_Mn_count 1 rfl) (by decide) (by decide) rfl (by decide) ?_
    refine ux_aload_n (dg hd_Mn_count 10 rfl) rfl ?_
    refine ux_getr (q := 15) fcX6 0 (by decide) wk_278 rfl rfl (dg hd_Mn_count 11 rfl) ?_
    refine ux_get fcX1 10 (by decide) wk_142 (rpO rp15) rfl (dg hd_Mn_count 12 rfl) ?_
    exact ux_iret rfl (dg hd_Mn_count 13 rfl)
  refine ux_case (3 : Int32) (fun _ => ?_) (fun c6 => ?_)
  · refine ux_tabIn 88 (dg hd_Mn_count 1 rfl) (by decide) (by decide) rfl (by decide) ?_
    refine ux_aload_n (dg hd_Mn_count 14 rfl) rfl ?_
    refine ux_getr (q := 15) fcX6 0 (by decide) wk_278 rfl rfl (dg hd_Mn_count 15 rfl) ?_
    refine ux_get fcX1 11 (by decide) wk_144 (rpO rp15) rfl (dg hd_Mn_count 16 rfl) ?_
    exact ux_iret rfl (dg hd_Mn_count 17 rfl)
  refine ux_case (4 : Int32) (fun _ => ?_) (fun c7 => ?_)
  · refine ux_tabIn 96 (dg hd_Mn_count 1 rfl) (by decide) (by decide) rfl (by decide) ?_
    refine ux_aload_n (dg hd_Mn_count 18 rfl) rfl ?_
    refine ux_getr (q := 15) fcX6 0 (by decide) wk_278 rfl rfl (dg hd_Mn_count 19 rfl) ?_
    refine ux_get fcX1 13 (by decide) wk_148 (rpO rp15) rfl (dg hd_Mn_count 20 rfl) ?_
    exact ux_iret rfl (dg hd_Mn_count 21 rfl)
  refine ux_case (5 : Int32) (fun _ => ?_) (fun c8 => ?_)
  · refine ux_tabIn 104 (dg hd_Mn_count 1 rfl) (by decide) (by decide) rfl (by decide) ?_
    refine ux_aload_n (dg hd_Mn_count 22 rfl) rfl ?_
    refine ux_getr (q := 15) fcX6 0 (by decide) wk_278 rfl rfl (dg hd_Mn_count 23 rfl) ?_
    refine ux_getr (q := 21) fcX1 6 (by decide) wk_135 (rpO rp15) rfl (dg hd_Mn_count 24 rfl) ?_
    refine ux_iconst (0 : Int32) (dg hd_Mn_count 25 rfl) (by decide) ?_
    refine ux_iald (rpA6 rp15) (dg hd_Mn_count 26 rfl) ?_
    exact ux_iret rfl (dg hd_Mn_count 27 rfl)
  refine ux_case (6 : Int32) (fun _ => ?_) (fun c9 => ?_)
  · refine ux_tabIn 114 (dg hd_Mn_count 1 rfl) (by decide) (by decide) rfl (by decide) ?_
    refine ux_aload_n (dg hd_Mn_count 28 rfl) rfl ?_
    refine ux_getr (q := 15) fcX6 0 (by decide) wk_278 rfl rfl (dg hd_Mn_count 29 rfl) ?_
    refine ux_getr (q := 21) fcX1 6 (by decide) wk_135 (rpO rp15) rfl (dg hd_Mn_count 30 rfl) ?_
    refine ux_iconst (1 : Int32) (dg hd_Mn_count 31 rfl) (by decide) ?_
    refine ux_iald (rpA6 rp15) (dg hd_Mn_count 32 rfl) ?_
    exact ux_iret rfl (dg hd_Mn_count 33 rfl)
  refine ux_case (7 : Int32) (fun _ => ?_) (fun c10 => ?_)
  · refine ux_tabIn 124 (dg hd_Mn_count 1 rfl) (by decide) (by decide) rfl (by decide) ?_
    refine ux_aload_n (dg hd_Mn_count 34 rfl) rfl ?_
    refine ux_getr (q := 15) fcX6 0 (by decide) wk_278 rfl rfl (dg hd_Mn_count 35 rfl) ?_
    refine ux_get fcX1 12 (by decide) wk_146 (rpO rp15) rfl (dg hd_Mn_count 36 rfl) ?_
    exact ux_iret rfl (dg hd_Mn_count 37 rfl)
  refine ux_case (8 : Int32) (fun _ => ?_) (fun c11 => ?_)
  · refine ux_tabIn 132 (dg hd_Mn_count 1 rfl) (by decide) (by decide) rfl (by decide) ?_
    refine ux_aload_n (dg hd_Mn_count 38 rfl) rfl ?_
    refine ux_getr (q := 42) fcX6 3 (by decide) wk_281 rfl rfl (dg hd_Mn_count 39 rfl) ?_
    refine ux_get fcX3 1 (by decide) wk_192 (tpO tp42) rfl (dg hd_Mn_count 40 rfl) ?_
    exact ux_iret rfl (dg hd_Mn_count 41 rfl)
  refine ux_case (9 : Int32) (fun _ => ?_) (fun c12 => ?_)
  · refine ux_tabIn 140 (dg hd_Mn_count 1 rfl) (by decide) (by decide) rfl (by decide) ?_
    refine ux_aload_n (dg hd_Mn_count 42 rfl) rfl ?_
    refine ux_getr (q := 49) fcX6 6 (by decide) wk_284 rfl rfl (dg hd_Mn_count 43 rfl) ?_
    refine ux_get fcX2 2 (by decide) wk_241 (rwO rw49) rfl (dg hd_Mn_count 44 rfl) ?_
    exact ux_iret rfl (dg hd_Mn_count 45 rfl)
  refine ux_case (10 : Int32) (fun _ => ?_) (fun c13 => ?_)
  · refine ux_tabIn 148 (dg hd_Mn_count 1 rfl) (by decide) (by decide) rfl (by decide) ?_
    refine ux_aload_n (dg hd_Mn_count 46 rfl) rfl ?_
    refine ux_getr (q := 62) fcX6 9 (by decide) wk_287 rfl rfl (dg hd_Mn_count 47 rfl) ?_
    refine ux_get fcX5 1 (by decide) wk_259 rfl rfl (dg hd_Mn_count 48 rfl) ?_
    exact ux_iret rfl (dg hd_Mn_count 49 rfl)
  refine ux_case (11 : Int32) (fun _ => ?_) (fun c14 => ?_)
  · refine ux_tabIn 156 (dg hd_Mn_count 1 rfl) (by decide) (by decide) rfl (by decide) ?_
    refine ux_aload_n (dg hd_Mn_count 50 rfl) rfl ?_
    refine ux_getr (q := 15) fcX6 0 (by decide) wk_278 rfl rfl (dg hd_Mn_count 51 rfl) ?_
    refine ux_get fcX1 14 (by decide) wk_150 (rpO rp15) rfl (dg hd_Mn_count 52 rfl) ?_
    exact ux_iret rfl (dg hd_Mn_count 53 rfl)
  refine ux_tabOut 164 (dg hd_Mn_count 1 rfl) (by have hc1 := lv_neT (a := 0) c1 (by decide); have hc4 := lv_neT (a := 1) c4 (by decide); have hc5 := lv_neT (a := 2) c5 (by decide); have hc6 := lv_neT (a := 3) c6 (by decide); have hc7 := lv_neT (a := 4) c7 (by decide); have hc8 := lv_neT (a := 5) c8 (by decide); have hc9 := lv_neT (a := 6) c9 (by decide); have hc10 := lv_neT (a := 7) c10 (by decide); have hc11 := lv_neT (a := 8) c11 (by decide); have hc12 := lv_neT (a := 9) c12 (by decide); have hc13 := lv_neT (a := 10) c13 (by decide); have hc14 := lv_neT (a := 11) c14 (by decide); omega) (by decide) ?_
  refine ux_aload_n (dg hd_Mn_count 54 rfl) rfl ?_
  refine ux_iconst (1 : Int32) (dg hd_Mn_count 55 rfl) (by decide) ?_
  refine ux_callVi (As := [.int (1 : Int32)]) (sp_Mn_error l (1 : Int32) _) (by omega) cv_Mn_error wk_325 rfl rfl rfl rfl rfl (Nat.le_of_ble_eq_true rfl) (dg hd_Mn_count 56 rfl) (fun r15 σ16 _ => ?_)
  exact ux_iret rfl (dg hd_Mn_count 57 rfl)
def Mn_told (p1 : Int32) (σ : St) : Option (Int32 × St) :=
  if p1 < (1 : Int32) then (
  bnd (Mn_error (1 : Int32) σ) (fun r1 σ2 =>
  some (r1, σ2))) else (
  if (6 : Int32) < p1 then (
  bnd (Mn_error (1 : Int32) σ) (fun r3 σ4 =>
  some (r3, σ4))) else (
  grd (inb p1 7) (
  some ((σ.2 64 p1.toNatClampNeg), σ))))
set_option maxRecDepth 100000 in
theorem sp_Mn_told (l : Launch) (p1 : Int32) (σ : St) : Spc l shC 3 md_Mn_told [.ref 0, .int p1] σ (Mn_told p1 σ) := by
  refine Spc_of_Ux [(0, .ref 0), (1, .int p1)] (by decide) rfl (Nat.le_of_ble_eq_true rfl) ?_
  unfold Mn_told
  refine ux_iload_n (dg hd_Mn_told 0 rfl) rfl ?_
  refine ux_iconst (1 : Int32) (dg hd_Mn_told 1 rfl) (by decide) ?_
  refine ux_icmp_lt 20 (dg hd_Mn_told 2 rfl) (by decide) (fun _ => ?_) (fun _ => ?_)
  · refine ux_aload_n (dg hd_Mn_told 11 rfl) rfl ?_
    refine ux_iconst (1 : Int32) (dg hd_Mn_told 12 rfl) (by decide) ?_
    refine ux_callVi (As := [.int (1 : Int32)]) (sp_Mn_error l (1 : Int32) _) (by omega) cv_Mn_error wk_325 rfl rfl rfl rfl rfl (Nat.le_of_ble_eq_true rfl) (dg hd_Mn_told 13 rfl) (fun r1 σ2 _ => ?_)
    exact ux_iret rfl (dg hd_Mn_told 14 rfl)
  · refine ux_iload_n (dg hd_Mn_told 3 rfl) rfl ?_
    refine ux_bipush (6 : Int32) (dg hd_Mn_told 4 rfl) (by decide) ?_
    refine ux_icmp_gt 20 (dg hd_Mn_told 5 rfl) (by decide) (fun _ => ?_) (fun _ => ?_)
    · refine ux_aload_n (dg hd_Mn_told 11 rfl) rfl ?_
      refine ux_iconst (1 : Int32) (dg hd_Mn_told 12 rfl) (by decide) ?_
      refine ux_callVi (As := [.int (1 : Int32)]) (sp_Mn_error l (1 : Int32) _) (by omega) cv_Mn_error wk_325 rfl rfl rfl rfl rfl (Nat.le_of_ble_eq_true rfl) (dg hd_Mn_told 13 rfl) (fun r3 σ4 _ => ?_)
      exact ux_iret rfl (dg hd_Mn_told 14 rfl)
    · refine ux_aload_n (dg hd_Mn_told 6 rfl) rfl ?_
      refine ux_getr (q := 64) fcX6 10 (by decide) wk_288 rfl rfl (dg hd_Mn_told 7 rfl) ?_
      refine ux_iload_n (dg hd_Mn_told 8 rfl) rfl ?_
      refine ux_iald rfl (dg hd_Mn_told 9 rfl) ?_
      refine ux_goto 25 (dg hd_Mn_told 10 rfl) (by decide) ?_
      exact ux_iret rfl (dg hd_Mn_told 14 rfl)
