def Mo_voice (p1 : Int32) (p2 : Int32) (p3 : Int32) (σ : St) : Option (Int32 × St) :=
  bnd (Mo_isJumper p1 σ) (fun r1 σ2 =>
  if r1 = (0 : Int32) then (
  bnd (Mo_error (-1000000001 : Int32) σ2) (fun r3 σ4 =>
  some (r3, σ4))) else (
  bnd (Mo_in p2 (0 : Int32) (3 : Int32) σ2) (fun r5 σ6 =>
  if r5 = (0 : Int32) then (
  bnd (Mo_error (-1000000001 : Int32) σ6) (fun r25 σ26 =>
  some (r25, σ26))) else (
  nas (sF σ6 0 19 (0 : Int32)) (fun σ7 =>
  nas (sF σ7 0 20 (0 : Int32)) (fun σ8 =>
  if p2 = (0 : Int32) then (
  bnd (Mo_sings p1 p3 σ8) (fun r21 σ22 =>
  if (σ22.1 0 20) = (0 : Int32) then (
  some (r21, σ22)) else (
  bnd (Mo_error (-1000000006 : Int32) σ22) (fun r23 σ24 =>
  some (r23, σ24))))) else (
  if p2 = (1 : Int32) then (
  bnd (Mo_jumps p1 p3 σ8) (fun r17 σ18 =>
  if (σ18.1 0 20) = (0 : Int32) then (
  some (r17, σ18)) else (
  bnd (Mo_error (-1000000006 : Int32) σ18) (fun r19 σ20 =>
  some (r19, σ20))))) else (
  if p2 = (2 : Int32) then (
  bnd (Mo_claps p1 p3 σ8) (fun r13 σ14 =>
  if (σ14.1 0 20) = (0 : Int32) then (
  some (r13, σ14)) else (
  bnd (Mo_error (-1000000006 : Int32) σ14) (fun r15 σ16 =>
  some (r15, σ16))))) else (
  bnd (Mo_partsBy p1 p3 σ8) (fun r9 σ10 =>
  if (σ10.1 0 20) = (0 : Int32) then (
  some (r9, σ10)) else (
  bnd (Mo_error (-1000000006 : Int32) σ10) (fun r11 σ12 =>
  some (r11, σ12)))))))))))))
set_option maxRecDepth 100000 in
theorem sp_Mo_voice (l : Launch) (p1 : Int32) (p2 : Int32) (p3 : Int32) (σ : St) : Spc l shM 11 md_Mo_voice [.ref 0, .int p1, .int p2, .int p3] σ (Mo_voice p1 p2 p3 σ) := by
  refine Spc_of_Ux [(0, .ref 0), (1, .int p1), (2, .int p2), (3, .int p3)] (by decide) rfl (Nat.le_of_ble_eq_true rfl) ?_
  unfold Mo_voice
  refine ux_aload_n (dg hd_Mo_voice 0 rfl) rfl ?_
  refine ux_iload_n (dg hd_Mo_voice 1 rfl) rfl ?_
  refine ux_callVi (As := [.int p1]) (sp_Mo_isJumper l p1 _) (by omega) cv_Mo_isJumper wk_862 rfl rfl rfl rfl rfl (Nat.le_of_ble_eq_true rfl) (dg hd_Mo_voice 2 rfl) (fun r1 σ2 _ => ?_)
  refine ux_if_eq 17 (dg hd_Mo_voice 3 rfl) (by decide) (fun _ => ?_) (fun _ => ?_)
  · refine ux_aload_n (dg hd_Mo_voice 9 rfl) rfl ?_
    refine ux_ldc (-1000000001 : Int32) wk_847 (dg hd_Mo_voice 10 rfl) ?_
    refine ux_callVi (As := [.int (-1000000001 : Int32)]) (sp_Mo_error l (-1000000001 : Int32) _) (by omega) cv_Mo_error wk_848 rfl rfl rfl rfl rfl (Nat.le_of_ble_eq_true rfl) (dg hd_Mo_voice 11 rfl) (fun r3 σ4 _ => ?_)
    exact ux_iret rfl (dg hd_Mo_voice 12 rfl)
  · refine ux_iload_n (dg hd_Mo_voice 4 rfl) rfl ?_
    refine ux_iconst (0 : Int32) (dg hd_Mo_voice 5 rfl) (by decide) ?_
    refine ux_iconst (3 : Int32) (dg hd_Mo_voice 6 rfl) (by decide) ?_
    refine ux_callSi (As := [.int p2, .int (0 : Int32), .int (3 : Int32)]) (sp_Mo_in l p2 (0 : Int32) (3 : Int32) _) (by omega) cs_Mo_in wk_844 rfl rfl (Nat.le_of_ble_eq_true rfl) (dg hd_Mo_voice 7 rfl) (fun r5 σ6 _ => ?_)
    refine ux_if_ne 24 (dg hd_Mo_voice 8 rfl) (by decide) (fun _ => ?_) (fun _ => ?_)
    · refine ux_aload_n (dg hd_Mo_voice 9 rfl) rfl ?_
      refine ux_ldc (-1000000001 : Int32) wk_847 (dg hd_Mo_voice 10 rfl) ?_
      refine ux_callVi (As := [.int (-1000000001 : Int32)]) (sp_Mo_error l (-1000000001 : Int32) _) (by omega) cv_Mo_error wk_848 rfl rfl rfl rfl rfl (Nat.le_of_ble_eq_true rfl) (dg hd_Mo_voice 11 rfl) (fun r25 σ26 _ => ?_)
      exact ux_iret rfl (dg hd_Mo_voice 12 rfl)
    · refine ux_aload_n (dg hd_Mo_voice 13 rfl) rfl ?_
      refine ux_iconst (0 : Int32) (dg hd_Mo_voice 14 rfl) (by decide) ?_
      refine ux_put fcX7 19 (by decide) wk_792 rfl rfl ⟨rfl, rfl⟩ rfl rfl (dg hd_Mo_voice 15 rfl) ?_
      refine ux_nas (fun σ7 => ?_)
      refine ux_aload_n (dg hd_Mo_voice 16 rfl) rfl ?_
      refine ux_iconst (0 : Int32) (dg hd_Mo_voice 17 rfl) (by decide) ?_
      refine ux_put fcX7 20 (by decide) wk_793 rfl rfl (isB_n (by decide)) rfl rfl (dg hd_Mo_voice 18 rfl) ?_
      refine ux_nas (fun σ8 => ?_)
      refine ux_iload_n (dg hd_Mo_voice 19 rfl) rfl ?_
      refine ux_if_ne 47 (dg hd_Mo_voice 20 rfl) (by decide) (fun _ => ?_) (fun _ => ?_)
      · refine ux_aload_n (dg hd_Mo_voice 21 rfl) rfl ?_
        refine ux_iload_n (dg hd_Mo_voice 22 rfl) rfl ?_
        refine ux_iload_n (dg hd_Mo_voice 23 rfl) rfl ?_
        refine ux_callVi (As := [.int p1, .int p3]) (sp_Mo_sings l p1 p3 _) (by omega) cv_Mo_sings wk_1146 rfl rfl rfl rfl rfl (Nat.le_of_ble_eq_true rfl) (dg hd_Mo_voice 24 rfl) (fun r21 σ22 _ => ?_)
        refine ux_goto 81 (dg hd_Mo_voice 25 rfl) (by decide) ?_
        refine ux_istore [(4, .int r21), (0, .ref 0), (1, .int p1), (2, .int p2), (3, .int p3)] (dg hd_Mo_voice 46 rfl) (by decide) rfl ?_
        refine ux_aload_n (dg hd_Mo_voice 47 rfl) rfl ?_
        refine ux_get fcX7 20 (by decide) wk_793 rfl rfl (dg hd_Mo_voice 48 rfl) ?_
        refine ux_if_eq 100 (dg hd_Mo_voice 49 rfl) (by decide) (fun _ => ?_) (fun _ => ?_)
        · refine ux_iload (dg hd_Mo_voice 54 rfl) rfl ?_
          exact ux_iret rfl (dg hd_Mo_voice 55 rfl)
        · refine ux_aload_n (dg hd_Mo_voice 50 rfl) rfl ?_
          refine ux_ldcw (-1000000006 : Int32) wk_1190 (dg hd_Mo_voice 51 rfl) ?_
          refine ux_callVi (As := [.int (-1000000006 : Int32)]) (sp_Mo_error l (-1000000006 : Int32) _) (by omega) cv_Mo_error wk_848 rfl rfl rfl rfl rfl (Nat.le_of_ble_eq_true rfl) (dg hd_Mo_voice 52 rfl) (fun r23 σ24 _ => ?_)
          refine ux_goto 102 (dg hd_Mo_voice 53 rfl) (by decide) ?_
          exact ux_iret rfl (dg hd_Mo_voice 55 rfl)
      · refine ux_iload_n (dg hd_Mo_voice 26 rfl) rfl ?_
        refine ux_iconst (1 : Int32) (dg hd_Mo_voice 27 rfl) (by decide) ?_
        refine ux_icmp_ne 61 (dg hd_Mo_voice 28 rfl) (by decide) (fun _ => ?_) (fun _ => ?_)
        · refine ux_aload_n (dg hd_Mo_voice 29 rfl) rfl ?_
          refine ux_iload_n (dg hd_Mo_voice 30 rfl) rfl ?_
          refine ux_iload_n (dg hd_Mo_voice 31 rfl) rfl ?_
          refine ux_callVi (As := [.int p1, .int p3]) (sp_Mo_jumps l p1 p3 _) (by omega) cv_Mo_jumps wk_1162 rfl rfl rfl rfl rfl (Nat.le_of_ble_eq_true rfl) (dg hd_Mo_voice 32 rfl) (fun r17 σ18 _ => ?_)
          refine ux_goto 81 (dg hd_Mo_voice 33 rfl) (by decide) ?_
          refine ux_istore [(4, .int r17), (0, .ref 0), (1, .int p1), (2, .int p2), (3, .int p3)] (dg hd_Mo_voice 46 rfl) (by decide) rfl ?_
          refine ux_aload_n (dg hd_Mo_voice 47 rfl) rfl ?_
          refine ux_get fcX7 20 (by decide) wk_793 rfl rfl (dg hd_Mo_voice 48 rfl) ?_
          refine ux_if_eq 100 (dg hd_Mo_voice 49 rfl) (by decide) (fun _ => ?_) (fun _ => ?_)
          · refine ux_iload (dg hd_Mo_voice 54 rfl) rfl ?_
            exact ux_iret rfl (dg hd_Mo_voice 55 rfl)
          · refine ux_aload_n (dg hd_Mo_voice 50 rfl) rfl ?_
            refine ux_ldcw (-1000000006 : Int32) wk_1190 (dg hd_Mo_voice 51 rfl) ?_
            refine ux_callVi (As := [.int (-1000000006 : Int32)]) (sp_Mo_error l (-1000000006 : Int32) _) (by omega) cv_Mo_error wk_848 rfl rfl rfl rfl rfl (Nat.le_of_ble_eq_true rfl) (dg hd_Mo_voice 52 rfl) (fun r19 σ20 _ => ?_)
            refine ux_goto 102 (dg hd_Mo_voice 53 rfl) (by decide) ?_
            exact ux_iret rfl (dg hd_Mo_voice 55 rfl)
        · refine ux_iload_n (dg hd_Mo_voice 34 rfl) rfl ?_
          refine ux_iconst (2 : Int32) (dg hd_Mo_voice 35 rfl) (by decide) ?_
          refine ux_icmp_ne 75 (dg hd_Mo_voice 36 rfl) (by decide) (fun _ => ?_) (fun _ => ?_)
          · refine ux_aload_n (dg hd_Mo_voice 37 rfl) rfl ?_
            refine ux_iload_n (dg hd_Mo_voice 38 rfl) rfl ?_
            refine ux_iload_n (dg hd_Mo_voice 39 rfl) rfl ?_
            refine ux_callVi (As := [.int p1, .int p3]) (sp_Mo_claps l p1 p3 _) (by omega) cv_Mo_claps wk_1174 rfl rfl rfl rfl rfl (Nat.le_of_ble_eq_true rfl) (dg hd_Mo_voice 40 rfl) (fun r13 σ14 _ => ?_)
            refine ux_goto 81 (dg hd_Mo_voice 41 rfl) (by decide) ?_
            refine ux_istore [(4, .int r13), (0, .ref 0), (1, .int p1), (2, .int p2), (3, .int p3)] (dg hd_Mo_voice 46 rfl) (by decide) rfl ?_
            refine ux_aload_n (dg hd_Mo_voice 47 rfl) rfl ?_
            refine ux_get fcX7 20 (by decide) wk_793 rfl rfl (dg hd_Mo_voice 48 rfl) ?_
            refine ux_if_eq 100 (dg hd_Mo_voice 49 rfl) (by decide) (fun _ => ?_) (fun _ => ?_)
            · refine ux_iload (dg hd_Mo_voice 54 rfl) rfl ?_
              exact ux_iret rfl (dg hd_Mo_voice 55 rfl)
            · refine ux_aload_n (dg hd_Mo_voice 50 rfl) rfl ?_
              refine ux_ldcw (-1000000006 : Int32) wk_1190 (dg hd_Mo_voice 51 rfl) ?_
              refine ux_callVi (As := [.int (-1000000006 : Int32)]) (sp_Mo_error l (-1000000006 : Int32) _) (by omega) cv_Mo_error wk_848 rfl rfl rfl rfl rfl (Nat.le_of_ble_eq_true rfl) (dg hd_Mo_voice 52 rfl) (fun r15 σ16 _ => ?_)
              refine ux_goto 102 (dg hd_Mo_voice 53 rfl) (by decide) ?_
              exact ux_iret rfl (dg hd_Mo_voice 55 rfl)
          · refine ux_aload_n (dg hd_Mo_voice 42 rfl) rfl ?_
            refine ux_iload_n (dg hd_Mo_voice 43 rfl) rfl ?_
            refine ux_iload_n (dg hd_Mo_voice 44 rfl) rfl ?_
            refine ux_callVi (As := [.int p1, .int p3]) (sp_Mo_partsBy l p1 p3 _) (by omega) cv_Mo_partsBy wk_1182 rfl rfl rfl rfl rfl (Nat.le_of_ble_eq_true rfl) (dg hd_Mo_voice 45 rfl) (fun r9 σ10 _ => ?_)
            refine ux_istore [(4, .int r9), (0, .ref 0), (1, .int p1), (2, .int p2), (3, .int p3)] (dg hd_Mo_voice 46 rfl) (by decide) rfl ?_
            refine ux_aload_n (dg hd_Mo_voice 47 rfl) rfl ?_
            refine ux_get fcX7 20 (by decide) wk_793 rfl rfl (dg hd_Mo_voice 48 rfl) ?_
            refine ux_if_eq 100 (dg hd_Mo_voice 49 rfl) (by decide) (fun _ => ?_) (fun _ => ?_)
            · refine ux_iload (dg hd_Mo_voice 54 rfl) rfl ?_
              exact ux_iret rfl (dg hd_Mo_voice 55 rfl)
            · refine ux_aload_n (dg hd_Mo_voice 50 rfl) rfl ?_
              refine ux_ldcw (-1000000006 : Int32) wk_1190 (dg hd_Mo_voice 51 rfl) ?_
              refine ux_callVi (As := [.int (-1000000006 : Int32)]) (sp_Mo_error l (-1000000006 : Int32) _) (by omega) cv_Mo_error wk_848 rfl rfl rfl rfl rfl (Nat.le_of_ble_eq_true rfl) (dg hd_Mo_voice 52 rfl) (fun r11 σ12 _ => ?_)
              refine ux_goto 102 (dg hd_Mo_voice 53 rfl) (by decide) ?_
              exact ux_iret rfl (dg hd_Mo_voice 55 rfl)
def Mo_body (p1 : Int32) (σ : St) : Option (Int32 × St) :=
  bnd (Mo_in p1 (0 : Int32) ((σ.1 0 19) - (1 : Int32)) σ) (fun r1 σ2 =>
  if r1 = (0 : Int32) then (
  bnd (Mo_error (-1000000002 : Int32) σ2) (fun r3 σ4 =>
  some (r3, σ4))) else (
  grd (inb p1 30) (
  some ((σ2.2 13 p1.toNatClampNeg), σ2))))
set_option maxRecDepth 100000 in
theorem sp_Mo_body (l : Launch) (p1 : Int32) (σ : St) : Spc l shM 3 md_Mo_body [.ref 0, .int p1] σ (Mo_body p1 σ) := by
  refine Spc_of_Ux [(0, .ref 0), (1, .int p1)] (by decide) rfl (Nat.le_of_ble_eq_true rfl) ?_
  unfold Mo_body
  refine ux_iload_n (dg hd_Mo_body 0 rfl) rfl ?_
  refine ux_iconst (0 : Int32) (dg hd_Mo_body 1 rfl) (by decide) ?_
  refine ux_aload_n (dg hd_Mo_body 2 rfl) rfl ?_
  refine ux_get fcX7 19 (by decide) wk_792 rfl rfl (dg hd_Mo_body 3 rfl) ?_
  refine ux_iconst (1 : Int32) (dg hd_Mo_body 4 rfl) (by decide) ?_
  refine ux_isub (dg hd_Mo_body 5 rfl) ?_
  refine ux_callSi (As := [.int p1, .int (0 : Int32), .int ((σ.1 0 19) - (1 : Int32))]) (sp_Mo_in l p1 (0 : Int32) ((σ.1 0 19) - (1 : Int32)) _) (by omega) cs_Mo_in wk_844 rfl rfl (Nat.le_of_ble_eq_true rfl) (dg hd_Mo_body 6 rfl) (fun r1 σ2 _ => ?_)
  refine ux_if_eq 23 (dg hd_Mo_body 7 rfl) (by decide) (fun _ => ?_) (fun _ => ?_)
  · refine ux_aload_n (dg hd_Mo_body 13 rfl) rfl ?_
    refine ux_ldc (-1000000002 : Int32) wk_1090 (dg hd_Mo_body 14 rfl) ?_
    refine ux_callVi (As := [.int (-1000000002 : Int32)]) (sp_Mo_error l (-1000000002 : Int32) _) (by omega) cv_Mo_error wk_848 rfl rfl rfl rfl rfl (Nat.le_of_ble_eq_true rfl) (dg hd_Mo_body 15 rfl) (fun r3 σ4 _ => ?_)
    exact ux_iret rfl (dg hd_Mo_body 16 rfl)
  · refine ux_aload_n (dg hd_Mo_body 8 rfl) rfl ?_
    refine ux_getr (q := 13) fcX7 18 (by decide) wk_791 rfl rfl (dg hd_Mo_body 9 rfl) ?_
    refine ux_iload_n (dg hd_Mo_body 10 rfl) rfl ?_
    refine ux_iald rfl (dg hd_Mo_body 11 rfl) ?_
    refine ux_goto 29 (dg hd_Mo_body 12 rfl) (by decide) ?_
    exact ux_iret rfl (dg hd_Mo_body 16 rfl)
def Mo_sheet_L93 : Nat → Int32 → Int32 → Int32 → Int32 → St → Option (Int32 × St)
  | 0, _, _, _, _, _ => none
  | n + 1, x1, x2, x3, x4, σ =>
    if (24 : Int32) ≤ x4 then (
    some ((1 : Int32), σ)) else (
    grd (inb (((24 : Int32) * x1) + x4) 96) (
    nas (sA σ 7 (((24 : Int32) * x1) + x4).toNatClampNeg (0 : Int32)) (fun σ7 =>
    nam (x4 + (1 : Int32)) (fun y8 =>
    Mo_sheet_L93 n x1 x2 x3 y8 σ7))))
set_option maxRecDepth 100000 in
theorem wk_Mo_sheet_L93 (l : Launch) : ∀ (n : Nat) (x1 x2 x3 x4 : Int32) (σ : St), Ux l shM 4 md_Mo_sheet 93 [(0, .ref 0), (1, .int x1), (2, .int x2), (3, .int x3), (4, .int x4)] [] σ (Mo_sheet_L93 n x1 x2 x3 x4 σ) := by
  intro n
  induction n with
  | zero => intros; exact ux_none
  | succ n ih =>
    intro x1 x2 x3 x4 σ
    unfold Mo_sheet_L93
    refine ux_iload (dg hd_Mo_sheet 51 rfl) rfl ?_
    refine ux_bipush (24 : Int32) (dg hd_Mo_sheet 52 rfl) (by decide) ?_
    refine ux_icmp_ge 119 (dg hd_Mo_sheet 53 rfl) (by decide) (fun _ => ?_) (fun _ => ?_)
    · refine ux_iconst (1 : Int32) (dg hd_Mo_sheet 65 rfl) (by decide) ?_
      exact ux_iret rfl (dg hd_Mo_sheet 66 rfl)
    · refine ux_aload_n (dg hd_Mo_sheet 54 rfl) rfl ?_
      refine ux_getr (q := 7) fcX7 7 (by decide) wk_780 rfl rfl (dg hd_Mo_sheet 55 rfl) ?_
      refine ux_bipush (24 : Int32) (dg hd_Mo_sheet 56 rfl) (by decide) ?_
      refine ux_iload_n (dg hd_Mo_sheet 57 rfl) rfl ?_
      refine ux_imul (dg hd_Mo_sheet 58 rfl) ?_
      refine ux_iload (dg hd_Mo_sheet 59 rfl) rfl ?_
      refine ux_iadd (dg hd_Mo_sheet 60 rfl) ?_
      refine ux_iconst (0 : Int32) (dg hd_Mo_sheet 61 rfl) (by decide) ?_
      refine ux_iast rfl (dg hd_Mo_sheet 62 rfl) ?_
      refine ux_nas (fun σ7 => ?_)
      refine ux_iincN (1 : Int32) (fun y8 => [(4, .int y8), (0, .ref 0), (1, .int x1), (2, .int x2), (3, .int x3)]) (dg hd_Mo_sheet 63 rfl) rfl (by decide) (by decide) (fun _ => rfl) (fun y8 => ?_)
      refine ux_goto 93 (dg hd_Mo_sheet 64 rfl) (by decide) ?_
      refine ux_wk [(0, .ref 0), (1, .int x1), (2, .int x2), (3, .int x3), (4, .int y8)] [1, 2, 3, 4, 0] rfl ?_
      exact ih x1 x2 x3 y8 σ7
def Mo_sheet (p1 : Int32) (p2 : Int32) (p3 : Int32) (σ : St) : Option (Int32 × St) :=
  bnd (Mo_isSheet p1 σ) (fun r1 σ2 =>
  if r1 = (0 : Int32) then (
  bnd (Mo_error (-1000000001 : Int32) σ2) (fun r3 σ4 =>
  some (r3, σ4))) else (
  if p2 = (0 : Int32) then (
  if p2 ≤ (0 : Int32) then (
  if p2 ≤ (0 : Int32) then (
  grd (inb p1 4) (
  nas (sA σ2 5 p1.toNatClampNeg p2) (fun σ5 =>
  if p2 = (0 : Int32) then (
  grd (inb p1 4) (
  nas (sA σ5 6 p1.toNatClampNeg (0 : Int32)) (fun σ9 =>
  Mo_sheet_L93 1000 p1 p2 p3 (0 : Int32) σ9))) else (
  grd (inb p1 4) (
  nas (sA σ5 6 p1.toNatClampNeg p3) (fun σ6 =>
  Mo_sheet_L93 1000 p1 p2 p3 (0 : Int32) σ6)))))) else (
  if p3 ≤ (24 : Int32) then (
  grd (inb p1 4) (
  nas (sA σ2 5 p1.toNatClampNeg p2) (fun σ10 =>
  if p2 = (0 : Int32) then (
  grd (inb p1 4) (
  nas (sA σ10 6 p1.toNatClampNeg (0 : Int32)) (fun σ12 =>
  Mo_sheet_L93 1000 p1 p2 p3 (0 : Int32) σ12))) else (
  grd (inb p1 4) (
  nas (sA σ10 6 p1.toNatClampNeg p3) (fun σ11 =>
  Mo_sheet_L93 1000 p1 p2 p3 (0 : Int32) σ11)))))) else (
  bnd (Mo_error (-1000000001 : Int32) σ2) (fun r13 σ14 =>
  some (r13, σ14))))) else (
  if (0 : Int32) ≤ p3 then (
  if p2 ≤ (0 : Int32) then (
  grd (inb p1 4) (
  nas (sA σ2 5 p1.toNatClampNeg p2) (fun σ15 =>
  if p2 = (0 : Int32) then (
  grd (inb p1 4) (
  nas (sA σ15 6 p1.toNatClampNeg (0 : Int32)) (fun σ17 =>
  Mo_sheet_L93 1000 p1 p2 p3 (0 : Int32) σ17))) else (
  grd (inb p1 4) (
  nas (sA σ15 6 p1.toNatClampNeg p3) (fun σ16 =>
  Mo_sheet_L93 1000 p1 p2 p3 (0 : Int32) σ16)))))) else (
  if p3 ≤ (24 : Int32) then (
  grd (inb p1 4) (
  nas (sA σ2 5 p1.toNatClampNeg p2) (fun σ18 =>
  if p2 = (0 : Int32) then (
  grd (inb p1 4) (
  nas (sA σ18 6 p1.toNatClampNeg (0 : Int32)) (fun σ20 =>
  Mo_sheet_L93 1000 p1 p2 p3 (0 : Int32) σ20))) else (
  grd (inb p1 4) (
  nas (sA σ18 6 p1.toNatClampNeg p3) (fun σ19 =>
  Mo_sheet_L93 1000 p1 p2 p3 (0 : Int32) σ19)))))) else (
  bnd (Mo_error (-1000000001 : Int32) σ2) (fun r21 σ22 =>
  some (r21, σ22))))) else (
  bnd (Mo_error (-1000000003 : Int32) σ2) (fun r23 σ24 =>
  some (r23, σ24))))) else (
  if p2 = (8 : Int32) then (
  if p2 ≤ (0 : Int32) then (
  if p2 ≤ (0 : Int32) then (
  grd (inb p1 4) (
  nas (sA σ2 5 p1.toNatClampNeg p2) (fun σ25 =>
  if p2 = (0 : Int32) then (
  grd (inb p1 4) (
  nas (sA σ25 6 p1.toNatClampNeg (0 : Int32)) (fun σ27 =>
  Mo_sheet_L93 1000 p1 p2 p3 (0 : Int32) σ27))) else (
  grd (inb p1 4) (
  nas (sA σ25 6 p1.toNatClampNeg p3) (fun σ26 =>
  Mo_sheet_L93 1000 p1 p2 p3 (0 : Int32) σ26)))))) else (
  if p3 ≤ (24 : Int32) then (
  grd (inb p1 4) (
  nas (sA σ2 5 p1.toNatClampNeg p2) (fun σ28 =>
  if p2 = (0 : Int32) then (
  grd (inb p1 4) (
  nas (sA σ28 6 p1.toNatClampNeg (0 : Int32)) (fun σ30 =>
  Mo_sheet_L93 1000 p1 p2 p3 (0 : Int32) σ30))) else (
  grd (inb p1 4) (
  nas (sA σ28 6 p1.toNatClampNeg p3) (fun σ29 =>
  Mo_sheet_L93 1000 p1 p2 p3 (0 : Int32) σ29)))))) else (
  bnd (Mo_error (-1000000001 : Int32) σ2) (fun r31 σ32 =>
  some (r31, σ32))))) else (
  if (0 : Int32) ≤ p3 then (
  if p2 ≤ (0 : Int32) then (
  grd (inb p1 4) (
  nas (sA σ2 5 p1.toNatClampNeg p2) (fun σ33 =>
  if p2 = (0 : Int32) then (
  grd (inb p1 4) (
  nas (sA σ33 6 p1.toNatClampNeg (0 : Int32)) (fun σ35 =>
  Mo_sheet_L93 1000 p1 p2 p3 (0 : Int32) σ35))) else (
  grd (inb p1 4) (
  nas (sA σ33 6 p1.toNatClampNeg p3) (fun σ34 =>
  Mo_sheet_L93 1000 p1 p2 p3 (0 : Int32) σ34)))))) else (
  if p3 ≤ (24 : Int32) then (
  grd (inb p1 4) (
  nas (sA σ2 5 p1.toNatClampNeg p2) (fun σ36 =>
  if p2 = (0 : Int32) then (
  grd (inb p1 4) (
  nas (sA σ36 6 p1.toNatClampNeg (0 : Int32)) (fun σ38 =>
  Mo_sheet_L93 1000 p1 p2 p3 (0 : Int32) σ38))) else (
  grd (inb p1 4) (
  nas (sA σ36 6 p1.toNatClampNeg p3) (fun σ37 =>
  Mo_sheet_L93 1000 p1 p2 p3 (0 : Int32) σ37)))))) else (
  bnd (Mo_error (-1000000001 : Int32) σ2) (fun r39 σ40 =>
  some (r39, σ40))))) else (
  bnd (Mo_error (-1000000003 : Int32) σ2) (fun r41 σ42 =>
  some (r41, σ42))))) else (
  if p2 = (16 : Int32) then (
  if p2 ≤ (0 : Int32) then (
  if p2 ≤ (0 : Int32) then (
  grd (inb p1 4) (
  nas (sA σ2 5 p1.toNatClampNeg p2) (fun σ43 =>
  if p2 = (0 : Int32) then (
  grd (inb p1 4) (
  nas (sA σ43 6 p1.toNatClampNeg (0 : Int32)) (fun σ45 =>
  Mo_sheet_L93 1000 p1 p2 p3 (0 : Int32) σ45))) else (
  grd (inb p1 4) (
  nas (sA σ43 6 p1.toNatClampNeg p3) (fun σ44 =>
  Mo_sheet_L93 1000 p1 p2 p3 (0 : Int32) σ44)))))) else (
  if p3 ≤ (24 : Int32) then (
  grd (inb p1 4) (
  nas (sA σ2 5 p1.toNatClampNeg p2) (fun σ46 =>
  if p2 = (0 : Int32) then (
  grd (inb p1 4) (
  nas (sA σ46 6 p1.toNatClampNeg (0 : Int32)) (fun σ48 =>
  Mo_sheet_L93 1000 p1 p2 p3 (0 : Int32) σ48))) else (
  grd (inb p1 4) (
  nas (sA σ46 6 p1.toNatClampNeg p3) (fun σ47 =>
  Mo_sheet_L93 1000 p1 p2 p3 (0 : Int32) σ47)))))) else (
  bnd (Mo_error (-1000000001 : Int32) σ2) (fun r49 σ50 =>
  some (r49, σ50))))) else (
  if (0 : Int32) ≤ p3 then (
  if p2 ≤ (0 : Int32) then (
  grd (inb p1 4) (
  nas (sA σ2 5 p1.toNatClampNeg p2) (fun σ51 =>
  if p2 = (0 : Int32) then (
  grd (inb p1 4) (
  nas (sA σ51 6 p1.toNatClampNeg (0 : Int32)) (fun σ53 =>
  Mo_sheet_L93 1000 p1 p2 p3 (0 : Int32) σ53))) else (
  grd (inb p1 4) (
  nas (sA σ51 6 p1.toNatClampNeg p3) (fun σ52 =>
  Mo_sheet_L93 1000 p1 p2 p3 (0 : Int32) σ52)))))) else (
  if p3 ≤ (24 : Int32) then (
  grd (inb p1 4) (
  nas (sA σ2 5 p1.toNatClampNeg p2) (fun σ54 =>
  if p2 = (0 : Int32) then (
  grd (inb p1 4) (
  nas (sA σ54 6 p1.toNatClampNeg (0 : Int32)) (fun σ56 =>
  Mo_sheet_L93 1000 p1 p2 p3 (0 : Int32) σ56))) else (
  grd (inb p1 4) (
  nas (sA σ54 6 p1.toNatClampNeg p3) (fun σ55 =>
  Mo_sheet_L93 1000 p1 p2 p3 (0 : Int32) σ55)))))) else (
  bnd (Mo_error (-1000000001 : Int32) σ2) (fun r57 σ58 =>
  some (r57, σ58))))) else (
  bnd (Mo_error (-1000000003 : Int32) σ2) (fun r59 σ60 =>
  some (r59, σ60))))) else (
  if p2 = (32 : Int32) then (
  if p2 ≤ (0 : Int32) then (
  if p2 ≤ (0 : Int32) then (
  grd (inb p1 4) (
  nas (sA σ2 5 p1.toNatClampNeg p2) (fun σ61 =>
  if p2 = (0 : Int32) then (
  grd (inb p1 4) (
  nas (sA σ61 6 p1.toNatClampNeg (0 : Int32)) (fun σ63 =>
  Mo_sheet_L93 1000 p1 p2 p3 (0 : Int32) σ63))) else (
  grd (inb p1 4) (
  nas (sA σ61 6 p1.toNatClampNeg p3) (fun σ62 =>
  Mo_sheet_L93 1000 p1 p2 p3 (0 : Int32) σ62)))))) else (
  if p3 ≤ (24 : Int32) then (
  grd (inb p1 4) (
  nas (sA σ2 5 p1.toNatClampNeg p2) (fun σ64 =>
  if p2 = (0 : Int32) then (
  grd (inb p1 4) (
  nas (sA σ64 6 p1.toNatClampNeg (0 : Int32)) (fun σ66 =>
  Mo_sheet_L93 1000 p1 p2 p3 (0 : Int32) σ66))) else (
  grd (inb p1 4) (
  nas (sA σ64 6 p1.toNatClampNeg p3) (fun σ65 =>
  Mo_sheet_L93 1000 p1 p2 p3 (0 : Int32) σ65)))))) else (
  bnd (Mo_error (-1000000001 : Int32) σ2) (fun r67 σ68 =>
  some (r67, σ68))))) else (
  if (0 : Int32) ≤ p3 then (
  if p2 ≤ (0 : Int32) then (
  grd (inb p1 4) (
  nas (sA σ2 5 p1.toNatClampNeg p2) (fun σ69 =>
  if p2 = (0 : Int32) then (
  grd (inb p1 4) (
  nas (sA σ69 6 p1.toNatClampNeg (0 : Int32)) (fun σ71 =>
  Mo_sheet_L93 1000 p1 p2 p3 (0 : Int32) σ71))) else (
  grd (inb p1 4) (
  nas (sA σ69 6 p1.toNatClampNeg p3) (fun σ70 =>
  Mo_sheet_L93 1000 p1 p2 p3 (0 : Int32) σ70)))))) else (
  if p3 ≤ (24 : Int32) then (
  grd (inb p1 4) (
  nas (sA σ2 5 p1.toNatClampNeg p2) (fun σ72 =>
  if p2 = (0 : Int32) then (
  grd (inb p1 4) (
  nas (sA σ72 6 p1.toNatClampNeg (0 : Int32)) (fun σ74 =>
  Mo_sheet_L93 1000 p1 p2 p3 (0 : Int32) σ74))) else (
  grd (inb p1 4) (
  nas (sA σ72 6 p1.toNatClampNeg p3) (fun σ73 =>
  Mo_sheet_L93 1000 p1 p2 p3 (0 : Int32) σ73)))))) else (
  bnd (Mo_error (-1000000001 : Int32) σ2) (fun r75 σ76 =>
  some (r75, σ76))))) else (
  bnd (Mo_error (-1000000003 : Int32) σ2) (fun r77 σ78 =>
  some (r77, σ78))))) else (
  bnd (Mo_error (-1000000001 : Int32) σ2) (fun r79 σ80 =>
  some (r79, σ80))))))))
set_option maxRecDepth 100000 in
theorem sp_Mo_sheet (l : Launch) (p1 : Int32) (p2 : Int32) (p3 : Int32) (σ : St) : Spc l shM 4 md_Mo_sheet [.ref 0, .int p1, .int p2, .int p3] σ (Mo_sheet p1 p2 p3 σ) := by
  refine Spc_of_Ux [(0, .ref 0), (1, .int p1), (2, .int p2), (3, .int p3)] (by decide) rfl (Nat.le_of_ble_eq_true rfl) ?_
  unfold Mo_sheet
  refine ux_iload_n (dg hd_Mo_sheet 0 rfl) rfl ?_
  refine ux_callSi (As := [.int p1]) (sp_Mo_isSheet l p1 _) (by omega) cs_Mo_isSheet wk_1135 rfl rfl (Nat.le_of_ble_eq_true rfl) (dg hd_Mo_sheet 1 rfl) (fun r1 σ2 _ => ?_)
  refine ux_if_eq 29 (dg hd_Mo_sheet 2 rfl) (by decide) (fun _ => ?_) (fun _ => ?_)
  · refine ux_aload_n (dg hd_Mo_sheet 14 rfl) rfl ?_
    refine ux_ldc (-1000000001 : Int32) wk_847 (dg hd_Mo_sheet 15 rfl) ?_
    refine ux_callVi (As := [.int (-1000000001 : Int32)]) (sp_Mo_error l (-1000000001 : Int32) _) (by omega) cv_Mo_error wk_848 rfl rfl rfl rfl rfl (Nat.le_of_ble_eq_true rfl) (dg hd_Mo_sheet 16 rfl) (fun r3 σ4 _ => ?_)
    exact ux_iret rfl (dg hd_Mo_sheet 17 rfl)
  · refine ux_iload_n (dg hd_Mo_sheet 3 rfl) rfl ?_
    refine ux_if_eq 36 (dg hd_Mo_sheet 4 rfl) (by decide) (fun _ => ?_) (fun _ => ?_)
    · refine ux_iload_n (dg hd_Mo_sheet 18 rfl) rfl ?_
      refine ux_if_le 51 (dg hd_Mo_sheet 19 rfl) (by decide) (fun _ => ?_) (fun _ => ?_)
      · refine ux_iload_n (dg hd_Mo_sheet 26 rfl) rfl ?_
        refine ux_if_le 68 (dg hd_Mo_sheet 27 rfl) (by decide) (fun _ => ?_) (fun _ => ?_)
        · refine ux_aload_n (dg hd_Mo_sheet 35 rfl) rfl ?_
          refine ux_getr (q := 5) fcX7 5 (by decide) wk_778 rfl rfl (dg hd_Mo_sheet 36 rfl) ?_
          refine ux_iload_n (dg hd_Mo_sheet 37 rfl) rfl ?_
          refine ux_iload_n (dg hd_Mo_sheet 38 rfl) rfl ?_
          refine ux_iast rfl (dg hd_Mo_sheet 39 rfl) ?_
          refine ux_nas (fun σ5 => ?_)
          refine ux_aload_n (dg hd_Mo_sheet 40 rfl) rfl ?_
          refine ux_getr (q := 6) fcX7 6 (by decide) wk_779 rfl rfl (dg hd_Mo_sheet 41 rfl) ?_
          refine ux_iload_n (dg hd_Mo_sheet 42 rfl) rfl ?_
          refine ux_iload_n (dg hd_Mo_sheet 43 rfl) rfl ?_
          refine ux_if_ne 88 (dg hd_Mo_sheet 44 rfl) (by decide) (fun _ => ?_) (fun _ => ?_)
          · refine ux_iconst (0 : Int32) (dg hd_Mo_sheet 45 rfl) (by decide) ?_
            refine ux_goto 89 (dg hd_Mo_sheet 46 rfl) (by decide) ?_
            refine ux_iast rfl (dg hd_Mo_sheet 48 rfl) ?_
            refine ux_nas (fun σ9 => ?_)
            refine ux_iconst (0 : Int32) (dg hd_Mo_sheet 49 rfl) (by decide) ?_
            refine ux_istore [(4, .int (0 : Int32)), (0, .ref 0), (1, .int p1), (2, .int p2), (3, .int p3)] (dg hd_Mo_sheet 50 rfl) (by decide) rfl ?_
            refine ux_wk [(0, .ref 0), (1, .int p1), (2, .int p2), (3, .int p3), (4, .int (0 : Int32))] [1, 2, 3, 4, 0] rfl ?_
            exact wk_Mo_sheet_L93 l 1000 p1 p2 p3 (0 : Int32) σ9
          · refine ux_iload_n (dg hd_Mo_sheet 47 rfl) rfl ?_
            refine ux_iast rfl (dg hd_Mo_sheet 48 rfl) ?_
            refine ux_nas (fun σ6 => ?_)
            refine ux_iconst (0 : Int32) (dg hd_Mo_sheet 49 rfl) (by decide) ?_
            refine ux_istore [(4, .int (0 : Int32)), (0, .ref 0), (1, .int p1), (2, .int p2), (3, .int p3)] (dg hd_Mo_sheet 50 rfl) (by decide) rfl ?_
            refine ux_wk [(0, .ref 0), (1, .int p1), (2, .int p2), (3, .int p3), (4, .int (0 : Int32))] [1, 2, 3, 4, 0] rfl ?_
            exact wk_Mo_sheet_L93 l 1000 p1 p2 p3 (0 : Int32) σ6
        · refine ux_iload_n (dg hd_Mo_sheet 28 rfl) rfl ?_
          refine ux_bipush (24 : Int32) (dg hd_Mo_sheet 29 rfl) (by decide) ?_
          refine ux_icmp_le 68 (dg hd_Mo_sheet 30 rfl) (by decide) (fun _ => ?_) (fun _ => ?_)
          · refine ux_aload_n (dg hd_Mo_sheet 35 rfl) rfl ?_
            refine ux_getr (q := 5) fcX7 5 (by decide) wk_778 rfl rfl (dg hd_Mo_sheet 36 rfl) ?_
            refine ux_iload_n (dg hd_Mo_sheet 37 rfl) rfl ?_
            refine ux_iload_n (dg hd_Mo_sheet 38 rfl) rfl ?_
            refine ux_iast rfl (dg hd_Mo_sheet 39 rfl) ?_
            refine ux_nas (fun σ10 => ?_)
            refine ux_aload_n (dg hd_Mo_sheet 40 rfl) rfl ?_
            refine ux_getr (q := 6) fcX7 6 (by decide) wk_779 rfl rfl (dg hd_Mo_sheet 41 rfl) ?_
            refine ux_iload_n (dg hd_Mo_sheet 42 rfl) rfl ?_
            refine ux_iload_n (dg hd_Mo_sheet 43 rfl) rfl ?_
            refine ux_if_ne 88 (dg hd_Mo_sheet 44 rfl) (by decide) (fun _ => ?_) (fun _ => ?_)
            · refine ux_iconst (0 : Int32) (dg hd_Mo_sheet 45 rfl) (by decide) ?_
              refine ux_goto 89 (dg hd_Mo_sheet 46 rfl) (by decide) ?_
              refine ux_iast rfl (dg hd_Mo_sheet 48 rfl) ?_
              refine ux_nas (fun σ12 => ?_)
              refine ux_iconst (0 : Int32) (dg hd_Mo_sheet 49 rfl) (by decide) ?_
              refine ux_istore [(4, .int (0 : Int32)), (0, .ref 0), (1, .int p1), (2, .int p2), (3, .int p3)] (dg hd_Mo_sheet 50 rfl) (by decide) rfl ?_
              refine ux_wk [(0, .ref 0), (1, .int p1), (2, .int p2), (3, .int p3), (4, .int (0 : Int32))] [1, 2, 3, 4, 0] rfl ?_
              exact wk_Mo_sheet_L93 l 1000 p1 p2 p3 (0 : Int32) σ12
            · refine ux_iload_n (dg hd_Mo_sheet 47 rfl) rfl ?_
              refine ux_iast rfl (dg hd_Mo_sheet 48 rfl) ?_
              refine ux_nas (fun σ11 => ?_)
              refine ux_iconst (0 : Int32) (dg hd_Mo_sheet 49 rfl) (by decide) ?_
              refine ux_istore [(4, .int (0 : Int32)), (0, .ref 0), (1, .int p1), (2, .int p2), (3, .int p3)] (dg hd_Mo_sheet 50 rfl) (by decide) rfl ?_
              refine ux_wk [(0, .ref 0), (1, .int p1), (2, .int p2), (3, .int p3), (4, .int (0 : Int32))] [1, 2, 3, 4, 0] rfl ?_
              exact wk_Mo_sheet_L93 l 1000 p1 p2 p3 (0 : Int32) σ11
          · refine ux_aload_n (dg hd_Mo_sheet 31 rfl) rfl ?_
            refine ux_ldc (-1000000001 : Int32) wk_847 (dg hd_Mo_sheet 32 rfl) ?_
            refine ux_callVi (As := [.int (-1000000001 : Int32)]) (sp_Mo_error l (-1000000001 : Int32) _) (by omega) cv_Mo_error wk_848 rfl rfl rfl rfl rfl (Nat.le_of_ble_eq_true rfl) (dg hd_Mo_sheet 33 rfl) (fun r13 σ14 _ => ?_)
            exact ux_iret rfl (dg hd_Mo_sheet 34 rfl)
      · refine ux_iload_n (dg hd_Mo_sheet 20 rfl) rfl ?_
        refine ux_if_ge 51 (dg hd_Mo_sheet 21 rfl) (by decide) (fun _ => ?_) (fun _ => ?_)
        · refine ux_iload_n (dg hd_Mo_sheet 26 rfl) rfl ?_
          refine ux_if_le 68 (dg hd_Mo_sheet 27 rfl) (by decide) (fun _ => ?_) (fun _ => ?_)
          · refine ux_aload_n (dg hd_Mo_sheet 35 rfl) rfl ?_
            refine ux_getr (q := 5) fcX7 5 (by decide) wk_778 rfl rfl (dg hd_Mo_sheet 36 rfl) ?_
            refine ux_iload_n (dg hd_Mo_sheet 37 rfl) rfl ?_
            refine ux_iload_n (dg hd_Mo_sheet 38 rfl) rfl ?_
            refine ux_iast rfl (dg hd_Mo_sheet 39 rfl) ?_
            refine ux_nas (fun σ15 => ?_)
            refine ux_aload_n (dg hd_Mo_sheet 40 rfl) rfl ?_
            refine ux_getr (q := 6) fcX7 6 (by decide) wk_779 rfl rfl (dg hd_Mo_sheet 41 rfl) ?_
            refine ux_iload_n (dg hd_Mo_sheet 42 rfl) rfl ?_
            refine ux_iload_n (dg hd_Mo_sheet 43 rfl) rfl ?_
            refine ux_if_ne 88 (dg hd_Mo_sheet 44 rfl) (by decide) (fun _ => ?_) (fun _ => ?_)
            · refine ux_iconst (0 : Int32) (dg hd_Mo_sheet 45 rfl) (by decide) ?_
              refine ux_goto 89 (dg hd_Mo_sheet 46 rfl) (by decide) ?_
              refine ux_iast rfl (dg hd_Mo_sheet 48 rfl) ?_
              refine ux_nas (fun σ17 => ?_)
              refine ux_iconst (0 : Int32) (dg hd_Mo_sheet 49 rfl) (by decide) ?_
              refine ux_istore [(4, .int (0 : Int32)), (0, .ref 0), (1, .int p1), (2, .int p2), (3, .int p3)] (dg hd_Mo_sheet 50 rfl) (by decide) rfl ?_
              refine ux_wk [(0, .ref 0), (1, .int p1), (2, .int p2), (3, .int p3), (4, .int (0 : Int32))] [1, 2, 3, 4, 0] rfl ?_
              exact wk_Mo_sheet_L93 l 1000 p1 p2 p3 (0 : Int32) σ17
            · refine ux_iload_n (dg hd_Mo_sheet 47 rfl) rfl ?_
              refine ux_iast rfl (dg hd_Mo_sheet 48 rfl) ?_
              refine ux_nas (fun σ16 => ?_)
              refine ux_iconst (0 : Int32) (dg hd_Mo_sheet 49 rfl) (by decide) ?_
              refine ux_istore [(4, .int (0 : Int32)), (0, .ref 0), (1, .int p1), (2, .int p2), (3, .int p3)] (dg hd_Mo_sheet 50 rfl) (by decide) rfl ?_
              refine ux_wk [(0, .ref 0), (1, .int p1), (2, .int p2), (3, .int p3), (4, .int (0 : Int32))] [1, 2, 3, 4, 0] rfl ?_
              exact wk_Mo_sheet_L93 l 1000 p1 p2 p3 (0 : Int32) σ16
          · refine ux_iload_n (dg hd_Mo_sheet 28 rfl) rfl ?_
            refine ux_bipush (24 : Int32) (dg hd_Mo_sheet 29 rfl) (by decide) ?_
            refine ux_icmp_le 68 (dg hd_Mo_sheet 30 rfl) (by decide) (fun _ => ?_) (fun _ => ?_)
            · refine ux_aload_n (dg hd_Mo_sheet 35 rfl) rfl ?_
              refine ux_getr (q := 5) fcX7 5 (by decide) wk_778 rfl rfl (dg hd_Mo_sheet 36 rfl) ?_
              refine ux_iload_n (dg hd_Mo_sheet 37 rfl) rfl ?_
              refine ux_iload_n (dg hd_Mo_sheet 38 rfl) rfl ?_
              refine ux_iast rfl (dg hd_Mo_sheet 39 rfl) ?_
              refine ux_nas (fun σ18 => ?_)
              refine ux_aload_n (dg hd_Mo_sheet 40 rfl) rfl ?_
              refine ux_getr (q := 6) fcX7 6 (by decide) wk_779 rfl rfl (dg hd_Mo_sheet 41 rfl) ?_
              refine ux_iload_n (dg hd_Mo_sheet 42 rfl) rfl ?_
              refine ux_iload_n (dg hd_Mo_sheet 43 rfl) rfl ?_
              refine ux_if_ne 88 (dg hd_Mo_sheet 44 rfl) (by decide) (fun _ => ?_) (fun _ => ?_)
              · refine ux_iconst (0 : Int32) (dg hd_Mo_sheet 45 rfl) (by decide) ?_
                refine ux_goto 89 (dg hd_Mo_sheet 46 rfl) (by decide) ?_
                refine ux_iast rfl (dg hd_Mo_sheet 48 rfl) ?_
                refine ux_nas (fun σ20 => ?_)
                refine ux_iconst (0 : Int32) (dg hd_Mo_sheet 49 rfl) (by decide) ?_
                refine ux_istore [(4, .int (0 : Int32)), (0, .ref 0), (1, .int p1), (2, .int p2), (3, .int p3)] (dg hd_Mo_sheet 50 rfl) (by decide) rfl ?_
                refine ux_wk [(0, .ref 0), (1, .int p1), (2, .int p2), (3, .int p3), (4, .int (0 : Int32))] [1, 2, 3, 4, 0] rfl ?_
                exact wk_Mo_sheet_L93 l 1000 p1 p2 p3 (0 : Int32) σ20
              · refine ux_iload_n (dg hd_Mo_sheet 47 rfl) rfl ?_
                refine ux_iast rfl (dg hd_Mo_sheet 48 rfl) ?_
                refine ux_nas (fun σ19 => ?_)
                refine ux_iconst (0 : Int32) (dg hd_Mo_sheet 49 rfl) (by decide) ?_
                refine ux_istore [(4, .int (0 : Int32)), (0, .ref 0), (1, .int p1), (2, .int p2), (3, .int p3)] (dg hd_Mo_sheet 50 rfl) (by decide) rfl ?_
                refine ux_wk [(0, .ref 0), (1, .int p1), (2, .int p2), (3, .int p3), (4, .int (0 : Int32))] [1, 2, 3, 4, 0] rfl ?_
                exact wk_Mo_sheet_L93 l 1000 p1 p2 p3 (0 : Int32) σ19
            · refine ux_aload_n (dg hd_Mo_sheet 31 rfl) rfl ?_
              refine ux_ldc (-1000000001 : Int32) wk_847 (dg hd_Mo_sheet 32 rfl) ?_
              refine ux_callVi (As := [.int (-1000000001 : Int32)]) (sp_Mo_error l (-1000000001 : Int32) _) (by omega) cv_Mo_error wk_848 rfl rfl rfl rfl rfl (Nat.le_of_ble_eq_true rfl) (dg hd_Mo_sheet 33 rfl) (fun r21 σ22 _ => ?_)
              exact ux_iret rfl (dg hd_Mo_sheet 34 rfl)
        · refine ux_aload_n (dg hd_Mo_sheet 22 rfl) rfl ?_
          refine ux_ldc (-1000000003 : Int32) wk_928 (dg hd_Mo_sheet 23 rfl) ?_
          refine ux_callVi (As := [.int (-1000000003 : Int32)]) (sp_Mo_error l (-1000000003 : Int32) _) (by omega) cv_Mo_error wk_848 rfl rfl rfl rfl rfl (Nat.le_of_ble_eq_true rfl) (dg hd_Mo_sheet 24 rfl) (fun r23 σ24 _ => ?_)
          exact ux_iret rfl (dg hd_Mo_sheet 25 rfl)
    · refine ux_iload_n (dg hd_Mo_sheet 5 rfl) rfl ?_
      refine ux_bipush (8 : Int32) (dg hd_Mo_sheet 6 rfl) (by decide) ?_
      refine ux_icmp_eq 36 (dg hd_Mo_sheet 7 rfl) (by decide) (fun _ => ?_) (fun _ => ?_)
      · refine ux_iload_n (dg hd_Mo_sheet 18 rfl) rfl ?_
        refine ux_if_le 51 (dg hd_Mo_sheet 19 rfl) (by decide) (fun _ => ?_) (fun _ => ?_)
        · refine ux_iload_n (dg hd_Mo_sheet 26 rfl) rfl ?_
          refine ux_if_le 68 (dg hd_Mo_sheet 27 rfl) (by decide) (fun _ => ?_) (fun _ => ?_)
          · refine ux_aload_n (dg hd_Mo_sheet 35 rfl) rfl ?_
            refine ux_getr (q := 5) fcX7 5 (by decide) wk_778 rfl rfl (dg hd_Mo_sheet 36 rfl) ?_
            refine ux_iload_n (dg hd_Mo_sheet 37 rfl) rfl ?_
            refine ux_iload_n (dg hd_Mo_sheet 38 rfl) rfl ?_
            refine ux_iast rfl (dg hd_Mo_sheet 39 rfl) ?_
            refine ux_nas (fun σ25 => ?_)
            refine ux_aload_n (dg hd_Mo_sheet 40 rfl) rfl ?_
            refine ux_getr (q := 6) fcX7 6 (by decide) wk_779 rfl rfl (dg hd_Mo_sheet 41 rfl) ?_
            refine ux_iload_n (dg hd_Mo_sheet 42 rfl) rfl ?_
            refine ux_iload_n (dg hd_Mo_sheet 43 rfl) rfl ?_
            refine ux_if_ne 88 (dg hd_Mo_sheet 44 rfl) (by decide) (fun _ => ?_) (fun _ => ?_)
            · refine ux_iconst (0 : Int32) (dg hd_Mo_sheet 45 rfl) (by decide) ?_
              refine ux_goto 89 (dg hd_Mo_sheet 46 rfl) (by decide) ?_
              refine ux_iast rfl (dg hd_Mo_sheet 48 rfl) ?_
              refine ux_nas (fun σ27 => ?_)
              refine ux_iconst (0 : Int32) (dg hd_Mo_sheet 49 rfl) (by decide) ?_
              refine ux_istore [(4, .int (0 : Int32)), (0, .ref 0), (1, .int p1), (2, .int p2), (3, .int p3)] (dg hd_Mo_sheet 50 rfl) (by decide) rfl ?_
              refine ux_wk [(0, .ref 0), (1, .int p1), (2, .int p2), (3, .int p3), (4, .int (0 : Int32))] [1, 2, 3, 4, 0] rfl ?_
              exact wk_Mo_sheet_L93 l 1000 p1 p2 p3 (0 : Int32) σ27
            · refine ux_iload_n (dg hd_Mo_sheet 47 rfl) rfl ?_
              refine ux_iast rfl (dg hd_Mo_sheet 48 rfl) ?_
              refine ux_nas (fun σ26 => ?_)
              refine ux_iconst (0 : Int32) (dg hd_Mo_sheet 49 rfl) (by decide) ?_
              refine ux_istore [(4, .int (0 : Int32)), (0, .ref 0), (1, .int p1), (2, .int p2), (3, .int p3)] (dg hd_Mo_sheet 50 rfl) (by decide) rfl ?_
              refine ux_wk [(0, .ref 0), (1, .int p1), (2, .int p2), (3, .int p3), (4, .int (0 : Int32))] [1, 2, 3, 4, 0] rfl ?_
              exact wk_Mo_sheet_L93 l 1000 p1 p2 p3 (0 : Int32) σ26
          · refine ux_iload_n (dg hd_Mo_sheet 28 rfl) rfl ?_
            refine ux_bipush (24 : Int32) (dg hd_Mo_sheet 29 rfl) (by decide) ?_
            refine ux_icmp_le 68 (dg hd_Mo_sheet 30 rfl) (by decide) (fun _ => ?_) (fun _ => ?_)
            · refine ux_aload_n (dg hd_Mo_sheet 35 rfl) rfl ?_
              refine ux_getr (q := 5) fcX7 5 (by decide) wk_778 rfl rfl (dg hd_Mo_sheet 36 rfl) ?_
              refine ux_iload_n (dg hd_Mo_sheet 37 rfl) rfl ?_
              refine ux_iload_n (dg hd_Mo_sheet 38 rfl) rfl ?_
              refine ux_iast rfl (dg hd_Mo_sheet 39 rfl) ?_
              refine ux_nas (fun σ28 => ?_)
              refine ux_aload_n (dg hd_Mo_sheet 40 rfl) rfl ?_
              refine ux_getr (q := 6) fcX7 6 (by decide) wk_779 rfl rfl (dg hd_Mo_sheet 41 rfl) ?_
              refine ux_iload_n (dg hd_Mo_sheet 42 rfl) rfl ?_
              refine ux_iload_n (dg hd_Mo_sheet 43 rfl) rfl ?_
              refine ux_if_ne 88 (dg hd_Mo_sheet 44 rfl) (by decide) (fun _ => ?_) (fun _ => ?_)
              · refine ux_iconst (0 : Int32) (dg hd_Mo_sheet 45 rfl) (by decide) ?_
                refine ux_goto 89 (dg hd_Mo_sheet 46 rfl) (by decide) ?_
                refine ux_iast rfl (dg hd_Mo_sheet 48 rfl) ?_
                refine ux_nas (fun σ30 => ?_)
                refine ux_iconst (0 : Int32) (dg hd_Mo_sheet 49 rfl) (by decide) ?_
                refine ux_istore [(4, .int (0 : Int32)), (0, .ref 0), (1, .int p1), (2, .int p2), (3, .int p3)] (dg hd_Mo_sheet 50 rfl) (by decide) rfl ?_
                refine ux_wk [(0, .ref 0), (1, .int p1), (2, .int p2), (3, .int p3), (4, .int (0 : Int32))] [1, 2, 3, 4, 0] rfl ?_
                exact wk_Mo_sheet_L93 l 1000 p1 p2 p3 (0 : Int32) σ30
              · refine ux_iload_n (dg hd_Mo_sheet 47 rfl) rfl ?_
                refine ux_iast rfl (dg hd_Mo_sheet 48 rfl) ?_
                refine ux_nas (fun σ29 => ?_)
                refine ux_iconst (0 : Int32) (dg hd_Mo_sheet 49 rfl) (by decide) ?_
                refine ux_istore [(4, .int (0 : Int32)), (0, .ref 0), (1, .int p1), (2, .int p2), (3, .int p3)] (dg hd_Mo_sheet 50 rfl) (by decide) rfl ?_
                refine ux_wk [(0, .ref 0), (1, .int p1), (2, .int p2), (3, .int p3), (4, .int (0 : Int32))] [1, 2, 3, 4, 0] rfl ?_
                exact wk_Mo_sheet_L93 l 1000 p1 p2 p3 (0 : Int32) σ29
            · refine ux_aload_n (dg hd_Mo_sheet 31 rfl) rfl ?_
              refine ux_ldc (-1000000001 : Int32) wk_847 (dg hd_Mo_sheet 32 rfl) ?_
              refine ux_callVi (As := [.int (-1000000001 : Int32)]) (sp_Mo_error l (-1000000001 : Int32) _) (by omega) cv_Mo_error wk_848 rfl rfl rfl rfl rfl (Nat.le_of_ble_eq_true rfl) (dg hd_Mo_sheet 33 rfl) (fun r31 σ32 _ => ?_)
              exact ux_iret rfl (dg hd_Mo_sheet 34 rfl)
        · refine ux_iload_n (dg hd_Mo_sheet 20 rfl) rfl ?_
          refine ux_if_ge 51 (dg hd_Mo_sheet 21 rfl) (by decide) (fun _ => ?_) (fun _ => ?_)
          · refine ux_iload_n (dg hd_Mo_sheet 26 rfl) rfl ?_
            refine ux_if_le 68 (dg hd_Mo_sheet 27 rfl) (by decide) (fun _ => ?_) (fun _ => ?_)
            · refine ux_aload_n (dg hd_Mo_sheet 35 rfl) rfl ?_
              refine ux_getr (q := 5) fcX7 5 (by decide) wk_778 rfl rfl (dg hd_Mo_sheet 36 rfl) ?_
              refine ux_iload_n (dg hd_Mo_sheet 37 rfl) rfl ?_
              refine ux_iload_n (dg hd_Mo_sheet 38 rfl) rfl ?_
              refine ux_iast rfl (dg hd_Mo_sheet 39 rfl) ?_
              refine ux_nas (fun σ33 => ?_)
              refine ux_aload_n (dg hd_Mo_sheet 40 rfl) rfl ?_
              refine ux_getr (q := 6) fcX7 6 (by decide) wk_779 rfl rfl (dg hd_Mo_sheet 41 rfl) ?_
              refine ux_iload_n (dg hd_Mo_sheet 42 rfl) rfl ?_
              refine ux_iload_n (dg hd_Mo_sheet 43 rfl) rfl ?_
              refine ux_if_ne 88 (dg hd_Mo_sheet 44 rfl) (by decide) (fun _ => ?_) (fun _ => ?_)
              · refine ux_iconst (0 : Int32) (dg hd_Mo_sheet 45 rfl) (by decide) ?_
                refine ux_goto 89 (dg hd_Mo_sheet 46 rfl) (by decide) ?_
                refine ux_iast rfl (dg hd_Mo_sheet 48 rfl) ?_
                refine ux_nas (fun σ35 => ?_)
                refine ux_iconst (0 : Int32) (dg hd_Mo_sheet 49 rfl) (by decide) ?_
                refine ux_istore [(4, .int (0 : Int32)), (0, .ref 0), (1, .int p1), (2, .int p2), (3, .int p3)] (dg hd_Mo_sheet 50 rfl) (by decide) rfl ?_
                refine ux_wk [(0, .ref 0), (1, .int p1), (2, .int p2), (3, .int p3), (4, .int (0 : Int32))] [1, 2, 3, 4, 0] rfl ?_
                exact wk_Mo_sheet_L93 l 1000 p1 p2 p3 (0 : Int32) σ35
              · refine ux_iload_n (dg hd_Mo_sheet 47 rfl) rfl ?_
                refine ux_iast rfl (dg hd_Mo_sheet 48 rfl) ?_
                refine ux_nas (fun σ34 => ?_)
                refine ux_iconst (0 : Int32) (dg hd_Mo_sheet 49 rfl) (by decide) ?_
                refine ux_istore [(4, .int (0 : Int32)), (0, .ref 0), (1, .int p1), (2, .int p2), (3, .int p3)] (dg hd_Mo_sheet 50 rfl) (by decide) rfl ?_
                refine ux_wk [(0, .ref 0), (1, .int p1), (2, .int p2), (3, .int p3), (4, .int (0 : Int32))] [1, 2, 3, 4, 0] rfl ?_
                exact wk_Mo_sheet_L93 l 1000 p1 p2 p3 (0 : Int32) σ34
            · refine ux_iload_n (dg hd_Mo_sheet 28 rfl) rfl ?_
              refine ux_bipush (24 : Int32) (dg hd_Mo_sheet 29 rfl) (by decide) ?_
              refine ux_icmp_le 68 (dg hd_Mo_sheet 30 rfl) (by decide) (fun _ => ?_) (fun _ => ?_)
              · refine ux_aload_n (dg hd_Mo_sheet 35 rfl) rfl ?_
                refine ux_getr (q := 5) fcX7 5 (by decide) wk_778 rfl rfl (dg hd_Mo_sheet 36 rfl) ?_
                refine ux_iload_n (dg hd_Mo_sheet 37 rfl) rfl ?_
                refine ux_iload_n (dg hd_Mo_sheet 38 rfl) rfl ?_
                refine ux_iast rfl (dg hd_Mo_sheet 39 rfl) ?_
                refine ux_nas (fun σ36 => ?_)
                refine ux_aload_n (dg hd_Mo_sheet 40 rfl) rfl ?_
                refine ux_getr (q := 6) fcX7 6 (by decide) wk_779 rfl rfl (dg hd_Mo_sheet 41 rfl) ?_
                refine ux_iload_n (dg hd_Mo_sheet 42 rfl) rfl ?_
                refine ux_iload_n (dg hd_Mo_sheet 43 rfl) rfl ?_
                refine ux_if_ne 88 (dg hd_Mo_sheet 44 rfl) (by decide) (fun _ => ?_) (fun _ => ?_)
                · refine ux_iconst (0 : Int32) (dg hd_Mo_sheet 45 rfl) (by decide) ?_
                  refine ux_goto 89 (dg hd_Mo_sheet 46 rfl) (by decide) ?_
                  refine ux_iast rfl (dg hd_Mo_sheet 48 rfl) ?_
                  refine ux_nas (fun σ38 => ?_)
                  refine ux_iconst (0 : Int32) (dg hd_Mo_sheet 49 rfl) (by decide) ?_
                  refine ux_istore [(4, .int (0 : Int32)), (0, .ref 0), (1, .int p1), (2, .int p2), (3, .int p3)] (dg hd_Mo_sheet 50 rfl) (by decide) rfl ?_
                  refine ux_wk [(0, .ref 0), (1, .int p1), (2, .int p2), (3, .int p3), (4, .int (0 : Int32))] [1, 2, 3, 4, 0] rfl ?_
                  exact wk_Mo_sheet_L93 l 1000 p1 p2 p3 (0 : Int32) σ38
                · refine ux_iload_n (dg hd_Mo_sheet 47 rfl) rfl ?_
                  refine ux_iast rfl (dg hd_Mo_sheet 48 rfl) ?_
                  refine ux_nas (fun σ37 => ?_)
                  refine ux_iconst (0 : Int32) (dg hd_Mo_sheet 49 rfl) (by decide) ?_
                  refine ux_istore [(4, .int (0 : Int32)), (0, .ref 0), (1, .int p1), (2, .int p2), (3, .int p3)] (dg hd_Mo_sheet 50 rfl) (by decide) rfl ?_
                  refine ux_wk [(0, .ref 0), (1, .int p1), (2, .int p2), (3, .int p3), (4, .int (0 : Int32))] [1, 2, 3, 4, 0] rfl ?_
                  exact wk_Mo_sheet_L93 l 1000 p1 p2 p3 (0 : Int32) σ37
              · refine ux_aload_n (dg hd_Mo_sheet 31 rfl) rfl ?_
                refine ux_ldc (-1000000001 : Int32) wk_847 (dg hd_Mo_sheet 32 rfl) ?_
                refine ux_callVi (As := [.int (-1000000001 : Int32)]) (sp_Mo_error l (-1000000001 : Int32) _) (by omega) cv_Mo_error wk_848 rfl rfl rfl rfl rfl (Nat.le_of_ble_eq_true rfl) (dg hd_Mo_sheet 33 rfl) (fun r39 σ40 _ => ?_)
                exact ux_iret rfl (dg hd_Mo_sheet 34 rfl)
          · refine ux_aload_n (dg hd_Mo_sheet 22 rfl) rfl ?_
            refine ux_ldc (-1000000003 : Int32) wk_928 (dg hd_Mo_sheet 23 rfl) ?_
            refine ux_callVi (As := [.int (-1000000003 : Int32)]) (sp_Mo_error l (-1000000003 : Int32) _) (by omega) cv_Mo_error wk_848 rfl rfl rfl rfl rfl (Nat.le_of_ble_eq_true rfl) (dg hd_Mo_sheet 24 rfl) (fun r41 σ42 _ => ?_)
            exact ux_iret rfl (dg hd_Mo_sheet 25 rfl)
      · refine ux_iload_n (dg hd_Mo_sheet 8 rfl) rfl ?_
        refine ux_bipush (16 : Int32) (dg hd_Mo_sheet 9 rfl) (by decide) ?_
        refine ux_icmp_eq 36 (dg hd_Mo_sheet 10 rfl) (by decide) (fun _ => ?_) (fun _ => ?_)
        · refine ux_iload_n (dg hd_Mo_sheet 18 rfl) rfl ?_
          refine ux_if_le 51 (dg hd_Mo_sheet 19 rfl) (by decide) (fun _ => ?_) (fun _ => ?_)
          · refine ux_iload_n (dg hd_Mo_sheet 26 rfl) rfl ?_
            refine ux_if_le 68 (dg hd_Mo_sheet 27 rfl) (by decide) (fun _ => ?_) (fun _ => ?_)
            · refine ux_aload_n (dg hd_Mo_sheet 35 rfl) rfl ?_
              refine ux_getr (q := 5) fcX7 5 (by decide) wk_778 rfl rfl (dg hd_Mo_sheet 36 rfl) ?_
              refine ux_iload_n (dg hd_Mo_sheet 37 rfl) rfl ?_
              refine ux_iload_n (dg hd_Mo_sheet 38 rfl) rfl ?_
              refine ux_iast rfl (dg hd_Mo_sheet 39 rfl) ?_
              refine ux_nas (fun σ43 => ?_)
              refine ux_aload_n (dg hd_Mo_sheet 40 rfl) rfl ?_
              refine ux_getr (q := 6) fcX7 6 (by decide) wk_779 rfl rfl (dg hd_Mo_sheet 41 rfl) ?_
              refine ux_iload_n (dg hd_Mo_sheet 42 rfl) rfl ?_
              refine ux_iload_n (dg hd_Mo_sheet 43 rfl) rfl ?_
              refine ux_if_ne 88 (dg hd_Mo_sheet 44 rfl) (by decide) (fun _ => ?_) (fun _ => ?_)
              · refine ux_iconst (0 : Int32) (dg hd_Mo_sheet 45 rfl) (by decide) ?_
                refine ux_goto 89 (dg hd_Mo_sheet 46 rfl) (by decide) ?_
                refine ux_iast rfl (dg hd_Mo_sheet 48 rfl) ?_
                refine ux_nas (fun σ45 => ?_)
                refine ux_iconst (0 : Int32) (dg hd_Mo_sheet 49 rfl) (by decide) ?_
                refine ux_istore [(4, .int (0 : Int32)), (0, .ref 0), (1, .int p1), (2, .int p2), (3, .int p3)] (dg hd_Mo_sheet 50 rfl) (by decide) rfl ?_
                refine ux_wk [(0, .ref 0), (1, .int p1), (2, .int p2), (3, .int p3), (4, .int (0 : Int32))] [1, 2, 3, 4, 0] rfl ?_
                exact wk_Mo_sheet_L93 l 1000 p1 p2 p3 (0 : Int32) σ45
              · refine ux_iload_n (dg hd_Mo_sheet 47 rfl) rfl ?_
                refine ux_iast rfl (dg hd_Mo_sheet 48 rfl) ?_
                refine ux_nas (fun σ44 => ?_)
                refine ux_iconst (0 : Int32) (dg hd_Mo_sheet 49 rfl) (by decide) ?_
                refine ux_istore [(4, .int (0 : Int32)), (0, .ref 0), (1, .int p1), (2, .int p2), (3, .int p3)] (dg hd_Mo_sheet 50 rfl) (by decide) rfl ?_
                refine ux_wk [(0, .ref 0), (1, .int p1), (2, .int p2), (3, .int p3), (4, .int (0 : Int32))] [1, 2, 3, 4, 0] rfl ?_
                exact wk_Mo_sheet_L93 l 1000 p1 p2 p3 (0 : Int32) σ44
            · refine ux_iload_n (dg hd_Mo_sheet 28 rfl) rfl ?_
              refine ux_bipush (24 : Int32) (dg hd_Mo_sheet 29 rfl) (by decide) ?_
              refine ux_icmp_le 68 (dg hd_Mo_sheet 30 rfl) (by decide) (fun _ => ?_) (fun _ => ?_)
              · refine ux_aload_n (dg hd_Mo_sheet 35 rfl) rfl ?_
                refine ux_getr (q := 5) fcX7 5 (by decide) wk_778 rfl rfl (dg hd_Mo_sheet 36 rfl) ?_
                refine ux_iload_n (dg hd_Mo_sheet 37 rfl) rfl ?_
                refine ux_iload_n (dg hd_Mo_sheet 38 rfl) rfl ?_
                refine ux_iast rfl (dg hd_Mo_sheet 39 rfl) ?_
                refine ux_nas (fun σ46 => ?_)
                refine ux_aload_n (dg hd_Mo_sheet 40 rfl) rfl ?_
                refine ux_getr (q := 6) fcX7 6 (by decide) wk_779 rfl rfl (dg hd_Mo_sheet 41 rfl) ?_
                refine ux_iload_n (dg hd_Mo_sheet 42 rfl) rfl ?_
                refine ux_iload_n (dg hd_Mo_sheet 43 rfl) rfl ?_
                refine ux_if_ne 88 (dg hd_Mo_sheet 44 rfl) (by decide) (fun _ => ?_) (fun _ => ?_)
                · refine ux_iconst (0 : Int32) (dg hd_Mo_sheet 45 rfl) (by decide) ?_
                  refine ux_goto 89 (dg hd_Mo_sheet 46 rfl) (by decide) ?_
                  refine ux_iast rfl (dg hd_Mo_sheet 48 rfl) ?_
                  refine ux_nas (fun σ48 => ?_)
                  refine ux_iconst (0 : Int32) (dg hd_Mo_sheet 49 rfl) (by decide) ?_
                  refine ux_istore [(4, .int (0 : Int32)), (0, .ref 0), (1, .int p1), (2, .int p2), (3, .int p3)] (dg hd_Mo_sheet 50 rfl) (by decide) rfl ?_
                  refine ux_wk [(0, .ref 0), (1, .int p1), (2, .int p2), (3, .int p3), (4, .int (0 : Int32))] [1, 2, 3, 4, 0] rfl ?_
                  exact wk_Mo_sheet_L93 l 1000 p1 p2 p3 (0 : Int32) σ48
                · refine ux_iload_n (dg hd_Mo_sheet 47 rfl) rfl ?_
                  refine ux_iast rfl (dg hd_Mo_sheet 48 rfl) ?_
                  refine ux_nas (fun σ47 => ?_)
                  refine ux_iconst (0 : Int32) (dg hd_Mo_sheet 49 rfl) (by decide) ?_
                  refine ux_istore [(4, .int (0 : Int32)), (0, .ref 0), (1, .int p1), (2, .int p2), (3, .int p3)] (dg hd_Mo_sheet 50 rfl) (by decide) rfl ?_
                  refine ux_wk [(0, .ref 0), (1, .int p1), (2, .int p2), (3, .int p3), (4, .int (0 : Int32))] [1, 2, 3, 4, 0] rfl ?_
                  exact wk_Mo_sheet_L93 l 1000 p1 p2 p3 (0 : Int32) σ47
              · refine ux_aload_n (dg hd_Mo_sheet 31 rfl) rfl ?_
                refine ux_ldc (-1000000001 : Int32) wk_847 (dg hd_Mo_sheet 32 rfl) ?_
                refine ux_callVi (As := [.int (-1000000001 : Int32)]) (sp_Mo_error l (-1000000001 : Int32) _) (by omega) cv_Mo_error wk_848 rfl rfl rfl rfl rfl (Nat.le_of_ble_eq_true rfl) (dg hd_Mo_sheet 33 rfl) (fun r49 σ50 _ => ?_)
                exact ux_iret rfl (dg hd_Mo_sheet 34 rfl)
          · refine ux_iload_n (dg hd_Mo_sheet 20 rfl) rfl ?_
            refine ux_if_ge 51 (dg hd_Mo_sheet 21 rfl) (by decide) (fun _ => ?_) (fun _ => ?_)
            · refine ux_iload_n (dg hd_Mo_sheet 26 rfl) rfl ?_
              refine ux_if_le 68 (dg hd_Mo_sheet 27 rfl) (by decide) (fun _ => ?_) (fun _ => ?_)
              · refine ux_aload_n (dg hd_Mo_sheet 35 rfl) rfl ?_
                refine ux_getr (q := 5) fcX7 5 (by decide) wk_778 rfl rfl (dg hd_Mo_sheet 36 rfl) ?_
                refine ux_iload_n (dg hd_Mo_sheet 37 rfl) rfl ?_
                refine ux_iload_n (dg hd_Mo_sheet 38 rfl) rfl ?_
                refine ux_iast rfl (dg hd_Mo_sheet 39 rfl) ?_
                refine ux_nas (fun σ51 => ?_)
                refine ux_aload_n (dg hd_Mo_sheet 40 rfl) rfl ?_
                refine ux_getr (q := 6) fcX7 6 (by decide) wk_779 rfl rfl (dg hd_Mo_sheet 41 rfl) ?_
                refine ux_iload_n (dg hd_Mo_sheet 42 rfl) rfl ?_
                refine ux_iload_n (dg hd_Mo_sheet 43 rfl) rfl ?_
                refine ux_if_ne 88 (dg hd_Mo_sheet 44 rfl) (by decide) (fun _ => ?_) (fun _ => ?_)
                · refine ux_iconst (0 : Int32) (dg hd_Mo_sheet 45 rfl) (by decide) ?_
                  refine ux_goto 89 (dg hd_Mo_sheet 46 rfl) (by decide) ?_
                  refine ux_iast rfl (dg hd_Mo_sheet 48 rfl) ?_
                  refine ux_nas (fun σ53 => ?_)
                  refine ux_iconst (0 : Int32) (dg hd_Mo_sheet 49 rfl) (by decide) ?_
                  refine ux_istore [(4, .int (0 : Int32)), (0, .ref 0), (1, .int p1), (2, .int p2), (3, .int p3)] (dg hd_Mo_sheet 50 rfl) (by decide) rfl ?_
                  refine ux_wk [(0, .ref 0), (1, .int p1), (2, .int p2), (3, .int p3), (4, .int (0 : Int32))] [1, 2, 3, 4, 0] rfl ?_
                  exact wk_Mo_sheet_L93 l 1000 p1 p2 p3 (0 : Int32) σ53
                · refine ux_iload_n (dg hd_Mo_sheet 47 rfl) rfl ?_
                  refine ux_iast rfl (dg hd_Mo_sheet 48 rfl) ?_
                  refine ux_nas (fun σ52 => ?_)
                  refine ux_iconst (0 : Int32) (dg hd_Mo_sheet 49 rfl) (by decide) ?_
                  refine ux_istore [(4, .int (0 : Int32)), (0, .ref 0), (1, .int p1), (2, .int p2), (3, .int p3)] (dg hd_Mo_sheet 50 rfl) (by decide) rfl ?_
                  refine ux_wk [(0, .ref 0), (1, .int p1), (2, .int p2), (3, .int p3), (4, .int (0 : Int32))] [1, 2, 3, 4, 0] rfl ?_
                  exact wk_Mo_sheet_L93 l 1000 p1 p2 p3 (0 : Int32) σ52
              · refine ux_iload_n (dg hd_Mo_sheet 28 rfl) rfl ?_
                refine ux_bipush (24 : Int32) (dg hd_Mo_sheet 29 rfl) (by decide) ?_
                refine ux_icmp_le 68 (dg hd_Mo_sheet 30 rfl) (by decide) (fun _ => ?_) (fun _ => ?_)
                · refine ux_aload_n (dg hd_Mo_sheet 35 rfl) rfl ?_
                  refine ux_getr (q := 5) fcX7 5 (by decide) wk_778 rfl rfl (dg hd_Mo_sheet 36 rfl) ?_
                  refine ux_iload_n (dg hd_Mo_sheet 37 rfl) rfl ?_
                  refine ux_iload_n (dg hd_Mo_sheet 38 rfl) rfl ?_
                  refine ux_iast rfl (dg hd_Mo_sheet 39 rfl) ?_
                  refine ux_nas (fun σ54 => ?_)
                  refine ux_aload_n (dg hd_Mo_sheet 40 rfl) rfl ?_
                  refine ux_getr (q := 6) fcX7 6 (by decide) wk_779 rfl rfl (dg hd_Mo_sheet 41 rfl) ?_
                  refine ux_iload_n (dg hd_Mo_sheet 42 rfl) rfl ?_
                  refine ux_iload_n (dg hd_Mo_sheet 43 rfl) rfl ?_
                  refine ux_if_ne 88 (dg hd_Mo_sheet 44 rfl) (by decide) (fun _ => ?_) (fun _ => ?_)
                  · refine ux_iconst (0 : Int32) (dg hd_Mo_sheet 45 rfl) (by decide) ?_
                    refine ux_goto 89 (dg hd_Mo_sheet 46 rfl) (by decide) ?_
                    refine ux_iast rfl (dg hd_Mo_sheet 48 rfl) ?_
                    refine ux_nas (fun σ56 => ?_)
                    refine ux_iconst (0 : Int32) (dg hd_Mo_sheet 49 rfl) (by decide) ?_
                    refine ux_istore [(4, .int (0 : Int32)), (0, .ref 0), (1, .int p1), (2, .int p2), (3, .int p3)] (dg hd_Mo_sheet 50 rfl) (by decide) rfl ?_
                    refine ux_wk [(0, .ref 0), (1, .int p1), (2, .int p2), (3, .int p3), (4, .int (0 : Int32))] [1, 2, 3, 4, 0] rfl ?_
                    exact wk_Mo_sheet_L93 l 1000 p1 p2 p3 (0 : Int32) σ56
                  · refine ux_iload_n (dg hd_Mo_sheet 47 rfl) rfl ?_
                    refine ux_iast rfl (dg hd_Mo_sheet 48 rfl) ?_
                    refine ux_nas (fun σ55 => ?_)
                    refine ux_iconst (0 : Int32) (dg hd_Mo_sheet 49 rfl) (by decide) ?_
                    refine ux_istore [(4, .int (0 : Int32)), (0, .ref 0), (1, .int p1), (2, .int p2), (3, .int p3)] (dg hd_Mo_sheet 50 rfl) (by decide) rfl ?_
                    refine ux_wk [(0, .ref 0), (1, .int p1), (2, .int p2), (3, .int p3), (4, .int (0 : Int32))] [1, 2, 3, 4, 0] rfl ?_
                    exact wk_Mo_sheet_L93 l 1000 p1 p2 p3 (0 : Int32) σ55
                · refine ux_aload_n (dg hd_Mo_sheet 31 rfl) rfl ?_
                  refine ux_ldc (-1000000001 : Int32) wk_847 (dg hd_Mo_sheet 32 rfl) ?_
                  refine ux_callVi (As := [.int (-1000000001 : Int32)]) (sp_Mo_error l (-1000000001 : Int32) _) (by omega) cv_Mo_error wk_848 rfl rfl rfl rfl rfl (Nat.le_of_ble_eq_true rfl) (dg hd_Mo_sheet 33 rfl) (fun r57 σ58 _ => ?_)
                  exact ux_iret rfl (dg hd_Mo_sheet 34 rfl)
            · refine ux_aload_n (dg hd_Mo_sheet 22 rfl) rfl ?_
              refine ux_ldc (-1000000003 : Int32) wk_928 (dg hd_Mo_sheet 23 rfl) ?_
              refine ux_callVi (As := [.int (-1000000003 : Int32)]) (sp_Mo_error l (-1000000003 : Int32) _) (by omega) cv_Mo_error wk_848 rfl rfl rfl rfl rfl (Nat.le_of_ble_eq_true rfl) (dg hd_Mo_sheet 24 rfl) (fun r59 σ60 _ => ?_)
              exact ux_iret rfl (dg hd_Mo_sheet 25 rfl)
        · refine ux_iload_n (dg hd_Mo_sheet 11 rfl) rfl ?_
          refine ux_bipush (32 : Int32) (dg hd_Mo_sheet 12 rfl) (by decide) ?_
          refine ux_icmp_eq 36 (dg hd_Mo_sheet 13 rfl) (by decide) (fun _ => ?_) (fun _ => ?_)
          · refine ux_iload_n (dg hd_Mo_sheet 18 rfl) rfl ?_
            refine ux_if_le 51 (dg hd_Mo_sheet 19 rfl) (by decide) (fun _ => ?_) (fun _ => ?_)
            · refine ux_iload_n (dg hd_Mo_sheet 26 rfl) rfl ?_
              refine ux_if_le 68 (dg hd_Mo_sheet 27 rfl) (by decide) (fun _ => ?_) (fun _ => ?_)
              · refine ux_aload_n (dg hd_Mo_sheet 35 rfl) rfl ?_
                refine ux_getr (q := 5) fcX7 5 (by decide) wk_778 rfl rfl (dg hd_Mo_sheet 36 rfl) ?_
                refine ux_iload_n (dg hd_Mo_sheet 37 rfl) rfl ?_
                refine ux_iload_n (dg hd_Mo_sheet 38 rfl) rfl ?_
                refine ux_iast rfl (dg hd_Mo_sheet 39 rfl) ?_
                refine ux_nas (fun σ61 => ?_)
                refine ux_aload_n (dg hd_Mo_sheet 40 rfl) rfl ?_
                refine ux_getr (q := 6) fcX7 6 (by decide) wk_779 rfl rfl (dg hd_Mo_sheet 41 rfl) ?_
                refine ux_iload_n (dg hd_Mo_sheet 42 rfl) rfl ?_
                refine ux_iload_n (dg hd_Mo_sheet 43 rfl) rfl ?_
                refine ux_if_ne 88 (dg hd_Mo_sheet 44 rfl) (by decide) (fun _ => ?_) (fun _ => ?_)
                · refine ux_iconst (0 : Int32) (dg hd_Mo_sheet 45 rfl) (by decide) ?_
                  refine ux_goto 89 (dg hd_Mo_sheet 46 rfl) (by decide) ?_
                  refine ux_iast rfl (dg hd_Mo_sheet 48 rfl) ?_
                  refine ux_nas (fun σ63 => ?_)
                  refine ux_iconst (0 : Int32) (dg hd_Mo_sheet 49 rfl) (by decide) ?_
                  refine ux_istore [(4, .int (0 : Int32)), (0, .ref 0), (1, .int p1), (2, .int p2), (3, .int p3)] (dg hd_Mo_sheet 50 rfl) (by decide) rfl ?_
                  refine ux_wk [(0, .ref 0), (1, .int p1), (2, .int p2), (3, .int p3), (4, .int (0 : Int32))] [1, 2, 3, 4, 0] rfl ?_
                  exact wk_Mo_sheet_L93 l 1000 p1 p2 p3 (0 : Int32) σ63
                · refine ux_iload_n (dg hd_Mo_sheet 47 rfl) rfl ?_
                  refine ux_iast rfl (dg hd_Mo_sheet 48 rfl) ?_
                  refine ux_nas (fun σ62 => ?_)
                  refine ux_iconst (0 : Int32) (dg hd_Mo_sheet 49 rfl) (by decide) ?_
                  refine ux_istore [(4, .int (0 : Int32)), (0, .ref 0), (1, .int p1), (2, .int p2), (3, .int p3)] (dg hd_Mo_sheet 50 rfl) (by decide) rfl ?_
                  refine ux_wk [(0, .ref 0), (1, .int p1), (2, .int p2), (3, .int p3), (4, .int (0 : Int32))] [1, 2, 3, 4, 0] rfl ?_
                  exact wk_Mo_sheet_L93 l 1000 p1 p2 p3 (0 : Int32) σ62
              · refine ux_iload_n (dg hd_Mo_sheet 28 rfl) rfl ?_
                refine ux_bipush (24 : Int32) (dg hd_Mo_sheet 29 rfl) (by decide) ?_
                refine ux_icmp_le 68 (dg hd_Mo_sheet 30 rfl) (by decide) (fun _ => ?_) (fun _ => ?_)
                · refine ux_aload_n (dg hd_Mo_sheet 35 rfl) rfl ?_
                  refine ux_getr (q := 5) fcX7 5 (by decide) wk_778 rfl rfl (dg hd_Mo_sheet 36 rfl) ?_
                  refine ux_iload_n (dg hd_Mo_sheet 37 rfl) rfl ?_
                  refine ux_iload_n (dg hd_Mo_sheet 38 rfl) rfl ?_
                  refine ux_iast rfl (dg hd_Mo_sheet 39 rfl) ?_
                  refine ux_nas (fun σ64 => ?_)
                  refine ux_aload_n (dg hd_Mo_sheet 40 rfl) rfl ?_
                  refine ux_getr (q := 6) fcX7 6 (by decide) wk_779 rfl rfl (dg hd_Mo_sheet 41 rfl) ?_
                  refine ux_iload_n (dg hd_Mo_sheet 42 rfl) rfl ?_
                  refine ux_iload_n (dg hd_Mo_sheet 43 rfl) rfl ?_
                  refine ux_if_ne 88 (dg hd_Mo_sheet 44 rfl) (by decide) (fun _ => ?_) (fun _ => ?_)
                  · refine ux_iconst (0 : Int32) (dg hd_Mo_sheet 45 rfl) (by decide) ?_
                    refine ux_goto 89 (dg hd_Mo_sheet 46 rfl) (by decide) ?_
                    refine ux_iast rfl (dg hd_Mo_sheet 48 rfl) ?_
                    refine ux_nas (fun σ66 => ?_)
                    refine ux_iconst (0 : Int32) (dg hd_Mo_sheet 49 rfl) (by decide) ?_
                    refine ux_istore [(4, .int (0 : Int32)), (0, .ref 0), (1, .int p1), (2, .int p2), (3, .int p3)] (dg hd_Mo_sheet 50 rfl) (by decide) rfl ?_
                    refine ux_wk [(0, .ref 0), (1, .int p1), (2, .int p2), (3, .int p3), (4, .int (0 : Int32))] [1, 2, 3, 4, 0] rfl ?_
                    exact wk_Mo_sheet_L93 l 1000 p1 p2 p3 (0 : Int32) σ66
                  · refine ux_iload_n (dg hd_Mo_sheet 47 rfl) rfl ?_
                    refine ux_iast rfl (dg hd_Mo_sheet 48 rfl) ?_
                    refine ux_nas (fun σ65 => ?_)
                    refine ux_iconst (0 : Int32) (dg hd_Mo_sheet 49 rfl) (by decide) ?_
                    refine ux_istore [(4, .int (0 : Int32)), (0, .ref 0), (1, .int p1), (2, .int p2), (3, .int p3)] (dg hd_Mo_sheet 50 rfl) (by decide) rfl ?_
                    refine ux_wk [(0, .ref 0), (1, .int p1), (2, .int p2), (3, .int p3), (4, .int (0 : Int32))] [1, 2, 3, 4, 0] rfl ?_
                    exact wk_Mo_sheet_L93 l 1000 p1 p2 p3 (0 : Int32) σ65
                · refine ux_aload_n (dg hd_Mo_sheet 31 rfl) rfl ?_
                  refine ux_ldc (-1000000001 : Int32) wk_847 (dg hd_Mo_sheet 32 rfl) ?_
                  refine ux_callVi (As := [.int (-1000000001 : Int32)]) (sp_Mo_error l (-1000000001 : Int32) _) (by omega) cv_Mo_error wk_848 rfl rfl rfl rfl rfl (Nat.le_of_ble_eq_true rfl) (dg hd_Mo_sheet 33 rfl) (fun r67 σ68 _ => ?_)
                  exact ux_iret rfl (dg hd_Mo_sheet 34 rfl)
            · refine ux_iload_n (dg hd_Mo_sheet 20 rfl) rfl ?_
              refine ux_if_ge 51 (dg hd_Mo_sheet 21 rfl) (by decide) (fun _ => ?_) (fun _ => ?_)
              · refine ux_iload_n (dg hd_Mo_sheet 26 rfl) rfl ?_
                refine ux_if_le 68 (dg hd_Mo_sheet 27 rfl) (by decide) (fun _ => ?_) (fun _ => ?_)
                · refine ux_aload_n (dg hd_Mo_sheet 35 rfl) rfl ?_
                  refine ux_getr (q := 5) fcX7 5 (by decide) wk_778 rfl rfl (dg hd_Mo_sheet 36 rfl) ?_
                  refine ux_iload_n (dg hd_Mo_sheet 37 rfl) rfl ?_
                  refine ux_iload_n (dg hd_Mo_sheet 38 rfl) rfl ?_
                  refine ux_iast rfl (dg hd_Mo_sheet 39 rfl) ?_
                  refine ux_nas (fun σ69 => ?_)
                  refine ux_aload_n (dg hd_Mo_sheet 40 rfl) rfl ?_
                  refine ux_getr (q := 6) fcX7 6 (by decide) wk_779 rfl rfl (dg hd_Mo_sheet 41 rfl) ?_
                  refine ux_iload_n (dg hd_Mo_sheet 42 rfl) rfl ?_
                  refine ux_iload_n (dg hd_Mo_sheet 43 rfl) rfl ?_
                  refine ux_if_ne 88 (dg hd_Mo_sheet 44 rfl) (by decide) (fun _ => ?_) (fun _ => ?_)
                  · refine ux_iconst (0 : Int32) (dg hd_Mo_sheet 45 rfl) (by decide) ?_
                    refine ux_goto 89 (dg hd_Mo_sheet 46 rfl) (by decide) ?_
                    refine ux_iast rfl (dg hd_Mo_sheet 48 rfl) ?_
                    refine ux_nas (fun σ71 => ?_)
                    refine ux_iconst (0 : Int32) (dg hd_Mo_sheet 49 rfl) (by decide) ?_
                    refine ux_istore [(4, .int (0 : Int32)), (0, .ref 0), (1, .int p1), (2, .int p2), (3, .int p3)] (dg hd_Mo_sheet 50 rfl) (by decide) rfl ?_
                    refine ux_wk [(0, .ref 0), (1, .int p1), (2, .int p2), (3, .int p3), (4, .int (0 : Int32))] [1, 2, 3, 4, 0] rfl ?_
                    exact wk_Mo_sheet_L93 l 1000 p1 p2 p3 (0 : Int32) σ71
                  · refine ux_iload_n (dg hd_Mo_sheet 47 rfl) rfl ?_
                    refine ux_iast rfl (dg hd_Mo_sheet 48 rfl) ?_
                    refine ux_nas (fun σ70 => ?_)
                    refine ux_iconst (0 : Int32) (dg hd_Mo_sheet 49 rfl) (by decide) ?_
                    refine ux_istore [(4, .int (0 : Int32)), (0, .ref 0), (1, .int p1), (2, .int p2), (3, .int p3)] (dg hd_Mo_sheet 50 rfl) (by decide) rfl ?_
                    refine ux_wk [(0, .ref 0), (1, .int p1), (2, .int p2), (3, .int p3), (4, .int (0 : Int32))] [1, 2, 3, 4, 0] rfl ?_
                    exact wk_Mo_sheet_L93 l 1000 p1 p2 p3 (0 : Int32) σ70
                · refine ux_iload_n (dg hd_Mo_sheet 28 rfl) rfl ?_
                  refine ux_bipush (24 : Int32) (dg hd_Mo_sheet 29 rfl) (by decide) ?_
                  refine ux_icmp_le 68 (dg hd_Mo_sheet 30 rfl) (by decide) (fun _ => ?_) (fun _ => ?_)
                  · refine ux_aload_n (dg hd_Mo_sheet 35 rfl) rfl ?_
                    refine ux_getr (q := 5) fcX7 5 (by decide) wk_778 rfl rfl (dg hd_Mo_sheet 36 rfl) ?_
                    refine ux_iload_n (dg hd_Mo_sheet 37 rfl) rfl ?_
                    refine ux_iload_n (dg hd_Mo_sheet 38 rfl) rfl ?_
                    refine ux_iast rfl (dg hd_Mo_sheet 39 rfl) ?_
                    refine ux_nas (fun σ72 => ?_)
                    refine ux_aload_n (dg hd_Mo_sheet 40 rfl) rfl ?_
                    refine ux_getr (q := 6) fcX7 6 (by decide) wk_779 rfl rfl (dg hd_Mo_sheet 41 rfl) ?_
                    refine ux_iload_n (dg hd_Mo_sheet 42 rfl) rfl ?_
                    refine ux_iload_n (dg hd_Mo_sheet 43 rfl) rfl ?_
                    refine ux_if_ne 88 (dg hd_Mo_sheet 44 rfl) (by decide) (fun _ => ?_) (fun _ => ?_)
                    · refine ux_iconst (0 : Int32) (dg hd_Mo_sheet 45 rfl) (by decide) ?_
                      refine ux_goto 89 (dg hd_Mo_sheet 46 rfl) (by decide) ?_
                      refine ux_iast rfl (dg hd_Mo_sheet 48 rfl) ?_
                      refine ux_nas (fun σ74 => ?_)
                      refine ux_iconst (0 : Int32) (dg hd_Mo_sheet 49 rfl) (by decide) ?_
                      refine ux_istore [(4, .int (0 : Int32)), (0, .ref 0), (1, .int p1), (2, .int p2), (3, .int p3)] (dg hd_Mo_sheet 50 rfl) (by decide) rfl ?_
                      refine ux_wk [(0, .ref 0), (1, .int p1), (2, .int p2), (3, .int p3), (4, .int (0 : Int32))] [1, 2, 3, 4, 0] rfl ?_
                      exact wk_Mo_sheet_L93 l 1000 p1 p2 p3 (0 : Int32) σ74
                    · refine ux_iload_n (dg hd_Mo_sheet 47 rfl) rfl ?_
                      refine ux_iast rfl (dg hd_Mo_sheet 48 rfl) ?_
                      refine ux_nas (fun σ73 => ?_)
                      refine ux_iconst (0 : Int32) (dg hd_Mo_sheet 49 rfl) (by decide) ?_
                      refine ux_istore [(4, .int (0 : Int32)), (0, .ref 0), (1, .int p1), (2, .int p2), (3, .int p3)] (dg hd_Mo_sheet 50 rfl) (by decide) rfl ?_
                      refine ux_wk [(0, .ref 0), (1, .int p1), (2, .int p2), (3, .int p3), (4, .int (0 : Int32))] [1, 2, 3, 4, 0] rfl ?_
                      exact wk_Mo_sheet_L93 l 1000 p1 p2 p3 (0 : Int32) σ73
                  · refine ux_aload_n (dg hd_Mo_sheet 31 rfl) rfl ?_
                    refine ux_ldc (-1000000001 : Int32) wk_847 (dg hd_Mo_sheet 32 rfl) ?_
                    refine ux_callVi (As := [.int (-1000000001 : Int32)]) (sp_Mo_error l (-1000000001 : Int32) _) (by omega) cv_Mo_error wk_848 rfl rfl rfl rfl rfl (Nat.le_of_ble_eq_true rfl) (dg hd_Mo_sheet 33 rfl) (fun r75 σ76 _ => ?_)
                    exact ux_iret rfl (dg hd_Mo_sheet 34 rfl)
              · refine ux_aload_n (dg hd_Mo_sheet 22 rfl) rfl ?_
                refine ux_ldc (-1000000003 : Int32) wk_928 (dg hd_Mo_sheet 23 rfl) ?_
                refine ux_callVi (As := [.int (-1000000003 : Int32)]) (sp_Mo_error l (-1000000003 : Int32) _) (by omega) cv_Mo_error wk_848 rfl rfl rfl rfl rfl (Nat.le_of_ble_eq_true rfl) (dg hd_Mo_sheet 24 rfl) (fun r77 σ78 _ => ?_)
                exact ux_iret rfl (dg hd_Mo_sheet 25 rfl)
          · refine ux_aload_n (dg hd_Mo_sheet 14 rfl) rfl ?_
            refine ux_ldc (-1000000001 : Int32) wk_847 (dg hd_Mo_sheet 15 rfl) ?_
            refine ux_callVi (As := [.int (-1000000001 : Int32)]) (sp_Mo_error l (-1000000001 : Int32) _) (by omega) cv_Mo_error wk_848 rfl rfl rfl rfl rfl (Nat.le_of_ble_eq_true rfl) (dg hd_Mo_sheet 16 rfl) (fun r79 σ80 _ => ?_)
            exact ux_iret rfl (dg hd_Mo_sheet 17 rfl)
def Mo_put (p1 : Int32) (p2 : Int32) (p3 : Int32) (σ : St) : Option (Int32 × St) :=
  bnd (Mo_notThere p1 σ) (fun r1 σ2 =>
  if r1 = (0 : Int32) then (
  grd (inb p1 4) (
  bnd (Mo_in p2 (0 : Int32) ((σ2.2 6 p1.toNatClampNeg) - (1 : Int32)) σ2) (fun r8 σ9 =>
  if r8 = (0 : Int32) then (
  if (-1000000001 : Int32) = (0 : Int32) then (
  grd (inb p1 4) (
  if (σ9.2 5 p1.toNatClampNeg) = (8 : Int32) then (
  grd (inb (((24 : Int32) * p1) + p2) 96) (
  nas (sA σ9 7 (((24 : Int32) * p1) + p2).toNatClampNeg (i2b p3)) (fun σ17 =>
  some ((1 : Int32), σ17)))) else (
  grd (inb p1 4) (
  if (σ9.2 5 p1.toNatClampNeg) = (16 : Int32) then (
  grd (inb (((24 : Int32) * p1) + p2) 96) (
  nas (sA σ9 7 (((24 : Int32) * p1) + p2).toNatClampNeg (i2s p3)) (fun σ16 =>
  some ((1 : Int32), σ16)))) else (
  grd (inb (((24 : Int32) * p1) + p2) 96) (
  nas (sA σ9 7 (((24 : Int32) * p1) + p2).toNatClampNeg p3) (fun σ15 =>
  some ((1 : Int32), σ15)))))))) else (
  bnd (Mo_error (-1000000001 : Int32) σ9) (fun r18 σ19 =>
  some (r18, σ19)))) else (
  if r1 = (0 : Int32) then (
  grd (inb p1 4) (
  if (σ9.2 5 p1.toNatClampNeg) = (8 : Int32) then (
  grd (inb (((24 : Int32) * p1) + p2) 96) (
  nas (sA σ9 7 (((24 : Int32) * p1) + p2).toNatClampNeg (i2b p3)) (fun σ12 =>
  some ((1 : Int32), σ12)))) else (
  grd (inb p1 4) (
  if (σ9.2 5 p1.toNatClampNeg) = (16 : Int32) then (
  grd (inb (((24 : Int32) * p1) + p2) 96) (
  nas (sA σ9 7 (((24 : Int32) * p1) + p2).toNatClampNeg (i2s p3)) (fun σ11 =>
  some ((1 : Int32), σ11)))) else (
  grd (inb (((24 : Int32) * p1) + p2) 96) (
  nas (sA σ9 7 (((24 : Int32) * p1) + p2).toNatClampNeg p3) (fun σ10 =>
  some ((1 : Int32), σ10)))))))) else (
  bnd (Mo_error r1 σ9) (fun r13 σ14 =>
  some (r13, σ14))))))) else (
  if r1 = (0 : Int32) then (
  grd (inb p1 4) (
  if (σ2.2 5 p1.toNatClampNeg) = (8 : Int32) then (
  grd (inb (((24 : Int32) * p1) + p2) 96) (
  nas (sA σ2 7 (((24 : Int32) * p1) + p2).toNatClampNeg (i2b p3)) (fun σ5 =>
  some ((1 : Int32), σ5)))) else (
  grd (inb p1 4) (
  if (σ2.2 5 p1.toNatClampNeg) = (16 : Int32) then (
  grd (inb (((24 : Int32) * p1) + p2) 96) (
  nas (sA σ2 7 (((24 : Int32) * p1) + p2).toNatClampNeg (i2s p3)) (fun σ4 =>
  some ((1 : Int32), σ4)))) else (
  grd (inb (((24 : Int32) * p1) + p2) 96) (
  nas (sA σ2 7 (((24 : Int32) * p1) + p2).toNatClampNeg p3) (fun σ3 =>
  some ((1 : Int32), σ3)))))))) else (
  bnd (Mo_error r1 σ2) (fun r6 σ7 =>
  some (r6, σ7)))))
set_option maxRecDepth 100000 in
theorem sp_Mo_put (l : Launch) (p1 : Int32) (p2 : Int32) (p3 : Int32) (σ : St) : Spc l shM 5 md_Mo_put [.ref 0, .int p1, .int p2, .int p3] σ (Mo_put p1 p2 p3 σ) := by
  refine Spc_of_Ux [(0, .ref 0), (1, .int p1), (2, .int p2), (3, .int p3)] (by decide) rfl (Nat.le_of_ble_eq_true rfl) ?_
  unfold Mo_put
  refine ux_aload_n (dg hd_Mo_put 0 rfl) rfl ?_
  refine ux_iload_n (dg hd_Mo_put 1 rfl) rfl ?_
  refine ux_callVi (As := [.int p1]) (sp_Mo_notThere l p1 _) (by omega) cv_Mo_notThere wk_1131 rfl rfl rfl rfl rfl (Nat.le_of_ble_eq_true rfl) (dg hd_Mo_put 2 rfl) (fun r1 σ2 _ => ?_)
  refine ux_istore [(4, .int r1), (0, .ref 0), (1, .int p1), (2, .int p2), (3, .int p3)] (dg hd_Mo_put 3 rfl) (by decide) rfl ?_
  refine ux_iload (dg hd_Mo_put 4 rfl) rfl ?_
  refine ux_if_ne 33 (dg hd_Mo_put 5 rfl) (by decide) (fun _ => ?_) (fun _ => ?_)
  · refine ux_iload_n (dg hd_Mo_put 6 rfl) rfl ?_
    refine ux_iconst (0 : Int32) (dg hd_Mo_put 7 rfl) (by decide) ?_
    refine ux_aload_n (dg hd_Mo_put 8 rfl) rfl ?_
    refine ux_getr (q := 6) fcX7 6 (by decide) wk_779 rfl rfl (dg hd_Mo_put 9 rfl) ?_
    refine ux_iload_n (dg hd_Mo_put 10 rfl) rfl ?_
    refine ux_iald rfl (dg hd_Mo_put 11 rfl) ?_
    refine ux_iconst (1 : Int32) (dg hd_Mo_put 12 rfl) (by decide) ?_
    refine ux_isub (dg hd_Mo_put 13 rfl) ?_
    refine ux_callSi (As := [.int p2, .int (0 : Int32), .int ((σ2.2 6 p1.toNatClampNeg) - (1 : Int32))]) (sp_Mo_in l p2 (0 : Int32) ((σ2.2 6 p1.toNatClampNeg) - (1 : Int32)) _) (by omega) cs_Mo_in wk_844 rfl rfl (Nat.le_of_ble_eq_true rfl) (dg hd_Mo_put 14 rfl) (fun r8 σ9 _ => ?_)
    refine ux_if_ne 33 (dg hd_Mo_put 15 rfl) (by decide) (fun _ => ?_) (fun _ => ?_)
    · refine ux_ldc (-1000000001 : Int32) wk_847 (dg hd_Mo_put 16 rfl) ?_
      refine ux_goto 35 (dg hd_Mo_put 17 rfl) (by decide) ?_
      refine ux_istore [(4, .int (-1000000001 : Int32)), (0, .ref 0), (1, .int p1), (2, .int p2), (3, .int p3)] (dg hd_Mo_put 19 rfl) (by decide) rfl ?_
      refine ux_iload (dg hd_Mo_put 20 rfl) rfl ?_
      refine ux_if_eq 49 (dg hd_Mo_put 21 rfl) (by decide) (fun _ => ?_) (fun _ => ?_)
      · refine ux_aload_n (dg hd_Mo_put 26 rfl) rfl ?_
        refine ux_getr (q := 7) fcX7 7 (by decide) wk_780 rfl rfl (dg hd_Mo_put 27 rfl) ?_
        refine ux_bipush (24 : Int32) (dg hd_Mo_put 28 rfl) (by decide) ?_
        refine ux_iload_n (dg hd_Mo_put 29 rfl) rfl ?_
        refine ux_imul (dg hd_Mo_put 30 rfl) ?_
        refine ux_iload_n (dg hd_Mo_put 31 rfl) rfl ?_
        refine ux_iadd (dg hd_Mo_put 32 rfl) ?_
        refine ux_aload_n (dg hd_Mo_put 33 rfl) rfl ?_
        refine ux_getr (q := 5) fcX7 5 (by decide) wk_778 rfl rfl (dg hd_Mo_put 34 rfl) ?_
        refine ux_iload_n (dg hd_Mo_put 35 rfl) rfl ?_
        refine ux_iald rfl (dg hd_Mo_put 36 rfl) ?_
        refine ux_bipush (8 : Int32) (dg hd_Mo_put 37 rfl) (by decide) ?_
        refine ux_icmp_ne 75 (dg hd_Mo_put 38 rfl) (by decide) (fun _ => ?_) (fun _ => ?_)
        · refine ux_iload_n (dg hd_Mo_put 39 rfl) rfl ?_
          refine ux_i2b (dg hd_Mo_put 40 rfl) ?_
          refine ux_goto 92 (dg hd_Mo_put 41 rfl) (by decide) ?_
          refine ux_iast rfl (dg hd_Mo_put 52 rfl) ?_
          refine ux_nas (fun σ17 => ?_)
          refine ux_iconst (1 : Int32) (dg hd_Mo_put 53 rfl) (by decide) ?_
          exact ux_iret rfl (dg hd_Mo_put 54 rfl)
        · refine ux_aload_n (dg hd_Mo_put 42 rfl) rfl ?_
          refine ux_getr (q := 5) fcX7 5 (by decide) wk_778 rfl rfl (dg hd_Mo_put 43 rfl) ?_
          refine ux_iload_n (dg hd_Mo_put 44 rfl) rfl ?_
          refine ux_iald rfl (dg hd_Mo_put 45 rfl) ?_
          refine ux_bipush (16 : Int32) (dg hd_Mo_put 46 rfl) (by decide) ?_
          refine ux_icmp_ne 91 (dg hd_Mo_put 47 rfl) (by decide) (fun _ => ?_) (fun _ => ?_)
          · refine ux_iload_n (dg hd_Mo_put 48 rfl) rfl ?_
            refine ux_i2s (dg hd_Mo_put 49 rfl) ?_
            refine ux_goto 92 (dg hd_Mo_put 50 rfl) (by decide) ?_
            refine ux_iast rfl (dg hd_Mo_put 52 rfl) ?_
            refine ux_nas (fun σ16 => ?_)
            refine ux_iconst (1 : Int32) (dg hd_Mo_put 53 rfl) (by decide) ?_
            exact ux_iret rfl (dg hd_Mo_put 54 rfl)
          · refine ux_iload_n (dg hd_Mo_put 51 rfl) rfl ?_
            refine ux_iast rfl (dg hd_Mo_put 52 rfl) ?_
            refine ux_nas (fun σ15 => ?_)
            refine ux_iconst (1 : Int32) (dg hd_Mo_put 53 rfl) (by decide) ?_
            exact ux_iret rfl (dg hd_Mo_put 54 rfl)
      · refine ux_aload_n (dg hd_Mo_put 22 rfl) rfl ?_
        refine ux_iload (dg hd_Mo_put 23 rfl) rfl ?_
        refine ux_callVi (As := [.int (-1000000001 : Int32)]) (sp_Mo_error l (-1000000001 : Int32) _) (by omega) cv_Mo_error wk_848 rfl rfl rfl rfl rfl (Nat.le_of_ble_eq_true rfl) (dg hd_Mo_put 24 rfl) (fun r18 σ19 _ => ?_)
        exact ux_iret rfl (dg hd_Mo_put 25 rfl)
    · refine ux_iload (dg hd_Mo_put 18 rfl) rfl ?_
      refine ux_istore [(4, .int r1), (0, .ref 0), (1, .int p1), (2, .int p2), (3, .int p3)] (dg hd_Mo_put 19 rfl) (by decide) rfl ?_
      refine ux_iload (dg hd_Mo_put 20 rfl) rfl ?_
      refine ux_if_eq 49 (dg hd_Mo_put 21 rfl) (by decide) (fun _ => ?_) (fun _ => ?_)
      · refine ux_aload_n (dg hd_Mo_put 26 rfl) rfl ?_
        refine ux_getr (q := 7) fcX7 7 (by decide) wk_780 rfl rfl (dg hd_Mo_put 27 rfl) ?_
        refine ux_bipush (24 : Int32) (dg hd_Mo_put 28 rfl) (by decide) ?_
        refine ux_iload_n (dg hd_Mo_put 29 rfl) rfl ?_
        refine ux_imul (dg hd_Mo_put 30 rfl) ?_
        refine ux_iload_n (dg hd_Mo_put 31 rfl) rfl ?_
        refine ux_iadd (dg hd_Mo_put 32 rfl) ?_
        refine ux_aload_n (dg hd_Mo_put 33 rfl) rfl ?_
        refine ux_getr (q := 5) fcX7 5 (by decide) wk_778 rfl rfl (dg hd_Mo_put 34 rfl) ?_
        refine ux_iload_n (dg hd_Mo_put 35 rfl) rfl ?_
        refine ux_iald rfl (dg hd_Mo_put 36 rfl) ?_
        refine ux_bipush (8 : Int32) (dg hd_Mo_put 37 rfl) (by decide) ?_
        refine ux_icmp_ne 75 (dg hd_Mo_put 38 rfl) (by decide) (fun _ => ?_) (fun _ => ?_)
        · refine ux_iload_n (dg hd_Mo_put 39 rfl) rfl ?_
          refine ux_i2b (dg hd_Mo_put 40 rfl) ?_
          refine ux_goto 92 (dg hd_Mo_put 41 rfl) (by decide) ?_
          refine ux_iast rfl (dg hd_Mo_put 52 rfl) ?_
          refine ux_nas (fun σ12 => ?_)
          refine ux_iconst (1 : Int32) (dg hd_Mo_put 53 rfl) (by decide) ?_
          exact ux_iret rfl (dg hd_Mo_put 54 rfl)
        · refine ux_aload_n (dg hd_Mo_put 42 rfl) rfl ?_
          refine ux_getr (q := 5) fcX7 5 (by decide) wk_778 rfl rfl (dg hd_Mo_put 43 rfl) ?_
          refine ux_iload_n (dg hd_Mo_put 44 rfl) rfl ?_
          refine ux_iald rfl (dg hd_Mo_put 45 rfl) ?_
          refine ux_bipush (16 : Int32) (dg hd_Mo_put 46 rfl) (by decide) ?_
          refine ux_icmp_ne 91 (dg hd_Mo_put 47 rfl) (by decide) (fun _ => ?_) (fun _ => ?_)
          · refine ux_iload_n (dg hd_Mo_put 48 rfl) rfl ?_
            refine ux_i2s (dg hd_Mo_put 49 rfl) ?_
            refine ux_goto 92 (dg hd_Mo_put 50 rfl) (by decide) ?_
            refine ux_iast rfl (dg hd_Mo_put 52 rfl) ?_
            refine ux_nas (fun σ11 => ?_)
            refine ux_iconst (1 : Int32) (dg hd_Mo_put 53 rfl) (by decide) ?_
            exact ux_iret rfl (dg hd_Mo_put 54 rfl)
          · refine ux_iload_n (dg hd_Mo_put 51 rfl) rfl ?_
            refine ux_iast rfl (dg hd_Mo_put 52 rfl) ?_
            refine ux_nas (fun σ10 => ?_)
            refine ux_iconst (1 : Int32) (dg hd_Mo_put 53 rfl) (by decide) ?_
            exact ux_iret rfl (dg hd_Mo_put 54 rfl)
      · refine ux_aload_n (dg hd_Mo_put 22 rfl) rfl ?_
        refine ux_iload (dg hd_Mo_put 23 rfl) rfl ?_
        refine ux_callVi (As := [.int r1]) (sp_Mo_error l r1 _) (by omega) cv_Mo_error wk_848 rfl rfl rfl rfl rfl (Nat.le_of_ble_eq_true rfl) (dg hd_Mo_put 24 rfl) (fun r13 σ14 _ => ?_)
        exact ux_iret rfl (dg hd_Mo_put 25 rfl)
  · refine ux_iload (dg hd_Mo_put 18 rfl) rfl ?_
    refine ux_istore [(4, .int r1), (0, .ref 0), (1, .int p1), (2, .int p2), (3, .int p3)] (dg hd_Mo_put 19 rfl) (by decide) rfl ?_
    refine ux_iload (dg hd_Mo_put 20 rfl) rfl ?_
    refine ux_if_eq 49 (dg hd_Mo_put 21 rfl) (by decide) (fun _ => ?_) (fun _ => ?_)
    · refine ux_aload_n (dg hd_Mo_put 26 rfl) rfl ?_
      refine ux_getr (q := 7) fcX7 7 (by decide) wk_780 rfl rfl (dg hd_Mo_put 27 rfl) ?_
      refine ux_bipush (24 : Int32) (dg hd_Mo_put 28 rfl) (by decide) ?_
      refine ux_iload_n (dg hd_Mo_put 29 rfl) rfl ?_
      refine ux_imul (dg hd_Mo_put 30 rfl) ?_
      refine ux_iload_n (dg hd_Mo_put 31 rfl) rfl ?_
      refine ux_iadd (dg hd_Mo_put 32 rfl) ?_
      refine ux_aload_n (dg hd_Mo_put 33 rfl) rfl ?_
      refine ux_getr (q := 5) fcX7 5 (by decide) wk_778 rfl rfl (dg hd_Mo_put 34 rfl) ?_
      refine ux_iload_n (dg hd_Mo_put 35 rfl) rfl ?_
      refine ux_iald rfl (dg hd_Mo_put 36 rfl) ?_
      refine ux_bipush (8 : Int32) (dg hd_Mo_put 37 rfl) (by decide) ?_
      refine ux_icmp_ne 75 (dg hd_Mo_put 38 rfl) (by decide) (fun _ => ?_) (fun _ => ?_)
      · refine ux_iload_n (dg hd_Mo_put 39 rfl) rfl ?_
        refine ux_i2b (dg hd_Mo_put 40 rfl) ?_
        refine ux_goto 92 (dg hd_Mo_put 41 rfl) (by decide) ?_
        refine ux_iast rfl (dg hd_Mo_put 52 rfl) ?_
        refine ux_nas (fun σ5 => ?_)
        refine ux_iconst (1 : Int32) (dg hd_Mo_put 53 rfl) (by decide) ?_
        exact ux_iret rfl (dg hd_Mo_put 54 rfl)
      · refine ux_aload_n (dg hd_Mo_put 42 rfl) rfl ?_
        refine ux_getr (q := 5) fcX7 5 (by decide) wk_778 rfl rfl (dg hd_Mo_put 43 rfl) ?_
        refine ux_iload_n (dg hd_Mo_put 44 rfl) rfl ?_
        refine ux_iald rfl (dg hd_Mo_put 45 rfl) ?_
        refine ux_bipush (16 : Int32) (dg hd_Mo_put 46 rfl) (by decide) ?_
        refine ux_icmp_ne 91 (dg hd_Mo_put 47 rfl) (by decide) (fun _ => ?_) (fun _ => ?_)
        · refine ux_iload_n (dg hd_Mo_put 48 rfl) rfl ?_
          refine ux_i2s (dg hd_Mo_put 49 rfl) ?_
          refine ux_goto 92 (dg hd_Mo_put 50 rfl) (by decide) ?_
          refine ux_iast rfl (dg hd_Mo_put 52 rfl) ?_
          refine ux_nas (fun σ4 => ?_)
          refine ux_iconst (1 : Int32) (dg hd_Mo_put 53 rfl) (by decide) ?_
          exact ux_iret rfl (dg hd_Mo_put 54 rfl)
        · refine ux_iload_n (dg hd_Mo_put 51 rfl) rfl ?_
          refine ux_iast rfl (dg hd_Mo_put 52 rfl) ?_
          refine ux_nas (fun σ3 => ?_)
          refine ux_iconst (1 : Int32) (dg hd_Mo_put 53 rfl) (by decide) ?_
          exact ux_iret rfl (dg hd_Mo_put 54 rfl)
    · refine ux_aload_n (dg hd_Mo_put 22 rfl) rfl ?_
      refine ux_iload (dg hd_Mo_put 23 rfl) rfl ?_
      refine ux_callVi (As := [.int r1]) (sp_Mo_error l r1 _) (by omega) cv_Mo_error wk_848 rfl rfl rfl rfl rfl (Nat.le_of_ble_eq_true rfl) (dg hd_Mo_put 24 rfl) (fun r6 σ7 _ => ?_)
      exact ux_iret rfl (dg hd_Mo_put 25 rfl)
def Mo_notMoved (p1 : Int32) (p2 : Int32) (p3 : Int32) (p4 : Int32) (p5 : Int32) (σ : St) : Option (Int32 × St) :=
  bnd (Mo_isSheet p1 σ) (fun r1 σ2 =>
  if r1 = (0 : Int32) then (
  some ((-1000000001 : Int32), σ2)) else (
  bnd (Mo_isSheet p3 σ2) (fun r3 σ4 =>
  if r3 = (0 : Int32) then (
  some ((-1000000001 : Int32), σ4)) else (
  grd (inb p1 4) (
  if (σ4.2 5 p1.toNatClampNeg) = (0 : Int32) then (
  some ((-1000000002 : Int32), σ4)) else (
  grd (inb p3 4) (
  if (σ4.2 5 p3.toNatClampNeg) = (0 : Int32) then (
  some ((-1000000002 : Int32), σ4)) else (
  grd (inb p1 4) (
  grd (inb p3 4) (
  if (σ4.2 5 p1.toNatClampNeg) = (σ4.2 5 p3.toNatClampNeg) then (
  if p5 < (0 : Int32) then (
  if (0 : Int32) = (0 : Int32) then (
  some ((-1000000001 : Int32), σ4)) else (
  some ((0 : Int32), σ4))) else (
  if p2 < (0 : Int32) then (
  if (0 : Int32) = (0 : Int32) then (
  some ((-1000000001 : Int32), σ4)) else (
  some ((0 : Int32), σ4))) else (
  if p4 < (0 : Int32) then (
  if (0 : Int32) = (0 : Int32) then (
  some ((-1000000001 : Int32), σ4)) else (
  some ((0 : Int32), σ4))) else (
  grd (inb p1 4) (
  if ((σ4.2 6 p1.toNatClampNeg) - p2) < p5 then (
  if (0 : Int32) = (0 : Int32) then (
  some ((-1000000001 : Int32), σ4)) else (
  some ((0 : Int32), σ4))) else (
  grd (inb p3 4) (
  if ((σ4.2 6 p3.toNatClampNeg) - p4) < p5 then (
  if (0 : Int32) = (0 : Int32) then (
  some ((-1000000001 : Int32), σ4)) else (
  some ((0 : Int32), σ4))) else (
  if (1 : Int32) = (0 : Int32) then (
  some ((-1000000001 : Int32), σ4)) else (
  some ((0 : Int32), σ4)))))))))) else (
  some ((-1000000005 : Int32), σ4))))))))))))
set_option maxRecDepth 100000 in
theorem sp_Mo_notMoved (l : Launch) (p1 : Int32) (p2 : Int32) (p3 : Int32) (p4 : Int32) (p5 : Int32) (σ : St) : Spc l shM 4 md_Mo_notMoved [.ref 0, .int p1, .int p2, .int p3, .int p4, .int p5] σ (Mo_notMoved p1 p2 p3 p4 p5 σ) := by
  refine Spc_of_Ux [(0, .ref 0), (1, .int p1), (2, .int p2), (3, .int p3), (4, .int p4), (5, .int p5)] (by decide) rfl (Nat.le_of_ble_eq_true rfl) ?_
  unfold Mo_notMoved
  refine ux_iload_n (dg hd_Mo_notMoved 0 rfl) rfl ?_
  refine ux_callSi (As := [.int p1]) (sp_Mo_isSheet l p1 _) (by omega) cs_Mo_isSheet wk_1135 rfl rfl (Nat.le_of_ble_eq_true rfl) (dg hd_Mo_notMoved 1 rfl) (fun r1 σ2 _ => ?_)
  refine ux_if_eq 14 (dg hd_Mo_notMoved 2 rfl) (by decide) (fun _ => ?_) (fun _ => ?_)
  · refine ux_ldc (-1000000001 : Int32) wk_847 (dg hd_Mo_notMoved 6 rfl) ?_
    exact ux_iret rfl (dg hd_Mo_notMoved 7 rfl)
  · refine ux_iload_n (dg hd_Mo_notMoved 3 rfl) rfl ?_
    refine ux_callSi (As := [.int p3]) (sp_Mo_isSheet l p3 _) (by omega) cs_Mo_isSheet wk_1135 rfl rfl (Nat.le_of_ble_eq_true rfl) (dg hd_Mo_notMoved 4 rfl) (fun r3 σ4 _ => ?_)
    refine ux_if_ne 17 (dg hd_Mo_notMoved 5 rfl) (by decide) (fun _ => ?_) (fun _ => ?_)
    · refine ux_ldc (-1000000001 : Int32) wk_847 (dg hd_Mo_notMoved 6 rfl) ?_
      exact ux_iret rfl (dg hd_Mo_notMoved 7 rfl)
    · refine ux_aload_n (dg hd_Mo_notMoved 8 rfl) rfl ?_
      refine ux_getr (q := 5) fcX7 5 (by decide) wk_778 rfl rfl (dg hd_Mo_notMoved 9 rfl) ?_
      refine ux_iload_n (dg hd_Mo_notMoved 10 rfl) rfl ?_
      refine ux_iald rfl (dg hd_Mo_notMoved 11 rfl) ?_
      refine ux_if_eq 35 (dg hd_Mo_notMoved 12 rfl) (by decide) (fun _ => ?_) (fun _ => ?_)
      · refine ux_ldc (-1000000002 : Int32) wk_1090 (dg hd_Mo_notMoved 18 rfl) ?_
        exact ux_iret rfl (dg hd_Mo_notMoved 19 rfl)
      · refine ux_aload_n (dg hd_Mo_notMoved 13 rfl) rfl ?_
        refine ux_getr (q := 5) fcX7 5 (by decide) wk_778 rfl rfl (dg hd_Mo_notMoved 14 rfl) ?_
        refine ux_iload_n (dg hd_Mo_notMoved 15 rfl) rfl ?_
        refine ux_iald rfl (dg hd_Mo_notMoved 16 rfl) ?_
        refine ux_if_ne 38 (dg hd_Mo_notMoved 17 rfl) (by decide) (fun _ => ?_) (fun _ => ?_)
        · refine ux_ldc (-1000000002 : Int32) wk_1090 (dg hd_Mo_notMoved 18 rfl) ?_
          exact ux_iret rfl (dg hd_Mo_notMoved 19 rfl)
        · refine ux_aload_n (dg hd_Mo_notMoved 20 rfl) rfl ?_
          refine ux_getr (q := 5) fcX7 5 (by decide) wk_778 rfl rfl (dg hd_Mo_notMoved 21 rfl) ?_
          refine ux_iload_n (dg hd_Mo_notMoved 22 rfl) rfl ?_
          refine ux_iald rfl (dg hd_Mo_notMoved 23 rfl) ?_
          refine ux_aload_n (dg hd_Mo_notMoved 24 rfl) rfl ?_
          refine ux_getr (q := 5) fcX7 5 (by decide) wk_778 rfl rfl (dg hd_Mo_notMoved 25 rfl) ?_
          refine ux_iload_n (dg hd_Mo_notMoved 26 rfl) rfl ?_
          refine ux_iald rfl (dg hd_Mo_notMoved 27 rfl) ?_
          refine ux_icmp_eq 56 (dg hd_Mo_notMoved 28 rfl) (by decide) (fun _ => ?_) (fun _ => ?_)
          · refine ux_iload (dg hd_Mo_notMoved 31 rfl) rfl ?_
            refine ux_if_lt 101 (dg hd_Mo_notMoved 32 rfl) (by decide) (fun _ => ?_) (fun _ => ?_)
            · refine ux_iconst (0 : Int32) (dg hd_Mo_notMoved 55 rfl) (by decide) ?_
              refine ux_istore [(6, .int (0 : Int32)), (0, .ref 0), (1, .int p1), (2, .int p2), (3, .int p3), (4, .int p4), (5, .int p5)] (dg hd_Mo_notMoved 56 rfl) (by decide) rfl ?_
              refine ux_iload (dg hd_Mo_notMoved 57 rfl) rfl ?_
              refine ux_if_eq 113 (dg hd_Mo_notMoved 58 rfl) (by decide) (fun _ => ?_) (fun _ => ?_)
              · refine ux_ldc (-1000000001 : Int32) wk_847 (dg hd_Mo_notMoved 61 rfl) ?_
                exact ux_iret rfl (dg hd_Mo_notMoved 62 rfl)
              · refine ux_iconst (0 : Int32) (dg hd_Mo_notMoved 59 rfl) (by decide) ?_
                refine ux_goto 115 (dg hd_Mo_notMoved 60 rfl) (by decide) ?_
                exact ux_iret rfl (dg hd_Mo_notMoved 62 rfl)
            · refine ux_iload_n (dg hd_Mo_notMoved 33 rfl) rfl ?_
              refine ux_if_lt 101 (dg hd_Mo_notMoved 34 rfl) (by decide) (fun _ => ?_) (fun _ => ?_)
              · refine ux_iconst (0 : Int32) (dg hd_Mo_notMoved 55 rfl) (by decide) ?_
                refine ux_istore [(6, .int (0 : Int32)), (0, .ref 0), (1, .int p1), (2, .int p2), (3, .int p3), (4, .int p4), (5, .int p5)] (dg hd_Mo_notMoved 56 rfl) (by decide) rfl ?_
                refine ux_iload (dg hd_Mo_notMoved 57 rfl) rfl ?_
                refine ux_if_eq 113 (dg hd_Mo_notMoved 58 rfl) (by decide) (fun _ => ?_) (fun _ => ?_)
                · refine ux_ldc (-1000000001 : Int32) wk_847 (dg hd_Mo_notMoved 61 rfl) ?_
                  exact ux_iret rfl (dg hd_Mo_notMoved 62 rfl)
                · refine ux_iconst (0 : Int32) (dg hd_Mo_notMoved 59 rfl) (by decide) ?_
                  refine ux_goto 115 (dg hd_Mo_notMoved 60 rfl) (by decide) ?_
                  exact ux_iret rfl (dg hd_Mo_notMoved 62 rfl)
              · refine ux_iload (dg hd_Mo_notMoved 35 rfl) rfl ?_
                refine ux_if_lt 101 (dg hd_Mo_notMoved 36 rfl) (by decide) (fun _ => ?_) (fun _ => ?_)
                · refine ux_iconst (0 : Int32) (dg hd_Mo_notMoved 55 rfl) (by decide) ?_
                  refine ux_istore [(6, .int (0 : Int32)), (0, .ref 0), (1, .int p1), (2, .int p2), (3, .int p3), (4, .int p4), (5, .int p5)] (dg hd_Mo_notMoved 56 rfl) (by decide) rfl ?_
                  refine ux_iload (dg hd_Mo_notMoved 57 rfl) rfl ?_
                  refine ux_if_eq 113 (dg hd_Mo_notMoved 58 rfl) (by decide) (fun _ => ?_) (fun _ => ?_)
                  · refine ux_ldc (-1000000001 : Int32) wk_847 (dg hd_Mo_notMoved 61 rfl) ?_
                    exact ux_iret rfl (dg hd_Mo_notMoved 62 rfl)
                  · refine ux_iconst (0 : Int32) (dg hd_Mo_notMoved 59 rfl) (by decide) ?_
                    refine ux_goto 115 (dg hd_Mo_notMoved 60 rfl) (by decide) ?_
                    exact ux_iret rfl (dg hd_Mo_notMoved 62 rfl)
                · refine ux_iload (dg hd_Mo_notMoved 37 rfl) rfl ?_
                  refine ux_aload_n (dg hd_Mo_notMoved 38 rfl) rfl ?_
                  refine ux_getr (q := 6) fcX7 6 (by decide) wk_779 rfl rfl (dg hd_Mo_notMoved 39 rfl) ?_
                  refine ux_iload_n (dg hd_Mo_notMoved 40 rfl) rfl ?_
                  refine ux_iald rfl (dg hd_Mo_notMoved 41 rfl) ?_
                  refine ux_iload_n (dg hd_Mo_notMoved 42 rfl) rfl ?_
                  refine ux_isub (dg hd_Mo_notMoved 43 rfl) ?_
                  refine ux_icmp_gt 101 (dg hd_Mo_notMoved 44 rfl) (by decide) (fun _ => ?_) (fun _ => ?_)
                  · refine ux_iconst (0 : Int32) (dg hd_Mo_notMoved 55 rfl) (by decide) ?_
                    refine ux_istore [(6, .int (0 : Int32)), (0, .ref 0), (1, .int p1), (2, .int p2), (3, .int p3), (4, .int p4), (5, .int p5)] (dg hd_Mo_notMoved 56 rfl) (by decide) rfl ?_
                    refine ux_iload (dg hd_Mo_notMoved 57 rfl) rfl ?_
                    refine ux_if_eq 113 (dg hd_Mo_notMoved 58 rfl) (by decide) (fun _ => ?_) (fun _ => ?_)
                    · refine ux_ldc (-1000000001 : Int32) wk_847 (dg hd_Mo_notMoved 61 rfl) ?_
                      exact ux_iret rfl (dg hd_Mo_notMoved 62 rfl)
                    · refine ux_iconst (0 : Int32) (dg hd_Mo_notMoved 59 rfl) (by decide) ?_
                      refine ux_goto 115 (dg hd_Mo_notMoved 60 rfl) (by decide) ?_
                      exact ux_iret rfl (dg hd_Mo_notMoved 62 rfl)
                  · refine ux_iload (dg hd_Mo_notMoved 45 rfl) rfl ?_
                    refine ux_aload_n (dg hd_Mo_notMoved 46 rfl) rfl ?_
                    refine ux_getr (q := 6) fcX7 6 (by decide) wk_779 rfl rfl (dg hd_Mo_notMoved 47 rfl) ?_
                    refine ux_iload_n (dg hd_Mo_notMoved 48 rfl) rfl ?_
                    refine ux_iald rfl (dg hd_Mo_notMoved 49 rfl) ?_
                    refine ux_iload (dg hd_Mo_notMoved 50 rfl) rfl ?_
                    refine ux_isub (dg hd_Mo_notMoved 51 rfl) ?_
                    refine ux_icmp_gt 101 (dg hd_Mo_notMoved 52 rfl) (by decide) (fun _ => ?_) (fun _ => ?_)
                    · refine ux_iconst (0 : Int32) (dg hd_Mo_notMoved 55 rfl) (by decide) ?_
                      refine ux_istore [(6, .int (0 : Int32)), (0, .ref 0), (1, .int p1), (2, .int p2), (3, .int p3), (4, .int p4), (5, .int p5)] (dg hd_Mo_notMoved 56 rfl) (by decide) rfl ?_
                      refine ux_iload (dg hd_Mo_notMoved 57 rfl) rfl ?_
                      refine ux_if_eq 113 (dg hd_Mo_notMoved 58 rfl) (by decide) (fun _ => ?_) (fun _ => ?_)
                      · refine ux_ldc (-1000000001 : Int32) wk_847 (dg hd_Mo_notMoved 61 rfl) ?_
                        exact ux_iret rfl (dg hd_Mo_notMoved 62 rfl)
                      · refine ux_iconst (0 : Int32) (dg hd_Mo_notMoved 59 rfl) (by decide) ?_
                        refine ux_goto 115 (dg hd_Mo_notMoved 60 rfl) (by decide) ?_
                        exact ux_iret rfl (dg hd_Mo_notMoved 62 rfl)
                    · refine ux_iconst (1 : Int32) (dg hd_Mo_notMoved 53 rfl) (by decide) ?_
                      refine ux_goto 102 (dg hd_Mo_notMoved 54 rfl) (by decide) ?_
                      refine ux_istore [(6, .int (1 : Int32)), (0, .ref 0), (1, .int p1), (2, .int p2), (3, .int p3), (4, .int p4), (5, .int p5)] (dg hd_Mo_notMoved 56 rfl) (by decide) rfl ?_
                      refine ux_iload (dg hd_Mo_notMoved 57 rfl) rfl ?_
                      refine ux_if_eq 113 (dg hd_Mo_notMoved 58 rfl) (by decide) (fun _ => ?_) (fun _ => ?_)
                      · refine ux_ldc (-1000000001 : Int32) wk_847 (dg hd_Mo_notMoved 61 rfl) ?_
                        exact ux_iret rfl (dg hd_Mo_notMoved 62 rfl)
                      · refine ux_iconst (0 : Int32) (dg hd_Mo_notMoved 59 rfl) (by decide) ?_
                        refine ux_goto 115 (dg hd_Mo_notMoved 60 rfl) (by decide) ?_
                        exact ux_iret rfl (dg hd_Mo_notMoved 62 rfl)
          · refine ux_ldc (-1000000005 : Int32) wk_919 (dg hd_Mo_notMoved 29 rfl) ?_
            exact ux_iret rfl (dg hd_Mo_notMoved 30 rfl)
