def Mn_error (p1 : Int32) (σ : St) : Option (Int32 × St) :=
  grd (inb p1 7) (
  grd (inb p1 7) (
  nas (sA σ 64 p1.toNatClampNeg ((σ.2 64 p1.toNatClampNeg) + (1 : Int32))) (fun σ1 =>
  some (((-1000000000 : Int32) - p1), σ1))))
set_option maxRecDepth 100000 in
theorem sp_Mn_error (l : Launch) (p1 : Int32) (σ : St) : Spc l shC 2 md_Mn_error [.ref 0, .int p1] σ (Mn_error p1 σ) := by
  refine Spc_of_Ux [(0, .ref 0), (1, .int p1)] (by decide) rfl (Nat.le_of_ble_eq_true rfl) ?_
  unfold Mn_error
  refine ux_aload_n (dg hd_Mn_error 0 rfl) rfl ?_
  refine ux_getr (q := 64) fcX6 10 (by decide) wk_288 rfl rfl (dg hd_Mn_error 1 rfl) ?_
  refine ux_iload_n (dg hd_Mn_error 2 rfl) rfl ?_
  refine ux_dup2 (dg hd_Mn_error 3 rfl) ?_
  refine ux_iald rfl (dg hd_Mn_error 4 rfl) ?_
  refine ux_iconst (1 : Int32) (dg hd_Mn_error 5 rfl) (by decide) ?_
  refine ux_iadd (dg hd_Mn_error 6 rfl) ?_
  refine ux_iast rfl (dg hd_Mn_error 7 rfl) ?_
  refine ux_nas (fun σ1 => ?_)
  refine ux_ldcw (-1000000000 : Int32) wk_329 (dg hd_Mn_error 8 rfl) ?_
  refine ux_iload_n (dg hd_Mn_error 9 rfl) rfl ?_
  refine ux_isub (dg hd_Mn_error 10 rfl) ?_
  exact ux_iret rfl (dg hd_Mn_error 11 rfl)
def Mn_jumper (p1 : Int32) (p2 : Int32) (p3 : Int32) (σ : St) : Option (Int32 × St) :=
  bnd (Mn_isKindAndMark p1 σ) (fun r1 σ2 =>
  if r1 = (0 : Int32) then (
  bnd (Mn_error (1 : Int32) σ2) (fun r3 σ4 =>
  some (r3, σ4))) else (
  bnd (Mn_isWithin p2 (99 : Int32) σ2) (fun r5 σ6 =>
  if r5 = (0 : Int32) then (
  bnd (Mn_error (1 : Int32) σ6) (fun r7 σ8 =>
  some (r7, σ8))) else (
  bnd (Mn_isWithin p3 (1 : Int32) σ6) (fun r9 σ10 =>
  if r9 = (0 : Int32) then (
  bnd (Mn_error (1 : Int32) σ10) (fun r15 σ16 =>
  some (r15, σ16))) else (
  if (σ10.1 15 9) < (6 : Int32) then (
  bnd (Rp_add 15 p1 p2 p3 σ10) (fun r11 σ12 =>
  some (r11, σ12))) else (
  bnd (Mn_error (4 : Int32) σ10) (fun r13 σ14 =>
  some (r13, σ14)))))))))
set_option maxRecDepth 100000 in
theorem sp_Mn_jumper (l : Launch) (p1 : Int32) (p2 : Int32) (p3 : Int32) (σ : St) : Spc l shC 4 md_Mn_jumper [.ref 0, .int p1, .int p2, .int p3] σ (Mn_jumper p1 p2 p3 σ) := by
  refine Spc_of_Ux [(0, .ref 0), (1, .int p1), (2, .int p2), (3, .int p3)] (by decide) rfl (Nat.le_of_ble_eq_true rfl) ?_
  unfold Mn_jumper
  refine ux_iload_n (dg hd_Mn_jumper 0 rfl) rfl ?_
  refine ux_callSi (As := [.int p1]) (sp_Mn_isKindAndMark l p1 _) (by omega) cs_Mn_isKindAndMark wk_319 rfl rfl (Nat.le_of_ble_eq_true rfl) (dg hd_Mn_jumper 1 rfl) (fun r1 σ2 _ => ?_)
  refine ux_if_eq 24 (dg hd_Mn_jumper 2 rfl) (by decide) (fun _ => ?_) (fun _ => ?_)
  · refine ux_aload_n (dg hd_Mn_jumper 11 rfl) rfl ?_
    refine ux_iconst (1 : Int32) (dg hd_Mn_jumper 12 rfl) (by decide) ?_
    refine ux_callVi (As := [.int (1 : Int32)]) (sp_Mn_error l (1 : Int32) _) (by omega) cv_Mn_error wk_325 rfl rfl rfl rfl rfl (Nat.le_of_ble_eq_true rfl) (dg hd_Mn_jumper 13 rfl) (fun r3 σ4 _ => ?_)
    exact ux_iret rfl (dg hd_Mn_jumper 14 rfl)
  · refine ux_iload_n (dg hd_Mn_jumper 3 rfl) rfl ?_
    refine ux_bipush (99 : Int32) (dg hd_Mn_jumper 4 rfl) (by decide) ?_
    refine ux_callSi (As := [.int p2, .int (99 : Int32)]) (sp_Mn_isWithin l p2 (99 : Int32) _) (by omega) cs_Mn_isWithin wk_322 rfl rfl (Nat.le_of_ble_eq_true rfl) (dg hd_Mn_jumper 5 rfl) (fun r5 σ6 _ => ?_)
    refine ux_if_eq 24 (dg hd_Mn_jumper 6 rfl) (by decide) (fun _ => ?_) (fun _ => ?_)
    · refine ux_aload_n (dg hd_Mn_jumper 11 rfl) rfl ?_
      refine ux_iconst (1 : Int32) (dg hd_Mn_jumper 12 rfl) (by decide) ?_
      refine ux_callVi (As := [.int (1 : Int32)]) (sp_Mn_error l (1 : Int32) _) (by omega) cv_Mn_error wk_325 rfl rfl rfl rfl rfl (Nat.le_of_ble_eq_true rfl) (dg hd_Mn_jumper 13 rfl) (fun r7 σ8 _ => ?_)
      exact ux_iret rfl (dg hd_Mn_jumper 14 rfl)
    · refine ux_iload_n (dg hd_Mn_jumper 7 rfl) rfl ?_
      refine ux_iconst (1 : Int32) (dg hd_Mn_jumper 8 rfl) (by decide) ?_
      refine ux_callSi (As := [.int p3, .int (1 : Int32)]) (sp_Mn_isWithin l p3 (1 : Int32) _) (by omega) cs_Mn_isWithin wk_322 rfl rfl (Nat.le_of_ble_eq_true rfl) (dg hd_Mn_jumper 9 rfl) (fun r9 σ10 _ => ?_)
      refine ux_if_ne 30 (dg hd_Mn_jumper 10 rfl) (by decide) (fun _ => ?_) (fun _ => ?_)
      · refine ux_aload_n (dg hd_Mn_jumper 11 rfl) rfl ?_
        refine ux_iconst (1 : Int32) (dg hd_Mn_jumper 12 rfl) (by decide) ?_
        refine ux_callVi (As := [.int (1 : Int32)]) (sp_Mn_error l (1 : Int32) _) (by omega) cv_Mn_error wk_325 rfl rfl rfl rfl rfl (Nat.le_of_ble_eq_true rfl) (dg hd_Mn_jumper 13 rfl) (fun r15 σ16 _ => ?_)
        exact ux_iret rfl (dg hd_Mn_jumper 14 rfl)
      · refine ux_aload_n (dg hd_Mn_jumper 15 rfl) rfl ?_
        refine ux_getr (q := 15) fcX6 0 (by decide) wk_278 rfl rfl (dg hd_Mn_jumper 16 rfl) ?_
        refine ux_get fcX1 9 (by decide) wk_139 (rpO rp15) rfl (dg hd_Mn_jumper 17 rfl) ?_
        refine ux_bipush (6 : Int32) (dg hd_Mn_jumper 18 rfl) (by decide) ?_
        refine ux_icmp_lt 48 (dg hd_Mn_jumper 19 rfl) (by decide) (fun _ => ?_) (fun _ => ?_)
        · refine ux_aload_n (dg hd_Mn_jumper 24 rfl) rfl ?_
          refine ux_getr (q := 15) fcX6 0 (by decide) wk_278 rfl rfl (dg hd_Mn_jumper 25 rfl) ?_
          refine ux_iload_n (dg hd_Mn_jumper 26 rfl) rfl ?_
          refine ux_iload_n (dg hd_Mn_jumper 27 rfl) rfl ?_
          refine ux_iload_n (dg hd_Mn_jumper 28 rfl) rfl ?_
          refine ux_callVi (As := [.int p1, .int p2, .int p3]) (sp_Rp_add l rp15 p1 p2 p3 _) (by omega) cv_Rp_add wk_330 rfl rfl (rpO rp15) rfl rfl (Nat.le_of_ble_eq_true rfl) (dg hd_Mn_jumper 29 rfl) (fun r11 σ12 _ => ?_)
          exact ux_iret rfl (dg hd_Mn_jumper 30 rfl)
        · refine ux_aload_n (dg hd_Mn_jumper 20 rfl) rfl ?_
          refine ux_iconst (4 : Int32) (dg hd_Mn_jumper 21 rfl) (by decide) ?_
          refine ux_callVi (As := [.int (4 : Int32)]) (sp_Mn_error l (4 : Int32) _) (by omega) cv_Mn_error wk_325 rfl rfl rfl rfl rfl (Nat.le_of_ble_eq_true rfl) (dg hd_Mn_jumper 22 rfl) (fun r13 σ14 _ => ?_)
          exact ux_iret rfl (dg hd_Mn_jumper 23 rfl)
def Mn_jumperIs (p1 : Int32) (p2 : Int32) (σ : St) : Option (Int32 × St) :=
  bnd (Rp_has 15 p1 σ) (fun r1 σ2 =>
  if r1 = (0 : Int32) then (
  bnd (Mn_error (1 : Int32) σ2) (fun r13 σ14 =>
  some (r13, σ14))) else (
  if p2 = (0 : Int32) then (
  grd (inb p1 6) (
  some ((σ2.2 16 p1.toNatClampNeg), σ2))) else if p2 = (1 : Int32) then (
  grd (inb p1 6) (
  some ((σ2.2 17 p1.toNatClampNeg), σ2))) else if p2 = (2 : Int32) then (
  grd (inb p1 6) (
  some ((σ2.2 18 p1.toNatClampNeg), σ2))) else if p2 = (3 : Int32) then (
  grd (inb p1 6) (
  some ((σ2.2 19 p1.toNatClampNeg), σ2))) else if p2 = (4 : Int32) then (
  grd (inb p1 6) (
  some ((σ2.2 20 p1.toNatClampNeg), σ2))) else if p2 = (5 : Int32) then (
  bnd (Rp_costs 15 p1 σ2) (fun r8 σ9 =>
  some (r8, σ9))) else (
  bnd (Mn_error (1 : Int32) σ2) (fun r11 σ12 =>
  some (r11, σ12)))))
set_option maxRecDepth 100000 in
theorem sp_Mn_jumperIs (l : Launch) (p1 : Int32) (p2 : Int32) (σ : St) : Spc l shC 6 md_Mn_jumperIs [.ref 0, .int p1, .int p2] σ (Mn_jumperIs p1 p2 σ) := by
  refine Spc_of_Ux [(0, .ref 0), (1, .int p1), (2, .int p2)] (by decide) rfl (Nat.le_of_ble_eq_true rfl) ?_
  unfold Mn_jumperIs
  refine ux_aload_n (dg hd_Mn_jumperIs 0 rfl) rfl ?_
  refine ux_getr (q := 15) fcX6 0 (by decide) wk_278 rfl rfl (dg hd_Mn_jumperIs 1 rfl) ?_
  refine ux_iload_n (dg hd_Mn_jumperIs 2 rfl) rfl ?_
  refine ux_callVi (As := [.int p1]) (sp_Rp_has l rp15 p1 _) (by omega) cv_Rp_has wk_342 rfl rfl (rpO rp15) rfl rfl (Nat.le_of_ble_eq_true rfl) (dg hd_Mn_jumperIs 3 rfl) (fun r1 σ2 _ => ?_)
  refine ux_if_ne 17 (dg hd_Mn_jumperIs 4 rfl) (by decide) (fun _ => ?_) (fun _ => ?_)
  · refine ux_aload_n (dg hd_Mn_jumperIs 5 rfl) rfl ?_
    refine ux_iconst (1 : Int32) (dg hd_Mn_jumperIs 6 rfl) (by decide) ?_
    refine ux_callVi (As := [.int (1 : Int32)]) (sp_Mn_error l (1 : Int32) _) (by omega) cv_Mn_error wk_325 rfl rfl rfl rfl rfl (Nat.le_of_ble_eq_true rfl) (dg hd_Mn_jumperIs 7 rfl) (fun r13 σ14 _ => ?_)
    exact ux_iret rfl (dg hd_Mn_jumperIs 8 rfl)
  · refine ux_iload_n (dg hd_Mn_jumperIs 9 rfl) rfl ?_
    refine ux_case (0 : Int32) (fun _ => ?_) (fun c3 => ?_)
    · refine ux_tabIn 56 (dg hd_Mn_jumperIs 10 rfl) (by decide) (by decide) rfl (by decide) ?_
      refine ux_aload_n (dg hd_Mn_jumperIs 11 rfl) rfl ?_
      refine ux_getr (q := 15) fcX6 0 (by decide) wk_278 rfl rfl (dg hd_Mn_jumperIs 12 rfl) ?_
      refine ux_getr (q := 16) fcX1 1 (by decide) wk_125 (rpO rp15) rfl (dg hd_Mn_jumperIs 13 rfl) ?_
      refine ux_iload_n (dg hd_Mn_jumperIs 14 rfl) rfl ?_
      refine ux_iald (rpA1 rp15) (dg hd_Mn_jumperIs 15 rfl) ?_
      exact ux_iret rfl (dg hd_Mn_jumperIs 16 rfl)
    refine ux_case (1 : Int32) (fun _ => ?_) (fun c4 => ?_)
    · refine ux_tabIn 66 (dg hd_Mn_jumperIs 10 rfl) (by decide) (by decide) rfl (by decide) ?_
      refine ux_aload_n (dg hd_Mn_jumperIs 17 rfl) rfl ?_
      refine ux_getr (q := 15) fcX6 0 (by decide) wk_278 rfl rfl (dg hd_Mn_jumperIs 18 rfl) ?_
      refine ux_getr (q := 17) fcX1 2 (by decide) wk_127 (rpO rp15) rfl (dg hd_Mn_jumperIs 19 rfl) ?_
      refine ux_iload_n (dg hd_Mn_jumperIs 20 rfl) rfl ?_
      refine ux_iald (rpA2 rp15) (dg hd_Mn_jumperIs 21 rfl) ?_
      exact ux_iret rfl (dg hd_Mn_jumperIs 22 rfl)
    refine ux_case (2 : Int32) (fun _ => ?_) (fun c5 => ?_)
    · refine ux_tabIn 76 (dg hd_Mn_jumperIs 10 rfl) (by decide) (by decide) rfl (by decide) ?_
      refine ux_aload_n (dg hd_Mn_jumperIs 23 rfl) rfl ?_
      refine ux_getr (q := 15) fcX6 0 (by decide) wk_278 rfl rfl (dg hd_Mn_jumperIs 24 rfl) ?_
      refine ux_getr (q := 18) fcX1 3 (by decide) wk_129 (rpO rp15) rfl (dg hd_Mn_jumperIs 25 rfl) ?_
      refine ux_iload_n (dg hd_Mn_jumperIs 26 rfl) rfl ?_
      refine ux_iald (rpA3 rp15) (dg hd_Mn_jumperIs 27 rfl) ?_
      exact ux_iret rfl (dg hd_Mn_jumperIs 28 rfl)
    refine ux_case (3 : Int32) (fun _ => ?_) (fun c6 => ?_)
    · refine ux_tabIn 86 (dg hd_Mn_jumperIs 10 rfl) (by decide) (by decide) rfl (by decide) ?_
      refine ux_aload_n (dg hd_Mn_jumperIs 29 rfl) rfl ?_
      refine ux_getr (q := 15) fcX6 0 (by decide) wk_278 rfl rfl (dg hd_Mn_jumperIs 30 rfl) ?_
      refine ux_getr (q := 19) fcX1 4 (by decide) wk_131 (rpO rp15) rfl (dg hd_Mn_jumperIs 31 rfl) ?_
      refine ux_iload_n (dg hd_Mn_jumperIs 32 rfl) rfl ?_
      refine ux_iald (rpA4 rp15) (dg hd_Mn_jumperIs 33 rfl) ?_
      exact ux_iret rfl (dg hd_Mn_jumperIs 34 rfl)
    refine ux_case (4 : Int32) (fun _ => ?_) (fun c7 => ?_)
    · refine ux_tabIn 96 (dg hd_Mn_jumperIs 10 rfl) (by decide) (by decide) rfl (by decide) ?_
      refine ux_aload_n (dg hd_Mn_jumperIs 35 rfl) rfl ?_
      refine ux_getr (q := 15) fcX6 0 (by decide) wk_278 rfl rfl (dg hd_Mn_jumperIs 36 rfl) ?_
      refine ux_getr (q := 20) fcX1 5 (by decide) wk_133 (rpO rp15) rfl (dg hd_Mn_jumperIs 37 rfl) ?_
      refine ux_iload_n (dg hd_Mn_jumperIs 38 rfl) rfl ?_
      refine ux_iald (rpA5 rp15) (dg hd_Mn_jumperIs 39 rfl) ?_
      exact ux_iret rfl (dg hd_Mn_jumperIs 40 rfl)
    refine ux_case (5 : Int32) (fun _ => ?_) (fun c10 => ?_)
    · refine ux_tabIn 106 (dg hd_Mn_jumperIs 10 rfl) (by decide) (by decide) rfl (by decide) ?_
      refine ux_aload_n (dg hd_Mn_jumperIs 41 rfl) rfl ?_
      refine ux_getr (q := 15) fcX6 0 (by decide) wk_278 rfl rfl (dg hd_Mn_jumperIs 42 rfl) ?_
      refine ux_iload_n (dg hd_Mn_jumperIs 43 rfl) rfl ?_
      refine ux_callVi (As := [.int p1]) (sp_Rp_costs l rp15 p1 _) (by omega) cv_Rp_costs wk_346 rfl rfl (rpO rp15) rfl rfl (Nat.le_of_ble_eq_true rfl) (dg hd_Mn_jumperIs 44 rfl) (fun r8 σ9 _ => ?_)
      exact ux_iret rfl (dg hd_Mn_jumperIs 45 rfl)
    refine ux_tabOut 115 (dg hd_Mn_jumperIs 10 rfl) (by have hc3 := lv_neT (a := 0) c3 (by decide); have hc4 := lv_neT (a := 1) c4 (by decide); have hc5 := lv_neT (a := 2) c5 (by decide); have hc6 := lv_neT (a := 3) c6 (by decide); have hc7 := lv_neT (a := 4) c7 (by decide); have hc10 := lv_neT (a := 5) c10 (by decide); omega) (by decide) ?_
    refine ux_aload_n (dg hd_Mn_jumperIs 46 rfl) rfl ?_
    refine ux_iconst (1 : Int32) (dg hd_Mn_jumperIs 47 rfl) (by decide) ?_
    refine ux_callVi (As := [.int (1 : Int32)]) (sp_Mn_error l (1 : Int32) _) (by omega) cv_Mn_error wk_325 rfl rfl rfl rfl rfl (Nat.le_of_ble_eq_true rfl) (dg hd_Mn_jumperIs 48 rfl) (fun r11 σ12 _ => ?_)
    exact ux_iret rfl (dg hd_Mn_jumperIs 49 rfl)
def Mn_become (p1 : Int32) (p2 : Int32) (σ : St) : Option (Int32 × St) :=
  bnd (Rp_has 15 p1 σ) (fun r1 σ2 =>
  if r1 = (0 : Int32) then (
  bnd (Mn_error (1 : Int32) σ2) (fun r3 σ4 =>
  some (r3, σ4))) else (
  bnd (Mn_isKindAndMark p2 σ2) (fun r5 σ6 =>
  if r5 = (0 : Int32) then (
  bnd (Mn_error (1 : Int32) σ6) (fun r10 σ11 =>
  some (r10, σ11))) else (
  grd (inb p1 6) (
  nam (σ6.2 16 p1.toNatClampNeg) (fun y7 =>
  bnd (Rp_setKindAndMark 15 p1 p2 σ6) (fun r8 σ9 =>
  some (y7, σ9))))))))
set_option maxRecDepth 100000 in
theorem sp_Mn_become (l : Launch) (p1 : Int32) (p2 : Int32) (σ : St) : Spc l shC 4 md_Mn_become [.ref 0, .int p1, .int p2] σ (Mn_become p1 p2 σ) := by
  refine Spc_of_Ux [(0, .ref 0), (1, .int p1), (2, .int p2)] (by decide) rfl (Nat.le_of_ble_eq_true rfl) ?_
  unfold Mn_become
  refine ux_aload_n (dg hd_Mn_become 0 rfl) rfl ?_
  refine ux_getr (q := 15) fcX6 0 (by decide) wk_278 rfl rfl (dg hd_Mn_become 1 rfl) ?_
  refine ux_iload_n (dg hd_Mn_become 2 rfl) rfl ?_
  refine ux_callVi (As := [.int p1]) (sp_Rp_has l rp15 p1 _) (by omega) cv_Rp_has wk_342 rfl rfl (rpO rp15) rfl rfl (Nat.le_of_ble_eq_true rfl) (dg hd_Mn_become 3 rfl) (fun r1 σ2 _ => ?_)
  refine ux_if_eq 18 (dg hd_Mn_become 4 rfl) (by decide) (fun _ => ?_) (fun _ => ?_)
  · refine ux_aload_n (dg hd_Mn_become 8 rfl) rfl ?_
    refine ux_iconst (1 : Int32) (dg hd_Mn_become 9 rfl) (by decide) ?_
    refine ux_callVi (As := [.int (1 : Int32)]) (sp_Mn_error l (1 : Int32) _) (by omega) cv_Mn_error wk_325 rfl rfl rfl rfl rfl (Nat.le_of_ble_eq_true rfl) (dg hd_Mn_become 10 rfl) (fun r3 σ4 _ => ?_)
    exact ux_iret rfl (dg hd_Mn_become 11 rfl)
  · refine ux_iload_n (dg hd_Mn_become 5 rfl) rfl ?_
    refine ux_callSi (As := [.int p2]) (sp_Mn_isKindAndMark l p2 _) (by omega) cs_Mn_isKindAndMark wk_319 rfl rfl (Nat.le_of_ble_eq_true rfl) (dg hd_Mn_become 6 rfl) (fun r5 σ6 _ => ?_)
    refine ux_if_ne 24 (dg hd_Mn_become 7 rfl) (by decide) (fun _ => ?_) (fun _ => ?_)
    · refine ux_aload_n (dg hd_Mn_become 8 rfl) rfl ?_
      refine ux_iconst (1 : Int32) (dg hd_Mn_become 9 rfl) (by decide) ?_
      refine ux_callVi (As := [.int (1 : Int32)]) (sp_Mn_error l (1 : Int32) _) (by omega) cv_Mn_error wk_325 rfl rfl rfl rfl rfl (Nat.le_of_ble_eq_true rfl) (dg hd_Mn_become 10 rfl) (fun r10 σ11 _ => ?_)
      exact ux_iret rfl (dg hd_Mn_become 11 rfl)
    · refine ux_aload_n (dg hd_Mn_become 12 rfl) rfl ?_
      refine ux_getr (q := 15) fcX6 0 (by decide) wk_278 rfl rfl (dg hd_Mn_become 13 rfl) ?_
      refine ux_getr (q := 16) fcX1 1 (by decide) wk_125 (rpO rp15) rfl (dg hd_Mn_become 14 rfl) ?_
      refine ux_iload_n (dg hd_Mn_become 15 rfl) rfl ?_
      refine ux_iald (rpA1 rp15) (dg hd_Mn_become 16 rfl) ?_
      refine ux_nam (fun y7 => ?_)
      refine ux_istore_n [(3, .int y7), (0, .ref 0), (1, .int p1), (2, .int p2)] (dg hd_Mn_become 17 rfl) (by decide) rfl ?_
      refine ux_aload_n (dg hd_Mn_become 18 rfl) rfl ?_
      refine ux_getr (q := 15) fcX6 0 (by decide) wk_278 rfl rfl (dg hd_Mn_become 19 rfl) ?_
      refine ux_iload_n (dg hd_Mn_become 20 rfl) rfl ?_
      refine ux_iload_n (dg hd_Mn_become 21 rfl) rfl ?_
      refine ux_callVv (As := [.int p1, .int p2]) (sp_Rp_setKindAndMark l rp15 p1 p2 _) (by omega) cv_Rp_setKindAndMark wk_400 rfl rfl (rpO rp15) rfl rfl (Nat.le_of_ble_eq_true rfl) (dg hd_Mn_become 22 rfl) (fun r8 σ9 _ => ?_)
      refine ux_iload_n (dg hd_Mn_become 23 rfl) rfl ?_
      exact ux_iret rfl (dg hd_Mn_become 24 rfl)
def Mn_as (p1 : Int32) (p2 : Int32) (σ : St) : Option (Int32 × St) :=
  bnd (Rp_has 15 p1 σ) (fun r1 σ2 =>
  if r1 = (0 : Int32) then (
  bnd (Mn_error (1 : Int32) σ2) (fun r3 σ4 =>
  some (r3, σ4))) else (
  bnd (Mn_isWithin p2 (6 : Int32) σ2) (fun r5 σ6 =>
  if r5 = (0 : Int32) then (
  bnd (Mn_error (1 : Int32) σ6) (fun r11 σ12 =>
  some (r11, σ12))) else (
  grd (inb p1 6) (
  bnd (Mn_isUnder (σ6.2 16 p1.toNatClampNeg) p2 σ6) (fun r7 σ8 =>
  if r7 = (0 : Int32) then (
  bnd (Mn_error (5 : Int32) σ8) (fun r9 σ10 =>
  some (r9, σ10))) else (
  grd (inb p1 6) (
  some ((σ8.2 17 p1.toNatClampNeg), σ8)))))))))
set_option maxRecDepth 100000 in
theorem sp_Mn_as (l : Launch) (p1 : Int32) (p2 : Int32) (σ : St) : Spc l shC 4 md_Mn_as [.ref 0, .int p1, .int p2] σ (Mn_as p1 p2 σ) := by
  refine Spc_of_Ux [(0, .ref 0), (1, .int p1), (2, .int p2)] (by decide) rfl (Nat.le_of_ble_eq_true rfl) ?_
  unfold Mn_as
  refine ux_aload_n (dg hd_Mn_as 0 rfl) rfl ?_
  refine ux_getr (q := 15) fcX6 0 (by decide) wk_278 rfl rfl (dg hd_Mn_as 1 rfl) ?_
  refine ux_iload_n (dg hd_Mn_as 2 rfl) rfl ?_
  refine ux_callVi (As := [.int p1]) (sp_Rp_has l rp15 p1 _) (by omega) cv_Rp_has wk_342 rfl rfl (rpO rp15) rfl rfl (Nat.le_of_ble_eq_true rfl) (dg hd_Mn_as 3 rfl) (fun r1 σ2 _ => ?_)
  refine ux_if_eq 20 (dg hd_Mn_as 4 rfl) (by decide) (fun _ => ?_) (fun _ => ?_)
  · refine ux_aload_n (dg hd_Mn_as 9 rfl) rfl ?_
    refine ux_iconst (1 : Int32) (dg hd_Mn_as 10 rfl) (by decide) ?_
    refine ux_callVi (As := [.int (1 : Int32)]) (sp_Mn_error l (1 : Int32) _) (by omega) cv_Mn_error wk_325 rfl rfl rfl rfl rfl (Nat.le_of_ble_eq_true rfl) (dg hd_Mn_as 11 rfl) (fun r3 σ4 _ => ?_)
    exact ux_iret rfl (dg hd_Mn_as 12 rfl)
  · refine ux_iload_n (dg hd_Mn_as 5 rfl) rfl ?_
    refine ux_bipush (6 : Int32) (dg hd_Mn_as 6 rfl) (by decide) ?_
    refine ux_callSi (As := [.int p2, .int (6 : Int32)]) (sp_Mn_isWithin l p2 (6 : Int32) _) (by omega) cs_Mn_isWithin wk_322 rfl rfl (Nat.le_of_ble_eq_true rfl) (dg hd_Mn_as 7 rfl) (fun r5 σ6 _ => ?_)
    refine ux_if_ne 26 (dg hd_Mn_as 8 rfl) (by decide) (fun _ => ?_) (fun _ => ?_)
    · refine ux_aload_n (dg hd_Mn_as 9 rfl) rfl ?_
      refine ux_iconst (1 : Int32) (dg hd_Mn_as 10 rfl) (by decide) ?_
      refine ux_callVi (As := [.int (1 : Int32)]) (sp_Mn_error l (1 : Int32) _) (by omega) cv_Mn_error wk_325 rfl rfl rfl rfl rfl (Nat.le_of_ble_eq_true rfl) (dg hd_Mn_as 11 rfl) (fun r11 σ12 _ => ?_)
      exact ux_iret rfl (dg hd_Mn_as 12 rfl)
    · refine ux_aload_n (dg hd_Mn_as 13 rfl) rfl ?_
      refine ux_getr (q := 15) fcX6 0 (by decide) wk_278 rfl rfl (dg hd_Mn_as 14 rfl) ?_
      refine ux_getr (q := 16) fcX1 1 (by decide) wk_125 (rpO rp15) rfl (dg hd_Mn_as 15 rfl) ?_
      refine ux_iload_n (dg hd_Mn_as 16 rfl) rfl ?_
      refine ux_iald (rpA1 rp15) (dg hd_Mn_as 17 rfl) ?_
      refine ux_iload_n (dg hd_Mn_as 18 rfl) rfl ?_
      refine ux_callSi (As := [.int (σ6.2 16 p1.toNatClampNeg), .int p2]) (sp_Mn_isUnder l (σ6.2 16 p1.toNatClampNeg) p2 _) (by omega) cs_Mn_isUnder wk_405 rfl rfl (Nat.le_of_ble_eq_true rfl) (dg hd_Mn_as 19 rfl) (fun r7 σ8 _ => ?_)
      refine ux_if_eq 54 (dg hd_Mn_as 20 rfl) (by decide) (fun _ => ?_) (fun _ => ?_)
      · refine ux_aload_n (dg hd_Mn_as 27 rfl) rfl ?_
        refine ux_iconst (5 : Int32) (dg hd_Mn_as 28 rfl) (by decide) ?_
        refine ux_callVi (As := [.int (5 : Int32)]) (sp_Mn_error l (5 : Int32) _) (by omega) cv_Mn_error wk_325 rfl rfl rfl rfl rfl (Nat.le_of_ble_eq_true rfl) (dg hd_Mn_as 29 rfl) (fun r9 σ10 _ => ?_)
        exact ux_iret rfl (dg hd_Mn_as 30 rfl)
      · refine ux_aload_n (dg hd_Mn_as 21 rfl) rfl ?_
        refine ux_getr (q := 15) fcX6 0 (by decide) wk_278 rfl rfl (dg hd_Mn_as 22 rfl) ?_
        refine ux_getr (q := 17) fcX1 2 (by decide) wk_127 (rpO rp15) rfl (dg hd_Mn_as 23 rfl) ?_
        refine ux_iload_n (dg hd_Mn_as 24 rfl) rfl ?_
        refine ux_iald (rpA2 rp15) (dg hd_Mn_as 25 rfl) ?_
        refine ux_goto 59 (dg hd_Mn_as 26 rfl) (by decide) ?_
        exact ux_iret rfl (dg hd_Mn_as 30 rfl)
def Mn_jump (p1 : Int32) (p2 : Int32) (σ : St) : Option (Int32 × St) :=
  bnd (Rp_has 15 p1 σ) (fun r1 σ2 =>
  if r1 = (0 : Int32) then (
  bnd (Mn_error (1 : Int32) σ2) (fun r3 σ4 =>
  some (r3, σ4))) else (
  bnd (Mn_isWithin p2 (1 : Int32) σ2) (fun r5 σ6 =>
  if r5 = (0 : Int32) then (
  bnd (Mn_error (1 : Int32) σ6) (fun r15 σ16 =>
  some (r15, σ16))) else (
  if p2 = (1 : Int32) then (
  bnd (Rp_turns 15  σ6) (fun r9 σ10 =>
  if r9 = (0 : Int32) then (
  bnd (Mn_error (3 : Int32) σ10) (fun r13 σ14 =>
  some (r13, σ14))) else (
  grd (inb p1 6) (
  nam (σ10.2 20 p1.toNatClampNeg) (fun y11 =>
  grd (inb p1 6) (
  nas (sA σ10 20 p1.toNatClampNeg p2) (fun σ12 =>
  some (y11, σ12)))))))) else (
  grd (inb p1 6) (
  nam (σ6.2 20 p1.toNatClampNeg) (fun y7 =>
  grd (inb p1 6) (
  nas (sA σ6 20 p1.toNatClampNeg p2) (fun σ8 =>
  some (y7, σ8))))))))))
set_option maxRecDepth 100000 in
theorem sp_Mn_jump (l : Launch) (p1 : Int32) (p2 : Int32) (σ : St) : Spc l shC 3 md_Mn_jump [.ref 0, .int p1, .int p2] σ (Mn_jump p1 p2 σ) := by
  refine Spc_of_Ux [(0, .ref 0), (1, .int p1), (2, .int p2)] (by decide) rfl (Nat.le_of_ble_eq_true rfl) ?_
  unfold Mn_jump
  refine ux_aload_n (dg hd_Mn_jump 0 rfl) rfl ?_
  refine ux_getr (q := 15) fcX6 0 (by decide) wk_278 rfl rfl (dg hd_Mn_jump 1 rfl) ?_
  refine ux_iload_n (dg hd_Mn_jump 2 rfl) rfl ?_
  refine ux_callVi (As := [.int p1]) (sp_Rp_has l rp15 p1 _) (by omega) cv_Rp_has wk_342 rfl rfl (rpO rp15) rfl rfl (Nat.le_of_ble_eq_true rfl) (dg hd_Mn_jump 3 rfl) (fun r1 σ2 _ => ?_)
  refine ux_if_eq 19 (dg hd_Mn_jump 4 rfl) (by decide) (fun _ => ?_) (fun _ => ?_)
  · refine ux_aload_n (dg hd_Mn_jump 9 rfl) rfl ?_
    refine ux_iconst (1 : Int32) (dg hd_Mn_jump 10 rfl) (by decide) ?_
    refine ux_callVi (As := [.int (1 : Int32)]) (sp_Mn_error l (1 : Int32) _) (by omega) cv_Mn_error wk_325 rfl rfl rfl rfl rfl (Nat.le_of_ble_eq_true rfl) (dg hd_Mn_jump 11 rfl) (fun r3 σ4 _ => ?_)
    exact ux_iret rfl (dg hd_Mn_jump 12 rfl)
  · refine ux_iload_n (dg hd_Mn_jump 5 rfl) rfl ?_
    refine ux_iconst (1 : Int32) (dg hd_Mn_jump 6 rfl) (by decide) ?_
    refine ux_callSi (As := [.int p2, .int (1 : Int32)]) (sp_Mn_isWithin l p2 (1 : Int32) _) (by omega) cs_Mn_isWithin wk_322 rfl rfl (Nat.le_of_ble_eq_true rfl) (dg hd_Mn_jump 7 rfl) (fun r5 σ6 _ => ?_)
    refine ux_if_ne 25 (dg hd_Mn_jump 8 rfl) (by decide) (fun _ => ?_) (fun _ => ?_)
    · refine ux_aload_n (dg hd_Mn_jump 9 rfl) rfl ?_
      refine ux_iconst (1 : Int32) (dg hd_Mn_jump 10 rfl) (by decide) ?_
      refine ux_callVi (As := [.int (1 : Int32)]) (sp_Mn_error l (1 : Int32) _) (by omega) cv_Mn_error wk_325 rfl rfl rfl rfl rfl (Nat.le_of_ble_eq_true rfl) (dg hd_Mn_jump 11 rfl) (fun r15 σ16 _ => ?_)
      exact ux_iret rfl (dg hd_Mn_jump 12 rfl)
    · refine ux_iload_n (dg hd_Mn_jump 13 rfl) rfl ?_
      refine ux_iconst (1 : Int32) (dg hd_Mn_jump 14 rfl) (by decide) ?_
      refine ux_icmp_ne 46 (dg hd_Mn_jump 15 rfl) (by decide) (fun _ => ?_) (fun _ => ?_)
      · refine ux_aload_n (dg hd_Mn_jump 16 rfl) rfl ?_
        refine ux_getr (q := 15) fcX6 0 (by decide) wk_278 rfl rfl (dg hd_Mn_jump 17 rfl) ?_
        refine ux_callVi (As := []) (sp_Rp_turns l rp15  _) (by omega) cv_Rp_turns wk_414 rfl rfl (rpO rp15) rfl rfl (Nat.le_of_ble_eq_true rfl) (dg hd_Mn_jump 18 rfl) (fun r9 σ10 _ => ?_)
        refine ux_if_ne 46 (dg hd_Mn_jump 19 rfl) (by decide) (fun _ => ?_) (fun _ => ?_)
        · refine ux_aload_n (dg hd_Mn_jump 20 rfl) rfl ?_
          refine ux_iconst (3 : Int32) (dg hd_Mn_jump 21 rfl) (by decide) ?_
          refine ux_callVi (As := [.int (3 : Int32)]) (sp_Mn_error l (3 : Int32) _) (by omega) cv_Mn_error wk_325 rfl rfl rfl rfl rfl (Nat.le_of_ble_eq_true rfl) (dg hd_Mn_jump 22 rfl) (fun r13 σ14 _ => ?_)
          exact ux_iret rfl (dg hd_Mn_jump 23 rfl)
        · refine ux_aload_n (dg hd_Mn_jump 24 rfl) rfl ?_
          refine ux_getr (q := 15) fcX6 0 (by decide) wk_278 rfl rfl (dg hd_Mn_jump 25 rfl) ?_
          refine ux_getr (q := 20) fcX1 5 (by decide) wk_133 (rpO rp15) rfl (dg hd_Mn_jump 26 rfl) ?_
          refine ux_iload_n (dg hd_Mn_jump 27 rfl) rfl ?_
          refine ux_iald (rpA5 rp15) (dg hd_Mn_jump 28 rfl) ?_
          refine ux_nam (fun y11 => ?_)
          refine ux_istore_n [(3, .int y11), (0, .ref 0), (1, .int p1), (2, .int p2)] (dg hd_Mn_jump 29 rfl) (by decide) rfl ?_
          refine ux_aload_n (dg hd_Mn_jump 30 rfl) rfl ?_
          refine ux_getr (q := 15) fcX6 0 (by decide) wk_278 rfl rfl (dg hd_Mn_jump 31 rfl) ?_
          refine ux_getr (q := 20) fcX1 5 (by decide) wk_133 (rpO rp15) rfl (dg hd_Mn_jump 32 rfl) ?_
          refine ux_iload_n (dg hd_Mn_jump 33 rfl) rfl ?_
          refine ux_iload_n (dg hd_Mn_jump 34 rfl) rfl ?_
          refine ux_iast (rpA5 rp15) (dg hd_Mn_jump 35 rfl) ?_
          refine ux_nas (fun σ12 => ?_)
          refine ux_iload_n (dg hd_Mn_jump 36 rfl) rfl ?_
          exact ux_iret rfl (dg hd_Mn_jump 37 rfl)
      · refine ux_aload_n (dg hd_Mn_jump 24 rfl) rfl ?_
        refine ux_getr (q := 15) fcX6 0 (by decide) wk_278 rfl rfl (dg hd_Mn_jump 25 rfl) ?_
        refine ux_getr (q := 20) fcX1 5 (by decide) wk_133 (rpO rp15) rfl (dg hd_Mn_jump 26 rfl) ?_
        refine ux_iload_n (dg hd_Mn_jump 27 rfl) rfl ?_
        refine ux_iald (rpA5 rp15) (dg hd_Mn_jump 28 rfl) ?_
        refine ux_nam (fun y7 => ?_)
        refine ux_istore_n [(3, .int y7), (0, .ref 0), (1, .int p1), (2, .int p2)] (dg hd_Mn_jump 29 rfl) (by decide) rfl ?_
        refine ux_aload_n (dg hd_Mn_jump 30 rfl) rfl ?_
        refine ux_getr (q := 15) fcX6 0 (by decide) wk_278 rfl rfl (dg hd_Mn_jump 31 rfl) ?_
        refine ux_getr (q := 20) fcX1 5 (by decide) wk_133 (rpO rp15) rfl (dg hd_Mn_jump 32 rfl) ?_
        refine ux_iload_n (dg hd_Mn_jump 33 rfl) rfl ?_
        refine ux_iload_n (dg hd_Mn_jump 34 rfl) rfl ?_
        refine ux_iast (rpA5 rp15) (dg hd_Mn_jump 35 rfl) ?_
        refine ux_nas (fun σ8 => ?_)
        refine ux_iload_n (dg hd_Mn_jump 36 rfl) rfl ?_
        exact ux_iret rfl (dg hd_Mn_jump 37 rfl)
def Mn_rest (p1 : Int32) (p2 : Int32) (σ : St) : Option (Int32 × St) :=
  bnd (Rp_has 15 p1 σ) (fun r1 σ2 =>
  if r1 = (0 : Int32) then (
  bnd (Mn_error (1 : Int32) σ2) (fun r3 σ4 =>
  some (r3, σ4))) else (
  bnd (Mn_isWithin p2 (99 : Int32) σ2) (fun r5 σ6 =>
  if r5 = (0 : Int32) then (
  bnd (Mn_error (1 : Int32) σ6) (fun r9 σ10 =>
  some (r9, σ10))) else (
  grd (inb p1 6) (
  nam (σ6.2 18 p1.toNatClampNeg) (fun y7 =>
  grd (inb p1 6) (
  nas (sA σ6 18 p1.toNatClampNeg p2) (fun σ8 =>
  some (y7, σ8)))))))))
set_option maxRecDepth 100000 in
theorem sp_Mn_rest (l : Launch) (p1 : Int32) (p2 : Int32) (σ : St) : Spc l shC 3 md_Mn_rest [.ref 0, .int p1, .int p2] σ (Mn_rest p1 p2 σ) := by
  refine Spc_of_Ux [(0, .ref 0), (1, .int p1), (2, .int p2)] (by decide) rfl (Nat.le_of_ble_eq_true rfl) ?_
  unfold Mn_rest
  refine ux_aload_n (dg hd_Mn_rest 0 rfl) rfl ?_
  refine ux_getr (q := 15) fcX6 0 (by decide) wk_278 rfl rfl (dg hd_Mn_rest 1 rfl) ?_
  refine ux_iload_n (dg hd_Mn_rest 2 rfl) rfl ?_
  refine ux_callVi (As := [.int p1]) (sp_Rp_has l rp15 p1 _) (by omega) cv_Rp_has wk_342 rfl rfl (rpO rp15) rfl rfl (Nat.le_of_ble_eq_true rfl) (dg hd_Mn_rest 3 rfl) (fun r1 σ2 _ => ?_)
  refine ux_if_eq 20 (dg hd_Mn_rest 4 rfl) (by decide) (fun _ => ?_) (fun _ => ?_)
  · refine ux_aload_n (dg hd_Mn_rest 9 rfl) rfl ?_
    refine ux_iconst (1 : Int32) (dg hd_Mn_rest 10 rfl) (by decide) ?_
    refine ux_callVi (As := [.int (1 : Int32)]) (sp_Mn_error l (1 : Int32) _) (by omega) cv_Mn_error wk_325 rfl rfl rfl rfl rfl (Nat.le_of_ble_eq_true rfl) (dg hd_Mn_rest 11 rfl) (fun r3 σ4 _ => ?_)
    exact ux_iret rfl (dg hd_Mn_rest 12 rfl)
  · refine ux_iload_n (dg hd_Mn_rest 5 rfl) rfl ?_
    refine ux_bipush (99 : Int32) (dg hd_Mn_rest 6 rfl) (by decide) ?_
    refine ux_callSi (As := [.int p2, .int (99 : Int32)]) (sp_Mn_isWithin l p2 (99 : Int32) _) (by omega) cs_Mn_isWithin wk_322 rfl rfl (Nat.le_of_ble_eq_true rfl) (dg hd_Mn_rest 7 rfl) (fun r5 σ6 _ => ?_)
    refine ux_if_ne 26 (dg hd_Mn_rest 8 rfl) (by decide) (fun _ => ?_) (fun _ => ?_)
    · refine ux_aload_n (dg hd_Mn_rest 9 rfl) rfl ?_
      refine ux_iconst (1 : Int32) (dg hd_Mn_rest 10 rfl) (by decide) ?_
      refine ux_callVi (As := [.int (1 : Int32)]) (sp_Mn_error l (1 : Int32) _) (by omega) cv_Mn_error wk_325 rfl rfl rfl rfl rfl (Nat.le_of_ble_eq_true rfl) (dg hd_Mn_rest 11 rfl) (fun r9 σ10 _ => ?_)
      exact ux_iret rfl (dg hd_Mn_rest 12 rfl)
    · refine ux_aload_n (dg hd_Mn_rest 13 rfl) rfl ?_
      refine ux_getr (q := 15) fcX6 0 (by decide) wk_278 rfl rfl (dg hd_Mn_rest 14 rfl) ?_
      refine ux_getr (q := 18) fcX1 3 (by decide) wk_129 (rpO rp15) rfl (dg hd_Mn_rest 15 rfl) ?_
      refine ux_iload_n (dg hd_Mn_rest 16 rfl) rfl ?_
      refine ux_iald (rpA3 rp15) (dg hd_Mn_rest 17 rfl) ?_
      refine ux_nam (fun y7 => ?_)
      refine ux_istore_n [(3, .int y7), (0, .ref 0), (1, .int p1), (2, .int p2)] (dg hd_Mn_rest 18 rfl) (by decide) rfl ?_
      refine ux_aload_n (dg hd_Mn_rest 19 rfl) rfl ?_
      refine ux_getr (q := 15) fcX6 0 (by decide) wk_278 rfl rfl (dg hd_Mn_rest 20 rfl) ?_
      refine ux_getr (q := 18) fcX1 3 (by decide) wk_129 (rpO rp15) rfl (dg hd_Mn_rest 21 rfl) ?_
      refine ux_iload_n (dg hd_Mn_rest 22 rfl) rfl ?_
      refine ux_iload_n (dg hd_Mn_rest 23 rfl) rfl ?_
      refine ux_iast (rpA3 rp15) (dg hd_Mn_rest 24 rfl) ?_
      refine ux_nas (fun σ8 => ?_)
      refine ux_iload_n (dg hd_Mn_rest 25 rfl) rfl ?_
      exact ux_iret rfl (dg hd_Mn_rest 26 rfl)
def Mn_spell (p1 : Int32) (p2 : Int32) (σ : St) : Option (Int32 × St) :=
  bnd (Mn_isWithin p1 (1 : Int32) σ) (fun r1 σ2 =>
  if r1 = (0 : Int32) then (
  bnd (Mn_error (1 : Int32) σ2) (fun r3 σ4 =>
  some (r3, σ4))) else (
  bnd (Mn_isWithin p2 (99 : Int32) σ2) (fun r5 σ6 =>
  if r5 = (0 : Int32) then (
  bnd (Mn_error (1 : Int32) σ6) (fun r9 σ10 =>
  some (r9, σ10))) else (
  grd (inb p1 2) (
  nam (σ6.2 21 p1.toNatClampNeg) (fun y7 =>
  grd (inb p1 2) (
  nas (sA σ6 21 p1.toNatClampNeg p2) (fun σ8 =>
  some (y7, σ8)))))))))
set_option maxRecDepth 100000 in
theorem sp_Mn_spell (l : Launch) (p1 : Int32) (p2 : Int32) (σ : St) : Spc l shC 3 md_Mn_spell [.ref 0, .int p1, .int p2] σ (Mn_spell p1 p2 σ) := by
  refine Spc_of_Ux [(0, .ref 0), (1, .int p1), (2, .int p2)] (by decide) rfl (Nat.le_of_ble_eq_true rfl) ?_
  unfold Mn_spell
  refine ux_iload_n (dg hd_Mn_spell 0 rfl) rfl ?_
  refine ux_iconst (1 : Int32) (dg hd_Mn_spell 1 rfl) (by decide) ?_
  refine ux_callSi (As := [.int p1, .int (1 : Int32)]) (sp_Mn_isWithin l p1 (1 : Int32) _) (by omega) cs_Mn_isWithin wk_322 rfl rfl (Nat.le_of_ble_eq_true rfl) (dg hd_Mn_spell 2 rfl) (fun r1 σ2 _ => ?_)
  refine ux_if_eq 17 (dg hd_Mn_spell 3 rfl) (by decide) (fun _ => ?_) (fun _ => ?_)
  · refine ux_aload_n (dg hd_Mn_spell 8 rfl) rfl ?_
    refine ux_iconst (1 : Int32) (dg hd_Mn_spell 9 rfl) (by decide) ?_
    refine ux_callVi (As := [.int (1 : Int32)]) (sp_Mn_error l (1 : Int32) _) (by omega) cv_Mn_error wk_325 rfl rfl rfl rfl rfl (Nat.le_of_ble_eq_true rfl) (dg hd_Mn_spell 10 rfl) (fun r3 σ4 _ => ?_)
    exact ux_iret rfl (dg hd_Mn_spell 11 rfl)
  · refine ux_iload_n (dg hd_Mn_spell 4 rfl) rfl ?_
    refine ux_bipush (99 : Int32) (dg hd_Mn_spell 5 rfl) (by decide) ?_
    refine ux_callSi (As := [.int p2, .int (99 : Int32)]) (sp_Mn_isWithin l p2 (99 : Int32) _) (by omega) cs_Mn_isWithin wk_322 rfl rfl (Nat.le_of_ble_eq_true rfl) (dg hd_Mn_spell 6 rfl) (fun r5 σ6 _ => ?_)
    refine ux_if_ne 23 (dg hd_Mn_spell 7 rfl) (by decide) (fun _ => ?_) (fun _ => ?_)
    · refine ux_aload_n (dg hd_Mn_spell 8 rfl) rfl ?_
      refine ux_iconst (1 : Int32) (dg hd_Mn_spell 9 rfl) (by decide) ?_
      refine ux_callVi (As := [.int (1 : Int32)]) (sp_Mn_error l (1 : Int32) _) (by omega) cv_Mn_error wk_325 rfl rfl rfl rfl rfl (Nat.le_of_ble_eq_true rfl) (dg hd_Mn_spell 10 rfl) (fun r9 σ10 _ => ?_)
      exact ux_iret rfl (dg hd_Mn_spell 11 rfl)
    · refine ux_aload_n (dg hd_Mn_spell 12 rfl) rfl ?_
      refine ux_getr (q := 15) fcX6 0 (by decide) wk_278 rfl rfl (dg hd_Mn_spell 13 rfl) ?_
      refine ux_getr (q := 21) fcX1 6 (by decide) wk_135 (rpO rp15) rfl (dg hd_Mn_spell 14 rfl) ?_
      refine ux_iload_n (dg hd_Mn_spell 15 rfl) rfl ?_
      refine ux_iald (rpA6 rp15) (dg hd_Mn_spell 16 rfl) ?_
      refine ux_nam (fun y7 => ?_)
      refine ux_istore_n [(3, .int y7), (0, .ref 0), (1, .int p1), (2, .int p2)] (dg hd_Mn_spell 17 rfl) (by decide) rfl ?_
      refine ux_aload_n (dg hd_Mn_spell 18 rfl) rfl ?_
      refine ux_getr (q := 15) fcX6 0 (by decide) wk_278 rfl rfl (dg hd_Mn_spell 19 rfl) ?_
      refine ux_getr (q := 21) fcX1 6 (by decide) wk_135 (rpO rp15) rfl (dg hd_Mn_spell 20 rfl) ?_
      refine ux_iload_n (dg hd_Mn_spell 21 rfl) rfl ?_
      refine ux_iload_n (dg hd_Mn_spell 22 rfl) rfl ?_
      refine ux_iast (rpA6 rp15) (dg hd_Mn_spell 23 rfl) ?_
      refine ux_nas (fun σ8 => ?_)
      refine ux_iload_n (dg hd_Mn_spell 24 rfl) rfl ?_
      exact ux_iret rfl (dg hd_Mn_spell 25 rfl)
def Mn_bar (p1 : Int32) (σ : St) : Option (Int32 × St) :=
  bnd (Mn_isWithin p1 (99 : Int32) σ) (fun r1 σ2 =>
  if r1 = (0 : Int32) then (
  bnd (Mn_error (1 : Int32) σ2) (fun r5 σ6 =>
  some (r5, σ6))) else (
  nam (σ2.1 15 12) (fun y3 =>
  nas (sF σ2 15 12 p1) (fun σ4 =>
  some (y3, σ4)))))
set_option maxRecDepth 100000 in
theorem sp_Mn_bar (l : Launch) (p1 : Int32) (σ : St) : Spc l shC 3 md_Mn_bar [.ref 0, .int p1] σ (Mn_bar p1 σ) := by
  refine Spc_of_Ux [(0, .ref 0), (1, .int p1)] (by decide) rfl (Nat.le_of_ble_eq_true rfl) ?_
  unfold Mn_bar
  refine ux_iload_n (dg hd_Mn_bar 0 rfl) rfl ?_
  refine ux_bipush (99 : Int32) (dg hd_Mn_bar 1 rfl) (by decide) ?_
  refine ux_callSi (As := [.int p1, .int (99 : Int32)]) (sp_Mn_isWithin l p1 (99 : Int32) _) (by omega) cs_Mn_isWithin wk_322 rfl rfl (Nat.le_of_ble_eq_true rfl) (dg hd_Mn_bar 2 rfl) (fun r1 σ2 _ => ?_)
  refine ux_if_ne 15 (dg hd_Mn_bar 3 rfl) (by decide) (fun _ => ?_) (fun _ => ?_)
  · refine ux_aload_n (dg hd_Mn_bar 4 rfl) rfl ?_
    refine ux_iconst (1 : Int32) (dg hd_Mn_bar 5 rfl) (by decide) ?_
    refine ux_callVi (As := [.int (1 : Int32)]) (sp_Mn_error l (1 : Int32) _) (by omega) cv_Mn_error wk_325 rfl rfl rfl rfl rfl (Nat.le_of_ble_eq_true rfl) (dg hd_Mn_bar 6 rfl) (fun r5 σ6 _ => ?_)
    exact ux_iret rfl (dg hd_Mn_bar 7 rfl)
  · refine ux_aload_n (dg hd_Mn_bar 8 rfl) rfl ?_
    refine ux_getr (q := 15) fcX6 0 (by decide) wk_278 rfl rfl (dg hd_Mn_bar 9 rfl) ?_
    refine ux_get fcX1 12 (by decide) wk_146 (rpO rp15) rfl (dg hd_Mn_bar 10 rfl) ?_
    refine ux_nam (fun y3 => ?_)
    refine ux_istore_n [(2, .int y3), (0, .ref 0), (1, .int p1)] (dg hd_Mn_bar 11 rfl) (by decide) rfl ?_
    refine ux_aload_n (dg hd_Mn_bar 12 rfl) rfl ?_
    refine ux_getr (q := 15) fcX6 0 (by decide) wk_278 rfl rfl (dg hd_Mn_bar 13 rfl) ?_
    refine ux_iload_n (dg hd_Mn_bar 14 rfl) rfl ?_
    refine ux_put fcX1 12 (by decide) wk_146 rfl rfl ⟨rfl, rfl⟩ (rpO rp15) rfl (dg hd_Mn_bar 15 rfl) ?_
    refine ux_nas (fun σ4 => ?_)
    refine ux_iload_n (dg hd_Mn_bar 16 rfl) rfl ?_
    exact ux_iret rfl (dg hd_Mn_bar 17 rfl)
def Mn_liking (p1 : Int32) (p2 : Int32) (σ : St) : Option (Int32 × St) :=
  bnd (Rp_has 15 p1 σ) (fun r1 σ2 =>
  if r1 = (0 : Int32) then (
  bnd (Mn_error (1 : Int32) σ2) (fun r3 σ4 =>
  some (r3, σ4))) else (
  bnd (Mn_isTreaty p2 σ2) (fun r5 σ6 =>
  if r5 = (0 : Int32) then (
  bnd (Mn_error (1 : Int32) σ6) (fun r9 σ10 =>
  some (r9, σ10))) else (
  bnd (Rp_likes 15 p1 p2 σ6) (fun r7 σ8 =>
  some (r7, σ8))))))
set_option maxRecDepth 100000 in
theorem sp_Mn_liking (l : Launch) (p1 : Int32) (p2 : Int32) (σ : St) : Spc l shC 6 md_Mn_liking [.ref 0, .int p1, .int p2] σ (Mn_liking p1 p2 σ) := by
  refine Spc_of_Ux [(0, .ref 0), (1, .int p1), (2, .int p2)] (by decide) rfl (Nat.le_of_ble_eq_true rfl) ?_
  unfold Mn_liking
  refine ux_aload_n (dg hd_Mn_liking 0 rfl) rfl ?_
  refine ux_getr (q := 15) fcX6 0 (by decide) wk_278 rfl rfl (dg hd_Mn_liking 1 rfl) ?_
  refine ux_iload_n (dg hd_Mn_liking 2 rfl) rfl ?_
  refine ux_callVi (As := [.int p1]) (sp_Rp_has l rp15 p1 _) (by omega) cv_Rp_has wk_342 rfl rfl (rpO rp15) rfl rfl (Nat.le_of_ble_eq_true rfl) (dg hd_Mn_liking 3 rfl) (fun r1 σ2 _ => ?_)
  refine ux_if_eq 18 (dg hd_Mn_liking 4 rfl) (by decide) (fun _ => ?_) (fun _ => ?_)
  · refine ux_aload_n (dg hd_Mn_liking 8 rfl) rfl ?_
    refine ux_iconst (1 : Int32) (dg hd_Mn_liking 9 rfl) (by decide) ?_
    refine ux_callVi (As := [.int (1 : Int32)]) (sp_Mn_error l (1 : Int32) _) (by omega) cv_Mn_error wk_325 rfl rfl rfl rfl rfl (Nat.le_of_ble_eq_true rfl) (dg hd_Mn_liking 10 rfl) (fun r3 σ4 _ => ?_)
    exact ux_iret rfl (dg hd_Mn_liking 11 rfl)
  · refine ux_iload_n (dg hd_Mn_liking 5 rfl) rfl ?_
    refine ux_callSi (As := [.int p2]) (sp_Mn_isTreaty l p2 _) (by omega) cs_Mn_isTreaty wk_434 rfl rfl (Nat.le_of_ble_eq_true rfl) (dg hd_Mn_liking 6 rfl) (fun r5 σ6 _ => ?_)
    refine ux_if_ne 24 (dg hd_Mn_liking 7 rfl) (by decide) (fun _ => ?_) (fun _ => ?_)
    · refine ux_aload_n (dg hd_Mn_liking 8 rfl) rfl ?_
      refine ux_iconst (1 : Int32) (dg hd_Mn_liking 9 rfl) (by decide) ?_
      refine ux_callVi (As := [.int (1 : Int32)]) (sp_Mn_error l (1 : Int32) _) (by omega) cv_Mn_error wk_325 rfl rfl rfl rfl rfl (Nat.le_of_ble_eq_true rfl) (dg hd_Mn_liking 10 rfl) (fun r9 σ10 _ => ?_)
      exact ux_iret rfl (dg hd_Mn_liking 11 rfl)
    · refine ux_aload_n (dg hd_Mn_liking 12 rfl) rfl ?_
      refine ux_getr (q := 15) fcX6 0 (by decide) wk_278 rfl rfl (dg hd_Mn_liking 13 rfl) ?_
      refine ux_iload_n (dg hd_Mn_liking 14 rfl) rfl ?_
      refine ux_iload_n (dg hd_Mn_liking 15 rfl) rfl ?_
      refine ux_callVi (As := [.int p1, .int p2]) (sp_Rp_likes l rp15 p1 p2 _) (by omega) cv_Rp_likes wk_437 rfl rfl (rpO rp15) rfl rfl (Nat.le_of_ble_eq_true rfl) (dg hd_Mn_liking 16 rfl) (fun r7 σ8 _ => ?_)
      exact ux_iret rfl (dg hd_Mn_liking 17 rfl)
def Mn_talk (p1 : Int32) (p2 : Int32) (σ : St) : Option (Int32 × St) :=
  bnd (Rp_has 15 p1 σ) (fun r1 σ2 =>
  if r1 = (0 : Int32) then (
  bnd (Mn_error (1 : Int32) σ2) (fun r3 σ4 =>
  some (r3, σ4))) else (
  bnd (Mn_isTreaty p2 σ2) (fun r5 σ6 =>
  if r5 = (0 : Int32) then (
  bnd (Mn_error (1 : Int32) σ6) (fun r16 σ17 =>
  some (r16, σ17))) else (
  grd (inb p1 6) (
  if (σ6.2 20 p1.toNatClampNeg) = (0 : Int32) then (
  bnd (Mn_error (3 : Int32) σ6) (fun r7 σ8 =>
  some (r7, σ8))) else (
  bnd (Rp_mayTalk 15  σ6) (fun r9 σ10 =>
  if r9 = (0 : Int32) then (
  bnd (Mn_error (3 : Int32) σ10) (fun r14 σ15 =>
  some (r14, σ15))) else (
  bnd (Rp_isTaken 15 p2 σ10) (fun r11 σ12 =>
  if r11 = (0 : Int32) then (
  some ((0 : Int32), σ12)) else (
  nas (sF σ12 15 11 p2) (fun σ13 =>
  some ((1 : Int32), σ13))))))))))))
set_option maxRecDepth 100000 in
theorem sp_Mn_talk (l : Launch) (p1 : Int32) (p2 : Int32) (σ : St) : Spc l shC 7 md_Mn_talk [.ref 0, .int p1, .int p2] σ (Mn_talk p1 p2 σ) := by
  refine Spc_of_Ux [(0, .ref 0), (1, .int p1), (2, .int p2)] (by decide) rfl (Nat.le_of_ble_eq_true rfl) ?_
  unfold Mn_talk
  refine ux_aload_n (dg hd_Mn_talk 0 rfl) rfl ?_
  refine ux_getr (q := 15) fcX6 0 (by decide) wk_278 rfl rfl (dg hd_Mn_talk 1 rfl) ?_
  refine ux_iload_n (dg hd_Mn_talk 2 rfl) rfl ?_
  refine ux_callVi (As := [.int p1]) (sp_Rp_has l rp15 p1 _) (by omega) cv_Rp_has wk_342 rfl rfl (rpO rp15) rfl rfl (Nat.le_of_ble_eq_true rfl) (dg hd_Mn_talk 3 rfl) (fun r1 σ2 _ => ?_)
  refine ux_if_eq 18 (dg hd_Mn_talk 4 rfl) (by decide) (fun _ => ?_) (fun _ => ?_)
  · refine ux_aload_n (dg hd_Mn_talk 8 rfl) rfl ?_
    refine ux_iconst (1 : Int32) (dg hd_Mn_talk 9 rfl) (by decide) ?_
    refine ux_callVi (As := [.int (1 : Int32)]) (sp_Mn_error l (1 : Int32) _) (by omega) cv_Mn_error wk_325 rfl rfl rfl rfl rfl (Nat.le_of_ble_eq_true rfl) (dg hd_Mn_talk 10 rfl) (fun r3 σ4 _ => ?_)
    exact ux_iret rfl (dg hd_Mn_talk 11 rfl)
  · refine ux_iload_n (dg hd_Mn_talk 5 rfl) rfl ?_
    refine ux_callSi (As := [.int p2]) (sp_Mn_isTreaty l p2 _) (by omega) cs_Mn_isTreaty wk_434 rfl rfl (Nat.le_of_ble_eq_true rfl) (dg hd_Mn_talk 6 rfl) (fun r5 σ6 _ => ?_)
    refine ux_if_ne 24 (dg hd_Mn_talk 7 rfl) (by decide) (fun _ => ?_) (fun _ => ?_)
    · refine ux_aload_n (dg hd_Mn_talk 8 rfl) rfl ?_
      refine ux_iconst (1 : Int32) (dg hd_Mn_talk 9 rfl) (by decide) ?_
      refine ux_callVi (As := [.int (1 : Int32)]) (sp_Mn_error l (1 : Int32) _) (by omega) cv_Mn_error wk_325 rfl rfl rfl rfl rfl (Nat.le_of_ble_eq_true rfl) (dg hd_Mn_talk 10 rfl) (fun r16 σ17 _ => ?_)
      exact ux_iret rfl (dg hd_Mn_talk 11 rfl)
    · refine ux_aload_n (dg hd_Mn_talk 12 rfl) rfl ?_
      refine ux_getr (q := 15) fcX6 0 (by decide) wk_278 rfl rfl (dg hd_Mn_talk 13 rfl) ?_
      refine ux_getr (q := 20) fcX1 5 (by decide) wk_133 (rpO rp15) rfl (dg hd_Mn_talk 14 rfl) ?_
      refine ux_iload_n (dg hd_Mn_talk 15 rfl) rfl ?_
      refine ux_iald (rpA5 rp15) (dg hd_Mn_talk 16 rfl) ?_
      refine ux_if_eq 46 (dg hd_Mn_talk 17 rfl) (by decide) (fun _ => ?_) (fun _ => ?_)
      · refine ux_aload_n (dg hd_Mn_talk 22 rfl) rfl ?_
        refine ux_iconst (3 : Int32) (dg hd_Mn_talk 23 rfl) (by decide) ?_
        refine ux_callVi (As := [.int (3 : Int32)]) (sp_Mn_error l (3 : Int32) _) (by omega) cv_Mn_error wk_325 rfl rfl rfl rfl rfl (Nat.le_of_ble_eq_true rfl) (dg hd_Mn_talk 24 rfl) (fun r7 σ8 _ => ?_)
        exact ux_iret rfl (dg hd_Mn_talk 25 rfl)
      · refine ux_aload_n (dg hd_Mn_talk 18 rfl) rfl ?_
        refine ux_getr (q := 15) fcX6 0 (by decide) wk_278 rfl rfl (dg hd_Mn_talk 19 rfl) ?_
        refine ux_callVi (As := []) (sp_Rp_mayTalk l rp15  _) (by omega) cv_Rp_mayTalk wk_449 rfl rfl (rpO rp15) rfl rfl (Nat.le_of_ble_eq_true rfl) (dg hd_Mn_talk 20 rfl) (fun r9 σ10 _ => ?_)
        refine ux_if_ne 52 (dg hd_Mn_talk 21 rfl) (by decide) (fun _ => ?_) (fun _ => ?_)
        · refine ux_aload_n (dg hd_Mn_talk 22 rfl) rfl ?_
          refine ux_iconst (3 : Int32) (dg hd_Mn_talk 23 rfl) (by decide) ?_
          refine ux_callVi (As := [.int (3 : Int32)]) (sp_Mn_error l (3 : Int32) _) (by omega) cv_Mn_error wk_325 rfl rfl rfl rfl rfl (Nat.le_of_ble_eq_true rfl) (dg hd_Mn_talk 24 rfl) (fun r14 σ15 _ => ?_)
          exact ux_iret rfl (dg hd_Mn_talk 25 rfl)
        · refine ux_aload_n (dg hd_Mn_talk 26 rfl) rfl ?_
          refine ux_getr (q := 15) fcX6 0 (by decide) wk_278 rfl rfl (dg hd_Mn_talk 27 rfl) ?_
          refine ux_iload_n (dg hd_Mn_talk 28 rfl) rfl ?_
          refine ux_callVi (As := [.int p2]) (sp_Rp_isTaken l rp15 p2 _) (by omega) cv_Rp_isTaken wk_454 rfl rfl (rpO rp15) rfl rfl (Nat.le_of_ble_eq_true rfl) (dg hd_Mn_talk 29 rfl) (fun r11 σ12 _ => ?_)
          refine ux_if_ne 65 (dg hd_Mn_talk 30 rfl) (by decide) (fun _ => ?_) (fun _ => ?_)
          · refine ux_iconst (0 : Int32) (dg hd_Mn_talk 31 rfl) (by decide) ?_
            exact ux_iret rfl (dg hd_Mn_talk 32 rfl)
          · refine ux_aload_n (dg hd_Mn_talk 33 rfl) rfl ?_
            refine ux_getr (q := 15) fcX6 0 (by decide) wk_278 rfl rfl (dg hd_Mn_talk 34 rfl) ?_
            refine ux_iload_n (dg hd_Mn_talk 35 rfl) rfl ?_
            refine ux_put fcX1 11 (by decide) wk_144 rfl rfl ⟨rfl, rfl⟩ (rpO rp15) rfl (dg hd_Mn_talk 36 rfl) ?_
            refine ux_nas (fun σ13 => ?_)
            refine ux_iconst (1 : Int32) (dg hd_Mn_talk 37 rfl) (by decide) ?_
            exact ux_iret rfl (dg hd_Mn_talk 38 rfl)
def Mn_feed (p1 : Int64) (p2 : Int32) (σ : St) : Option (Int32 × St) :=
  if p2 < (1 : Int32) then (
  bnd (Mn_error (1 : Int32) σ) (fun r1 σ2 =>
  some (r1, σ2))) else (
  if p2 ≤ (8 : Int32) then (
  if p2 ≤ ((60 : Int32) - (σ.1 42 1)) then (
  bnd (Tp_add 42 p1 p2 σ) (fun r3 σ4 =>
  some ((σ4.1 42 1), σ4))) else (
  bnd (Mn_error (4 : Int32) σ) (fun r5 σ6 =>
  some (r5, σ6)))) else (
  bnd (Mn_error (1 : Int32) σ) (fun r7 σ8 =>
  some (r7, σ8))))
set_option maxRecDepth 100000 in
theorem sp_Mn_feed (l : Launch) (p1 : Int64) (p2 : Int32) (σ : St) : Spc l shC 3 md_Mn_feed [.ref 0, .long p1, .int p2] σ (Mn_feed p1 p2 σ) := by
  refine Spc_of_Ux [(0, .ref 0), (1, .long p1), (3, .int p2)] (by decide) rfl (Nat.le_of_ble_eq_true rfl) ?_
  unfold Mn_feed
  refine ux_iload_n (dg hd_Mn_feed 0 rfl) rfl ?_
  refine ux_iconst (1 : Int32) (dg hd_Mn_feed 1 rfl) (by decide) ?_
  refine ux_icmp_lt 11 (dg hd_Mn_feed 2 rfl) (by decide) (fun _ => ?_) (fun _ => ?_)
  · refine ux_aload_n (dg hd_Mn_feed 6 rfl) rfl ?_
    refine ux_iconst (1 : Int32) (dg hd_Mn_feed 7 rfl) (by decide) ?_
    refine ux_callVi (As := [.int (1 : Int32)]) (sp_Mn_error l (1 : Int32) _) (by omega) cv_Mn_error wk_325 rfl rfl rfl rfl rfl (Nat.le_of_ble_eq_true rfl) (dg hd_Mn_feed 8 rfl) (fun r1 σ2 _ => ?_)
    exact ux_iret rfl (dg hd_Mn_feed 9 rfl)
  · refine ux_iload_n (dg hd_Mn_feed 3 rfl) rfl ?_
    refine ux_bipush (8 : Int32) (dg hd_Mn_feed 4 rfl) (by decide) ?_
    refine ux_icmp_le 17 (dg hd_Mn_feed 5 rfl) (by decide) (fun _ => ?_) (fun _ => ?_)
    · refine ux_iload_n (dg hd_Mn_feed 10 rfl) rfl ?_
      refine ux_bipush (60 : Int32) (dg hd_Mn_feed 11 rfl) (by decide) ?_
      refine ux_aload_n (dg hd_Mn_feed 12 rfl) rfl ?_
      refine ux_getr (q := 42) fcX6 3 (by decide) wk_281 rfl rfl (dg hd_Mn_feed 13 rfl) ?_
      refine ux_get fcX3 1 (by decide) wk_192 (tpO tp42) rfl (dg hd_Mn_feed 14 rfl) ?_
      refine ux_isub (dg hd_Mn_feed 15 rfl) ?_
      refine ux_icmp_le 37 (dg hd_Mn_feed 16 rfl) (by decide) (fun _ => ?_) (fun _ => ?_)
      · refine ux_aload_n (dg hd_Mn_feed 21 rfl) rfl ?_
        refine ux_getr (q := 42) fcX6 3 (by decide) wk_281 rfl rfl (dg hd_Mn_feed 22 rfl) ?_
        refine ux_lload_n (dg hd_Mn_feed 23 rfl) rfl ?_
        refine ux_iload_n (dg hd_Mn_feed 24 rfl) rfl ?_
        refine ux_callVv (As := [.long p1, .int p2]) (sp_Tp_add l tp42 p1 p2 _) (by omega) cv_Tp_add wk_463 rfl rfl (tpO tp42) rfl rfl (Nat.le_of_ble_eq_true rfl) (dg hd_Mn_feed 25 rfl) (fun r3 σ4 _ => ?_)
        refine ux_aload_n (dg hd_Mn_feed 26 rfl) rfl ?_
        refine ux_getr (q := 42) fcX6 3 (by decide) wk_281 rfl rfl (dg hd_Mn_feed 27 rfl) ?_
        refine ux_get fcX3 1 (by decide) wk_192 (tpO tp42) rfl (dg hd_Mn_feed 28 rfl) ?_
        exact ux_iret rfl (dg hd_Mn_feed 29 rfl)
      · refine ux_aload_n (dg hd_Mn_feed 17 rfl) rfl ?_
        refine ux_iconst (4 : Int32) (dg hd_Mn_feed 18 rfl) (by decide) ?_
        refine ux_callVi (As := [.int (4 : Int32)]) (sp_Mn_error l (4 : Int32) _) (by omega) cv_Mn_error wk_325 rfl rfl rfl rfl rfl (Nat.le_of_ble_eq_true rfl) (dg hd_Mn_feed 19 rfl) (fun r5 σ6 _ => ?_)
        exact ux_iret rfl (dg hd_Mn_feed 20 rfl)
    · refine ux_aload_n (dg hd_Mn_feed 6 rfl) rfl ?_
      refine ux_iconst (1 : Int32) (dg hd_Mn_feed 7 rfl) (by decide) ?_
      refine ux_callVi (As := [.int (1 : Int32)]) (sp_Mn_error l (1 : Int32) _) (by omega) cv_Mn_error wk_325 rfl rfl rfl rfl rfl (Nat.le_of_ble_eq_true rfl) (dg hd_Mn_feed 8 rfl) (fun r7 σ8 _ => ?_)
      exact ux_iret rfl (dg hd_Mn_feed 9 rfl)
def Mn_text (p1 : Int32) (σ : St) : Option (Int32 × St) :=
  bnd (Mn_isUse p1 σ) (fun r1 σ2 =>
  if r1 = (0 : Int32) then (
  bnd (Mn_error (1 : Int32) σ2) (fun r9 σ10 =>
  some (r9, σ10))) else (
  bnd (Rd_read 42 p1 σ2) (fun r3 σ4 =>
  nas (sF σ4 42 1 (0 : Int32)) (fun σ5 =>
  if r3 = (-1 : Int32) then (
  grd (inb p1 [3, 6].length) (wid ([3, 6].getD p1.toNatClampNeg 0) (fun q6 =>
  bnd (Tx_learn q6 47 (σ5.1 46 1) σ5) (fun r7 σ8 =>
  some ((1 : Int32), σ8))))) else (
  some (((-10 : Int32) - r3), σ5))))))
set_option maxRecDepth 100000 in
theorem sp_Mn_text (l : Launch) (p1 : Int32) (σ : St) : Spc l shC 66 md_Mn_text [.ref 0, .int p1] σ (Mn_text p1 σ) := by
  refine Spc_of_Ux [(0, .ref 0), (1, .int p1)] (by decide) rfl (Nat.le_of_ble_eq_true rfl) ?_
  unfold Mn_text
  refine ux_iload_n (dg hd_Mn_text 0 rfl) rfl ?_
  refine ux_callSi (As := [.int p1]) (sp_Mn_isUse l p1 _) (by omega) cs_Mn_isUse wk_471 rfl rfl (Nat.le_of_ble_eq_true rfl) (dg hd_Mn_text 1 rfl) (fun r1 σ2 _ => ?_)
  refine ux_if_ne 13 (dg hd_Mn_text 2 rfl) (by decide) (fun _ => ?_) (fun _ => ?_)
  · refine ux_aload_n (dg hd_Mn_text 3 rfl) rfl ?_
    refine ux_iconst (1 : Int32) (dg hd_Mn_text 4 rfl) (by decide) ?_
    refine ux_callVi (As := [.int (1 : Int32)]) (sp_Mn_error l (1 : Int32) _) (by omega) cv_Mn_error wk_325 rfl rfl rfl rfl rfl (Nat.le_of_ble_eq_true rfl) (dg hd_Mn_text 5 rfl) (fun r9 σ10 _ => ?_)
    exact ux_iret rfl (dg hd_Mn_text 6 rfl)
  · refine ux_aload_n (dg hd_Mn_text 7 rfl) rfl ?_
    refine ux_getr (q := 46) fcX6 5 (by decide) wk_283 rfl rfl (dg hd_Mn_text 8 rfl) ?_
    refine ux_aload_n (dg hd_Mn_text 9 rfl) rfl ?_
    refine ux_getr (q := 42) fcX6 3 (by decide) wk_281 rfl rfl (dg hd_Mn_text 10 rfl) ?_
    refine ux_iload_n (dg hd_Mn_text 11 rfl) rfl ?_
    refine ux_callVi (As := [.ref 42, .int p1]) (sp_Rd_read l tp42 p1 _) (by omega) cv_Rd_read wk_474 rfl rfl rfl rfl rfl (Nat.le_of_ble_eq_true rfl) (dg hd_Mn_text 12 rfl) (fun r3 σ4 _ => ?_)
    refine ux_istore_n [(2, .int r3), (0, .ref 0), (1, .int p1)] (dg hd_Mn_text 13 rfl) (by decide) rfl ?_
    refine ux_aload_n (dg hd_Mn_text 14 rfl) rfl ?_
    refine ux_getr (q := 42) fcX6 3 (by decide) wk_281 rfl rfl (dg hd_Mn_text 15 rfl) ?_
    refine ux_iconst (0 : Int32) (dg hd_Mn_text 16 rfl) (by decide) ?_
    refine ux_put fcX3 1 (by decide) wk_192 rfl rfl ⟨rfl, rfl⟩ (tpO tp42) rfl (dg hd_Mn_text 17 rfl) ?_
    refine ux_nas (fun σ5 => ?_)
    refine ux_iload_n (dg hd_Mn_text 18 rfl) rfl ?_
    refine ux_iconst (-1 : Int32) (dg hd_Mn_text 19 rfl) (by decide) ?_
    refine ux_icmp_eq 44 (dg hd_Mn_text 20 rfl) (by decide) (fun _ => ?_) (fun _ => ?_)
    · refine ux_aload_n (dg hd_Mn_text 25 rfl) rfl ?_
      refine ux_getr (q := 15) fcX6 0 (by decide) wk_278 rfl rfl (dg hd_Mn_text 26 rfl) ?_
      refine ux_getr (q := 1) fcX1 0 (by decide) wk_123 (rpO rp15) rfl (dg hd_Mn_text 27 rfl) ?_
      refine ux_iload_n (dg hd_Mn_text 28 rfl) rfl ?_
      refine ux_aald rfl (fun _ => rfl) (dg hd_Mn_text 29 rfl) (fun q6 hq6 => ?_)
      have hq6 := mem_tx hq6
      refine ux_aload_n (dg hd_Mn_text 30 rfl) rfl ?_
      refine ux_getr (q := 46) fcX6 5 (by decide) wk_283 rfl rfl (dg hd_Mn_text 31 rfl) ?_
      refine ux_getr (q := 47) fcX0 0 (by decide) wk_205 rfl rfl (dg hd_Mn_text 32 rfl) ?_
      refine ux_aload_n (dg hd_Mn_text 33 rfl) rfl ?_
      refine ux_getr (q := 46) fcX6 5 (by decide) wk_283 rfl rfl (dg hd_Mn_text 34 rfl) ?_
      refine ux_get fcX0 1 (by decide) wk_207 rfl rfl (dg hd_Mn_text 35 rfl) ?_
      refine ux_callVv (As := [.ref 47, .int (σ5.1 46 1)]) (sp_Tx_learn l hq6 rfl (σ5.1 46 1) _) (by omega) cv_Tx_learn wk_531 rfl rfl (txO hq6) rfl rfl (Nat.le_of_ble_eq_true rfl) (dg hd_Mn_text 36 rfl) (fun r7 σ8 _ => ?_)
      refine ux_iconst (1 : Int32) (dg hd_Mn_text 37 rfl) (by decide) ?_
      exact ux_iret rfl (dg hd_Mn_text 38 rfl)
    · refine ux_bipush (-10 : Int32) (dg hd_Mn_text 21 rfl) (by decide) ?_
      refine ux_iload_n (dg hd_Mn_text 22 rfl) rfl ?_
      refine ux_isub (dg hd_Mn_text 23 rfl) ?_
      exact ux_iret rfl (dg hd_Mn_text 24 rfl)
def Mn_untell (p1 : Int32) (σ : St) : Option (Int32 × St) :=
  bnd (Mn_isUse p1 σ) (fun r1 σ2 =>
  if r1 = (0 : Int32) then (
  bnd (Mn_error (1 : Int32) σ2) (fun r10 σ11 =>
  some (r10, σ11))) else (
  grd (inb p1 [3, 6].length) (wid ([3, 6].getD p1.toNatClampNeg 0) (fun q3 =>
  bnd (Tx_isTold q3  σ2) (fun r4 σ5 =>
  if r4 = (0 : Int32) then (
  grd (inb p1 [3, 6].length) (wid ([3, 6].getD p1.toNatClampNeg 0) (fun q6 =>
  nas (sF σ5 q6 3 (0 : Int32)) (fun σ7 =>
  some ((0 : Int32), σ7))))) else (
  grd (inb p1 [3, 6].length) (wid ([3, 6].getD p1.toNatClampNeg 0) (fun q8 =>
  nas (sF σ5 q8 3 (0 : Int32)) (fun σ9 =>
  some ((1 : Int32), σ9))))))))))
set_option maxRecDepth 100000 in
theorem sp_Mn_untell (l : Launch) (p1 : Int32) (σ : St) : Spc l shC 4 md_Mn_untell [.ref 0, .int p1] σ (Mn_untell p1 σ) := by
  refine Spc_of_Ux [(0, .ref 0), (1, .int p1)] (by decide) rfl (Nat.le_of_ble_eq_true rfl) ?_
  unfold Mn_untell
  refine ux_iload_n (dg hd_Mn_untell 0 rfl) rfl ?_
  refine ux_callSi (As := [.int p1]) (sp_Mn_isUse l p1 _) (by omega) cs_Mn_isUse wk_471 rfl rfl (Nat.le_of_ble_eq_true rfl) (dg hd_Mn_untell 1 rfl) (fun r1 σ2 _ => ?_)
  refine ux_if_ne 13 (dg hd_Mn_untell 2 rfl) (by decide) (fun _ => ?_) (fun _ => ?_)
  · refine ux_aload_n (dg hd_Mn_untell 3 rfl) rfl ?_
    refine ux_iconst (1 : Int32) (dg hd_Mn_untell 4 rfl) (by decide) ?_
    refine ux_callVi (As := [.int (1 : Int32)]) (sp_Mn_error l (1 : Int32) _) (by omega) cv_Mn_error wk_325 rfl rfl rfl rfl rfl (Nat.le_of_ble_eq_true rfl) (dg hd_Mn_untell 5 rfl) (fun r10 σ11 _ => ?_)
    exact ux_iret rfl (dg hd_Mn_untell 6 rfl)
  · refine ux_aload_n (dg hd_Mn_untell 7 rfl) rfl ?_
    refine ux_getr (q := 15) fcX6 0 (by decide) wk_278 rfl rfl (dg hd_Mn_untell 8 rfl) ?_
    refine ux_getr (q := 1) fcX1 0 (by decide) wk_123 (rpO rp15) rfl (dg hd_Mn_untell 9 rfl) ?_
    refine ux_iload_n (dg hd_Mn_untell 10 rfl) rfl ?_
    refine ux_aald rfl (fun _ => rfl) (dg hd_Mn_untell 11 rfl) (fun q3 hq3 => ?_)
    have hq3 := mem_tx hq3
    refine ux_callVi (As := []) (sp_Tx_isTold l hq3  _) (by omega) cv_Tx_isTold wk_540 rfl rfl (txO hq3) rfl rfl (Nat.le_of_ble_eq_true rfl) (dg hd_Mn_untell 12 rfl) (fun r4 σ5 _ => ?_)
    refine ux_if_eq 32 (dg hd_Mn_untell 13 rfl) (by decide) (fun _ => ?_) (fun _ => ?_)
    · refine ux_iconst (0 : Int32) (dg hd_Mn_untell 16 rfl) (by decide) ?_
      refine ux_istore_n [(2, .int (0 : Int32)), (0, .ref 0), (1, .int p1)] (dg hd_Mn_untell 17 rfl) (by decide) rfl ?_
      refine ux_aload_n (dg hd_Mn_untell 18 rfl) rfl ?_
      refine ux_getr (q := 15) fcX6 0 (by decide) wk_278 rfl rfl (dg hd_Mn_untell 19 rfl) ?_
      refine ux_getr (q := 1) fcX1 0 (by decide) wk_123 (rpO rp15) rfl (dg hd_Mn_untell 20 rfl) ?_
      refine ux_iload_n (dg hd_Mn_untell 21 rfl) rfl ?_
      refine ux_aald rfl (fun _ => rfl) (dg hd_Mn_untell 22 rfl) (fun q6 hq6 => ?_)
      have hq6 := mem_tx hq6
      refine ux_iconst (0 : Int32) (dg hd_Mn_untell 23 rfl) (by decide) ?_
      refine ux_put fcX4 3 (by decide) wk_111 rfl rfl ⟨rfl, rfl⟩ (txO hq6) rfl (dg hd_Mn_untell 24 rfl) ?_
      refine ux_nas (fun σ7 => ?_)
      refine ux_iload_n (dg hd_Mn_untell 25 rfl) rfl ?_
      exact ux_iret rfl (dg hd_Mn_untell 26 rfl)
    · refine ux_iconst (1 : Int32) (dg hd_Mn_untell 14 rfl) (by decide) ?_
      refine ux_goto 33 (dg hd_Mn_untell 15 rfl) (by decide) ?_
      refine ux_istore_n [(2, .int (1 : Int32)), (0, .ref 0), (1, .int p1)] (dg hd_Mn_untell 17 rfl) (by decide) rfl ?_
      refine ux_aload_n (dg hd_Mn_untell 18 rfl) rfl ?_
      refine ux_getr (q := 15) fcX6 0 (by decide) wk_278 rfl rfl (dg hd_Mn_untell 19 rfl) ?_
      refine ux_getr (q := 1) fcX1 0 (by decide) wk_123 (rpO rp15) rfl (dg hd_Mn_untell 20 rfl) ?_
      refine ux_iload_n (dg hd_Mn_untell 21 rfl) rfl ?_
      refine ux_aald rfl (fun _ => rfl) (dg hd_Mn_untell 22 rfl) (fun q8 hq8 => ?_)
      have hq8 := mem_tx hq8
      refine ux_iconst (0 : Int32) (dg hd_Mn_untell 23 rfl) (by decide) ?_
      refine ux_put fcX4 3 (by decide) wk_111 rfl rfl ⟨rfl, rfl⟩ (txO hq8) rfl (dg hd_Mn_untell 24 rfl) ?_
      refine ux_nas (fun σ9 => ?_)
      refine ux_iload_n (dg hd_Mn_untell 25 rfl) rfl ?_
      exact ux_iret rfl (dg hd_Mn_untell 26 rfl)
def Mn_law (p1 : Int32) (p2 : Int32) (p3 : Int32) (p4 : Int32) (σ : St) : Option (Int32 × St) :=
  bnd (Mn_isUse p1 σ) (fun r1 σ2 =>
  if r1 = (0 : Int32) then (
  bnd (Mn_error (1 : Int32) σ2) (fun r3 σ4 =>
  some (r3, σ4))) else (
  grd (inb p1 [3, 6].length) (wid ([3, 6].getD p1.toNatClampNeg 0) (fun q5 =>
  bnd (Tx_gives q5 p2 p3 p4 σ2) (fun r6 σ7 =>
  some (r6, σ7))))))
set_option maxRecDepth 100000 in
theorem sp_Mn_law (l : Launch) (p1 : Int32) (p2 : Int32) (p3 : Int32) (p4 : Int32) (σ : St) : Spc l shC 5 md_Mn_law [.ref 0, .int p1, .int p2, .int p3, .int p4] σ (Mn_law p1 p2 p3 p4 σ) := by
  refine Spc_of_Ux [(0, .ref 0), (1, .int p1), (2, .int p2), (3, .int p3), (4, .int p4)] (by decide) rfl (Nat.le_of_ble_eq_true rfl) ?_
  unfold Mn_law
  refine ux_iload_n (dg hd_Mn_law 0 rfl) rfl ?_
  refine ux_callSi (As := [.int p1]) (sp_Mn_isUse l p1 _) (by omega) cs_Mn_isUse wk_471 rfl rfl (Nat.le_of_ble_eq_true rfl) (dg hd_Mn_law 1 rfl) (fun r1 σ2 _ => ?_)
  refine ux_if_eq 26 (dg hd_Mn_law 2 rfl) (by decide) (fun _ => ?_) (fun _ => ?_)
  · refine ux_aload_n (dg hd_Mn_law 13 rfl) rfl ?_
    refine ux_iconst (1 : Int32) (dg hd_Mn_law 14 rfl) (by decide) ?_
    refine ux_callVi (As := [.int (1 : Int32)]) (sp_Mn_error l (1 : Int32) _) (by omega) cv_Mn_error wk_325 rfl rfl rfl rfl rfl (Nat.le_of_ble_eq_true rfl) (dg hd_Mn_law 15 rfl) (fun r3 σ4 _ => ?_)
    exact ux_iret rfl (dg hd_Mn_law 16 rfl)
  · refine ux_aload_n (dg hd_Mn_law 3 rfl) rfl ?_
    refine ux_getr (q := 15) fcX6 0 (by decide) wk_278 rfl rfl (dg hd_Mn_law 4 rfl) ?_
    refine ux_getr (q := 1) fcX1 0 (by decide) wk_123 (rpO rp15) rfl (dg hd_Mn_law 5 rfl) ?_
    refine ux_iload_n (dg hd_Mn_law 6 rfl) rfl ?_
    refine ux_aald rfl (fun _ => rfl) (dg hd_Mn_law 7 rfl) (fun q5 hq5 => ?_)
    have hq5 := mem_tx hq5
    refine ux_iload_n (dg hd_Mn_law 8 rfl) rfl ?_
    refine ux_iload_n (dg hd_Mn_law 9 rfl) rfl ?_
    refine ux_iload (dg hd_Mn_law 10 rfl) rfl ?_
    refine ux_callVi (As := [.int p2, .int p3, .int p4]) (sp_Tx_gives l hq5 p2 p3 p4 _) (by omega) cv_Tx_gives wk_545 rfl rfl (txO hq5) rfl rfl (Nat.le_of_ble_eq_true rfl) (dg hd_Mn_law 11 rfl) (fun r6 σ7 _ => ?_)
    refine ux_goto 31 (dg hd_Mn_law 12 rfl) (by decide) ?_
    exact ux_iret rfl (dg hd_Mn_law 16 rfl)
def Mn_beats_L41 : Nat → Int32 → Int32 → Int32 → St → Option (Int32 × St)
  | 0, _, _, _, _ => none
  | n + 1, x1, x2, x3, σ =>
    if x1 ≤ x3 then (
    some (x2, σ)) else (
    bnd (Rp_pass 15  σ) (fun r3 σ4 =>
    nam (x2 + r3) (fun y5 =>
    nam (x3 + (1 : Int32)) (fun y6 =>
    Mn_beats_L41 n x1 y5 y6 σ4))))
set_option maxRecDepth 100000 in
theorem wk_Mn_beats_L41 (l : Launch) : ∀ (n : Nat) (x1 x2 x3 : Int32) (σ : St), Ux l shC 7 md_Mn_beats 41 [(0, .ref 0), (1, .int x1), (2, .int x2), (3, .int x3)] [] σ (Mn_beats_L41 n x1 x2 x3 σ) := by
  intro n
  induction n with
  | zero => intros; exact ux_none
  | succ n ih =>
    intro x1 x2 x3 σ
    unfold Mn_beats_L41
    refine ux_iload_n (dg hd_Mn_beats 25 rfl) rfl ?_
    refine ux_iload_n (dg hd_Mn_beats 26 rfl) rfl ?_
    refine ux_icmp_ge 62 (dg hd_Mn_beats 27 rfl) (by decide) (fun _ => ?_) (fun _ => ?_)
    · refine ux_iload_n (dg hd_Mn_beats 36 rfl) rfl ?_
      exact ux_iret rfl (dg hd_Mn_beats 37 rfl)
    · refine ux_iload_n (dg hd_Mn_beats 28 rfl) rfl ?_
      refine ux_aload_n (dg hd_Mn_beats 29 rfl) rfl ?_
      refine ux_getr (q := 15) fcX6 0 (by decide) wk_278 rfl rfl (dg hd_Mn_beats 30 rfl) ?_
      refine ux_callVi (As := []) (sp_Rp_pass l rp15  _) (by omega) cv_Rp_pass wk_551 rfl rfl (rpO rp15) rfl rfl (Nat.le_of_ble_eq_true rfl) (dg hd_Mn_beats 31 rfl) (fun r3 σ4 _ => ?_)
      refine ux_iadd (dg hd_Mn_beats 32 rfl) ?_
      refine ux_nam (fun y5 => ?_)
      refine ux_istore_n [(2, .int y5), (0, .ref 0), (1, .int x1), (3, .int x3)] (dg hd_Mn_beats 33 rfl) (by decide) rfl ?_
      refine ux_iincN (1 : Int32) (fun y6 => [(3, .int y6), (2, .int y5), (0, .ref 0), (1, .int x1)]) (dg hd_Mn_beats 34 rfl) rfl (by decide) (by decide) (fun _ => rfl) (fun y6 => ?_)
      refine ux_goto 41 (dg hd_Mn_beats 35 rfl) (by decide) ?_
      refine ux_wk [(0, .ref 0), (1, .int x1), (2, .int y5), (3, .int y6)] [2, 3, 1, 0] rfl ?_
      exact ih x1 y5 y6 σ4
def Mn_beats (p1 : Int32) (σ : St) : Option (Int32 × St) :=
  if p1 < (1 : Int32) then (
  bnd (Mn_error (1 : Int32) σ) (fun r1 σ2 =>
  some (r1, σ2))) else (
  if p1 ≤ (99 : Int32) then (
  if ((σ.1 15 10) + p1) ≤ (99999 : Int32) then (
  Mn_beats_L41 1000 p1 (0 : Int32) (0 : Int32) σ) else (
  bnd (Mn_error (3 : Int32) σ) (fun r7 σ8 =>
  some (r7, σ8)))) else (
  bnd (Mn_error (1 : Int32) σ) (fun r9 σ10 =>
  some (r9, σ10))))
set_option maxRecDepth 100000 in
theorem sp_Mn_beats (l : Launch) (p1 : Int32) (σ : St) : Spc l shC 7 md_Mn_beats [.ref 0, .int p1] σ (Mn_beats p1 σ) := by
  refine Spc_of_Ux [(0, .ref 0), (1, .int p1)] (by decide) rfl (Nat.le_of_ble_eq_true rfl) ?_
  unfold Mn_beats
  refine ux_iload_n (dg hd_Mn_beats 0 rfl) rfl ?_
  refine ux_iconst (1 : Int32) (dg hd_Mn_beats 1 rfl) (by decide) ?_
  refine ux_icmp_lt 11 (dg hd_Mn_beats 2 rfl) (by decide) (fun _ => ?_) (fun _ => ?_)
  · refine ux_aload_n (dg hd_Mn_beats 6 rfl) rfl ?_
    refine ux_iconst (1 : Int32) (dg hd_Mn_beats 7 rfl) (by decide) ?_
    refine ux_callVi (As := [.int (1 : Int32)]) (sp_Mn_error l (1 : Int32) _) (by omega) cv_Mn_error wk_325 rfl rfl rfl rfl rfl (Nat.le_of_ble_eq_true rfl) (dg hd_Mn_beats 8 rfl) (fun r1 σ2 _ => ?_)
    exact ux_iret rfl (dg hd_Mn_beats 9 rfl)
  · refine ux_iload_n (dg hd_Mn_beats 3 rfl) rfl ?_
    refine ux_bipush (99 : Int32) (dg hd_Mn_beats 4 rfl) (by decide) ?_
    refine ux_icmp_le 17 (dg hd_Mn_beats 5 rfl) (by decide) (fun _ => ?_) (fun _ => ?_)
    · refine ux_aload_n (dg hd_Mn_beats 10 rfl) rfl ?_
      refine ux_getr (q := 15) fcX6 0 (by decide) wk_278 rfl rfl (dg hd_Mn_beats 11 rfl) ?_
      refine ux_get fcX1 10 (by decide) wk_142 (rpO rp15) rfl (dg hd_Mn_beats 12 rfl) ?_
      refine ux_iload_n (dg hd_Mn_beats 13 rfl) rfl ?_
      refine ux_iadd (dg hd_Mn_beats 14 rfl) ?_
      refine ux_ldc (99999 : Int32) wk_550 (dg hd_Mn_beats 15 rfl) ?_
      refine ux_icmp_le 37 (dg hd_Mn_beats 16 rfl) (by decide) (fun _ => ?_) (fun _ => ?_)
      · refine ux_iconst (0 : Int32) (dg hd_Mn_beats 21 rfl) (by decide) ?_
        refine ux_istore_n [(2, .int (0 : Int32)), (0, .ref 0), (1, .int p1)] (dg hd_Mn_beats 22 rfl) (by decide) rfl ?_
        refine ux_iconst (0 : Int32) (dg hd_Mn_beats 23 rfl) (by decide) ?_
        refine ux_istore_n [(3, .int (0 : Int32)), (2, .int (0 : Int32)), (0, .ref 0), (1, .int p1)] (dg hd_Mn_beats 24 rfl) (by decide) rfl ?_
        refine ux_wk [(0, .ref 0), (1, .int p1), (2, .int (0 : Int32)), (3, .int (0 : Int32))] [2, 3, 1, 0] rfl ?_
        exact wk_Mn_beats_L41 l 1000 p1 (0 : Int32) (0 : Int32) σ
      · refine ux_aload_n (dg hd_Mn_beats 17 rfl) rfl ?_
        refine ux_iconst (3 : Int32) (dg hd_Mn_beats 18 rfl) (by decide) ?_
        refine ux_callVi (As := [.int (3 : Int32)]) (sp_Mn_error l (3 : Int32) _) (by omega) cv_Mn_error wk_325 rfl rfl rfl rfl rfl (Nat.le_of_ble_eq_true rfl) (dg hd_Mn_beats 19 rfl) (fun r7 σ8 _ => ?_)
        exact ux_iret rfl (dg hd_Mn_beats 20 rfl)
    · refine ux_aload_n (dg hd_Mn_beats 6 rfl) rfl ?_
      refine ux_iconst (1 : Int32) (dg hd_Mn_beats 7 rfl) (by decide) ?_
      refine ux_callVi (As := [.int (1 : Int32)]) (sp_Mn_error l (1 : Int32) _) (by omega) cv_Mn_error wk_325 rfl rfl rfl rfl rfl (Nat.le_of_ble_eq_true rfl) (dg hd_Mn_beats 8 rfl) (fun r9 σ10 _ => ?_)
      exact ux_iret rfl (dg hd_Mn_beats 9 rfl)
def Mn_loose_L41 : Nat → Int32 → Int32 → Int32 → St → Option (Int32 × St)
  | 0, _, _, _, _ => none
  | n + 1, x1, x2, x3, σ =>
    if x1 ≤ x3 then (
    some (x2, σ)) else (
    bnd (Rp_passByDraws 15  σ) (fun r3 σ4 =>
    nam (x2 + r3) (fun y5 =>
    nam (x3 + (1 : Int32)) (fun y6 =>
    Mn_loose_L41 n x1 y5 y6 σ4))))
set_option maxRecDepth 100000 in
theorem wk_Mn_loose_L41 (l : Launch) : ∀ (n : Nat) (x1 x2 x3 : Int32) (σ : St), Ux l shC 8 md_Mn_loose 41 [(0, .ref 0), (1, .int x1), (2, .int x2), (3, .int x3)] [] σ (Mn_loose_L41 n x1 x2 x3 σ) := by
  intro n
  induction n with
  | zero => intros; exact ux_none
  | succ n ih =>
    intro x1 x2 x3 σ
    unfold Mn_loose_L41
    refine ux_iload_n (dg hd_Mn_loose 25 rfl) rfl ?_
    refine ux_iload_n (dg hd_Mn_loose 26 rfl) rfl ?_
    refine ux_icmp_ge 62 (dg hd_Mn_loose 27 rfl) (by decide) (fun _ => ?_) (fun _ => ?_)
    · refine ux_iload_n (dg hd_Mn_loose 36 rfl) rfl ?_
      exact ux_iret rfl (dg hd_Mn_loose 37 rfl)
    · refine ux_iload_n (dg hd_Mn_loose 28 rfl) rfl ?_
      refine ux_aload_n (dg hd_Mn_loose 29 rfl) rfl ?_
      refine ux_getr (q := 15) fcX6 0 (by decide) wk_278 rfl rfl (dg hd_Mn_loose 30 rfl) ?_
      refine ux_callVi (As := []) (sp_Rp_passByDraws l rp15  _) (by omega) cv_Rp_passByDraws wk_566 rfl rfl (rpO rp15) rfl rfl (Nat.le_of_ble_eq_true rfl) (dg hd_Mn_loose 31 rfl) (fun r3 σ4 _ => ?_)
      refine ux_iadd (dg hd_Mn_loose 32 rfl) ?_
      refine ux_nam (fun y5 => ?_)
      refine ux_istore_n [(2, .int y5), (0, .ref 0), (1, .int x1), (3, .int x3)] (dg hd_Mn_loose 33 rfl) (by decide) rfl ?_
      refine ux_iincN (1 : Int32) (fun y6 => [(3, .int y6), (2, .int y5), (0, .ref 0), (1, .int x1)]) (dg hd_Mn_loose 34 rfl) rfl (by decide) (by decide) (fun _ => rfl) (fun y6 => ?_)
      refine ux_goto 41 (dg hd_Mn_loose 35 rfl) (by decide) ?_
      refine ux_wk [(0, .ref 0), (1, .int x1), (2, .int y5), (3, .int y6)] [2, 3, 1, 0] rfl ?_
      exact ih x1 y5 y6 σ4
def Mn_loose (p1 : Int32) (σ : St) : Option (Int32 × St) :=
  if p1 < (1 : Int32) then (
  bnd (Mn_error (1 : Int32) σ) (fun r1 σ2 =>
  some (r1, σ2))) else (
  if p1 ≤ (30 : Int32) then (
  if ((σ.1 15 10) + p1) ≤ (99999 : Int32) then (
  Mn_loose_L41 1000 p1 (0 : Int32) (0 : Int32) σ) else (
  bnd (Mn_error (3 : Int32) σ) (fun r7 σ8 =>
  some (r7, σ8)))) else (
  bnd (Mn_error (1 : Int32) σ) (fun r9 σ10 =>
  some (r9, σ10))))
set_option maxRecDepth 100000 in
theorem sp_Mn_loose (l : Launch) (p1 : Int32) (σ : St) : Spc l shC 8 md_Mn_loose [.ref 0, .int p1] σ (Mn_loose p1 σ) := by
  refine Spc_of_Ux [(0, .ref 0), (1, .int p1)] (by decide) rfl (Nat.le_of_ble_eq_true rfl) ?_
  unfold Mn_loose
  refine ux_iload_n (dg hd_Mn_loose 0 rfl) rfl ?_
  refine ux_iconst (1 : Int32) (dg hd_Mn_loose 1 rfl) (by decide) ?_
  refine ux_icmp_lt 11 (dg hd_Mn_loose 2 rfl) (by decide) (fun _ => ?_) (fun _ => ?_)
  · refine ux_aload_n (dg hd_Mn_loose 6 rfl) rfl ?_
    refine ux_iconst (1 : Int32) (dg hd_Mn_loose 7 rfl) (by decide) ?_
    refine ux_callVi (As := [.int (1 : Int32)]) (sp_Mn_error l (1 : Int32) _) (by omega) cv_Mn_error wk_325 rfl rfl rfl rfl rfl (Nat.le_of_ble_eq_true rfl) (dg hd_Mn_loose 8 rfl) (fun r1 σ2 _ => ?_)
    exact ux_iret rfl (dg hd_Mn_loose 9 rfl)
  · refine ux_iload_n (dg hd_Mn_loose 3 rfl) rfl ?_
    refine ux_bipush (30 : Int32) (dg hd_Mn_loose 4 rfl) (by decide) ?_
    refine ux_icmp_le 17 (dg hd_Mn_loose 5 rfl) (by decide) (fun _ => ?_) (fun _ => ?_)
    · refine ux_aload_n (dg hd_Mn_loose 10 rfl) rfl ?_
      refine ux_getr (q := 15) fcX6 0 (by decide) wk_278 rfl rfl (dg hd_Mn_loose 11 rfl) ?_
      refine ux_get fcX1 10 (by decide) wk_142 (rpO rp15) rfl (dg hd_Mn_loose 12 rfl) ?_
      refine ux_iload_n (dg hd_Mn_loose 13 rfl) rfl ?_
      refine ux_iadd (dg hd_Mn_loose 14 rfl) ?_
      refine ux_ldc (99999 : Int32) wk_550 (dg hd_Mn_loose 15 rfl) ?_
      refine ux_icmp_le 37 (dg hd_Mn_loose 16 rfl) (by decide) (fun _ => ?_) (fun _ => ?_)
      · refine ux_iconst (0 : Int32) (dg hd_Mn_loose 21 rfl) (by decide) ?_
        refine ux_istore_n [(2, .int (0 : Int32)), (0, .ref 0), (1, .int p1)] (dg hd_Mn_loose 22 rfl) (by decide) rfl ?_
        refine ux_iconst (0 : Int32) (dg hd_Mn_loose 23 rfl) (by decide) ?_
        refine ux_istore_n [(3, .int (0 : Int32)), (2, .int (0 : Int32)), (0, .ref 0), (1, .int p1)] (dg hd_Mn_loose 24 rfl) (by decide) rfl ?_
        refine ux_wk [(0, .ref 0), (1, .int p1), (2, .int (0 : Int32)), (3, .int (0 : Int32))] [2, 3, 1, 0] rfl ?_
        exact wk_Mn_loose_L41 l 1000 p1 (0 : Int32) (0 : Int32) σ
      · refine ux_aload_n (dg hd_Mn_loose 17 rfl) rfl ?_
        refine ux_iconst (3 : Int32) (dg hd_Mn_loose 18 rfl) (by decide) ?_
        refine ux_callVi (As := [.int (3 : Int32)]) (sp_Mn_error l (3 : Int32) _) (by omega) cv_Mn_error wk_325 rfl rfl rfl rfl rfl (Nat.le_of_ble_eq_true rfl) (dg hd_Mn_loose 19 rfl) (fun r7 σ8 _ => ?_)
        exact ux_iret rfl (dg hd_Mn_loose 20 rfl)
    · refine ux_aload_n (dg hd_Mn_loose 6 rfl) rfl ?_
      refine ux_iconst (1 : Int32) (dg hd_Mn_loose 7 rfl) (by decide) ?_
      refine ux_callVi (As := [.int (1 : Int32)]) (sp_Mn_error l (1 : Int32) _) (by omega) cv_Mn_error wk_325 rfl rfl rfl rfl rfl (Nat.le_of_ble_eq_true rfl) (dg hd_Mn_loose 8 rfl) (fun r9 σ10 _ => ?_)
      exact ux_iret rfl (dg hd_Mn_loose 9 rfl)
def Mn_seed (p1 : Int32) (σ : St) : Option (Int32 × St) :=
  nam (σ.1 15 14) (fun y1 =>
  nas (sF σ 15 14 p1) (fun σ2 =>
  some (y1, σ2)))
set_option maxRecDepth 100000 in
theorem sp_Mn_seed (l : Launch) (p1 : Int32) (σ : St) : Spc l shC 2 md_Mn_seed [.ref 0, .int p1] σ (Mn_seed p1 σ) := by
  refine Spc_of_Ux [(0, .ref 0), (1, .int p1)] (by decide) rfl (Nat.le_of_ble_eq_true rfl) ?_
  unfold Mn_seed
  refine ux_aload_n (dg hd_Mn_seed 0 rfl) rfl ?_
  refine ux_getr (q := 15) fcX6 0 (by decide) wk_278 rfl rfl (dg hd_Mn_seed 1 rfl) ?_
  refine ux_get fcX1 14 (by decide) wk_150 (rpO rp15) rfl (dg hd_Mn_seed 2 rfl) ?_
  refine ux_nam (fun y1 => ?_)
  refine ux_istore_n [(2, .int y1), (0, .ref 0), (1, .int p1)] (dg hd_Mn_seed 3 rfl) (by decide) rfl ?_
  refine ux_aload_n (dg hd_Mn_seed 4 rfl) rfl ?_
  refine ux_getr (q := 15) fcX6 0 (by decide) wk_278 rfl rfl (dg hd_Mn_seed 5 rfl) ?_
  refine ux_iload_n (dg hd_Mn_seed 6 rfl) rfl ?_
  refine ux_put fcX1 14 (by decide) wk_150 rfl rfl ⟨rfl, rfl⟩ (rpO rp15) rfl (dg hd_Mn_seed 7 rfl) ?_
  refine ux_nas (fun σ2 => ?_)
  refine ux_iload_n (dg hd_Mn_seed 8 rfl) rfl ?_
  exact ux_iret rfl (dg hd_Mn_seed 9 rfl)
def Mn_then_L48 : Nat → Int32 → Int32 → Int32 → Int32 → St → Option (Int32 × St)
  | 0, _, _, _, _, _ => none
  | n + 1, x1, x2, x3, x4, σ =>
    if x2 ≤ x4 then (
    if x3 = (0 : Int32) then (
    grd (inb x1 6) (
    some ((σ.2 27 x1.toNatClampNeg), σ))) else (
    grd (inb x1 6) (
    some ((σ.2 29 x1.toNatClampNeg), σ)))) else (
    bnd (Rp_pass 24  σ) (fun r13 σ14 =>
    nam (x4 + (1 : Int32)) (fun y15 =>
    Mn_then_L48 n x1 x2 x3 y15 σ14)))
set_option maxRecDepth 100000 in
theorem wk_Mn_then_L48 (l : Launch) : ∀ (n : Nat) (x1 x2 x3 x4 : Int32) (σ : St), Ux l shC 7 md_Mn_then 48 [(0, .ref 0), (1, .int x1), (2, .int x2), (3, .int x3), (4, .int x4)] [] σ (Mn_then_L48 n x1 x2 x3 x4 σ) := by
  intro n
  induction n with
  | zero => intros; exact ux_none
  | succ n ih =>
    intro x1 x2 x3 x4 σ
    unfold Mn_then_L48
    refine ux_iload (dg hd_Mn_then 24 rfl) rfl ?_
    refine ux_iload_n (dg hd_Mn_then 25 rfl) rfl ?_
    refine ux_icmp_ge 68 (dg hd_Mn_then 26 rfl) (by decide) (fun _ => ?_) (fun _ => ?_)
    · refine ux_iload_n (dg hd_Mn_then 33 rfl) rfl ?_
      refine ux_if_ne 84 (dg hd_Mn_then 34 rfl) (by decide) (fun _ => ?_) (fun _ => ?_)
      · refine ux_aload_n (dg hd_Mn_then 35 rfl) rfl ?_
        refine ux_getr (q := 24) fcX6 1 (by decide) wk_279 rfl rfl (dg hd_Mn_then 36 rfl) ?_
        refine ux_getr (q := 27) fcX1 3 (by decide) wk_129 (rpO rp24) rfl (dg hd_Mn_then 37 rfl) ?_
        refine ux_iload_n (dg hd_Mn_then 38 rfl) rfl ?_
        refine ux_iald (rpA3 rp24) (dg hd_Mn_then 39 rfl) ?_
        refine ux_goto 93 (dg hd_Mn_then 40 rfl) (by decide) ?_
        exact ux_iret rfl (dg hd_Mn_then 46 rfl)
      · refine ux_aload_n (dg hd_Mn_then 41 rfl) rfl ?_
        refine ux_getr (q := 24) fcX6 1 (by decide) wk_279 rfl rfl (dg hd_Mn_then 42 rfl) ?_
        refine ux_getr (q := 29) fcX1 5 (by decide) wk_133 (rpO rp24) rfl (dg hd_Mn_then 43 rfl) ?_
        refine ux_iload_n (dg hd_Mn_then 44 rfl) rfl ?_
        refine ux_iald (rpA5 rp24) (dg hd_Mn_then 45 rfl) ?_
        exact ux_iret rfl (dg hd_Mn_then 46 rfl)
    · refine ux_aload_n (dg hd_Mn_then 27 rfl) rfl ?_
      refine ux_getr (q := 24) fcX6 1 (by decide) wk_279 rfl rfl (dg hd_Mn_then 28 rfl) ?_
      refine ux_callVi (As := []) (sp_Rp_pass l rp24  _) (by omega) cv_Rp_pass wk_551 rfl rfl (rpO rp24) rfl rfl (Nat.le_of_ble_eq_true rfl) (dg hd_Mn_then 29 rfl) (fun r13 σ14 _ => ?_)
      refine ux_pop (dg hd_Mn_then 30 rfl) ?_
      refine ux_iincN (1 : Int32) (fun y15 => [(4, .int y15), (0, .ref 0), (1, .int x1), (2, .int x2), (3, .int x3)]) (dg hd_Mn_then 31 rfl) rfl (by decide) (by decide) (fun _ => rfl) (fun y15 => ?_)
      refine ux_goto 48 (dg hd_Mn_then 32 rfl) (by decide) ?_
      refine ux_wk [(0, .ref 0), (1, .int x1), (2, .int x2), (3, .int x3), (4, .int y15)] [1, 2, 3, 4, 0] rfl ?_
      exact ih x1 x2 x3 y15 σ14
def Mn_then (p1 : Int32) (p2 : Int32) (p3 : Int32) (σ : St) : Option (Int32 × St) :=
  bnd (Rp_has 15 p1 σ) (fun r1 σ2 =>
  if r1 = (0 : Int32) then (
  bnd (Mn_error (1 : Int32) σ2) (fun r3 σ4 =>
  some (r3, σ4))) else (
  bnd (Mn_isWithin p2 (99 : Int32) σ2) (fun r5 σ6 =>
  if r5 = (0 : Int32) then (
  bnd (Mn_error (1 : Int32) σ6) (fun r7 σ8 =>
  some (r7, σ8))) else (
  bnd (Mn_isWithin p3 (1 : Int32) σ6) (fun r9 σ10 =>
  if r9 = (0 : Int32) then (
  bnd (Mn_error (1 : Int32) σ10) (fun r16 σ17 =>
  some (r16, σ17))) else (
  bnd (Rp_copy 24 15 σ10) (fun r11 σ12 =>
  Mn_then_L48 1000 p1 p2 p3 (0 : Int32) σ12)))))))
set_option maxRecDepth 100000 in
theorem sp_Mn_then (l : Launch) (p1 : Int32) (p2 : Int32) (p3 : Int32) (σ : St) : Spc l shC 7 md_Mn_then [.ref 0, .int p1, .int p2, .int p3] σ (Mn_then p1 p2 p3 σ) := by
  refine Spc_of_Ux [(0, .ref 0), (1, .int p1), (2, .int p2), (3, .int p3)] (by decide) rfl (Nat.le_of_ble_eq_true rfl) ?_
  unfold Mn_then
  refine ux_aload_n (dg hd_Mn_then 0 rfl) rfl ?_
  refine ux_getr (q := 15) fcX6 0 (by decide) wk_278 rfl rfl (dg hd_Mn_then 1 rfl) ?_
  refine ux_iload_n (dg hd_Mn_then 2 rfl) rfl ?_
  refine ux_callVi (As := [.int p1]) (sp_Rp_has l rp15 p1 _) (by omega) cv_Rp_has wk_342 rfl rfl (rpO rp15) rfl rfl (Nat.le_of_ble_eq_true rfl) (dg hd_Mn_then 3 rfl) (fun r1 σ2 _ => ?_)
  refine ux_if_eq 28 (dg hd_Mn_then 4 rfl) (by decide) (fun _ => ?_) (fun _ => ?_)
  · refine ux_aload_n (dg hd_Mn_then 13 rfl) rfl ?_
    refine ux_iconst (1 : Int32) (dg hd_Mn_then 14 rfl) (by decide) ?_
    refine ux_callVi (As := [.int (1 : Int32)]) (sp_Mn_error l (1 : Int32) _) (by omega) cv_Mn_error wk_325 rfl rfl rfl rfl rfl (Nat.le_of_ble_eq_true rfl) (dg hd_Mn_then 15 rfl) (fun r3 σ4 _ => ?_)
    exact ux_iret rfl (dg hd_Mn_then 16 rfl)
  · refine ux_iload_n (dg hd_Mn_then 5 rfl) rfl ?_
    refine ux_bipush (99 : Int32) (dg hd_Mn_then 6 rfl) (by decide) ?_
    refine ux_callSi (As := [.int p2, .int (99 : Int32)]) (sp_Mn_isWithin l p2 (99 : Int32) _) (by omega) cs_Mn_isWithin wk_322 rfl rfl (Nat.le_of_ble_eq_true rfl) (dg hd_Mn_then 7 rfl) (fun r5 σ6 _ => ?_)
    refine ux_if_eq 28 (dg hd_Mn_then 8 rfl) (by decide) (fun _ => ?_) (fun _ => ?_)
    · refine ux_aload_n (dg hd_Mn_then 13 rfl) rfl ?_
      refine ux_iconst (1 : Int32) (dg hd_Mn_then 14 rfl) (by decide) ?_
      refine ux_callVi (As := [.int (1 : Int32)]) (sp_Mn_error l (1 : Int32) _) (by omega) cv_Mn_error wk_325 rfl rfl rfl rfl rfl (Nat.le_of_ble_eq_true rfl) (dg hd_Mn_then 15 rfl) (fun r7 σ8 _ => ?_)
      exact ux_iret rfl (dg hd_Mn_then 16 rfl)
    · refine ux_iload_n (dg hd_Mn_then 9 rfl) rfl ?_
      refine ux_iconst (1 : Int32) (dg hd_Mn_then 10 rfl) (by decide) ?_
      refine ux_callSi (As := [.int p3, .int (1 : Int32)]) (sp_Mn_isWithin l p3 (1 : Int32) _) (by omega) cs_Mn_isWithin wk_322 rfl rfl (Nat.le_of_ble_eq_true rfl) (dg hd_Mn_then 11 rfl) (fun r9 σ10 _ => ?_)
      refine ux_if_ne 34 (dg hd_Mn_then 12 rfl) (by decide) (fun _ => ?_) (fun _ => ?_)
      · refine ux_aload_n (dg hd_Mn_then 13 rfl) rfl ?_
        refine ux_iconst (1 : Int32) (dg hd_Mn_then 14 rfl) (by decide) ?_
        refine ux_callVi (As := [.int (1 : Int32)]) (sp_Mn_error l (1 : Int32) _) (by omega) cv_Mn_error wk_325 rfl rfl rfl rfl rfl (Nat.le_of_ble_eq_true rfl) (dg hd_Mn_then 15 rfl) (fun r16 σ17 _ => ?_)
        exact ux_iret rfl (dg hd_Mn_then 16 rfl)
      · refine ux_aload_n (dg hd_Mn_then 17 rfl) rfl ?_
        refine ux_getr (q := 24) fcX6 1 (by decide) wk_279 rfl rfl (dg hd_Mn_then 18 rfl) ?_
        refine ux_aload_n (dg hd_Mn_then 19 rfl) rfl ?_
        refine ux_getr (q := 15) fcX6 0 (by decide) wk_278 rfl rfl (dg hd_Mn_then 20 rfl) ?_
        refine ux_callVv (As := [.ref 15]) (sp_Rp_copy l rp24 rp15  _) (by omega) cv_Rp_copy wk_586 rfl rfl (rpO rp24) rfl rfl (Nat.le_of_ble_eq_true rfl) (dg hd_Mn_then 21 rfl) (fun r11 σ12 _ => ?_)
        refine ux_iconst (0 : Int32) (dg hd_Mn_then 22 rfl) (by decide) ?_
        refine ux_istore [(4, .int (0 : Int32)), (0, .ref 0), (1, .int p1), (2, .int p2), (3, .int p3)] (dg hd_Mn_then 23 rfl) (by decide) rfl ?_
        refine ux_wk [(0, .ref 0), (1, .int p1), (2, .int p2), (3, .int p3), (4, .int (0 : Int32))] [1, 2, 3, 4, 0] rfl ?_
        exact wk_Mn_then_L48 l 1000 p1 p2 p3 (0 : Int32) σ12
def Mn_lasts_L48 : Nat → Int32 → Int32 → St → Option (Int32 × St)
  | 0, _, _, _ => none
  | n + 1, x1, x2, σ =>
    if (99 : Int32) < x2 then (
    bnd (Mn_error (2 : Int32) σ) (fun r5 σ6 =>
    some (r5, σ6))) else (
    bnd (Rp_pass 24  σ) (fun r7 σ8 =>
    grd (inb x1 6) (
    if (σ8.2 29 x1.toNatClampNeg) = (0 : Int32) then (
    some (x2, σ8)) else (
    nam (x2 + (1 : Int32)) (fun y9 =>
    Mn_lasts_L48 n x1 y9 σ8)))))
set_option maxRecDepth 100000 in
theorem wk_Mn_lasts_L48 (l : Launch) : ∀ (n : Nat) (x1 x2 : Int32) (σ : St), Ux l shC 7 md_Mn_lasts 48 [(0, .ref 0), (1, .int x1), (2, .int x2)] [] σ (Mn_lasts_L48 n x1 x2 σ) := by
  intro n
  induction n with
  | zero => intros; exact ux_none
  | succ n ih =>
    intro x1 x2 σ
    unfold Mn_lasts_L48
    refine ux_iload_n (dg hd_Mn_lasts 26 rfl) rfl ?_
    refine ux_bipush (99 : Int32) (dg hd_Mn_lasts 27 rfl) (by decide) ?_
    refine ux_icmp_gt 82 (dg hd_Mn_lasts 28 rfl) (by decide) (fun _ => ?_) (fun _ => ?_)
    · refine ux_aload_n (dg hd_Mn_lasts 43 rfl) rfl ?_
      refine ux_iconst (2 : Int32) (dg hd_Mn_lasts 44 rfl) (by decide) ?_
      refine ux_callVi (As := [.int (2 : Int32)]) (sp_Mn_error l (2 : Int32) _) (by omega) cv_Mn_error wk_325 rfl rfl rfl rfl rfl (Nat.le_of_ble_eq_true rfl) (dg hd_Mn_lasts 45 rfl) (fun r5 σ6 _ => ?_)
      exact ux_iret rfl (dg hd_Mn_lasts 46 rfl)
    · refine ux_aload_n (dg hd_Mn_lasts 29 rfl) rfl ?_
      refine ux_getr (q := 24) fcX6 1 (by decide) wk_279 rfl rfl (dg hd_Mn_lasts 30 rfl) ?_
      refine ux_callVi (As := []) (sp_Rp_pass l rp24  _) (by omega) cv_Rp_pass wk_551 rfl rfl (rpO rp24) rfl rfl (Nat.le_of_ble_eq_true rfl) (dg hd_Mn_lasts 31 rfl) (fun r7 σ8 _ => ?_)
      refine ux_pop (dg hd_Mn_lasts 32 rfl) ?_
      refine ux_aload_n (dg hd_Mn_lasts 33 rfl) rfl ?_
      refine ux_getr (q := 24) fcX6 1 (by decide) wk_279 rfl rfl (dg hd_Mn_lasts 34 rfl) ?_
      refine ux_getr (q := 29) fcX1 5 (by decide) wk_133 (rpO rp24) rfl (dg hd_Mn_lasts 35 rfl) ?_
      refine ux_iload_n (dg hd_Mn_lasts 36 rfl) rfl ?_
      refine ux_iald (rpA5 rp24) (dg hd_Mn_lasts 37 rfl) ?_
      refine ux_if_ne 76 (dg hd_Mn_lasts 38 rfl) (by decide) (fun _ => ?_) (fun _ => ?_)
      · refine ux_iload_n (dg hd_Mn_lasts 39 rfl) rfl ?_
        exact ux_iret rfl (dg hd_Mn_lasts 40 rfl)
      · refine ux_iincN (1 : Int32) (fun y9 => [(2, .int y9), (0, .ref 0), (1, .int x1)]) (dg hd_Mn_lasts 41 rfl) rfl (by decide) (by decide) (fun _ => rfl) (fun y9 => ?_)
        refine ux_goto 48 (dg hd_Mn_lasts 42 rfl) (by decide) ?_
        refine ux_wk [(0, .ref 0), (1, .int x1), (2, .int y9)] [1, 2, 0] rfl ?_
        exact ih x1 y9 σ8
def Mn_lasts (p1 : Int32) (σ : St) : Option (Int32 × St) :=
  bnd (Rp_has 15 p1 σ) (fun r1 σ2 =>
  if r1 = (0 : Int32) then (
  bnd (Mn_error (1 : Int32) σ2) (fun r12 σ13 =>
  some (r12, σ13))) else (
  grd (inb p1 6) (
  if (σ2.2 20 p1.toNatClampNeg) = (0 : Int32) then (
  bnd (Mn_error (3 : Int32) σ2) (fun r10 σ11 =>
  some (r10, σ11))) else (
  bnd (Rp_copy 24 15 σ2) (fun r3 σ4 =>
  Mn_lasts_L48 1000 p1 (1 : Int32) σ4)))))
set_option maxRecDepth 100000 in
theorem sp_Mn_lasts (l : Launch) (p1 : Int32) (σ : St) : Spc l shC 7 md_Mn_lasts [.ref 0, .int p1] σ (Mn_lasts p1 σ) := by
  refine Spc_of_Ux [(0, .ref 0), (1, .int p1)] (by decide) rfl (Nat.le_of_ble_eq_true rfl) ?_
  unfold Mn_lasts
  refine ux_aload_n (dg hd_Mn_lasts 0 rfl) rfl ?_
  refine ux_getr (q := 15) fcX6 0 (by decide) wk_278 rfl rfl (dg hd_Mn_lasts 1 rfl) ?_
  refine ux_iload_n (dg hd_Mn_lasts 2 rfl) rfl ?_
  refine ux_callVi (As := [.int p1]) (sp_Rp_has l rp15 p1 _) (by omega) cv_Rp_has wk_342 rfl rfl (rpO rp15) rfl rfl (Nat.le_of_ble_eq_true rfl) (dg hd_Mn_lasts 3 rfl) (fun r1 σ2 _ => ?_)
  refine ux_if_ne 17 (dg hd_Mn_lasts 4 rfl) (by decide) (fun _ => ?_) (fun _ => ?_)
  · refine ux_aload_n (dg hd_Mn_lasts 5 rfl) rfl ?_
    refine ux_iconst (1 : Int32) (dg hd_Mn_lasts 6 rfl) (by decide) ?_
    refine ux_callVi (As := [.int (1 : Int32)]) (sp_Mn_error l (1 : Int32) _) (by omega) cv_Mn_error wk_325 rfl rfl rfl rfl rfl (Nat.le_of_ble_eq_true rfl) (dg hd_Mn_lasts 7 rfl) (fun r12 σ13 _ => ?_)
    exact ux_iret rfl (dg hd_Mn_lasts 8 rfl)
  · refine ux_aload_n (dg hd_Mn_lasts 9 rfl) rfl ?_
    refine ux_getr (q := 15) fcX6 0 (by decide) wk_278 rfl rfl (dg hd_Mn_lasts 10 rfl) ?_
    refine ux_getr (q := 20) fcX1 5 (by decide) wk_133 (rpO rp15) rfl (dg hd_Mn_lasts 11 rfl) ?_
    refine ux_iload_n (dg hd_Mn_lasts 12 rfl) rfl ?_
    refine ux_iald (rpA5 rp15) (dg hd_Mn_lasts 13 rfl) ?_
    refine ux_if_ne 35 (dg hd_Mn_lasts 14 rfl) (by decide) (fun _ => ?_) (fun _ => ?_)
    · refine ux_aload_n (dg hd_Mn_lasts 15 rfl) rfl ?_
      refine ux_iconst (3 : Int32) (dg hd_Mn_lasts 16 rfl) (by decide) ?_
      refine ux_callVi (As := [.int (3 : Int32)]) (sp_Mn_error l (3 : Int32) _) (by omega) cv_Mn_error wk_325 rfl rfl rfl rfl rfl (Nat.le_of_ble_eq_true rfl) (dg hd_Mn_lasts 17 rfl) (fun r10 σ11 _ => ?_)
      exact ux_iret rfl (dg hd_Mn_lasts 18 rfl)
    · refine ux_aload_n (dg hd_Mn_lasts 19 rfl) rfl ?_
      refine ux_getr (q := 24) fcX6 1 (by decide) wk_279 rfl rfl (dg hd_Mn_lasts 20 rfl) ?_
      refine ux_aload_n (dg hd_Mn_lasts 21 rfl) rfl ?_
      refine ux_getr (q := 15) fcX6 0 (by decide) wk_278 rfl rfl (dg hd_Mn_lasts 22 rfl) ?_
      refine ux_callVv (As := [.ref 15]) (sp_Rp_copy l rp24 rp15  _) (by omega) cv_Rp_copy wk_586 rfl rfl (rpO rp24) rfl rfl (Nat.le_of_ble_eq_true rfl) (dg hd_Mn_lasts 23 rfl) (fun r3 σ4 _ => ?_)
      refine ux_iconst (1 : Int32) (dg hd_Mn_lasts 24 rfl) (by decide) ?_
      refine ux_istore_n [(2, .int (1 : Int32)), (0, .ref 0), (1, .int p1)] (dg hd_Mn_lasts 25 rfl) (by decide) rfl ?_
      refine ux_wk [(0, .ref 0), (1, .int p1), (2, .int (1 : Int32))] [1, 2, 0] rfl ?_
      exact wk_Mn_lasts_L48 l 1000 p1 (1 : Int32) σ4
def Mn_agree_L18 : Nat → Int32 → Int32 → Int32 → St → Option (Int32 × St)
  | 0, _, _, _, _ => none
  | n + 1, x1, x2, x3, σ =>
    if (64 : Int32) ≤ x3 then (
    if x1 = (1 : Int32) then (
    bnd (Mn_error (2 : Int32) σ) (fun r3 σ4 =>
    some (r3, σ4))) else (
    some (x2, σ))) else (
    bnd (Rp_isTaken 15 x3 σ) (fun r5 σ6 =>
    if r5 = (0 : Int32) then (
    nam (x3 + (1 : Int32)) (fun y7 =>
    Mn_agree_L18 n x1 x2 y7 σ6)) else (
    if x1 = (1 : Int32) then (
    some (x3, σ6)) else (
    nam (x2 + (1 : Int32)) (fun y8 =>
    nam (x3 + (1 : Int32)) (fun y9 =>
    Mn_agree_L18 n x1 y8 y9 σ6))))))
set_option maxRecDepth 100000 in
theorem wk_Mn_agree_L18 (l : Launch) : ∀ (n : Nat) (x1 x2 x3 : Int32) (σ : St), Ux l shC 7 md_Mn_agree 18 [(0, .ref 0), (1, .int x1), (2, .int x2), (3, .int x3)] [] σ (Mn_agree_L18 n x1 x2 x3 σ) := by
  intro n
  induction n with
  | zero => intros; exact ux_none
  | succ n ih =>
    intro x1 x2 x3 σ
    unfold Mn_agree_L18
    refine ux_iload_n (dg hd_Mn_agree 12 rfl) rfl ?_
    refine ux_bipush (64 : Int32) (dg hd_Mn_agree 13 rfl) (by decide) ?_
    refine ux_icmp_ge 51 (dg hd_Mn_agree 14 rfl) (by decide) (fun _ => ?_) (fun _ => ?_)
    · refine ux_iload_n (dg hd_Mn_agree 28 rfl) rfl ?_
      refine ux_iconst (1 : Int32) (dg hd_Mn_agree 29 rfl) (by decide) ?_
      refine ux_icmp_ne 64 (dg hd_Mn_agree 30 rfl) (by decide) (fun _ => ?_) (fun _ => ?_)
      · refine ux_aload_n (dg hd_Mn_agree 31 rfl) rfl ?_
        refine ux_iconst (2 : Int32) (dg hd_Mn_agree 32 rfl) (by decide) ?_
        refine ux_callVi (As := [.int (2 : Int32)]) (sp_Mn_error l (2 : Int32) _) (by omega) cv_Mn_error wk_325 rfl rfl rfl rfl rfl (Nat.le_of_ble_eq_true rfl) (dg hd_Mn_agree 33 rfl) (fun r3 σ4 _ => ?_)
        refine ux_goto 65 (dg hd_Mn_agree 34 rfl) (by decide) ?_
        exact ux_iret rfl (dg hd_Mn_agree 36 rfl)
      · refine ux_iload_n (dg hd_Mn_agree 35 rfl) rfl ?_
        exact ux_iret rfl (dg hd_Mn_agree 36 rfl)
    · refine ux_aload_n (dg hd_Mn_agree 15 rfl) rfl ?_
      refine ux_getr (q := 15) fcX6 0 (by decide) wk_278 rfl rfl (dg hd_Mn_agree 16 rfl) ?_
      refine ux_iload_n (dg hd_Mn_agree 17 rfl) rfl ?_
      refine ux_callVi (As := [.int x3]) (sp_Rp_isTaken l rp15 x3 _) (by omega) cv_Rp_isTaken wk_454 rfl rfl (rpO rp15) rfl rfl (Nat.le_of_ble_eq_true rfl) (dg hd_Mn_agree 18 rfl) (fun r5 σ6 _ => ?_)
      refine ux_if_eq 45 (dg hd_Mn_agree 19 rfl) (by decide) (fun _ => ?_) (fun _ => ?_)
      · refine ux_iincN (1 : Int32) (fun y7 => [(3, .int y7), (0, .ref 0), (1, .int x1), (2, .int x2)]) (dg hd_Mn_agree 26 rfl) rfl (by decide) (by decide) (fun _ => rfl) (fun y7 => ?_)
        refine ux_goto 18 (dg hd_Mn_agree 27 rfl) (by decide) ?_
        refine ux_wk [(0, .ref 0), (1, .int x1), (2, .int x2), (3, .int y7)] [1, 2, 3, 0] rfl ?_
        exact ih x1 x2 y7 σ6
      · refine ux_iload_n (dg hd_Mn_agree 20 rfl) rfl ?_
        refine ux_iconst (1 : Int32) (dg hd_Mn_agree 21 rfl) (by decide) ?_
        refine ux_icmp_ne 42 (dg hd_Mn_agree 22 rfl) (by decide) (fun _ => ?_) (fun _ => ?_)
        · refine ux_iload_n (dg hd_Mn_agree 23 rfl) rfl ?_
          exact ux_iret rfl (dg hd_Mn_agree 24 rfl)
        · refine ux_iincN (1 : Int32) (fun y8 => [(2, .int y8), (0, .ref 0), (1, .int x1), (3, .int x3)]) (dg hd_Mn_agree 25 rfl) rfl (by decide) (by decide) (fun _ => rfl) (fun y8 => ?_)
          refine ux_iincN (1 : Int32) (fun y9 => [(3, .int y9), (2, .int y8), (0, .ref 0), (1, .int x1)]) (dg hd_Mn_agree 26 rfl) rfl (by decide) (by decide) (fun _ => rfl) (fun y9 => ?_)
          refine ux_goto 18 (dg hd_Mn_agree 27 rfl) (by decide) ?_
          refine ux_wk [(0, .ref 0), (1, .int x1), (2, .int y8), (3, .int y9)] [2, 3, 1, 0] rfl ?_
          exact ih x1 y8 y9 σ6
def Mn_agree (p1 : Int32) (σ : St) : Option (Int32 × St) :=
  bnd (Mn_isWithin p1 (1 : Int32) σ) (fun r1 σ2 =>
  if r1 = (0 : Int32) then (
  bnd (Mn_error (1 : Int32) σ2) (fun r10 σ11 =>
  some (r10, σ11))) else (
  Mn_agree_L18 1000 p1 (0 : Int32) (0 : Int32) σ2))
set_option maxRecDepth 100000 in
theorem sp_Mn_agree (l : Launch) (p1 : Int32) (σ : St) : Spc l shC 7 md_Mn_agree [.ref 0, .int p1] σ (Mn_agree p1 σ) := by
  refine Spc_of_Ux [(0, .ref 0), (1, .int p1)] (by decide) rfl (Nat.le_of_ble_eq_true rfl) ?_
  unfold Mn_agree
  refine ux_iload_n (dg hd_Mn_agree 0 rfl) rfl ?_
  refine ux_iconst (1 : Int32) (dg hd_Mn_agree 1 rfl) (by decide) ?_
  refine ux_callSi (As := [.int p1, .int (1 : Int32)]) (sp_Mn_isWithin l p1 (1 : Int32) _) (by omega) cs_Mn_isWithin wk_322 rfl rfl (Nat.le_of_ble_eq_true rfl) (dg hd_Mn_agree 2 rfl) (fun r1 σ2 _ => ?_)
  refine ux_if_ne 14 (dg hd_Mn_agree 3 rfl) (by decide) (fun _ => ?_) (fun _ => ?_)
  · refine ux_aload_n (dg hd_Mn_agree 4 rfl) rfl ?_
    refine ux_iconst (1 : Int32) (dg hd_Mn_agree 5 rfl) (by decide) ?_
    refine ux_callVi (As := [.int (1 : Int32)]) (sp_Mn_error l (1 : Int32) _) (by omega) cv_Mn_error wk_325 rfl rfl rfl rfl rfl (Nat.le_of_ble_eq_true rfl) (dg hd_Mn_agree 6 rfl) (fun r10 σ11 _ => ?_)
    exact ux_iret rfl (dg hd_Mn_agree 7 rfl)
  · refine ux_iconst (0 : Int32) (dg hd_Mn_agree 8 rfl) (by decide) ?_
    refine ux_istore_n [(2, .int (0 : Int32)), (0, .ref 0), (1, .int p1)] (dg hd_Mn_agree 9 rfl) (by decide) rfl ?_
    refine ux_iconst (0 : Int32) (dg hd_Mn_agree 10 rfl) (by decide) ?_
    refine ux_istore_n [(3, .int (0 : Int32)), (2, .int (0 : Int32)), (0, .ref 0), (1, .int p1)] (dg hd_Mn_agree 11 rfl) (by decide) rfl ?_
    refine ux_wk [(0, .ref 0), (1, .int p1), (2, .int (0 : Int32)), (3, .int (0 : Int32))] [2, 3, 1, 0] rfl ?_
    exact wk_Mn_agree_L18 l 1000 p1 (0 : Int32) (0 : Int32) σ2
def Mn_fairest_L37 : Nat → Int32 → Int32 → Int32 → Int32 → St → Option (Int32 × St)
  | 0, _, _, _, _, _ => none
  | n + 1, x1, x2, x3, x4, σ =>
    if (64 : Int32) ≤ x4 then (
    if x1 = (0 : Int32) then (
    some (x2, σ)) else (
    some (x3, σ))) else (
    bnd (Rp_leastLiking 15 x4 σ) (fun r5 σ6 =>
    if r5 ≤ x3 then (
    nam (x4 + (1 : Int32)) (fun y7 =>
    Mn_fairest_L37 n x1 x2 x3 y7 σ6)) else (
    nam (x4 + (1 : Int32)) (fun y8 =>
    Mn_fairest_L37 n x1 x4 r5 y8 σ6))))
set_option maxRecDepth 100000 in
theorem wk_Mn_fairest_L37 (l : Launch) : ∀ (n : Nat) (x1 x2 x3 x4 : Int32) (σ : St), Ux l shC 7 md_Mn_fairest 37 [(0, .ref 0), (1, .int x1), (2, .int x2), (3, .int x3), (4, .int x4)] [] σ (Mn_fairest_L37 n x1 x2 x3 x4 σ) := by
  intro n
  induction n with
  | zero => intros; exact ux_none
  | succ n ih =>
    intro x1 x2 x3 x4 σ
    unfold Mn_fairest_L37
    refine ux_iload (dg hd_Mn_fairest 22 rfl) rfl ?_
    refine ux_bipush (64 : Int32) (dg hd_Mn_fairest 23 rfl) (by decide) ?_
    refine ux_icmp_ge 73 (dg hd_Mn_fairest 24 rfl) (by decide) (fun _ => ?_) (fun _ => ?_)
    · refine ux_iload_n (dg hd_Mn_fairest 39 rfl) rfl ?_
      refine ux_if_ne 81 (dg hd_Mn_fairest 40 rfl) (by decide) (fun _ => ?_) (fun _ => ?_)
      · refine ux_iload_n (dg hd_Mn_fairest 41 rfl) rfl ?_
        refine ux_goto 82 (dg hd_Mn_fairest 42 rfl) (by decide) ?_
        exact ux_iret rfl (dg hd_Mn_fairest 44 rfl)
      · refine ux_iload_n (dg hd_Mn_fairest 43 rfl) rfl ?_
        exact ux_iret rfl (dg hd_Mn_fairest 44 rfl)
    · refine ux_aload_n (dg hd_Mn_fairest 25 rfl) rfl ?_
      refine ux_getr (q := 15) fcX6 0 (by decide) wk_278 rfl rfl (dg hd_Mn_fairest 26 rfl) ?_
      refine ux_iload (dg hd_Mn_fairest 27 rfl) rfl ?_
      refine ux_callVi (As := [.int x4]) (sp_Rp_leastLiking l rp15 x4 _) (by omega) cv_Rp_leastLiking wk_609 rfl rfl (rpO rp15) rfl rfl (Nat.le_of_ble_eq_true rfl) (dg hd_Mn_fairest 28 rfl) (fun r5 σ6 _ => ?_)
      refine ux_istore [(5, .int r5), (0, .ref 0), (1, .int x1), (2, .int x2), (3, .int x3), (4, .int x4)] (dg hd_Mn_fairest 29 rfl) (by decide) rfl ?_
      refine ux_iload (dg hd_Mn_fairest 30 rfl) rfl ?_
      refine ux_iload_n (dg hd_Mn_fairest 31 rfl) rfl ?_
      refine ux_icmp_le 67 (dg hd_Mn_fairest 32 rfl) (by decide) (fun _ => ?_) (fun _ => ?_)
      · refine ux_iincN (1 : Int32) (fun y7 => [(4, .int y7), (5, .int r5), (0, .ref 0), (1, .int x1), (2, .int x2), (3, .int x3)]) (dg hd_Mn_fairest 37 rfl) rfl (by decide) (by decide) (fun _ => rfl) (fun y7 => ?_)
        refine ux_goto 37 (dg hd_Mn_fairest 38 rfl) (by decide) ?_
        refine ux_wk [(0, .ref 0), (1, .int x1), (2, .int x2), (3, .int x3), (4, .int y7)] [2, 3, 4, 5, 0] rfl ?_
        exact ih x1 x2 x3 y7 σ6
      · refine ux_iload (dg hd_Mn_fairest 33 rfl) rfl ?_
        refine ux_istore_n [(2, .int x4), (5, .int r5), (0, .ref 0), (1, .int x1), (3, .int x3), (4, .int x4)] (dg hd_Mn_fairest 34 rfl) (by decide) rfl ?_
        refine ux_iload (dg hd_Mn_fairest 35 rfl) rfl ?_
        refine ux_istore_n [(3, .int r5), (2, .int x4), (5, .int r5), (0, .ref 0), (1, .int x1), (4, .int x4)] (dg hd_Mn_fairest 36 rfl) (by decide) rfl ?_
        refine ux_iincN (1 : Int32) (fun y8 => [(4, .int y8), (3, .int r5), (2, .int x4), (5, .int r5), (0, .ref 0), (1, .int x1)]) (dg hd_Mn_fairest 37 rfl) rfl (by decide) (by decide) (fun _ => rfl) (fun y8 => ?_)
        refine ux_goto 37 (dg hd_Mn_fairest 38 rfl) (by decide) ?_
        refine ux_wk [(0, .ref 0), (1, .int x1), (2, .int x4), (3, .int r5), (4, .int y8)] [4, 5, 2, 1, 0] rfl ?_
        exact ih x1 x4 r5 y8 σ6
def Mn_fairest (p1 : Int32) (σ : St) : Option (Int32 × St) :=
  bnd (Mn_isWithin p1 (1 : Int32) σ) (fun r1 σ2 =>
  if r1 = (0 : Int32) then (
  bnd (Mn_error (1 : Int32) σ2) (fun r11 σ12 =>
  some (r11, σ12))) else (
  bnd (Rp_howManyIn 15  σ2) (fun r3 σ4 =>
  if r3 = (0 : Int32) then (
  bnd (Mn_error (3 : Int32) σ4) (fun r9 σ10 =>
  some (r9, σ10))) else (
  Mn_fairest_L37 1000 p1 (0 : Int32) (-1 : Int32) (0 : Int32) σ4))))
set_option maxRecDepth 100000 in
theorem sp_Mn_fairest (l : Launch) (p1 : Int32) (σ : St) : Spc l shC 7 md_Mn_fairest [.ref 0, .int p1] σ (Mn_fairest p1 σ) := by
  refine Spc_of_Ux [(0, .ref 0), (1, .int p1)] (by decide) rfl (Nat.le_of_ble_eq_true rfl) ?_
  unfold Mn_fairest
  refine ux_iload_n (dg hd_Mn_fairest 0 rfl) rfl ?_
  refine ux_iconst (1 : Int32) (dg hd_Mn_fairest 1 rfl) (by decide) ?_
  refine ux_callSi (As := [.int p1, .int (1 : Int32)]) (sp_Mn_isWithin l p1 (1 : Int32) _) (by omega) cs_Mn_isWithin wk_322 rfl rfl (Nat.le_of_ble_eq_true rfl) (dg hd_Mn_fairest 2 rfl) (fun r1 σ2 _ => ?_)
  refine ux_if_ne 14 (dg hd_Mn_fairest 3 rfl) (by decide) (fun _ => ?_) (fun _ => ?_)
  · refine ux_aload_n (dg hd_Mn_fairest 4 rfl) rfl ?_
    refine ux_iconst (1 : Int32) (dg hd_Mn_fairest 5 rfl) (by decide) ?_
    refine ux_callVi (As := [.int (1 : Int32)]) (sp_Mn_error l (1 : Int32) _) (by omega) cv_Mn_error wk_325 rfl rfl rfl rfl rfl (Nat.le_of_ble_eq_true rfl) (dg hd_Mn_fairest 6 rfl) (fun r11 σ12 _ => ?_)
    exact ux_iret rfl (dg hd_Mn_fairest 7 rfl)
  · refine ux_aload_n (dg hd_Mn_fairest 8 rfl) rfl ?_
    refine ux_getr (q := 15) fcX6 0 (by decide) wk_278 rfl rfl (dg hd_Mn_fairest 9 rfl) ?_
    refine ux_callVi (As := []) (sp_Rp_howManyIn l rp15  _) (by omega) cv_Rp_howManyIn wk_608 rfl rfl (rpO rp15) rfl rfl (Nat.le_of_ble_eq_true rfl) (dg hd_Mn_fairest 10 rfl) (fun r3 σ4 _ => ?_)
    refine ux_if_ne 30 (dg hd_Mn_fairest 11 rfl) (by decide) (fun _ => ?_) (fun _ => ?_)
    · refine ux_aload_n (dg hd_Mn_fairest 12 rfl) rfl ?_
      refine ux_iconst (3 : Int32) (dg hd_Mn_fairest 13 rfl) (by decide) ?_
      refine ux_callVi (As := [.int (3 : Int32)]) (sp_Mn_error l (3 : Int32) _) (by omega) cv_Mn_error wk_325 rfl rfl rfl rfl rfl (Nat.le_of_ble_eq_true rfl) (dg hd_Mn_fairest 14 rfl) (fun r9 σ10 _ => ?_)
      exact ux_iret rfl (dg hd_Mn_fairest 15 rfl)
    · refine ux_iconst (0 : Int32) (dg hd_Mn_fairest 16 rfl) (by decide) ?_
      refine ux_istore_n [(2, .int (0 : Int32)), (0, .ref 0), (1, .int p1)] (dg hd_Mn_fairest 17 rfl) (by decide) rfl ?_
      refine ux_iconst (-1 : Int32) (dg hd_Mn_fairest 18 rfl) (by decide) ?_
      refine ux_istore_n [(3, .int (-1 : Int32)), (2, .int (0 : Int32)), (0, .ref 0), (1, .int p1)] (dg hd_Mn_fairest 19 rfl) (by decide) rfl ?_
      refine ux_iconst (0 : Int32) (dg hd_Mn_fairest 20 rfl) (by decide) ?_
      refine ux_istore [(4, .int (0 : Int32)), (3, .int (-1 : Int32)), (2, .int (0 : Int32)), (0, .ref 0), (1, .int p1)] (dg hd_Mn_fairest 21 rfl) (by decide) rfl ?_
      refine ux_wk [(0, .ref 0), (1, .int p1), (2, .int (0 : Int32)), (3, .int (-1 : Int32)), (4, .int (0 : Int32))] [3, 4, 2, 1, 0] rfl ?_
      exact wk_Mn_fairest_L37 l 1000 p1 (0 : Int32) (-1 : Int32) (0 : Int32) σ4
