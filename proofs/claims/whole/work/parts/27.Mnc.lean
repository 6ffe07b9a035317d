def Mn_told (p1 : Int32) (σ : St) : Option (Int32 × St) :=
  if p1 < (1 : Int32) then (
  bnd (Mn_error (1 : Int32) σ) (fun r1 σ2 =>
  some (r1, σ2))) else (
  if (6 : Int32) < p1 then (
  bnd (Mn_error (1 : Int32) σ) (fun r3 σ4 =>
  some (r3, σ4))) else (
  grd (inb p1 7) (
  some ((σ.2 64 p1.toNatClampNeg), σ))))
set_option maxRecDepth 100000 in
theorem sp_Mn_told (l : Launch) (p1 : Int32) (σ : St) : Spc l shC 3 md_Mn_told [.ref 0, .int p1] σ (Mn_told p1 σ) := by
  refine Spc_of_Ux [(0, .ref 0), (1, .int p1)] (by decide) rfl (Nat.le_of_ble_eq_true rfl) ?_
  unfold Mn_told
  refine ux_iload_n (dg hd_Mn_told 0 rfl) rfl ?_
  refine ux_iconst (1 : Int32) (dg hd_Mn_told 1 rfl) (by decide) ?_
  refine ux_icmp_lt 20 (dg hd_Mn_told 2 rfl) (by decide) (fun _ => ?_) (fun _ => ?_)
  · refine ux_aload_n (dg hd_Mn_told 11 rfl) rfl ?_
    refine ux_iconst (1 : Int32) (dg hd_Mn_told 12 rfl) (by decide) ?_
    refine ux_callVi (As := [.int (1 : Int32)]) (sp_Mn_error l (1 : Int32) _) (by omega) cv_Mn_error wk_333 rfl rfl rfl rfl rfl (Nat.le_of_ble_eq_true rfl) (dg hd_Mn_told 13 rfl) (fun r1 σ2 _ => ?_)
    exact ux_iret rfl (dg hd_Mn_told 14 rfl)
  · refine ux_iload_n (dg hd_Mn_told 3 rfl) rfl ?_
    refine ux_bipush (6 : Int32) (dg hd_Mn_told 4 rfl) (by decide) ?_
    refine ux_icmp_gt 20 (dg hd_Mn_told 5 rfl) (by decide) (fun _ => ?_) (fun _ => ?_)
    · refine ux_aload_n (dg hd_Mn_told 11 rfl) rfl ?_
      refine ux_iconst (1 : Int32) (dg hd_Mn_told 12 rfl) (by decide) ?_
      refine ux_callVi (As := [.int (1 : Int32)]) (sp_Mn_error l (1 : Int32) _) (by omega) cv_Mn_error wk_333 rfl rfl rfl rfl rfl (Nat.le_of_ble_eq_true rfl) (dg hd_Mn_told 13 rfl) (fun r3 σ4 _ => ?_)
      exact ux_iret rfl (dg hd_Mn_told 14 rfl)
    · refine ux_aload_n (dg hd_Mn_told 6 rfl) rfl ?_
      refine ux_getr (q := 64) fcX6 12 (by decide) wk_292 rfl rfl (dg hd_Mn_told 7 rfl) ?_
      refine ux_iload_n (dg hd_Mn_told 8 rfl) rfl ?_
      refine ux_iald rfl (dg hd_Mn_told 9 rfl) ?_
      refine ux_goto 25 (dg hd_Mn_told 10 rfl) (by decide) ?_
      exact ux_iret rfl (dg hd_Mn_told 14 rfl)
