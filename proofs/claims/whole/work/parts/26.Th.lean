def Th_bodyOf_L4 : Nat → Int32 → Int32 → Int32 → Int32 → St → Option (Int32 × St)
  | 0, _, _, _, _, _ => none
  | n + 1, x0, x1, x2, x3, σ =>
    if (7 : Int32) ≤ x3 then (
    some ((0 : Int32), σ)) else (
    bnd (Mn_isWithin x2 (6 : Int32) σ) (fun r1 σ2 =>
    if r1 = (0 : Int32) then (
    some ((0 : Int32), σ2)) else (
    grd (inb ((x2 * (4 : Int32)) + x1) 28) (
    if (tbB.getD ((x2 * (4 : Int32)) + x1).toNatClampNeg 0) = (0 : Int32) then (
    grd (inb x2 7) (
    nam (tbA.getD x2.toNatClampNeg 0) (fun y3 =>
    nam (x3 + (1 : Int32)) (fun y4 =>
    Th_bodyOf_L4 n x0 x1 y3 y4 σ2)))) else (
    grd (inb ((x2 * (4 : Int32)) + x1) 28) (
    some ((tbB.getD ((x2 * (4 : Int32)) + x1).toNatClampNeg 0), σ2)))))))
set_option maxRecDepth 100000 in
theorem wk_Th_bodyOf_L4 (l : Launch) : ∀ (n : Nat) (x0 x1 x2 x3 : Int32) (σ : St), Ux l shC 3 md_Th_bodyOf 4 [(0, .int x0), (1, .int x1), (2, .int x2), (3, .int x3)] [] σ (Th_bodyOf_L4 n x0 x1 x2 x3 σ) := by
  intro n
  induction n with
  | zero => intros; exact ux_none
  | succ n ih =>
    intro x0 x1 x2 x3 σ
    unfold Th_bodyOf_L4
    refine ux_iload_n (dg hd_Th_bodyOf 4 rfl) rfl ?_
    refine ux_bipush (7 : Int32) (dg hd_Th_bodyOf 5 rfl) (by decide) ?_
    refine ux_icmp_ge 53 (dg hd_Th_bodyOf 6 rfl) (by decide) (fun _ => ?_) (fun _ => ?_)
    · refine ux_iconst (0 : Int32) (dg hd_Th_bodyOf 33 rfl) (by decide) ?_
      exact ux_iret rfl (dg hd_Th_bodyOf 34 rfl)
    · refine ux_iload_n (dg hd_Th_bodyOf 7 rfl) rfl ?_
      refine ux_bipush (6 : Int32) (dg hd_Th_bodyOf 8 rfl) (by decide) ?_
      refine ux_callNi (host := "RopeTreaty") (As := [.int x2, .int (6 : Int32)]) (sp_Mn_isWithin l x2 (6 : Int32) _) (by omega) cs_Mn_isWithin (by decide +kernel) rfl rfl (Nat.le_of_ble_eq_true rfl) (dg hd_Th_bodyOf 9 rfl) (fun r1 σ2 _ => ?_)
      refine ux_if_eq 53 (dg hd_Th_bodyOf 10 rfl) (by decide) (fun _ => ?_) (fun _ => ?_)
      · refine ux_iconst (0 : Int32) (dg hd_Th_bodyOf 33 rfl) (by decide) ?_
        exact ux_iret rfl (dg hd_Th_bodyOf 34 rfl)
      · refine ux_gets (kk := 1) rfl wk_672 (dg hd_Th_bodyOf 11 rfl) ?_
        refine ux_iload_n (dg hd_Th_bodyOf 12 rfl) rfl ?_
        refine ux_iconst (4 : Int32) (dg hd_Th_bodyOf 13 rfl) (by decide) ?_
        refine ux_imul (dg hd_Th_bodyOf 14 rfl) ?_
        refine ux_iload_n (dg hd_Th_bodyOf 15 rfl) rfl ?_
        refine ux_iadd (dg hd_Th_bodyOf 16 rfl) ?_
        refine ux_tald (kk := 1) (tab := tbB) rfl rfl (dg hd_Th_bodyOf 17 rfl) ?_
        refine ux_if_eq 41 (dg hd_Th_bodyOf 18 rfl) (by decide) (fun _ => ?_) (fun _ => ?_)
        · refine ux_getsN (q := ("", "", "", .int, [])) rfl (dg hd_Th_bodyOf 27 rfl) ?_
          refine ux_iload_n (dg hd_Th_bodyOf 28 rfl) rfl ?_
          refine ux_tald (kk := 0) (tab := tbA) rfl rfl (dg hd_Th_bodyOf 29 rfl) ?_
          refine ux_nam (fun y3 => ?_)
          refine ux_istore_n [(2, .int y3), (0, .int x0), (1, .int x1), (3, .int x3)] (dg hd_Th_bodyOf 30 rfl) (by decide) rfl ?_
          refine ux_iincN (1 : Int32) (fun y4 => [(3, .int y4), (2, .int y3), (0, .int x0), (1, .int x1)]) (dg hd_Th_bodyOf 31 rfl) rfl (by decide) (by decide) (fun _ => rfl) (fun y4 => ?_)
          refine ux_goto 4 (dg hd_Th_bodyOf 32 rfl) (by decide) ?_
          refine ux_wk [(0, .int x0), (1, .int x1), (2, .int y3), (3, .int y4)] [2, 3, 1, 0] rfl ?_
          exact ih x0 x1 y3 y4 σ2
        · refine ux_gets (kk := 1) rfl wk_672 (dg hd_Th_bodyOf 19 rfl) ?_
          refine ux_iload_n (dg hd_Th_bodyOf 20 rfl) rfl ?_
          refine ux_iconst (4 : Int32) (dg hd_Th_bodyOf 21 rfl) (by decide) ?_
          refine ux_imul (dg hd_Th_bodyOf 22 rfl) ?_
          refine ux_iload_n (dg hd_Th_bodyOf 23 rfl) rfl ?_
          refine ux_iadd (dg hd_Th_bodyOf 24 rfl) ?_
          refine ux_tald (kk := 1) (tab := tbB) rfl rfl (dg hd_Th_bodyOf 25 rfl) ?_
          exact ux_iret rfl (dg hd_Th_bodyOf 26 rfl)
def Th_bodyOf (p1 : Int32) (p2 : Int32) (σ : St) : Option (Int32 × St) :=
  Th_bodyOf_L4 1000 p1 p2 p1 (0 : Int32) σ
set_option maxRecDepth 100000 in
theorem sp_Th_bodyOf (l : Launch) (p1 : Int32) (p2 : Int32) (σ : St) : Spc l shC 3 md_Th_bodyOf [.int p1, .int p2] σ (Th_bodyOf p1 p2 σ) := by
  refine Spc_of_Ux [(0, .int p1), (1, .int p2)] (by decide) rfl (Nat.le_of_ble_eq_true rfl) ?_
  unfold Th_bodyOf
  refine ux_iload_n (dg hd_Th_bodyOf 0 rfl) rfl ?_
  refine ux_istore_n [(2, .int p1), (0, .int p1), (1, .int p2)] (dg hd_Th_bodyOf 1 rfl) (by decide) rfl ?_
  refine ux_iconst (0 : Int32) (dg hd_Th_bodyOf 2 rfl) (by decide) ?_
  refine ux_istore_n [(3, .int (0 : Int32)), (2, .int p1), (0, .int p1), (1, .int p2)] (dg hd_Th_bodyOf 3 rfl) (by decide) rfl ?_
  refine ux_wk [(0, .int p1), (1, .int p2), (2, .int p1), (3, .int (0 : Int32))] [2, 3, 1, 0] rfl ?_
  exact wk_Th_bodyOf_L4 l 1000 p1 p2 p1 (0 : Int32) σ
def Th_part (p1 : Int32) (σ : St) : Option (Int32 × St) :=
  nam ((σ.1 62 5) - (σ.1 62 4)) (fun y1 =>
  if y1 = (0 : Int32) then (
  nas (sF σ 62 2 (1 : Int32)) (fun σ3 =>
  if (σ3.1 62 2) = (0 : Int32) then (
  grd (nz y1) (
  some ((p1 / y1), σ3))) else (
  some ((0 : Int32), σ3)))) else (
  nas (sF σ 62 2 (0 : Int32)) (fun σ2 =>
  if (σ2.1 62 2) = (0 : Int32) then (
  grd (nz y1) (
  some ((p1 / y1), σ2))) else (
  some ((0 : Int32), σ2)))))
set_option maxRecDepth 100000 in
theorem sp_Th_part (l : Launch) (p1 : Int32) (σ : St) : Spc l shC 2 md_Th_part [.ref 62, .int p1] σ (Th_part p1 σ) := by
  refine Spc_of_Ux [(0, .ref 62), (1, .int p1)] (by decide) rfl (Nat.le_of_ble_eq_true rfl) ?_
  unfold Th_part
  refine ux_aload_n (dg hd_Th_part 0 rfl) rfl ?_
  refine ux_get fcX5 5 (by decide) wk_264 rfl rfl (dg hd_Th_part 1 rfl) ?_
  refine ux_aload_n (dg hd_Th_part 2 rfl) rfl ?_
  refine ux_get fcX5 4 (by decide) wk_263 rfl rfl (dg hd_Th_part 3 rfl) ?_
  refine ux_isub (dg hd_Th_part 4 rfl) ?_
  refine ux_nam (fun y1 => ?_)
  refine ux_istore_n [(2, .int y1), (0, .ref 62), (1, .int p1)] (dg hd_Th_part 5 rfl) (by decide) rfl ?_
  refine ux_aload_n (dg hd_Th_part 6 rfl) rfl ?_
  refine ux_iload_n (dg hd_Th_part 7 rfl) rfl ?_
  refine ux_if_ne 19 (dg hd_Th_part 8 rfl) (by decide) (fun _ => ?_) (fun _ => ?_)
  · refine ux_iconst (1 : Int32) (dg hd_Th_part 9 rfl) (by decide) ?_
    refine ux_goto 20 (dg hd_Th_part 10 rfl) (by decide) ?_
    refine ux_put fcX5 2 (by decide) wk_260 rfl rfl (isB_n (by decide)) rfl rfl (dg hd_Th_part 12 rfl) ?_
    refine ux_nas (fun σ3 => ?_)
    refine ux_aload_n (dg hd_Th_part 13 rfl) rfl ?_
    refine ux_get fcX5 2 (by decide) wk_260 rfl rfl (dg hd_Th_part 14 rfl) ?_
    refine ux_if_eq 34 (dg hd_Th_part 15 rfl) (by decide) (fun _ => ?_) (fun _ => ?_)
    · refine ux_iload_n (dg hd_Th_part 18 rfl) rfl ?_
      refine ux_iload_n (dg hd_Th_part 19 rfl) rfl ?_
      refine ux_idiv (dg hd_Th_part 20 rfl) ?_
      exact ux_iret rfl (dg hd_Th_part 21 rfl)
    · refine ux_iconst (0 : Int32) (dg hd_Th_part 16 rfl) (by decide) ?_
      refine ux_goto 37 (dg hd_Th_part 17 rfl) (by decide) ?_
      exact ux_iret rfl (dg hd_Th_part 21 rfl)
  · refine ux_iconst (0 : Int32) (dg hd_Th_part 11 rfl) (by decide) ?_
    refine ux_put fcX5 2 (by decide) wk_260 rfl rfl (isB_n (by decide)) rfl rfl (dg hd_Th_part 12 rfl) ?_
    refine ux_nas (fun σ2 => ?_)
    refine ux_aload_n (dg hd_Th_part 13 rfl) rfl ?_
    refine ux_get fcX5 2 (by decide) wk_260 rfl rfl (dg hd_Th_part 14 rfl) ?_
    refine ux_if_eq 34 (dg hd_Th_part 15 rfl) (by decide) (fun _ => ?_) (fun _ => ?_)
    · refine ux_iload_n (dg hd_Th_part 18 rfl) rfl ?_
      refine ux_iload_n (dg hd_Th_part 19 rfl) rfl ?_
      refine ux_idiv (dg hd_Th_part 20 rfl) ?_
      exact ux_iret rfl (dg hd_Th_part 21 rfl)
    · refine ux_iconst (0 : Int32) (dg hd_Th_part 16 rfl) (by decide) ?_
      refine ux_goto 37 (dg hd_Th_part 17 rfl) (by decide) ?_
      exact ux_iret rfl (dg hd_Th_part 21 rfl)
def Th_say (rec : Nat → Int32 → Int32 → Int32 → Int32 → St → Option (Int32 × St)) (p1 : Int32) (p2 : Int32) (p3 : Int32) (p4 : Int32) (σ : St) : Option (Int32 × St) :=
  if (σ.1 62 2) = (0 : Int32) then (
  if p4 < (20 : Int32) then (
  bnd (Th_bodyOf p1 p2 σ) (fun r1 σ2 =>
  if (30 : Int32) ≤ (σ2.1 62 1) then (
  bnd (rec 1 r1 p3 (p4 + (1 : Int32)) 0 σ2) (fun r3 σ4 =>
  some (r3, σ4))) else (
  grd (inb (σ2.1 62 1) 30) (
  nas (sA σ2 63 (σ2.1 62 1).toNatClampNeg r1) (fun σ5 =>
  nas (sF σ5 62 1 ((σ5.1 62 1) + (1 : Int32))) (fun σ6 =>
  bnd (rec 1 r1 p3 (p4 + (1 : Int32)) 0 σ6) (fun r7 σ8 =>
  some (r7, σ8)))))))) else (
  some ((0 : Int32), σ))) else (
  some ((0 : Int32), σ))
set_option maxRecDepth 100000 in
theorem wg_Th_say (l : Launch) (rec : Nat → Int32 → Int32 → Int32 → Int32 → St → Option (Int32 × St)) (dd : Nat) (hdd : 4 ≤ dd) (hr0 : ∀ (a0 a1 a2 a3 : Int32) (σ : St), Spc l shC dd md_Th_say [.ref 62, .int a0, .int a1, .int a2, .int a3] σ (rec 0 a0 a1 a2 a3 σ)) (hr1 : ∀ (a0 a1 a2 : Int32) (σ : St), Spc l shC dd md_Th_work [.ref 62, .int a0, .int a1, .int a2] σ (rec 1 a0 a1 a2 0 σ)) (p1 : Int32) (p2 : Int32) (p3 : Int32) (p4 : Int32) (σ : St) : Spc l shC (dd + 1) md_Th_say [.ref 62, .int p1, .int p2, .int p3, .int p4] σ (Th_say rec p1 p2 p3 p4 σ) := by
  refine Spc_of_Ux [(0, .ref 62), (1, .int p1), (2, .int p2), (3, .int p3), (4, .int p4)] (by decide) rfl (Nat.le_of_ble_eq_true rfl) ?_
  unfold Th_say
  refine ux_aload_n (dg hd_Th_say 0 rfl) rfl ?_
  refine ux_get fcX5 2 (by decide) wk_260 rfl rfl (dg hd_Th_say 1 rfl) ?_
  refine ux_if_ne 14 (dg hd_Th_say 2 rfl) (by decide) (fun _ => ?_) (fun _ => ?_)
  · refine ux_iload (dg hd_Th_say 3 rfl) rfl ?_
    refine ux_bipush (20 : Int32) (dg hd_Th_say 4 rfl) (by decide) ?_
    refine ux_icmp_lt 16 (dg hd_Th_say 5 rfl) (by decide) (fun _ => ?_) (fun _ => ?_)
    · refine ux_iload_n (dg hd_Th_say 8 rfl) rfl ?_
      refine ux_iload_n (dg hd_Th_say 9 rfl) rfl ?_
      refine ux_callSi (As := [.int p1, .int p2]) (sp_Th_bodyOf l p1 p2 _) (by omega) cs_Th_bodyOf wk_668 rfl rfl (Nat.le_of_ble_eq_true rfl) (dg hd_Th_say 10 rfl) (fun r1 σ2 _ => ?_)
      refine ux_istore [(5, .int r1), (0, .ref 62), (1, .int p1), (2, .int p2), (3, .int p3), (4, .int p4)] (dg hd_Th_say 11 rfl) (by decide) rfl ?_
      refine ux_aload_n (dg hd_Th_say 12 rfl) rfl ?_
      refine ux_get fcX5 1 (by decide) wk_258 rfl rfl (dg hd_Th_say 13 rfl) ?_
      refine ux_bipush (30 : Int32) (dg hd_Th_say 14 rfl) (by decide) ?_
      refine ux_icmp_ge 53 (dg hd_Th_say 15 rfl) (by decide) (fun _ => ?_) (fun _ => ?_)
      · refine ux_aload_n (dg hd_Th_say 28 rfl) rfl ?_
        refine ux_iload (dg hd_Th_say 29 rfl) rfl ?_
        refine ux_iload_n (dg hd_Th_say 30 rfl) rfl ?_
        refine ux_iload (dg hd_Th_say 31 rfl) rfl ?_
        refine ux_iconst (1 : Int32) (dg hd_Th_say 32 rfl) (by decide) ?_
        refine ux_iadd (dg hd_Th_say 33 rfl) ?_
        refine ux_callVi (As := [.int r1, .int p3, .int (p4 + (1 : Int32))]) (hr1 r1 p3 (p4 + (1 : Int32)) _) (by omega) cv_Th_work wk_675 rfl rfl rfl rfl rfl (Nat.le_of_ble_eq_true rfl) (dg hd_Th_say 34 rfl) (fun r3 σ4 _ => ?_)
        exact ux_iret rfl (dg hd_Th_say 35 rfl)
      · refine ux_aload_n (dg hd_Th_say 16 rfl) rfl ?_
        refine ux_getr (q := 63) fcX5 0 (by decide) wk_256 rfl rfl (dg hd_Th_say 17 rfl) ?_
        refine ux_aload_n (dg hd_Th_say 18 rfl) rfl ?_
        refine ux_get fcX5 1 (by decide) wk_258 rfl rfl (dg hd_Th_say 19 rfl) ?_
        refine ux_iload (dg hd_Th_say 20 rfl) rfl ?_
        refine ux_iast rfl (dg hd_Th_say 21 rfl) ?_
        refine ux_nas (fun σ5 => ?_)
        refine ux_aload_n (dg hd_Th_say 22 rfl) rfl ?_
        refine ux_dupr (dg hd_Th_say 23 rfl) ?_
        refine ux_get fcX5 1 (by decide) wk_258 rfl rfl (dg hd_Th_say 24 rfl) ?_
        refine ux_iconst (1 : Int32) (dg hd_Th_say 25 rfl) (by decide) ?_
        refine ux_iadd (dg hd_Th_say 26 rfl) ?_
        refine ux_put fcX5 1 (by decide) wk_258 rfl rfl ⟨rfl, rfl⟩ rfl rfl (dg hd_Th_say 27 rfl) ?_
        refine ux_nas (fun σ6 => ?_)
        refine ux_aload_n (dg hd_Th_say 28 rfl) rfl ?_
        refine ux_iload (dg hd_Th_say 29 rfl) rfl ?_
        refine ux_iload_n (dg hd_Th_say 30 rfl) rfl ?_
        refine ux_iload (dg hd_Th_say 31 rfl) rfl ?_
        refine ux_iconst (1 : Int32) (dg hd_Th_say 32 rfl) (by decide) ?_
        refine ux_iadd (dg hd_Th_say 33 rfl) ?_
        refine ux_callVi (As := [.int r1, .int p3, .int (p4 + (1 : Int32))]) (hr1 r1 p3 (p4 + (1 : Int32)) _) (by omega) cv_Th_work wk_675 rfl rfl rfl rfl rfl (Nat.le_of_ble_eq_true rfl) (dg hd_Th_say 34 rfl) (fun r7 σ8 _ => ?_)
        exact ux_iret rfl (dg hd_Th_say 35 rfl)
    · refine ux_iconst (0 : Int32) (dg hd_Th_say 6 rfl) (by decide) ?_
      exact ux_iret rfl (dg hd_Th_say 7 rfl)
  · refine ux_iconst (0 : Int32) (dg hd_Th_say 6 rfl) (by decide) ?_
    exact ux_iret rfl (dg hd_Th_say 7 rfl)
def Th_work (rec : Nat → Int32 → Int32 → Int32 → Int32 → St → Option (Int32 × St)) (p1 : Int32) (p2 : Int32) (p3 : Int32) (σ : St) : Option (Int32 × St) :=
  if p1 = (10 : Int32) then (
  some ((p2 + (σ.1 62 4)), σ)) else if p1 = (11 : Int32) then (
  bnd (rec 0 (σ.1 62 3) (0 : Int32) p2 p3 σ) (fun r2 σ3 =>
  some ((r2 * (2 : Int32)), σ3))) else if p1 = (12 : Int32) then (
  bnd (rec 0 (σ.1 62 3) (1 : Int32) p2 p3 σ) (fun r5 σ6 =>
  some ((r5 - (σ6.1 62 5)), σ6))) else if p1 = (13 : Int32) then (
  bnd (Th_part p2 σ) (fun r8 σ9 =>
  some (r8, σ9))) else if p1 = (20 : Int32) then (
  bnd (rec 0 (0 : Int32) (0 : Int32) p2 p3 σ) (fun r11 σ12 =>
  some ((r11 - (4 : Int32)), σ12))) else if p1 = (21 : Int32) then (
  bnd (rec 0 (0 : Int32) (3 : Int32) p2 p3 σ) (fun r14 σ15 =>
  bnd (rec 0 (σ15.1 62 3) (1 : Int32) (1 : Int32) p3 σ15) (fun r16 σ17 =>
  some ((r14 + r16), σ17)))) else if p1 = (30 : Int32) then (
  bnd (rec 0 (0 : Int32) (1 : Int32) p2 p3 σ) (fun r19 σ20 =>
  some (((0 : Int32) - r19), σ20))) else if p1 = (40 : Int32) then (
  grd (nz (2 : Int32)) (
  bnd (rec 0 (0 : Int32) (2 : Int32) (p2 / (2 : Int32)) p3 σ) (fun r22 σ23 =>
  some (r22, σ23)))) else if p1 = (50 : Int32) then (
  bnd (rec 0 (1 : Int32) (0 : Int32) p2 p3 σ) (fun r25 σ26 =>
  some ((r25 * (3 : Int32)), σ26))) else if p1 = (51 : Int32) then (
  bnd (rec 0 (1 : Int32) (2 : Int32) p2 p3 σ) (fun r28 σ29 =>
  some ((r28 ^^^ (σ29.1 62 4)), σ29))) else if p1 = (60 : Int32) then (
  bnd (rec 0 (2 : Int32) (1 : Int32) (p2 + (1 : Int32)) p3 σ) (fun r31 σ32 =>
  some (r31, σ32))) else if p1 = (70 : Int32) then (
  some ((9 : Int32), σ)) else if p1 = (71 : Int32) then (
  bnd (rec 0 (0 : Int32) (1 : Int32) p2 p3 σ) (fun r35 σ36 =>
  some ((r35 + (σ36.1 62 5)), σ36))) else (
  some ((0 : Int32), σ))
set_option maxRecDepth 100000 in
theorem wg_Th_work (l : Launch) (rec : Nat → Int32 → Int32 → Int32 → Int32 → St → Option (Int32 × St)) (dd : Nat) (hdd : 4 ≤ dd) (hr0 : ∀ (a0 a1 a2 a3 : Int32) (σ : St), Spc l shC dd md_Th_say [.ref 62, .int a0, .int a1, .int a2, .int a3] σ (rec 0 a0 a1 a2 a3 σ)) (hr1 : ∀ (a0 a1 a2 : Int32) (σ : St), Spc l shC dd md_Th_work [.ref 62, .int a0, .int a1, .int a2] σ (rec 1 a0 a1 a2 0 σ)) (p1 : Int32) (p2 : Int32) (p3 : Int32) (σ : St) : Spc l shC (dd + 1) md_Th_work [.ref 62, .int p1, .int p2, .int p3] σ (Th_work rec p1 p2 p3 σ) := by
  refine Spc_of_Ux [(0, .ref 62), (1, .int p1), (2, .int p2), (3, .int p3)] (by decide) rfl (Nat.le_of_ble_eq_true rfl) ?_
  unfold Th_work
  refine ux_iload_n (dg hd_Th_work 0 rfl) rfl ?_
  refine ux_case (10 : Int32) (fun _ => ?_) (fun c1 => ?_)
  · refine ux_look 116 (dg hd_Th_work 1 rfl) rfl rfl (by decide) ?_
    refine ux_iload_n (dg hd_Th_work 2 rfl) rfl ?_
    refine ux_aload_n (dg hd_Th_work 3 rfl) rfl ?_
    refine ux_get fcX5 4 (by decide) wk_263 rfl rfl (dg hd_Th_work 4 rfl) ?_
    refine ux_iadd (dg hd_Th_work 5 rfl) ?_
    exact ux_iret rfl (dg hd_Th_work 6 rfl)
  refine ux_case (11 : Int32) (fun _ => ?_) (fun c4 => ?_)
  · refine ux_look 123 (dg hd_Th_work 1 rfl) rfl rfl (by decide) ?_
    refine ux_aload_n (dg hd_Th_work 7 rfl) rfl ?_
    refine ux_aload_n (dg hd_Th_work 8 rfl) rfl ?_
    refine ux_get fcX5 3 (by decide) wk_262 rfl rfl (dg hd_Th_work 9 rfl) ?_
    refine ux_iconst (0 : Int32) (dg hd_Th_work 10 rfl) (by decide) ?_
    refine ux_iload_n (dg hd_Th_work 11 rfl) rfl ?_
    refine ux_iload_n (dg hd_Th_work 12 rfl) rfl ?_
    refine ux_callVi (As := [.int (σ.1 62 3), .int (0 : Int32), .int p2, .int p3]) (hr0 (σ.1 62 3) (0 : Int32) p2 p3 _) (by omega) cv_Th_say wk_664 rfl rfl rfl rfl rfl (Nat.le_of_ble_eq_true rfl) (dg hd_Th_work 13 rfl) (fun r2 σ3 _ => ?_)
    refine ux_iconst (2 : Int32) (dg hd_Th_work 14 rfl) (by decide) ?_
    refine ux_imul (dg hd_Th_work 15 rfl) ?_
    exact ux_iret rfl (dg hd_Th_work 16 rfl)
  refine ux_case (12 : Int32) (fun _ => ?_) (fun c7 => ?_)
  · refine ux_look 137 (dg hd_Th_work 1 rfl) rfl rfl (by decide) ?_
    refine ux_aload_n (dg hd_Th_work 17 rfl) rfl ?_
    refine ux_aload_n (dg hd_Th_work 18 rfl) rfl ?_
    refine ux_get fcX5 3 (by decide) wk_262 rfl rfl (dg hd_Th_work 19 rfl) ?_
    refine ux_iconst (1 : Int32) (dg hd_Th_work 20 rfl) (by decide) ?_
    refine ux_iload_n (dg hd_Th_work 21 rfl) rfl ?_
    refine ux_iload_n (dg hd_Th_work 22 rfl) rfl ?_
    refine ux_callVi (As := [.int (σ.1 62 3), .int (1 : Int32), .int p2, .int p3]) (hr0 (σ.1 62 3) (1 : Int32) p2 p3 _) (by omega) cv_Th_say wk_664 rfl rfl rfl rfl rfl (Nat.le_of_ble_eq_true rfl) (dg hd_Th_work 23 rfl) (fun r5 σ6 _ => ?_)
    refine ux_aload_n (dg hd_Th_work 24 rfl) rfl ?_
    refine ux_get fcX5 5 (by decide) wk_264 rfl rfl (dg hd_Th_work 25 rfl) ?_
    refine ux_isub (dg hd_Th_work 26 rfl) ?_
    exact ux_iret rfl (dg hd_Th_work 27 rfl)
  refine ux_case (13 : Int32) (fun _ => ?_) (fun c10 => ?_)
  · refine ux_look 154 (dg hd_Th_work 1 rfl) rfl rfl (by decide) ?_
    refine ux_aload_n (dg hd_Th_work 28 rfl) rfl ?_
    refine ux_iload_n (dg hd_Th_work 29 rfl) rfl ?_
    refine ux_callVi (As := [.int p2]) (sp_Th_part l p2 _) (by omega) cv_Th_part wk_679 rfl rfl rfl rfl rfl (Nat.le_of_ble_eq_true rfl) (dg hd_Th_work 30 rfl) (fun r8 σ9 _ => ?_)
    exact ux_iret rfl (dg hd_Th_work 31 rfl)
  refine ux_case (20 : Int32) (fun _ => ?_) (fun c13 => ?_)
  · refine ux_look 160 (dg hd_Th_work 1 rfl) rfl rfl (by decide) ?_
    refine ux_aload_n (dg hd_Th_work 32 rfl) rfl ?_
    refine ux_iconst (0 : Int32) (dg hd_Th_work 33 rfl) (by decide) ?_
    refine ux_iconst (0 : Int32) (dg hd_Th_work 34 rfl) (by decide) ?_
    refine ux_iload_n (dg hd_Th_work 35 rfl) rfl ?_
    refine ux_iload_n (dg hd_Th_work 36 rfl) rfl ?_
    refine ux_callVi (As := [.int (0 : Int32), .int (0 : Int32), .int p2, .int p3]) (hr0 (0 : Int32) (0 : Int32) p2 p3 _) (by omega) cv_Th_say wk_664 rfl rfl rfl rfl rfl (Nat.le_of_ble_eq_true rfl) (dg hd_Th_work 37 rfl) (fun r11 σ12 _ => ?_)
    refine ux_iconst (4 : Int32) (dg hd_Th_work 38 rfl) (by decide) ?_
    refine ux_isub (dg hd_Th_work 39 rfl) ?_
    exact ux_iret rfl (dg hd_Th_work 40 rfl)
  refine ux_case (21 : Int32) (fun _ => ?_) (fun c18 => ?_)
  · refine ux_look 171 (dg hd_Th_work 1 rfl) rfl rfl (by decide) ?_
    refine ux_aload_n (dg hd_Th_work 41 rfl) rfl ?_
    refine ux_iconst (0 : Int32) (dg hd_Th_work 42 rfl) (by decide) ?_
    refine ux_iconst (3 : Int32) (dg hd_Th_work 43 rfl) (by decide) ?_
    refine ux_iload_n (dg hd_Th_work 44 rfl) rfl ?_
    refine ux_iload_n (dg hd_Th_work 45 rfl) rfl ?_
    refine ux_callVi (As := [.int (0 : Int32), .int (3 : Int32), .int p2, .int p3]) (hr0 (0 : Int32) (3 : Int32) p2 p3 _) (by omega) cv_Th_say wk_664 rfl rfl rfl rfl rfl (Nat.le_of_ble_eq_true rfl) (dg hd_Th_work 46 rfl) (fun r14 σ15 _ => ?_)
    refine ux_aload_n (dg hd_Th_work 47 rfl) rfl ?_
    refine ux_aload_n (dg hd_Th_work 48 rfl) rfl ?_
    refine ux_get fcX5 3 (by decide) wk_262 rfl rfl (dg hd_Th_work 49 rfl) ?_
    refine ux_iconst (1 : Int32) (dg hd_Th_work 50 rfl) (by decide) ?_
    refine ux_iconst (1 : Int32) (dg hd_Th_work 51 rfl) (by decide) ?_
    refine ux_iload_n (dg hd_Th_work 52 rfl) rfl ?_
    refine ux_callVi (As := [.int (σ15.1 62 3), .int (1 : Int32), .int (1 : Int32), .int p3]) (hr0 (σ15.1 62 3) (1 : Int32) (1 : Int32) p3 _) (by omega) cv_Th_say wk_664 rfl rfl rfl rfl rfl (Nat.le_of_ble_eq_true rfl) (dg hd_Th_work 53 rfl) (fun r16 σ17 _ => ?_)
    refine ux_iadd (dg hd_Th_work 54 rfl) ?_
    exact ux_iret rfl (dg hd_Th_work 55 rfl)
  refine ux_case (30 : Int32) (fun _ => ?_) (fun c21 => ?_)
  · refine ux_look 192 (dg hd_Th_work 1 rfl) rfl rfl (by decide) ?_
    refine ux_iconst (0 : Int32) (dg hd_Th_work 56 rfl) (by decide) ?_
    refine ux_aload_n (dg hd_Th_work 57 rfl) rfl ?_
    refine ux_iconst (0 : Int32) (dg hd_Th_work 58 rfl) (by decide) ?_
    refine ux_iconst (1 : Int32) (dg hd_Th_work 59 rfl) (by decide) ?_
    refine ux_iload_n (dg hd_Th_work 60 rfl) rfl ?_
    refine ux_iload_n (dg hd_Th_work 61 rfl) rfl ?_
    refine ux_callVi (As := [.int (0 : Int32), .int (1 : Int32), .int p2, .int p3]) (hr0 (0 : Int32) (1 : Int32) p2 p3 _) (by omega) cv_Th_say wk_664 rfl rfl rfl rfl rfl (Nat.le_of_ble_eq_true rfl) (dg hd_Th_work 62 rfl) (fun r19 σ20 _ => ?_)
    refine ux_isub (dg hd_Th_work 63 rfl) ?_
    exact ux_iret rfl (dg hd_Th_work 64 rfl)
  refine ux_case (40 : Int32) (fun _ => ?_) (fun c24 => ?_)
  · refine ux_look 203 (dg hd_Th_work 1 rfl) rfl rfl (by decide) ?_
    refine ux_aload_n (dg hd_Th_work 65 rfl) rfl ?_
    refine ux_iconst (0 : Int32) (dg hd_Th_work 66 rfl) (by decide) ?_
    refine ux_iconst (2 : Int32) (dg hd_Th_work 67 rfl) (by decide) ?_
    refine ux_iload_n (dg hd_Th_work 68 rfl) rfl ?_
    refine ux_iconst (2 : Int32) (dg hd_Th_work 69 rfl) (by decide) ?_
    refine ux_idiv (dg hd_Th_work 70 rfl) ?_
    refine ux_iload_n (dg hd_Th_work 71 rfl) rfl ?_
    refine ux_callVi (As := [.int (0 : Int32), .int (2 : Int32), .int (p2 / (2 : Int32)), .int p3]) (hr0 (0 : Int32) (2 : Int32) (p2 / (2 : Int32)) p3 _) (by omega) cv_Th_say wk_664 rfl rfl rfl rfl rfl (Nat.le_of_ble_eq_true rfl) (dg hd_Th_work 72 rfl) (fun r22 σ23 _ => ?_)
    exact ux_iret rfl (dg hd_Th_work 73 rfl)
  refine ux_case (50 : Int32) (fun _ => ?_) (fun c27 => ?_)
  · refine ux_look 214 (dg hd_Th_work 1 rfl) rfl rfl (by decide) ?_
    refine ux_aload_n (dg hd_Th_work 74 rfl) rfl ?_
    refine ux_iconst (1 : Int32) (dg hd_Th_work 75 rfl) (by decide) ?_
    refine ux_iconst (0 : Int32) (dg hd_Th_work 76 rfl) (by decide) ?_
    refine ux_iload_n (dg hd_Th_work 77 rfl) rfl ?_
    refine ux_iload_n (dg hd_Th_work 78 rfl) rfl ?_
    refine ux_callVi (As := [.int (1 : Int32), .int (0 : Int32), .int p2, .int p3]) (hr0 (1 : Int32) (0 : Int32) p2 p3 _) (by omega) cv_Th_say wk_664 rfl rfl rfl rfl rfl (Nat.le_of_ble_eq_true rfl) (dg hd_Th_work 79 rfl) (fun r25 σ26 _ => ?_)
    refine ux_iconst (3 : Int32) (dg hd_Th_work 80 rfl) (by decide) ?_
    refine ux_imul (dg hd_Th_work 81 rfl) ?_
    exact ux_iret rfl (dg hd_Th_work 82 rfl)
  refine ux_case (51 : Int32) (fun _ => ?_) (fun c30 => ?_)
  · refine ux_look 225 (dg hd_Th_work 1 rfl) rfl rfl (by decide) ?_
    refine ux_aload_n (dg hd_Th_work 83 rfl) rfl ?_
    refine ux_iconst (1 : Int32) (dg hd_Th_work 84 rfl) (by decide) ?_
    refine ux_iconst (2 : Int32) (dg hd_Th_work 85 rfl) (by decide) ?_
    refine ux_iload_n (dg hd_Th_work 86 rfl) rfl ?_
    refine ux_iload_n (dg hd_Th_work 87 rfl) rfl ?_
    refine ux_callVi (As := [.int (1 : Int32), .int (2 : Int32), .int p2, .int p3]) (hr0 (1 : Int32) (2 : Int32) p2 p3 _) (by omega) cv_Th_say wk_664 rfl rfl rfl rfl rfl (Nat.le_of_ble_eq_true rfl) (dg hd_Th_work 88 rfl) (fun r28 σ29 _ => ?_)
    refine ux_aload_n (dg hd_Th_work 89 rfl) rfl ?_
    refine ux_get fcX5 4 (by decide) wk_263 rfl rfl (dg hd_Th_work 90 rfl) ?_
    refine ux_ixor (dg hd_Th_work 91 rfl) ?_
    exact ux_iret rfl (dg hd_Th_work 92 rfl)
  refine ux_case (60 : Int32) (fun _ => ?_) (fun c33 => ?_)
  · refine ux_look 239 (dg hd_Th_work 1 rfl) rfl rfl (by decide) ?_
    refine ux_aload_n (dg hd_Th_work 93 rfl) rfl ?_
    refine ux_iconst (2 : Int32) (dg hd_Th_work 94 rfl) (by decide) ?_
    refine ux_iconst (1 : Int32) (dg hd_Th_work 95 rfl) (by decide) ?_
    refine ux_iload_n (dg hd_Th_work 96 rfl) rfl ?_
    refine ux_iconst (1 : Int32) (dg hd_Th_work 97 rfl) (by decide) ?_
    refine ux_iadd (dg hd_Th_work 98 rfl) ?_
    refine ux_iload_n (dg hd_Th_work 99 rfl) rfl ?_
    refine ux_callVi (As := [.int (2 : Int32), .int (1 : Int32), .int (p2 + (1 : Int32)), .int p3]) (hr0 (2 : Int32) (1 : Int32) (p2 + (1 : Int32)) p3 _) (by omega) cv_Th_say wk_664 rfl rfl rfl rfl rfl (Nat.le_of_ble_eq_true rfl) (dg hd_Th_work 100 rfl) (fun r31 σ32 _ => ?_)
    exact ux_iret rfl (dg hd_Th_work 101 rfl)
  refine ux_case (70 : Int32) (fun _ => ?_) (fun c34 => ?_)
  · refine ux_look 250 (dg hd_Th_work 1 rfl) rfl rfl (by decide) ?_
    refine ux_bipush (9 : Int32) (dg hd_Th_work 102 rfl) (by decide) ?_
    exact ux_iret rfl (dg hd_Th_work 103 rfl)
  refine ux_case (71 : Int32) (fun _ => ?_) (fun c37 => ?_)
  · refine ux_look 253 (dg hd_Th_work 1 rfl) rfl rfl (by decide) ?_
    refine ux_aload_n (dg hd_Th_work 104 rfl) rfl ?_
    refine ux_iconst (0 : Int32) (dg hd_Th_work 105 rfl) (by decide) ?_
    refine ux_iconst (1 : Int32) (dg hd_Th_work 106 rfl) (by decide) ?_
    refine ux_iload_n (dg hd_Th_work 107 rfl) rfl ?_
    refine ux_iload_n (dg hd_Th_work 108 rfl) rfl ?_
    refine ux_callVi (As := [.int (0 : Int32), .int (1 : Int32), .int p2, .int p3]) (hr0 (0 : Int32) (1 : Int32) p2 p3 _) (by omega) cv_Th_say wk_664 rfl rfl rfl rfl rfl (Nat.le_of_ble_eq_true rfl) (dg hd_Th_work 109 rfl) (fun r35 σ36 _ => ?_)
    refine ux_aload_n (dg hd_Th_work 110 rfl) rfl ?_
    refine ux_get fcX5 5 (by decide) wk_264 rfl rfl (dg hd_Th_work 111 rfl) ?_
    refine ux_iadd (dg hd_Th_work 112 rfl) ?_
    exact ux_iret rfl (dg hd_Th_work 113 rfl)
  refine ux_look (off := 266) 267 (dg hd_Th_work 1 rfl) rfl ((lv_osw (a := 10) c1 (by decide)).trans <| (lv_osw (a := 11) c4 (by decide)).trans <| (lv_osw (a := 12) c7 (by decide)).trans <| (lv_osw (a := 13) c10 (by decide)).trans <| (lv_osw (a := 20) c13 (by decide)).trans <| (lv_osw (a := 21) c18 (by decide)).trans <| (lv_osw (a := 30) c21 (by decide)).trans <| (lv_osw (a := 40) c24 (by decide)).trans <| (lv_osw (a := 50) c27 (by decide)).trans <| (lv_osw (a := 51) c30 (by decide)).trans <| (lv_osw (a := 60) c33 (by decide)).trans <| (lv_osw (a := 70) c34 (by decide)).trans <| (lv_osw (a := 71) c37 (by decide)).trans <| rfl) (by decide) ?_
  refine ux_iconst (0 : Int32) (dg hd_Th_work 114 rfl) (by decide) ?_
  exact ux_iret rfl (dg hd_Th_work 115 rfl)
def Th_grp (dd : Nat) : Nat → Int32 → Int32 → Int32 → Int32 → St → Option (Int32 × St) := match dd with
  | 0 => fun _ _ _ _ _ _ => none
  | dd + 1 => fun k a0 a1 a2 a3 σ => match k with
    | 0 => Th_say (fun k a0 a1 a2 a3 σ => Th_grp dd k a0 a1 a2 a3 σ) a0 a1 a2 a3 σ
    | 1 => Th_work (fun k a0 a1 a2 a3 σ => Th_grp dd k a0 a1 a2 a3 σ) a0 a1 a2 σ
    | _ => none
set_option maxHeartbeats 4000000 in
theorem sg_Th_grp (l : Launch) : ∀ n : Nat, (∀ (a0 a1 a2 a3 : Int32) (σ : St), Spc l shC (4 + n) md_Th_say [.ref 62, .int a0, .int a1, .int a2, .int a3] σ (Th_grp n 0 a0 a1 a2 a3 σ)) ∧ (∀ (a0 a1 a2 : Int32) (σ : St), Spc l shC (4 + n) md_Th_work [.ref 62, .int a0, .int a1, .int a2] σ (Th_grp n 1 a0 a1 a2 0 σ)) := by
  intro n
  induction n with
  | zero => exact ⟨fun _ _ _ _ _ r σ1 h => (by cases h), fun _ _ _ _ r σ1 h => (by cases h)⟩
  | succ n ih =>
    obtain ⟨h0, h1⟩ := ih
    exact ⟨fun a0 a1 a2 a3 σ => wg_Th_say l (Th_grp n) (4 + n) (Nat.le_add_right _ _) h0 h1 a0 a1 a2 a3 σ, fun a0 a1 a2 σ => wg_Th_work l (Th_grp n) (4 + n) (Nat.le_add_right _ _) h0 h1 a0 a1 a2 σ⟩
theorem sp_Th_say (l : Launch) (n : Nat) (a0 a1 a2 a3 : Int32) (σ : St) : Spc l shC (4 + n) md_Th_say [.ref 62, .int a0, .int a1, .int a2, .int a3] σ (Th_grp n 0 a0 a1 a2 a3 σ) := (sg_Th_grp l n).1 a0 a1 a2 a3 σ
theorem sp_Th_work (l : Launch) (n : Nat) (a0 a1 a2 : Int32) (σ : St) : Spc l shC (4 + n) md_Th_work [.ref 62, .int a0, .int a1, .int a2] σ (Th_grp n 1 a0 a1 a2 0 σ) := (sg_Th_grp l n).2 a0 a1 a2 σ
def Th_speak (p1 : Int32) (p2 : Int32) (p3 : Int32) (p4 : Int32) (p5 : Int32) (σ : St) : Option (Int32 × St) :=
  nas (sF σ 62 3 p1) (fun σ1 =>
  nas (sF σ1 62 4 p2) (fun σ2 =>
  nas (sF σ2 62 5 p3) (fun σ3 =>
  nas (sF σ3 62 1 (0 : Int32)) (fun σ4 =>
  nas (sF σ4 62 2 (0 : Int32)) (fun σ5 =>
  bnd (Th_grp 60 0 (σ5.1 62 3) p4 p5 (0 : Int32) σ5) (fun r6 σ7 =>
  some (r6, σ7)))))))
set_option maxRecDepth 100000 in
theorem sp_Th_speak (l : Launch) (p1 : Int32) (p2 : Int32) (p3 : Int32) (p4 : Int32) (p5 : Int32) (σ : St) : Spc l shC 65 md_Th_speak [.ref 62, .int p1, .int p2, .int p3, .int p4, .int p5] σ (Th_speak p1 p2 p3 p4 p5 σ) := by
  refine Spc_of_Ux [(0, .ref 62), (1, .int p1), (2, .int p2), (3, .int p3), (4, .int p4), (5, .int p5)] (by decide) rfl (Nat.le_of_ble_eq_true rfl) ?_
  unfold Th_speak
  refine ux_aload_n (dg hd_Th_speak 0 rfl) rfl ?_
  refine ux_iload_n (dg hd_Th_speak 1 rfl) rfl ?_
  refine ux_put fcX5 3 (by decide) wk_262 rfl rfl ⟨rfl, rfl⟩ rfl rfl (dg hd_Th_speak 2 rfl) ?_
  refine ux_nas (fun σ1 => ?_)
  refine ux_aload_n (dg hd_Th_speak 3 rfl) rfl ?_
  refine ux_iload_n (dg hd_Th_speak 4 rfl) rfl ?_
  refine ux_put fcX5 4 (by decide) wk_263 rfl rfl ⟨rfl, rfl⟩ rfl rfl (dg hd_Th_speak 5 rfl) ?_
  refine ux_nas (fun σ2 => ?_)
  refine ux_aload_n (dg hd_Th_speak 6 rfl) rfl ?_
  refine ux_iload_n (dg hd_Th_speak 7 rfl) rfl ?_
  refine ux_put fcX5 5 (by decide) wk_264 rfl rfl ⟨rfl, rfl⟩ rfl rfl (dg hd_Th_speak 8 rfl) ?_
  refine ux_nas (fun σ3 => ?_)
  refine ux_aload_n (dg hd_Th_speak 9 rfl) rfl ?_
  refine ux_iconst (0 : Int32) (dg hd_Th_speak 10 rfl) (by decide) ?_
  refine ux_put fcX5 1 (by decide) wk_258 rfl rfl ⟨rfl, rfl⟩ rfl rfl (dg hd_Th_speak 11 rfl) ?_
  refine ux_nas (fun σ4 => ?_)
  refine ux_aload_n (dg hd_Th_speak 12 rfl) rfl ?_
  refine ux_iconst (0 : Int32) (dg hd_Th_speak 13 rfl) (by decide) ?_
  refine ux_put fcX5 2 (by decide) wk_260 rfl rfl (isB_n (by decide)) rfl rfl (dg hd_Th_speak 14 rfl) ?_
  refine ux_nas (fun σ5 => ?_)
  refine ux_aload_n (dg hd_Th_speak 15 rfl) rfl ?_
  refine ux_aload_n (dg hd_Th_speak 16 rfl) rfl ?_
  refine ux_get fcX5 3 (by decide) wk_262 rfl rfl (dg hd_Th_speak 17 rfl) ?_
  refine ux_iload (dg hd_Th_speak 18 rfl) rfl ?_
  refine ux_iload (dg hd_Th_speak 19 rfl) rfl ?_
  refine ux_iconst (0 : Int32) (dg hd_Th_speak 20 rfl) (by decide) ?_
  refine ux_callVi (As := [.int (σ5.1 62 3), .int p4, .int p5, .int (0 : Int32)]) (sp_Th_say l 60 (σ5.1 62 3) p4 p5 (0 : Int32) _) (by omega) cv_Th_say wk_664 rfl rfl rfl rfl rfl (Nat.le_of_ble_eq_true rfl) (dg hd_Th_speak 21 rfl) (fun r6 σ7 _ => ?_)
  exact ux_iret rfl (dg hd_Th_speak 22 rfl)
