def Rd_isNext (p1 : Int32) (σ : St) : Option (Int32 × St) :=
  if (σ.1 46 6) = (0 : Int32) then (
  if (σ.1 46 3) ≤ (σ.1 46 4) then (
  some ((0 : Int32), σ)) else (
  grd (inb (σ.1 46 4) 60) (
  if (σ.2 48 (σ.1 46 4).toNatClampNeg) = p1 then (
  some ((1 : Int32), σ)) else (
  some ((0 : Int32), σ))))) else (
  some ((0 : Int32), σ))
set_option maxRecDepth 100000 in
theorem sp_Rd_isNext (l : Launch) (p1 : Int32) (σ : St) : Spc l shC 2 md_Rd_isNext [.ref 46, .int p1] σ (Rd_isNext p1 σ) := by
  refine Spc_of_Ux [(0, .ref 46), (1, .int p1)] (by decide) rfl (Nat.le_of_ble_eq_true rfl) ?_
  unfold Rd_isNext
  refine ux_aload_n (dg hd_Rd_isNext 0 rfl) rfl ?_
  refine ux_get fcX0 6 (by decide) wk_212 rfl rfl (dg hd_Rd_isNext 1 rfl) ?_
  refine ux_if_ne 35 (dg hd_Rd_isNext 2 rfl) (by decide) (fun _ => ?_) (fun _ => ?_)
  · refine ux_aload_n (dg hd_Rd_isNext 3 rfl) rfl ?_
    refine ux_get fcX0 4 (by decide) wk_210 rfl rfl (dg hd_Rd_isNext 4 rfl) ?_
    refine ux_aload_n (dg hd_Rd_isNext 5 rfl) rfl ?_
    refine ux_get fcX0 3 (by decide) wk_209 rfl rfl (dg hd_Rd_isNext 6 rfl) ?_
    refine ux_icmp_ge 35 (dg hd_Rd_isNext 7 rfl) (by decide) (fun _ => ?_) (fun _ => ?_)
    · refine ux_iconst (0 : Int32) (dg hd_Rd_isNext 17 rfl) (by decide) ?_
      exact ux_zret rfl (dg hd_Rd_isNext 18 rfl) (isB_n (by decide))
    · refine ux_aload_n (dg hd_Rd_isNext 8 rfl) rfl ?_
      refine ux_getr (q := 48) fcX0 2 (by decide) wk_208 rfl rfl (dg hd_Rd_isNext 9 rfl) ?_
      refine ux_aload_n (dg hd_Rd_isNext 10 rfl) rfl ?_
      refine ux_get fcX0 4 (by decide) wk_210 rfl rfl (dg hd_Rd_isNext 11 rfl) ?_
      refine ux_iald rfl (dg hd_Rd_isNext 12 rfl) ?_
      refine ux_iload_n (dg hd_Rd_isNext 13 rfl) rfl ?_
      refine ux_icmp_ne 35 (dg hd_Rd_isNext 14 rfl) (by decide) (fun _ => ?_) (fun _ => ?_)
      · refine ux_iconst (1 : Int32) (dg hd_Rd_isNext 15 rfl) (by decide) ?_
        refine ux_goto 36 (dg hd_Rd_isNext 16 rfl) (by decide) ?_
        exact ux_zret rfl (dg hd_Rd_isNext 18 rfl) (isB_n (by decide))
      · refine ux_iconst (0 : Int32) (dg hd_Rd_isNext 17 rfl) (by decide) ?_
        exact ux_zret rfl (dg hd_Rd_isNext 18 rfl) (isB_n (by decide))
  · refine ux_iconst (0 : Int32) (dg hd_Rd_isNext 17 rfl) (by decide) ?_
    exact ux_zret rfl (dg hd_Rd_isNext 18 rfl) (isB_n (by decide))
def Rd_write (p1 : Int32) (σ : St) : Option (Int32 × St) :=
  if (60 : Int32) ≤ (σ.1 46 1) then (
  some (0, σ)) else (
  grd (inb (σ.1 46 1) 60) (
  nas (sA σ 47 (σ.1 46 1).toNatClampNeg p1) (fun σ1 =>
  nas (sF σ1 46 1 ((σ1.1 46 1) + (1 : Int32))) (fun σ2 =>
  some (0, σ2)))))
set_option maxRecDepth 100000 in
theorem sp_Rd_write (l : Launch) (p1 : Int32) (σ : St) : Spc l shC 2 md_Rd_write [.ref 46, .int p1] σ (Rd_write p1 σ) := by
  refine Spc_of_Ux [(0, .ref 46), (1, .int p1)] (by decide) rfl (Nat.le_of_ble_eq_true rfl) ?_
  unfold Rd_write
  refine ux_aload_n (dg hd_Rd_write 0 rfl) rfl ?_
  refine ux_get fcX0 1 (by decide) wk_206 rfl rfl (dg hd_Rd_write 1 rfl) ?_
  refine ux_bipush (60 : Int32) (dg hd_Rd_write 2 rfl) (by decide) ?_
  refine ux_icmp_ge 29 (dg hd_Rd_write 3 rfl) (by decide) (fun _ => ?_) (fun _ => ?_)
  · exact ux_vret rfl (dg hd_Rd_write 16 rfl)
  · refine ux_aload_n (dg hd_Rd_write 4 rfl) rfl ?_
    refine ux_getr (q := 47) fcX0 0 (by decide) wk_204 rfl rfl (dg hd_Rd_write 5 rfl) ?_
    refine ux_aload_n (dg hd_Rd_write 6 rfl) rfl ?_
    refine ux_get fcX0 1 (by decide) wk_206 rfl rfl (dg hd_Rd_write 7 rfl) ?_
    refine ux_iload_n (dg hd_Rd_write 8 rfl) rfl ?_
    refine ux_iast rfl (dg hd_Rd_write 9 rfl) ?_
    refine ux_nas (fun σ1 => ?_)
    refine ux_aload_n (dg hd_Rd_write 10 rfl) rfl ?_
    refine ux_dupr (dg hd_Rd_write 11 rfl) ?_
    refine ux_get fcX0 1 (by decide) wk_206 rfl rfl (dg hd_Rd_write 12 rfl) ?_
    refine ux_iconst (1 : Int32) (dg hd_Rd_write 13 rfl) (by decide) ?_
    refine ux_iadd (dg hd_Rd_write 14 rfl) ?_
    refine ux_put fcX0 1 (by decide) wk_206 rfl rfl ⟨rfl, rfl⟩ rfl rfl (dg hd_Rd_write 15 rfl) ?_
    refine ux_nas (fun σ2 => ?_)
    exact ux_vret rfl (dg hd_Rd_write 16 rfl)
def Rd_nextName_L2 : Nat → Int32 → St → Option (Int32 × St)
  | 0, _, _ => none
  | n + 1, x1, σ =>
    if (3 : Int32) ≤ x1 then (
    some ((-1 : Int32), σ)) else (
    nam (((σ.1 46 5) * (3 : Int32)) + x1) (fun y1 =>
    if (6 : Int32) ≤ y1 then (
    nam (x1 + (1 : Int32)) (fun y2 =>
    Rd_nextName_L2 n y2 σ)) else (
    grd (inb y1 6) (
    bnd (Rd_isNext (tbN.getD y1.toNatClampNeg 0) σ) (fun r3 σ4 =>
    if r3 = (0 : Int32) then (
    nam (x1 + (1 : Int32)) (fun y5 =>
    Rd_nextName_L2 n y5 σ4)) else (
    some (x1, σ4)))))))
set_option maxRecDepth 100000 in
theorem wk_Rd_nextName_L2 (l : Launch) : ∀ (n : Nat) (x1 : Int32) (σ : St), Ux l shC 3 md_Rd_nextName 2 [(0, .ref 46), (1, .int x1)] [] σ (Rd_nextName_L2 n x1 σ) := by
  intro n
  induction n with
  | zero => intros; exact ux_none
  | succ n ih =>
    intro x1 σ
    unfold Rd_nextName_L2
    refine ux_iload_n (dg hd_Rd_nextName 2 rfl) rfl ?_
    refine ux_iconst (3 : Int32) (dg hd_Rd_nextName 3 rfl) (by decide) ?_
    refine ux_icmp_ge 44 (dg hd_Rd_nextName 4 rfl) (by decide) (fun _ => ?_) (fun _ => ?_)
    · refine ux_iconst (-1 : Int32) (dg hd_Rd_nextName 26 rfl) (by decide) ?_
      exact ux_iret rfl (dg hd_Rd_nextName 27 rfl)
    · refine ux_aload_n (dg hd_Rd_nextName 5 rfl) rfl ?_
      refine ux_get fcX0 5 (by decide) wk_211 rfl rfl (dg hd_Rd_nextName 6 rfl) ?_
      refine ux_iconst (3 : Int32) (dg hd_Rd_nextName 7 rfl) (by decide) ?_
      refine ux_imul (dg hd_Rd_nextName 8 rfl) ?_
      refine ux_iload_n (dg hd_Rd_nextName 9 rfl) rfl ?_
      refine ux_iadd (dg hd_Rd_nextName 10 rfl) ?_
      refine ux_nam (fun y1 => ?_)
      refine ux_istore_n [(2, .int y1), (0, .ref 46), (1, .int x1)] (dg hd_Rd_nextName 11 rfl) (by decide) rfl ?_
      refine ux_iload_n (dg hd_Rd_nextName 12 rfl) rfl ?_
      refine ux_gets (kk := 2) rfl wk_509 (dg hd_Rd_nextName 13 rfl) ?_
      refine ux_tlen (kk := 2) (6 : Int32) rfl rfl (dg hd_Rd_nextName 14 rfl) ?_
      refine ux_icmp_ge 38 (dg hd_Rd_nextName 15 rfl) (by decide) (fun _ => ?_) (fun _ => ?_)
      · refine ux_iincN (1 : Int32) (fun y2 => [(1, .int y2), (2, .int y1), (0, .ref 46)]) (dg hd_Rd_nextName 24 rfl) rfl (by decide) (by decide) (fun _ => rfl) (fun y2 => ?_)
        refine ux_goto 2 (dg hd_Rd_nextName 25 rfl) (by decide) ?_
        refine ux_wk [(0, .ref 46), (1, .int y2)] [2, 0] rfl ?_
        exact ih y2 σ
      · refine ux_aload_n (dg hd_Rd_nextName 16 rfl) rfl ?_
        refine ux_gets (kk := 2) rfl wk_509 (dg hd_Rd_nextName 17 rfl) ?_
        refine ux_iload_n (dg hd_Rd_nextName 18 rfl) rfl ?_
        refine ux_tcald (kk := 2) (tab := tbN) rfl rfl (dg hd_Rd_nextName 19 rfl) ?_
        refine ux_callVi (As := [.int (tbN.getD y1.toNatClampNeg 0)]) (sp_Rd_isNext l (tbN.getD y1.toNatClampNeg 0) _) (by omega) cv_Rd_isNext wk_511 rfl rfl rfl rfl rfl (Nat.le_of_ble_eq_true rfl) (dg hd_Rd_nextName 20 rfl) (fun r3 σ4 _ => ?_)
        refine ux_if_eq 38 (dg hd_Rd_nextName 21 rfl) (by decide) (fun _ => ?_) (fun _ => ?_)
        · refine ux_iincN (1 : Int32) (fun y5 => [(1, .int y5), (2, .int y1), (0, .ref 46)]) (dg hd_Rd_nextName 24 rfl) rfl (by decide) (by decide) (fun _ => rfl) (fun y5 => ?_)
          refine ux_goto 2 (dg hd_Rd_nextName 25 rfl) (by decide) ?_
          refine ux_wk [(0, .ref 46), (1, .int y5)] [2, 0] rfl ?_
          exact ih y5 σ4
        · refine ux_iload_n (dg hd_Rd_nextName 22 rfl) rfl ?_
          exact ux_iret rfl (dg hd_Rd_nextName 23 rfl)
def Rd_nextName  (σ : St) : Option (Int32 × St) :=
  Rd_nextName_L2 1000 (0 : Int32) σ
set_option maxRecDepth 100000 in
theorem sp_Rd_nextName (l : Launch) (σ : St) : Spc l shC 3 md_Rd_nextName [.ref 46] σ (Rd_nextName  σ) := by
  refine Spc_of_Ux [(0, .ref 46)] (by decide) rfl (Nat.le_of_ble_eq_true rfl) ?_
  unfold Rd_nextName
  refine ux_iconst (0 : Int32) (dg hd_Rd_nextName 0 rfl) (by decide) ?_
  refine ux_istore_n [(1, .int (0 : Int32)), (0, .ref 46)] (dg hd_Rd_nextName 1 rfl) (by decide) rfl ?_
  refine ux_wk [(0, .ref 46), (1, .int (0 : Int32))] [1, 0] rfl ?_
  exact wk_Rd_nextName_L2 l 1000 (0 : Int32) σ
def Rd_isDigit  (σ : St) : Option (Int32 × St) :=
  if (σ.1 46 6) = (0 : Int32) then (
  if (σ.1 46 3) ≤ (σ.1 46 4) then (
  some ((0 : Int32), σ)) else (
  grd (inb (σ.1 46 4) 60) (
  if (σ.2 48 (σ.1 46 4).toNatClampNeg) < (48 : Int32) then (
  some ((0 : Int32), σ)) else (
  grd (inb (σ.1 46 4) 60) (
  if (57 : Int32) < (σ.2 48 (σ.1 46 4).toNatClampNeg) then (
  some ((0 : Int32), σ)) else (
  some ((1 : Int32), σ))))))) else (
  some ((0 : Int32), σ))
set_option maxRecDepth 100000 in
theorem sp_Rd_isDigit (l : Launch) (σ : St) : Spc l shC 2 md_Rd_isDigit [.ref 46] σ (Rd_isDigit  σ) := by
  refine Spc_of_Ux [(0, .ref 46)] (by decide) rfl (Nat.le_of_ble_eq_true rfl) ?_
  unfold Rd_isDigit
  refine ux_aload_n (dg hd_Rd_isDigit 0 rfl) rfl ?_
  refine ux_get fcX0 6 (by decide) wk_212 rfl rfl (dg hd_Rd_isDigit 1 rfl) ?_
  refine ux_if_ne 50 (dg hd_Rd_isDigit 2 rfl) (by decide) (fun _ => ?_) (fun _ => ?_)
  · refine ux_aload_n (dg hd_Rd_isDigit 3 rfl) rfl ?_
    refine ux_get fcX0 4 (by decide) wk_210 rfl rfl (dg hd_Rd_isDigit 4 rfl) ?_
    refine ux_aload_n (dg hd_Rd_isDigit 5 rfl) rfl ?_
    refine ux_get fcX0 3 (by decide) wk_209 rfl rfl (dg hd_Rd_isDigit 6 rfl) ?_
    refine ux_icmp_ge 50 (dg hd_Rd_isDigit 7 rfl) (by decide) (fun _ => ?_) (fun _ => ?_)
    · refine ux_iconst (0 : Int32) (dg hd_Rd_isDigit 24 rfl) (by decide) ?_
      exact ux_zret rfl (dg hd_Rd_isDigit 25 rfl) (isB_n (by decide))
    · refine ux_aload_n (dg hd_Rd_isDigit 8 rfl) rfl ?_
      refine ux_getr (q := 48) fcX0 2 (by decide) wk_208 rfl rfl (dg hd_Rd_isDigit 9 rfl) ?_
      refine ux_aload_n (dg hd_Rd_isDigit 10 rfl) rfl ?_
      refine ux_get fcX0 4 (by decide) wk_210 rfl rfl (dg hd_Rd_isDigit 11 rfl) ?_
      refine ux_iald rfl (dg hd_Rd_isDigit 12 rfl) ?_
      refine ux_bipush (48 : Int32) (dg hd_Rd_isDigit 13 rfl) (by decide) ?_
      refine ux_icmp_lt 50 (dg hd_Rd_isDigit 14 rfl) (by decide) (fun _ => ?_) (fun _ => ?_)
      · refine ux_iconst (0 : Int32) (dg hd_Rd_isDigit 24 rfl) (by decide) ?_
        exact ux_zret rfl (dg hd_Rd_isDigit 25 rfl) (isB_n (by decide))
      · refine ux_aload_n (dg hd_Rd_isDigit 15 rfl) rfl ?_
        refine ux_getr (q := 48) fcX0 2 (by decide) wk_208 rfl rfl (dg hd_Rd_isDigit 16 rfl) ?_
        refine ux_aload_n (dg hd_Rd_isDigit 17 rfl) rfl ?_
        refine ux_get fcX0 4 (by decide) wk_210 rfl rfl (dg hd_Rd_isDigit 18 rfl) ?_
        refine ux_iald rfl (dg hd_Rd_isDigit 19 rfl) ?_
        refine ux_bipush (57 : Int32) (dg hd_Rd_isDigit 20 rfl) (by decide) ?_
        refine ux_icmp_gt 50 (dg hd_Rd_isDigit 21 rfl) (by decide) (fun _ => ?_) (fun _ => ?_)
        · refine ux_iconst (0 : Int32) (dg hd_Rd_isDigit 24 rfl) (by decide) ?_
          exact ux_zret rfl (dg hd_Rd_isDigit 25 rfl) (isB_n (by decide))
        · refine ux_iconst (1 : Int32) (dg hd_Rd_isDigit 22 rfl) (by decide) ?_
          refine ux_goto 51 (dg hd_Rd_isDigit 23 rfl) (by decide) ?_
          exact ux_zret rfl (dg hd_Rd_isDigit 25 rfl) (isB_n (by decide))
  · refine ux_iconst (0 : Int32) (dg hd_Rd_isDigit 24 rfl) (by decide) ?_
    exact ux_zret rfl (dg hd_Rd_isDigit 25 rfl) (isB_n (by decide))
def Rd_readNumber_L4 : Nat → Int32 → Int32 → St → Option (Int32 × St)
  | 0, _, _, _ => none
  | n + 1, x1, x2, σ =>
    if (4 : Int32) ≤ x2 then (
    bnd (Rd_write x1 σ) (fun r1 σ2 =>
    some (0, σ2))) else (
    bnd (Rd_isDigit  σ) (fun r3 σ4 =>
    if r3 = (0 : Int32) then (
    bnd (Rd_write x1 σ4) (fun r5 σ6 =>
    some (0, σ6))) else (
    grd (inb (σ4.1 46 4) 60) (
    nam (((x1 * (10 : Int32)) + (σ4.2 48 (σ4.1 46 4).toNatClampNeg)) - (48 : Int32)) (fun y7 =>
    nas (sF σ4 46 4 ((σ4.1 46 4) + (1 : Int32))) (fun σ8 =>
    nam (x2 + (1 : Int32)) (fun y9 =>
    Rd_readNumber_L4 n y7 y9 σ8)))))))
set_option maxRecDepth 100000 in
theorem wk_Rd_readNumber_L4 (l : Launch) : ∀ (n : Nat) (x1 x2 : Int32) (σ : St), Ux l shC 3 md_Rd_readNumber 4 [(0, .ref 46), (1, .int x1), (2, .int x2)] [] σ (Rd_readNumber_L4 n x1 x2 σ) := by
  intro n
  induction n with
  | zero => intros; exact ux_none
  | succ n ih =>
    intro x1 x2 σ
    unfold Rd_readNumber_L4
    refine ux_iload_n (dg hd_Rd_readNumber 4 rfl) rfl ?_
    refine ux_iconst (4 : Int32) (dg hd_Rd_readNumber 5 rfl) (by decide) ?_
    refine ux_icmp_ge 50 (dg hd_Rd_readNumber 6 rfl) (by decide) (fun _ => ?_) (fun _ => ?_)
    · refine ux_aload_n (dg hd_Rd_readNumber 30 rfl) rfl ?_
      refine ux_iload_n (dg hd_Rd_readNumber 31 rfl) rfl ?_
      refine ux_callVv (As := [.int x1]) (sp_Rd_write l x1 _) (by omega) cv_Rd_write wk_515 rfl rfl rfl rfl rfl (Nat.le_of_ble_eq_true rfl) (dg hd_Rd_readNumber 32 rfl) (fun r1 σ2 _ => ?_)
      exact ux_vret rfl (dg hd_Rd_readNumber 33 rfl)
    · refine ux_aload_n (dg hd_Rd_readNumber 7 rfl) rfl ?_
      refine ux_callVi (As := []) (sp_Rd_isDigit l  _) (by omega) cv_Rd_isDigit wk_519 rfl rfl rfl rfl rfl (Nat.le_of_ble_eq_true rfl) (dg hd_Rd_readNumber 8 rfl) (fun r3 σ4 _ => ?_)
      refine ux_if_eq 50 (dg hd_Rd_readNumber 9 rfl) (by decide) (fun _ => ?_) (fun _ => ?_)
      · refine ux_aload_n (dg hd_Rd_readNumber 30 rfl) rfl ?_
        refine ux_iload_n (dg hd_Rd_readNumber 31 rfl) rfl ?_
        refine ux_callVv (As := [.int x1]) (sp_Rd_write l x1 _) (by omega) cv_Rd_write wk_515 rfl rfl rfl rfl rfl (Nat.le_of_ble_eq_true rfl) (dg hd_Rd_readNumber 32 rfl) (fun r5 σ6 _ => ?_)
        exact ux_vret rfl (dg hd_Rd_readNumber 33 rfl)
      · refine ux_iload_n (dg hd_Rd_readNumber 10 rfl) rfl ?_
        refine ux_bipush (10 : Int32) (dg hd_Rd_readNumber 11 rfl) (by decide) ?_
        refine ux_imul (dg hd_Rd_readNumber 12 rfl) ?_
        refine ux_aload_n (dg hd_Rd_readNumber 13 rfl) rfl ?_
        refine ux_getr (q := 48) fcX0 2 (by decide) wk_208 rfl rfl (dg hd_Rd_readNumber 14 rfl) ?_
        refine ux_aload_n (dg hd_Rd_readNumber 15 rfl) rfl ?_
        refine ux_get fcX0 4 (by decide) wk_210 rfl rfl (dg hd_Rd_readNumber 16 rfl) ?_
        refine ux_iald rfl (dg hd_Rd_readNumber 17 rfl) ?_
        refine ux_iadd (dg hd_Rd_readNumber 18 rfl) ?_
        refine ux_bipush (48 : Int32) (dg hd_Rd_readNumber 19 rfl) (by decide) ?_
        refine ux_isub (dg hd_Rd_readNumber 20 rfl) ?_
        refine ux_nam (fun y7 => ?_)
        refine ux_istore_n [(1, .int y7), (0, .ref 46), (2, .int x2)] (dg hd_Rd_readNumber 21 rfl) (by decide) rfl ?_
        refine ux_aload_n (dg hd_Rd_readNumber 22 rfl) rfl ?_
        refine ux_dupr (dg hd_Rd_readNumber 23 rfl) ?_
        refine ux_get fcX0 4 (by decide) wk_210 rfl rfl (dg hd_Rd_readNumber 24 rfl) ?_
        refine ux_iconst (1 : Int32) (dg hd_Rd_readNumber 25 rfl) (by decide) ?_
        refine ux_iadd (dg hd_Rd_readNumber 26 rfl) ?_
        refine ux_put fcX0 4 (by decide) wk_210 rfl rfl ⟨rfl, rfl⟩ rfl rfl (dg hd_Rd_readNumber 27 rfl) ?_
        refine ux_nas (fun σ8 => ?_)
        refine ux_iincN (1 : Int32) (fun y9 => [(2, .int y9), (1, .int y7), (0, .ref 46)]) (dg hd_Rd_readNumber 28 rfl) rfl (by decide) (by decide) (fun _ => rfl) (fun y9 => ?_)
        refine ux_goto 4 (dg hd_Rd_readNumber 29 rfl) (by decide) ?_
        refine ux_wk [(0, .ref 46), (1, .int y7), (2, .int y9)] [2, 1, 0] rfl ?_
        exact ih y7 y9 σ8
def Rd_readNumber  (σ : St) : Option (Int32 × St) :=
  Rd_readNumber_L4 1000 (0 : Int32) (0 : Int32) σ
set_option maxRecDepth 100000 in
theorem sp_Rd_readNumber (l : Launch) (σ : St) : Spc l shC 3 md_Rd_readNumber [.ref 46] σ (Rd_readNumber  σ) := by
  refine Spc_of_Ux [(0, .ref 46)] (by decide) rfl (Nat.le_of_ble_eq_true rfl) ?_
  unfold Rd_readNumber
  refine ux_iconst (0 : Int32) (dg hd_Rd_readNumber 0 rfl) (by decide) ?_
  refine ux_istore_n [(1, .int (0 : Int32)), (0, .ref 46)] (dg hd_Rd_readNumber 1 rfl) (by decide) rfl ?_
  refine ux_iconst (0 : Int32) (dg hd_Rd_readNumber 2 rfl) (by decide) ?_
  refine ux_istore_n [(2, .int (0 : Int32)), (1, .int (0 : Int32)), (0, .ref 46)] (dg hd_Rd_readNumber 3 rfl) (by decide) rfl ?_
  refine ux_wk [(0, .ref 46), (1, .int (0 : Int32)), (2, .int (0 : Int32))] [2, 1, 0] rfl ?_
  exact wk_Rd_readNumber_L4 l 1000 (0 : Int32) (0 : Int32) σ
def Rd_close  (σ : St) : Option (Int32 × St) :=
  bnd (Rd_isNext (41 : Int32) σ) (fun r1 σ2 =>
  if r1 = (0 : Int32) then (
  nas (sF σ2 46 6 (1 : Int32)) (fun σ3 =>
  some (0, σ3))) else (
  nas (sF σ2 46 4 ((σ2.1 46 4) + (1 : Int32))) (fun σ4 =>
  some (0, σ4))))
set_option maxRecDepth 100000 in
theorem sp_Rd_close (l : Launch) (σ : St) : Spc l shC 3 md_Rd_close [.ref 46] σ (Rd_close  σ) := by
  refine Spc_of_Ux [(0, .ref 46)] (by decide) rfl (Nat.le_of_ble_eq_true rfl) ?_
  unfold Rd_close
  refine ux_aload_n (dg hd_Rd_close 0 rfl) rfl ?_
  refine ux_bipush (41 : Int32) (dg hd_Rd_close 1 rfl) (by decide) ?_
  refine ux_callVi (As := [.int (41 : Int32)]) (sp_Rd_isNext l (41 : Int32) _) (by omega) cv_Rd_isNext wk_511 rfl rfl rfl rfl rfl (Nat.le_of_ble_eq_true rfl) (dg hd_Rd_close 2 rfl) (fun r1 σ2 _ => ?_)
  refine ux_if_eq 22 (dg hd_Rd_close 3 rfl) (by decide) (fun _ => ?_) (fun _ => ?_)
  · refine ux_aload_n (dg hd_Rd_close 11 rfl) rfl ?_
    refine ux_iconst (1 : Int32) (dg hd_Rd_close 12 rfl) (by decide) ?_
    refine ux_put fcX0 6 (by decide) wk_212 rfl rfl (isB_n (by decide)) rfl rfl (dg hd_Rd_close 13 rfl) ?_
    refine ux_nas (fun σ3 => ?_)
    exact ux_vret rfl (dg hd_Rd_close 14 rfl)
  · refine ux_aload_n (dg hd_Rd_close 4 rfl) rfl ?_
    refine ux_dupr (dg hd_Rd_close 5 rfl) ?_
    refine ux_get fcX0 4 (by decide) wk_210 rfl rfl (dg hd_Rd_close 6 rfl) ?_
    refine ux_iconst (1 : Int32) (dg hd_Rd_close 7 rfl) (by decide) ?_
    refine ux_iadd (dg hd_Rd_close 8 rfl) ?_
    refine ux_put fcX0 4 (by decide) wk_210 rfl rfl ⟨rfl, rfl⟩ rfl rfl (dg hd_Rd_close 9 rfl) ?_
    refine ux_nas (fun σ4 => ?_)
    refine ux_goto 27 (dg hd_Rd_close 10 rfl) (by decide) ?_
    exact ux_vret rfl (dg hd_Rd_close 14 rfl)
def Rd_readOr_L7 (rec : Nat → Int32 → St → Option (Int32 × St)) : Nat → Int32 → Int32 → St → Option (Int32 × St)
  | 0, _, _, _ => none
  | n + 1, x1, x2, σ =>
    if (60 : Int32) ≤ x2 then (
    some (0, σ)) else (
    bnd (Rd_isNext (124 : Int32) σ) (fun r3 σ4 =>
    if r3 = (0 : Int32) then (
    some (0, σ4)) else (
    nas (sF σ4 46 4 ((σ4.1 46 4) + (1 : Int32))) (fun σ5 =>
    bnd (rec 1 x1 σ5) (fun r6 σ7 =>
    bnd (Rd_write (-124 : Int32) σ7) (fun r8 σ9 =>
    nam (x2 + (1 : Int32)) (fun y10 =>
    Rd_readOr_L7 rec n x1 y10 σ9)))))))
set_option maxRecDepth 100000 in
theorem wk_Rd_readOr_L7 (l : Launch) (rec : Nat → Int32 → St → Option (Int32 × St)) (dd : Nat) (hdd : 4 ≤ dd) (hr0 : ∀ (a0 : Int32) (σ : St), Spc l shC dd md_Rd_readOr [.ref 46, .int a0] σ (rec 0 a0 σ)) (hr1 : ∀ (a0 : Int32) (σ : St), Spc l shC dd md_Rd_readAnd [.ref 46, .int a0] σ (rec 1 a0 σ)) (hr2 : ∀ (a0 : Int32) (σ : St), Spc l shC dd md_Rd_readLikeness [.ref 46, .int a0] σ (rec 2 a0 σ)) (hr3 : ∀ (a0 : Int32) (σ : St), Spc l shC dd md_Rd_readSum [.ref 46, .int a0] σ (rec 3 a0 σ)) (hr4 : ∀ (a0 : Int32) (σ : St), Spc l shC dd md_Rd_readProduct [.ref 46, .int a0] σ (rec 4 a0 σ)) (hr5 : ∀ (a0 : Int32) (σ : St), Spc l shC dd md_Rd_readPart [.ref 46, .int a0] σ (rec 5 a0 σ)) : ∀ (n : Nat) (x1 x2 : Int32) (σ : St), Ux l shC (dd + 1) md_Rd_readOr 7 [(0, .ref 46), (1, .int x1), (2, .int x2)] [] σ (Rd_readOr_L7 rec n x1 x2 σ) := by
  intro n
  induction n with
  | zero => intros; exact ux_none
  | succ n ih =>
    intro x1 x2 σ
    unfold Rd_readOr_L7
    refine ux_iload_n (dg hd_Rd_readOr 5 rfl) rfl ?_
    refine ux_bipush (60 : Int32) (dg hd_Rd_readOr 6 rfl) (by decide) ?_
    refine ux_icmp_ge 49 (dg hd_Rd_readOr 7 rfl) (by decide) (fun _ => ?_) (fun _ => ?_)
    · exact ux_vret rfl (dg hd_Rd_readOr 26 rfl)
    · refine ux_aload_n (dg hd_Rd_readOr 8 rfl) rfl ?_
      refine ux_bipush (124 : Int32) (dg hd_Rd_readOr 9 rfl) (by decide) ?_
      refine ux_callVi (As := [.int (124 : Int32)]) (sp_Rd_isNext l (124 : Int32) _) (by omega) cv_Rd_isNext wk_511 rfl rfl rfl rfl rfl (Nat.le_of_ble_eq_true rfl) (dg hd_Rd_readOr 10 rfl) (fun r3 σ4 _ => ?_)
      refine ux_if_eq 49 (dg hd_Rd_readOr 11 rfl) (by decide) (fun _ => ?_) (fun _ => ?_)
      · exact ux_vret rfl (dg hd_Rd_readOr 26 rfl)
      · refine ux_aload_n (dg hd_Rd_readOr 12 rfl) rfl ?_
        refine ux_dupr (dg hd_Rd_readOr 13 rfl) ?_
        refine ux_get fcX0 4 (by decide) wk_210 rfl rfl (dg hd_Rd_readOr 14 rfl) ?_
        refine ux_iconst (1 : Int32) (dg hd_Rd_readOr 15 rfl) (by decide) ?_
        refine ux_iadd (dg hd_Rd_readOr 16 rfl) ?_
        refine ux_put fcX0 4 (by decide) wk_210 rfl rfl ⟨rfl, rfl⟩ rfl rfl (dg hd_Rd_readOr 17 rfl) ?_
        refine ux_nas (fun σ5 => ?_)
        refine ux_aload_n (dg hd_Rd_readOr 18 rfl) rfl ?_
        refine ux_iload_n (dg hd_Rd_readOr 19 rfl) rfl ?_
        refine ux_callVv (As := [.int x1]) (hr1 x1 _) (by omega) cv_Rd_readAnd wk_485 rfl rfl rfl rfl rfl (Nat.le_of_ble_eq_true rfl) (dg hd_Rd_readOr 20 rfl) (fun r6 σ7 _ => ?_)
        refine ux_aload_n (dg hd_Rd_readOr 21 rfl) rfl ?_
        refine ux_bipush (-124 : Int32) (dg hd_Rd_readOr 22 rfl) (by decide) ?_
        refine ux_callVv (As := [.int (-124 : Int32)]) (sp_Rd_write l (-124 : Int32) _) (by omega) cv_Rd_write wk_515 rfl rfl rfl rfl rfl (Nat.le_of_ble_eq_true rfl) (dg hd_Rd_readOr 23 rfl) (fun r8 σ9 _ => ?_)
        refine ux_iincN (1 : Int32) (fun y10 => [(2, .int y10), (0, .ref 46), (1, .int x1)]) (dg hd_Rd_readOr 24 rfl) rfl (by decide) (by decide) (fun _ => rfl) (fun y10 => ?_)
        refine ux_goto 7 (dg hd_Rd_readOr 25 rfl) (by decide) ?_
        refine ux_wk [(0, .ref 46), (1, .int x1), (2, .int y10)] [1, 2, 0] rfl ?_
        exact ih x1 y10 σ9
def Rd_readOr (rec : Nat → Int32 → St → Option (Int32 × St)) (p1 : Int32) (σ : St) : Option (Int32 × St) :=
  bnd (rec 1 p1 σ) (fun r1 σ2 =>
  Rd_readOr_L7 rec 1000 p1 (0 : Int32) σ2)
set_option maxRecDepth 100000 in
theorem wg_Rd_readOr (l : Launch) (rec : Nat → Int32 → St → Option (Int32 × St)) (dd : Nat) (hdd : 4 ≤ dd) (hr0 : ∀ (a0 : Int32) (σ : St), Spc l shC dd md_Rd_readOr [.ref 46, .int a0] σ (rec 0 a0 σ)) (hr1 : ∀ (a0 : Int32) (σ : St), Spc l shC dd md_Rd_readAnd [.ref 46, .int a0] σ (rec 1 a0 σ)) (hr2 : ∀ (a0 : Int32) (σ : St), Spc l shC dd md_Rd_readLikeness [.ref 46, .int a0] σ (rec 2 a0 σ)) (hr3 : ∀ (a0 : Int32) (σ : St), Spc l shC dd md_Rd_readSum [.ref 46, .int a0] σ (rec 3 a0 σ)) (hr4 : ∀ (a0 : Int32) (σ : St), Spc l shC dd md_Rd_readProduct [.ref 46, .int a0] σ (rec 4 a0 σ)) (hr5 : ∀ (a0 : Int32) (σ : St), Spc l shC dd md_Rd_readPart [.ref 46, .int a0] σ (rec 5 a0 σ)) (p1 : Int32) (σ : St) : Spc l shC (dd + 1) md_Rd_readOr [.ref 46, .int p1] σ (Rd_readOr rec p1 σ) := by
  refine Spc_of_Ux [(0, .ref 46), (1, .int p1)] (by decide) rfl (Nat.le_of_ble_eq_true rfl) ?_
  unfold Rd_readOr
  refine ux_aload_n (dg hd_Rd_readOr 0 rfl) rfl ?_
  refine ux_iload_n (dg hd_Rd_readOr 1 rfl) rfl ?_
  refine ux_callVv (As := [.int p1]) (hr1 p1 _) (by omega) cv_Rd_readAnd wk_485 rfl rfl rfl rfl rfl (Nat.le_of_ble_eq_true rfl) (dg hd_Rd_readOr 2 rfl) (fun r1 σ2 _ => ?_)
  refine ux_iconst (0 : Int32) (dg hd_Rd_readOr 3 rfl) (by decide) ?_
  refine ux_istore_n [(2, .int (0 : Int32)), (0, .ref 46), (1, .int p1)] (dg hd_Rd_readOr 4 rfl) (by decide) rfl ?_
  refine ux_wk [(0, .ref 46), (1, .int p1), (2, .int (0 : Int32))] [1, 2, 0] rfl ?_
  exact wk_Rd_readOr_L7 l rec dd hdd hr0 hr1 hr2 hr3 hr4 hr5 1000 p1 (0 : Int32) σ2
def Rd_readAnd_L7 (rec : Nat → Int32 → St → Option (Int32 × St)) : Nat → Int32 → Int32 → St → Option (Int32 × St)
  | 0, _, _, _ => none
  | n + 1, x1, x2, σ =>
    if (60 : Int32) ≤ x2 then (
    some (0, σ)) else (
    bnd (Rd_isNext (38 : Int32) σ) (fun r3 σ4 =>
    if r3 = (0 : Int32) then (
    some (0, σ4)) else (
    nas (sF σ4 46 4 ((σ4.1 46 4) + (1 : Int32))) (fun σ5 =>
    bnd (rec 2 x1 σ5) (fun r6 σ7 =>
    bnd (Rd_write (-38 : Int32) σ7) (fun r8 σ9 =>
    nam (x2 + (1 : Int32)) (fun y10 =>
    Rd_readAnd_L7 rec n x1 y10 σ9)))))))
set_option maxRecDepth 100000 in
theorem wk_Rd_readAnd_L7 (l : Launch) (rec : Nat → Int32 → St → Option (Int32 × St)) (dd : Nat) (hdd : 4 ≤ dd) (hr0 : ∀ (a0 : Int32) (σ : St), Spc l shC dd md_Rd_readOr [.ref 46, .int a0] σ (rec 0 a0 σ)) (hr1 : ∀ (a0 : Int32) (σ : St), Spc l shC dd md_Rd_readAnd [.ref 46, .int a0] σ (rec 1 a0 σ)) (hr2 : ∀ (a0 : Int32) (σ : St), Spc l shC dd md_Rd_readLikeness [.ref 46, .int a0] σ (rec 2 a0 σ)) (hr3 : ∀ (a0 : Int32) (σ : St), Spc l shC dd md_Rd_readSum [.ref 46, .int a0] σ (rec 3 a0 σ)) (hr4 : ∀ (a0 : Int32) (σ : St), Spc l shC dd md_Rd_readProduct [.ref 46, .int a0] σ (rec 4 a0 σ)) (hr5 : ∀ (a0 : Int32) (σ : St), Spc l shC dd md_Rd_readPart [.ref 46, .int a0] σ (rec 5 a0 σ)) : ∀ (n : Nat) (x1 x2 : Int32) (σ : St), Ux l shC (dd + 1) md_Rd_readAnd 7 [(0, .ref 46), (1, .int x1), (2, .int x2)] [] σ (Rd_readAnd_L7 rec n x1 x2 σ) := by
  intro n
  induction n with
  | zero => intros; exact ux_none
  | succ n ih =>
    intro x1 x2 σ
    unfold Rd_readAnd_L7
    refine ux_iload_n (dg hd_Rd_readAnd 5 rfl) rfl ?_
    refine ux_bipush (60 : Int32) (dg hd_Rd_readAnd 6 rfl) (by decide) ?_
    refine ux_icmp_ge 49 (dg hd_Rd_readAnd 7 rfl) (by decide) (fun _ => ?_) (fun _ => ?_)
    · exact ux_vret rfl (dg hd_Rd_readAnd 26 rfl)
    · refine ux_aload_n (dg hd_Rd_readAnd 8 rfl) rfl ?_
      refine ux_bipush (38 : Int32) (dg hd_Rd_readAnd 9 rfl) (by decide) ?_
      refine ux_callVi (As := [.int (38 : Int32)]) (sp_Rd_isNext l (38 : Int32) _) (by omega) cv_Rd_isNext wk_511 rfl rfl rfl rfl rfl (Nat.le_of_ble_eq_true rfl) (dg hd_Rd_readAnd 10 rfl) (fun r3 σ4 _ => ?_)
      refine ux_if_eq 49 (dg hd_Rd_readAnd 11 rfl) (by decide) (fun _ => ?_) (fun _ => ?_)
      · exact ux_vret rfl (dg hd_Rd_readAnd 26 rfl)
      · refine ux_aload_n (dg hd_Rd_readAnd 12 rfl) rfl ?_
        refine ux_dupr (dg hd_Rd_readAnd 13 rfl) ?_
        refine ux_get fcX0 4 (by decide) wk_210 rfl rfl (dg hd_Rd_readAnd 14 rfl) ?_
        refine ux_iconst (1 : Int32) (dg hd_Rd_readAnd 15 rfl) (by decide) ?_
        refine ux_iadd (dg hd_Rd_readAnd 16 rfl) ?_
        refine ux_put fcX0 4 (by decide) wk_210 rfl rfl ⟨rfl, rfl⟩ rfl rfl (dg hd_Rd_readAnd 17 rfl) ?_
        refine ux_nas (fun σ5 => ?_)
        refine ux_aload_n (dg hd_Rd_readAnd 18 rfl) rfl ?_
        refine ux_iload_n (dg hd_Rd_readAnd 19 rfl) rfl ?_
        refine ux_callVv (As := [.int x1]) (hr2 x1 _) (by omega) cv_Rd_readLikeness wk_489 rfl rfl rfl rfl rfl (Nat.le_of_ble_eq_true rfl) (dg hd_Rd_readAnd 20 rfl) (fun r6 σ7 _ => ?_)
        refine ux_aload_n (dg hd_Rd_readAnd 21 rfl) rfl ?_
        refine ux_bipush (-38 : Int32) (dg hd_Rd_readAnd 22 rfl) (by decide) ?_
        refine ux_callVv (As := [.int (-38 : Int32)]) (sp_Rd_write l (-38 : Int32) _) (by omega) cv_Rd_write wk_515 rfl rfl rfl rfl rfl (Nat.le_of_ble_eq_true rfl) (dg hd_Rd_readAnd 23 rfl) (fun r8 σ9 _ => ?_)
        refine ux_iincN (1 : Int32) (fun y10 => [(2, .int y10), (0, .ref 46), (1, .int x1)]) (dg hd_Rd_readAnd 24 rfl) rfl (by decide) (by decide) (fun _ => rfl) (fun y10 => ?_)
        refine ux_goto 7 (dg hd_Rd_readAnd 25 rfl) (by decide) ?_
        refine ux_wk [(0, .ref 46), (1, .int x1), (2, .int y10)] [1, 2, 0] rfl ?_
        exact ih x1 y10 σ9
def Rd_readAnd (rec : Nat → Int32 → St → Option (Int32 × St)) (p1 : Int32) (σ : St) : Option (Int32 × St) :=
  bnd (rec 2 p1 σ) (fun r1 σ2 =>
  Rd_readAnd_L7 rec 1000 p1 (0 : Int32) σ2)
set_option maxRecDepth 100000 in
theorem wg_Rd_readAnd (l : Launch) (rec : Nat → Int32 → St → Option (Int32 × St)) (dd : Nat) (hdd : 4 ≤ dd) (hr0 : ∀ (a0 : Int32) (σ : St), Spc l shC dd md_Rd_readOr [.ref 46, .int a0] σ (rec 0 a0 σ)) (hr1 : ∀ (a0 : Int32) (σ : St), Spc l shC dd md_Rd_readAnd [.ref 46, .int a0] σ (rec 1 a0 σ)) (hr2 : ∀ (a0 : Int32) (σ : St), Spc l shC dd md_Rd_readLikeness [.ref 46, .int a0] σ (rec 2 a0 σ)) (hr3 : ∀ (a0 : Int32) (σ : St), Spc l shC dd md_Rd_readSum [.ref 46, .int a0] σ (rec 3 a0 σ)) (hr4 : ∀ (a0 : Int32) (σ : St), Spc l shC dd md_Rd_readProduct [.ref 46, .int a0] σ (rec 4 a0 σ)) (hr5 : ∀ (a0 : Int32) (σ : St), Spc l shC dd md_Rd_readPart [.ref 46, .int a0] σ (rec 5 a0 σ)) (p1 : Int32) (σ : St) : Spc l shC (dd + 1) md_Rd_readAnd [.ref 46, .int p1] σ (Rd_readAnd rec p1 σ) := by
  refine Spc_of_Ux [(0, .ref 46), (1, .int p1)] (by decide) rfl (Nat.le_of_ble_eq_true rfl) ?_
  unfold Rd_readAnd
  refine ux_aload_n (dg hd_Rd_readAnd 0 rfl) rfl ?_
  refine ux_iload_n (dg hd_Rd_readAnd 1 rfl) rfl ?_
  refine ux_callVv (As := [.int p1]) (hr2 p1 _) (by omega) cv_Rd_readLikeness wk_489 rfl rfl rfl rfl rfl (Nat.le_of_ble_eq_true rfl) (dg hd_Rd_readAnd 2 rfl) (fun r1 σ2 _ => ?_)
  refine ux_iconst (0 : Int32) (dg hd_Rd_readAnd 3 rfl) (by decide) ?_
  refine ux_istore_n [(2, .int (0 : Int32)), (0, .ref 46), (1, .int p1)] (dg hd_Rd_readAnd 4 rfl) (by decide) rfl ?_
  refine ux_wk [(0, .ref 46), (1, .int p1), (2, .int (0 : Int32))] [1, 2, 0] rfl ?_
  exact wk_Rd_readAnd_L7 l rec dd hdd hr0 hr1 hr2 hr3 hr4 hr5 1000 p1 (0 : Int32) σ2
def Rd_readLikeness (rec : Nat → Int32 → St → Option (Int32 × St)) (p1 : Int32) (σ : St) : Option (Int32 × St) :=
  bnd (rec 3 p1 σ) (fun r1 σ2 =>
  bnd (Rd_isNext (60 : Int32) σ2) (fun r3 σ4 =>
  if r3 = (0 : Int32) then (
  bnd (Rd_isNext (61 : Int32) σ4) (fun r11 σ12 =>
  if r11 = (0 : Int32) then (
  bnd (Rd_isNext (62 : Int32) σ12) (fun r19 σ20 =>
  if r19 = (0 : Int32) then (
  some (0, σ20)) else (
  grd (inb (σ20.1 46 4) 60) (
  nam (σ20.2 48 (σ20.1 46 4).toNatClampNeg) (fun y21 =>
  nas (sF σ20 46 4 ((σ20.1 46 4) + (1 : Int32))) (fun σ22 =>
  bnd (rec 3 p1 σ22) (fun r23 σ24 =>
  bnd (Rd_write (-y21) σ24) (fun r25 σ26 =>
  some (0, σ26))))))))) else (
  grd (inb (σ12.1 46 4) 60) (
  nam (σ12.2 48 (σ12.1 46 4).toNatClampNeg) (fun y13 =>
  nas (sF σ12 46 4 ((σ12.1 46 4) + (1 : Int32))) (fun σ14 =>
  bnd (rec 3 p1 σ14) (fun r15 σ16 =>
  bnd (Rd_write (-y13) σ16) (fun r17 σ18 =>
  some (0, σ18))))))))) else (
  grd (inb (σ4.1 46 4) 60) (
  nam (σ4.2 48 (σ4.1 46 4).toNatClampNeg) (fun y5 =>
  nas (sF σ4 46 4 ((σ4.1 46 4) + (1 : Int32))) (fun σ6 =>
  bnd (rec 3 p1 σ6) (fun r7 σ8 =>
  bnd (Rd_write (-y5) σ8) (fun r9 σ10 =>
  some (0, σ10)))))))))
set_option maxRecDepth 100000 in
theorem wg_Rd_readLikeness (l : Launch) (rec : Nat → Int32 → St → Option (Int32 × St)) (dd : Nat) (hdd : 4 ≤ dd) (hr0 : ∀ (a0 : Int32) (σ : St), Spc l shC dd md_Rd_readOr [.ref 46, .int a0] σ (rec 0 a0 σ)) (hr1 : ∀ (a0 : Int32) (σ : St), Spc l shC dd md_Rd_readAnd [.ref 46, .int a0] σ (rec 1 a0 σ)) (hr2 : ∀ (a0 : Int32) (σ : St), Spc l shC dd md_Rd_readLikeness [.ref 46, .int a0] σ (rec 2 a0 σ)) (hr3 : ∀ (a0 : Int32) (σ : St), Spc l shC dd md_Rd_readSum [.ref 46, .int a0] σ (rec 3 a0 σ)) (hr4 : ∀ (a0 : Int32) (σ : St), Spc l shC dd md_Rd_readProduct [.ref 46, .int a0] σ (rec 4 a0 σ)) (hr5 : ∀ (a0 : Int32) (σ : St), Spc l shC dd md_Rd_readPart [.ref 46, .int a0] σ (rec 5 a0 σ)) (p1 : Int32) (σ : St) : Spc l shC (dd + 1) md_Rd_readLikeness [.ref 46, .int p1] σ (Rd_readLikeness rec p1 σ) := by
  refine Spc_of_Ux [(0, .ref 46), (1, .int p1)] (by decide) rfl (Nat.le_of_ble_eq_true rfl) ?_
  unfold Rd_readLikeness
  refine ux_aload_n (dg hd_Rd_readLikeness 0 rfl) rfl ?_
  refine ux_iload_n (dg hd_Rd_readLikeness 1 rfl) rfl ?_
  refine ux_callVv (As := [.int p1]) (hr3 p1 _) (by omega) cv_Rd_readSum wk_493 rfl rfl rfl rfl rfl (Nat.le_of_ble_eq_true rfl) (dg hd_Rd_readLikeness 2 rfl) (fun r1 σ2 _ => ?_)
  refine ux_aload_n (dg hd_Rd_readLikeness 3 rfl) rfl ?_
  refine ux_bipush (60 : Int32) (dg hd_Rd_readLikeness 4 rfl) (by decide) ?_
  refine ux_callVi (As := [.int (60 : Int32)]) (sp_Rd_isNext l (60 : Int32) _) (by omega) cv_Rd_isNext wk_511 rfl rfl rfl rfl rfl (Nat.le_of_ble_eq_true rfl) (dg hd_Rd_readLikeness 5 rfl) (fun r3 σ4 _ => ?_)
  refine ux_if_ne 32 (dg hd_Rd_readLikeness 6 rfl) (by decide) (fun _ => ?_) (fun _ => ?_)
  · refine ux_aload_n (dg hd_Rd_readLikeness 7 rfl) rfl ?_
    refine ux_bipush (61 : Int32) (dg hd_Rd_readLikeness 8 rfl) (by decide) ?_
    refine ux_callVi (As := [.int (61 : Int32)]) (sp_Rd_isNext l (61 : Int32) _) (by omega) cv_Rd_isNext wk_511 rfl rfl rfl rfl rfl (Nat.le_of_ble_eq_true rfl) (dg hd_Rd_readLikeness 9 rfl) (fun r11 σ12 _ => ?_)
    refine ux_if_ne 32 (dg hd_Rd_readLikeness 10 rfl) (by decide) (fun _ => ?_) (fun _ => ?_)
    · refine ux_aload_n (dg hd_Rd_readLikeness 11 rfl) rfl ?_
      refine ux_bipush (62 : Int32) (dg hd_Rd_readLikeness 12 rfl) (by decide) ?_
      refine ux_callVi (As := [.int (62 : Int32)]) (sp_Rd_isNext l (62 : Int32) _) (by omega) cv_Rd_isNext wk_511 rfl rfl rfl rfl rfl (Nat.le_of_ble_eq_true rfl) (dg hd_Rd_readLikeness 13 rfl) (fun r19 σ20 _ => ?_)
      refine ux_if_eq 63 (dg hd_Rd_readLikeness 14 rfl) (by decide) (fun _ => ?_) (fun _ => ?_)
      · exact ux_vret rfl (dg hd_Rd_readLikeness 34 rfl)
      · refine ux_aload_n (dg hd_Rd_readLikeness 15 rfl) rfl ?_
        refine ux_getr (q := 48) fcX0 2 (by decide) wk_208 rfl rfl (dg hd_Rd_readLikeness 16 rfl) ?_
        refine ux_aload_n (dg hd_Rd_readLikeness 17 rfl) rfl ?_
        refine ux_get fcX0 4 (by decide) wk_210 rfl rfl (dg hd_Rd_readLikeness 18 rfl) ?_
        refine ux_iald rfl (dg hd_Rd_readLikeness 19 rfl) ?_
        refine ux_nam (fun y21 => ?_)
        refine ux_istore_n [(2, .int y21), (0, .ref 46), (1, .int p1)] (dg hd_Rd_readLikeness 20 rfl) (by decide) rfl ?_
        refine ux_aload_n (dg hd_Rd_readLikeness 21 rfl) rfl ?_
        refine ux_dupr (dg hd_Rd_readLikeness 22 rfl) ?_
        refine ux_get fcX0 4 (by decide) wk_210 rfl rfl (dg hd_Rd_readLikeness 23 rfl) ?_
        refine ux_iconst (1 : Int32) (dg hd_Rd_readLikeness 24 rfl) (by decide) ?_
        refine ux_iadd (dg hd_Rd_readLikeness 25 rfl) ?_
        refine ux_put fcX0 4 (by decide) wk_210 rfl rfl ⟨rfl, rfl⟩ rfl rfl (dg hd_Rd_readLikeness 26 rfl) ?_
        refine ux_nas (fun σ22 => ?_)
        refine ux_aload_n (dg hd_Rd_readLikeness 27 rfl) rfl ?_
        refine ux_iload_n (dg hd_Rd_readLikeness 28 rfl) rfl ?_
        refine ux_callVv (As := [.int p1]) (hr3 p1 _) (by omega) cv_Rd_readSum wk_493 rfl rfl rfl rfl rfl (Nat.le_of_ble_eq_true rfl) (dg hd_Rd_readLikeness 29 rfl) (fun r23 σ24 _ => ?_)
        refine ux_aload_n (dg hd_Rd_readLikeness 30 rfl) rfl ?_
        refine ux_iload_n (dg hd_Rd_readLikeness 31 rfl) rfl ?_
        refine ux_ineg (dg hd_Rd_readLikeness 32 rfl) ?_
        refine ux_callVv (As := [.int (-y21)]) (sp_Rd_write l (-y21) _) (by omega) cv_Rd_write wk_515 rfl rfl rfl rfl rfl (Nat.le_of_ble_eq_true rfl) (dg hd_Rd_readLikeness 33 rfl) (fun r25 σ26 _ => ?_)
        exact ux_vret rfl (dg hd_Rd_readLikeness 34 rfl)
    · refine ux_aload_n (dg hd_Rd_readLikeness 15 rfl) rfl ?_
      refine ux_getr (q := 48) fcX0 2 (by decide) wk_208 rfl rfl (dg hd_Rd_readLikeness 16 rfl) ?_
      refine ux_aload_n (dg hd_Rd_readLikeness 17 rfl) rfl ?_
      refine ux_get fcX0 4 (by decide) wk_210 rfl rfl (dg hd_Rd_readLikeness 18 rfl) ?_
      refine ux_iald rfl (dg hd_Rd_readLikeness 19 rfl) ?_
      refine ux_nam (fun y13 => ?_)
      refine ux_istore_n [(2, .int y13), (0, .ref 46), (1, .int p1)] (dg hd_Rd_readLikeness 20 rfl) (by decide) rfl ?_
      refine ux_aload_n (dg hd_Rd_readLikeness 21 rfl) rfl ?_
      refine ux_dupr (dg hd_Rd_readLikeness 22 rfl) ?_
      refine ux_get fcX0 4 (by decide) wk_210 rfl rfl (dg hd_Rd_readLikeness 23 rfl) ?_
      refine ux_iconst (1 : Int32) (dg hd_Rd_readLikeness 24 rfl) (by decide) ?_
      refine ux_iadd (dg hd_Rd_readLikeness 25 rfl) ?_
      refine ux_put fcX0 4 (by decide) wk_210 rfl rfl ⟨rfl, rfl⟩ rfl rfl (dg hd_Rd_readLikeness 26 rfl) ?_
      refine ux_nas (fun σ14 => ?_)
      refine ux_aload_n (dg hd_Rd_readLikeness 27 rfl) rfl ?_
      refine ux_iload_n (dg hd_Rd_readLikeness 28 rfl) rfl ?_
      refine ux_callVv (As := [.int p1]) (hr3 p1 _) (by omega) cv_Rd_readSum wk_493 rfl rfl rfl rfl rfl (Nat.le_of_ble_eq_true rfl) (dg hd_Rd_readLikeness 29 rfl) (fun r15 σ16 _ => ?_)
      refine ux_aload_n (dg hd_Rd_readLikeness 30 rfl) rfl ?_
      refine ux_iload_n (dg hd_Rd_readLikeness 31 rfl) rfl ?_
      refine ux_ineg (dg hd_Rd_readLikeness 32 rfl) ?_
      refine ux_callVv (As := [.int (-y13)]) (sp_Rd_write l (-y13) _) (by omega) cv_Rd_write wk_515 rfl rfl rfl rfl rfl (Nat.le_of_ble_eq_true rfl) (dg hd_Rd_readLikeness 33 rfl) (fun r17 σ18 _ => ?_)
      exact ux_vret rfl (dg hd_Rd_readLikeness 34 rfl)
  · refine ux_aload_n (dg hd_Rd_readLikeness 15 rfl) rfl ?_
    refine ux_getr (q := 48) fcX0 2 (by decide) wk_208 rfl rfl (dg hd_Rd_readLikeness 16 rfl) ?_
    refine ux_aload_n (dg hd_Rd_readLikeness 17 rfl) rfl ?_
    refine ux_get fcX0 4 (by decide) wk_210 rfl rfl (dg hd_Rd_readLikeness 18 rfl) ?_
    refine ux_iald rfl (dg hd_Rd_readLikeness 19 rfl) ?_
    refine ux_nam (fun y5 => ?_)
    refine ux_istore_n [(2, .int y5), (0, .ref 46), (1, .int p1)] (dg hd_Rd_readLikeness 20 rfl) (by decide) rfl ?_
    refine ux_aload_n (dg hd_Rd_readLikeness 21 rfl) rfl ?_
    refine ux_dupr (dg hd_Rd_readLikeness 22 rfl) ?_
    refine ux_get fcX0 4 (by decide) wk_210 rfl rfl (dg hd_Rd_readLikeness 23 rfl) ?_
    refine ux_iconst (1 : Int32) (dg hd_Rd_readLikeness 24 rfl) (by decide) ?_
    refine ux_iadd (dg hd_Rd_readLikeness 25 rfl) ?_
    refine ux_put fcX0 4 (by decide) wk_210 rfl rfl ⟨rfl, rfl⟩ rfl rfl (dg hd_Rd_readLikeness 26 rfl) ?_
    refine ux_nas (fun σ6 => ?_)
    refine ux_aload_n (dg hd_Rd_readLikeness 27 rfl) rfl ?_
    refine ux_iload_n (dg hd_Rd_readLikeness 28 rfl) rfl ?_
    refine ux_callVv (As := [.int p1]) (hr3 p1 _) (by omega) cv_Rd_readSum wk_493 rfl rfl rfl rfl rfl (Nat.le_of_ble_eq_true rfl) (dg hd_Rd_readLikeness 29 rfl) (fun r7 σ8 _ => ?_)
    refine ux_aload_n (dg hd_Rd_readLikeness 30 rfl) rfl ?_
    refine ux_iload_n (dg hd_Rd_readLikeness 31 rfl) rfl ?_
    refine ux_ineg (dg hd_Rd_readLikeness 32 rfl) ?_
    refine ux_callVv (As := [.int (-y5)]) (sp_Rd_write l (-y5) _) (by omega) cv_Rd_write wk_515 rfl rfl rfl rfl rfl (Nat.le_of_ble_eq_true rfl) (dg hd_Rd_readLikeness 33 rfl) (fun r9 σ10 _ => ?_)
    exact ux_vret rfl (dg hd_Rd_readLikeness 34 rfl)
def Rd_readSum_L7 (rec : Nat → Int32 → St → Option (Int32 × St)) : Nat → Int32 → Int32 → St → Option (Int32 × St)
  | 0, _, _, _ => none
  | n + 1, x1, x2, σ =>
    if (60 : Int32) ≤ x2 then (
    some (0, σ)) else (
    bnd (Rd_isNext (43 : Int32) σ) (fun r3 σ4 =>
    if r3 = (0 : Int32) then (
    bnd (Rd_isNext (45 : Int32) σ4) (fun r12 σ13 =>
    if r12 = (0 : Int32) then (
    some (0, σ13)) else (
    grd (inb (σ13.1 46 4) 60) (
    nam (σ13.2 48 (σ13.1 46 4).toNatClampNeg) (fun y14 =>
    nas (sF σ13 46 4 ((σ13.1 46 4) + (1 : Int32))) (fun σ15 =>
    bnd (rec 4 x1 σ15) (fun r16 σ17 =>
    bnd (Rd_write (-y14) σ17) (fun r18 σ19 =>
    nam (x2 + (1 : Int32)) (fun y20 =>
    Rd_readSum_L7 rec n x1 y20 σ19))))))))) else (
    grd (inb (σ4.1 46 4) 60) (
    nam (σ4.2 48 (σ4.1 46 4).toNatClampNeg) (fun y5 =>
    nas (sF σ4 46 4 ((σ4.1 46 4) + (1 : Int32))) (fun σ6 =>
    bnd (rec 4 x1 σ6) (fun r7 σ8 =>
    bnd (Rd_write (-y5) σ8) (fun r9 σ10 =>
    nam (x2 + (1 : Int32)) (fun y11 =>
    Rd_readSum_L7 rec n x1 y11 σ10)))))))))
set_option maxRecDepth 100000 in
theorem wk_Rd_readSum_L7 (l : Launch) (rec : Nat → Int32 → St → Option (Int32 × St)) (dd : Nat) (hdd : 4 ≤ dd) (hr0 : ∀ (a0 : Int32) (σ : St), Spc l shC dd md_Rd_readOr [.ref 46, .int a0] σ (rec 0 a0 σ)) (hr1 : ∀ (a0 : Int32) (σ : St), Spc l shC dd md_Rd_readAnd [.ref 46, .int a0] σ (rec 1 a0 σ)) (hr2 : ∀ (a0 : Int32) (σ : St), Spc l shC dd md_Rd_readLikeness [.ref 46, .int a0] σ (rec 2 a0 σ)) (hr3 : ∀ (a0 : Int32) (σ : St), Spc l shC dd md_Rd_readSum [.ref 46, .int a0] σ (rec 3 a0 σ)) (hr4 : ∀ (a0 : Int32) (σ : St), Spc l shC dd md_Rd_readProduct [.ref 46, .int a0] σ (rec 4 a0 σ)) (hr5 : ∀ (a0 : Int32) (σ : St), Spc l shC dd md_Rd_readPart [.ref 46, .int a0] σ (rec 5 a0 σ)) : ∀ (n : Nat) (x1 x2 : Int32) (σ : St), Ux l shC (dd + 1) md_Rd_readSum 7 [(0, .ref 46), (1, .int x1), (2, .int x2)] [] σ (Rd_readSum_L7 rec n x1 x2 σ) := by
  intro n
  induction n with
  | zero => intros; exact ux_none
  | succ n ih =>
    intro x1 x2 σ
    unfold Rd_readSum_L7
    refine ux_iload_n (dg hd_Rd_readSum 5 rfl) rfl ?_
    refine ux_bipush (60 : Int32) (dg hd_Rd_readSum 6 rfl) (by decide) ?_
    refine ux_icmp_ge 68 (dg hd_Rd_readSum 7 rfl) (by decide) (fun _ => ?_) (fun _ => ?_)
    · exact ux_vret rfl (dg hd_Rd_readSum 37 rfl)
    · refine ux_aload_n (dg hd_Rd_readSum 8 rfl) rfl ?_
      refine ux_bipush (43 : Int32) (dg hd_Rd_readSum 9 rfl) (by decide) ?_
      refine ux_callVi (As := [.int (43 : Int32)]) (sp_Rd_isNext l (43 : Int32) _) (by omega) cv_Rd_isNext wk_511 rfl rfl rfl rfl rfl (Nat.le_of_ble_eq_true rfl) (dg hd_Rd_readSum 10 rfl) (fun r3 σ4 _ => ?_)
      refine ux_if_ne 31 (dg hd_Rd_readSum 11 rfl) (by decide) (fun _ => ?_) (fun _ => ?_)
      · refine ux_aload_n (dg hd_Rd_readSum 12 rfl) rfl ?_
        refine ux_bipush (45 : Int32) (dg hd_Rd_readSum 13 rfl) (by decide) ?_
        refine ux_callVi (As := [.int (45 : Int32)]) (sp_Rd_isNext l (45 : Int32) _) (by omega) cv_Rd_isNext wk_511 rfl rfl rfl rfl rfl (Nat.le_of_ble_eq_true rfl) (dg hd_Rd_readSum 14 rfl) (fun r12 σ13 _ => ?_)
        refine ux_if_eq 68 (dg hd_Rd_readSum 15 rfl) (by decide) (fun _ => ?_) (fun _ => ?_)
        · exact ux_vret rfl (dg hd_Rd_readSum 37 rfl)
        · refine ux_aload_n (dg hd_Rd_readSum 16 rfl) rfl ?_
          refine ux_getr (q := 48) fcX0 2 (by decide) wk_208 rfl rfl (dg hd_Rd_readSum 17 rfl) ?_
          refine ux_aload_n (dg hd_Rd_readSum 18 rfl) rfl ?_
          refine ux_get fcX0 4 (by decide) wk_210 rfl rfl (dg hd_Rd_readSum 19 rfl) ?_
          refine ux_iald rfl (dg hd_Rd_readSum 20 rfl) ?_
          refine ux_nam (fun y14 => ?_)
          refine ux_istore_n [(3, .int y14), (0, .ref 46), (1, .int x1), (2, .int x2)] (dg hd_Rd_readSum 21 rfl) (by decide) rfl ?_
          refine ux_aload_n (dg hd_Rd_readSum 22 rfl) rfl ?_
          refine ux_dupr (dg hd_Rd_readSum 23 rfl) ?_
          refine ux_get fcX0 4 (by decide) wk_210 rfl rfl (dg hd_Rd_readSum 24 rfl) ?_
          refine ux_iconst (1 : Int32) (dg hd_Rd_readSum 25 rfl) (by decide) ?_
          refine ux_iadd (dg hd_Rd_readSum 26 rfl) ?_
          refine ux_put fcX0 4 (by decide) wk_210 rfl rfl ⟨rfl, rfl⟩ rfl rfl (dg hd_Rd_readSum 27 rfl) ?_
          refine ux_nas (fun σ15 => ?_)
          refine ux_aload_n (dg hd_Rd_readSum 28 rfl) rfl ?_
          refine ux_iload_n (dg hd_Rd_readSum 29 rfl) rfl ?_
          refine ux_callVv (As := [.int x1]) (hr4 x1 _) (by omega) cv_Rd_readProduct wk_497 rfl rfl rfl rfl rfl (Nat.le_of_ble_eq_true rfl) (dg hd_Rd_readSum 30 rfl) (fun r16 σ17 _ => ?_)
          refine ux_aload_n (dg hd_Rd_readSum 31 rfl) rfl ?_
          refine ux_iload_n (dg hd_Rd_readSum 32 rfl) rfl ?_
          refine ux_ineg (dg hd_Rd_readSum 33 rfl) ?_
          refine ux_callVv (As := [.int (-y14)]) (sp_Rd_write l (-y14) _) (by omega) cv_Rd_write wk_515 rfl rfl rfl rfl rfl (Nat.le_of_ble_eq_true rfl) (dg hd_Rd_readSum 34 rfl) (fun r18 σ19 _ => ?_)
          refine ux_iincN (1 : Int32) (fun y20 => [(2, .int y20), (3, .int y14), (0, .ref 46), (1, .int x1)]) (dg hd_Rd_readSum 35 rfl) rfl (by decide) (by decide) (fun _ => rfl) (fun y20 => ?_)
          refine ux_goto 7 (dg hd_Rd_readSum 36 rfl) (by decide) ?_
          refine ux_wk [(0, .ref 46), (1, .int x1), (2, .int y20)] [2, 3, 0] rfl ?_
          exact ih x1 y20 σ19
      · refine ux_aload_n (dg hd_Rd_readSum 16 rfl) rfl ?_
        refine ux_getr (q := 48) fcX0 2 (by decide) wk_208 rfl rfl (dg hd_Rd_readSum 17 rfl) ?_
        refine ux_aload_n (dg hd_Rd_readSum 18 rfl) rfl ?_
        refine ux_get fcX0 4 (by decide) wk_210 rfl rfl (dg hd_Rd_readSum 19 rfl) ?_
        refine ux_iald rfl (dg hd_Rd_readSum 20 rfl) ?_
        refine ux_nam (fun y5 => ?_)
        refine ux_istore_n [(3, .int y5), (0, .ref 46), (1, .int x1), (2, .int x2)] (dg hd_Rd_readSum 21 rfl) (by decide) rfl ?_
        refine ux_aload_n (dg hd_Rd_readSum 22 rfl) rfl ?_
        refine ux_dupr (dg hd_Rd_readSum 23 rfl) ?_
        refine ux_get fcX0 4 (by decide) wk_210 rfl rfl (dg hd_Rd_readSum 24 rfl) ?_
        refine ux_iconst (1 : Int32) (dg hd_Rd_readSum 25 rfl) (by decide) ?_
        refine ux_iadd (dg hd_Rd_readSum 26 rfl) ?_
        refine ux_put fcX0 4 (by decide) wk_210 rfl rfl ⟨rfl, rfl⟩ rfl rfl (dg hd_Rd_readSum 27 rfl) ?_
        refine ux_nas (fun σ6 => ?_)
        refine ux_aload_n (dg hd_Rd_readSum 28 rfl) rfl ?_
        refine ux_iload_n (dg hd_Rd_readSum 29 rfl) rfl ?_
        refine ux_callVv (As := [.int x1]) (hr4 x1 _) (by omega) cv_Rd_readProduct wk_497 rfl rfl rfl rfl rfl (Nat.le_of_ble_eq_true rfl) (dg hd_Rd_readSum 30 rfl) (fun r7 σ8 _ => ?_)
        refine ux_aload_n (dg hd_Rd_readSum 31 rfl) rfl ?_
        refine ux_iload_n (dg hd_Rd_readSum 32 rfl) rfl ?_
        refine ux_ineg (dg hd_Rd_readSum 33 rfl) ?_
        refine ux_callVv (As := [.int (-y5)]) (sp_Rd_write l (-y5) _) (by omega) cv_Rd_write wk_515 rfl rfl rfl rfl rfl (Nat.le_of_ble_eq_true rfl) (dg hd_Rd_readSum 34 rfl) (fun r9 σ10 _ => ?_)
        refine ux_iincN (1 : Int32) (fun y11 => [(2, .int y11), (3, .int y5), (0, .ref 46), (1, .int x1)]) (dg hd_Rd_readSum 35 rfl) rfl (by decide) (by decide) (fun _ => rfl) (fun y11 => ?_)
        refine ux_goto 7 (dg hd_Rd_readSum 36 rfl) (by decide) ?_
        refine ux_wk [(0, .ref 46), (1, .int x1), (2, .int y11)] [2, 3, 0] rfl ?_
        exact ih x1 y11 σ10
def Rd_readSum (rec : Nat → Int32 → St → Option (Int32 × St)) (p1 : Int32) (σ : St) : Option (Int32 × St) :=
  bnd (rec 4 p1 σ) (fun r1 σ2 =>
  Rd_readSum_L7 rec 1000 p1 (0 : Int32) σ2)
set_option maxRecDepth 100000 in
theorem wg_Rd_readSum (l : Launch) (rec : Nat → Int32 → St → Option (Int32 × St)) (dd : Nat) (hdd : 4 ≤ dd) (hr0 : ∀ (a0 : Int32) (σ : St), Spc l shC dd md_Rd_readOr [.ref 46, .int a0] σ (rec 0 a0 σ)) (hr1 : ∀ (a0 : Int32) (σ : St), Spc l shC dd md_Rd_readAnd [.ref 46, .int a0] σ (rec 1 a0 σ)) (hr2 : ∀ (a0 : Int32) (σ : St), Spc l shC dd md_Rd_readLikeness [.ref 46, .int a0] σ (rec 2 a0 σ)) (hr3 : ∀ (a0 : Int32) (σ : St), Spc l shC dd md_Rd_readSum [.ref 46, .int a0] σ (rec 3 a0 σ)) (hr4 : ∀ (a0 : Int32) (σ : St), Spc l shC dd md_Rd_readProduct [.ref 46, .int a0] σ (rec 4 a0 σ)) (hr5 : ∀ (a0 : Int32) (σ : St), Spc l shC dd md_Rd_readPart [.ref 46, .int a0] σ (rec 5 a0 σ)) (p1 : Int32) (σ : St) : Spc l shC (dd + 1) md_Rd_readSum [.ref 46, .int p1] σ (Rd_readSum rec p1 σ) := by
  refine Spc_of_Ux [(0, .ref 46), (1, .int p1)] (by decide) rfl (Nat.le_of_ble_eq_true rfl) ?_
  unfold Rd_readSum
  refine ux_aload_n (dg hd_Rd_readSum 0 rfl) rfl ?_
  refine ux_iload_n (dg hd_Rd_readSum 1 rfl) rfl ?_
  refine ux_callVv (As := [.int p1]) (hr4 p1 _) (by omega) cv_Rd_readProduct wk_497 rfl rfl rfl rfl rfl (Nat.le_of_ble_eq_true rfl) (dg hd_Rd_readSum 2 rfl) (fun r1 σ2 _ => ?_)
  refine ux_iconst (0 : Int32) (dg hd_Rd_readSum 3 rfl) (by decide) ?_
  refine ux_istore_n [(2, .int (0 : Int32)), (0, .ref 46), (1, .int p1)] (dg hd_Rd_readSum 4 rfl) (by decide) rfl ?_
  refine ux_wk [(0, .ref 46), (1, .int p1), (2, .int (0 : Int32))] [1, 2, 0] rfl ?_
  exact wk_Rd_readSum_L7 l rec dd hdd hr0 hr1 hr2 hr3 hr4 hr5 1000 p1 (0 : Int32) σ2
def Rd_readProduct_L7 (rec : Nat → Int32 → St → Option (Int32 × St)) : Nat → Int32 → Int32 → St → Option (Int32 × St)
  | 0, _, _, _ => none
  | n + 1, x1, x2, σ =>
    if (60 : Int32) ≤ x2 then (
    some (0, σ)) else (
    bnd (Rd_isNext (42 : Int32) σ) (fun r3 σ4 =>
    if r3 = (0 : Int32) then (
    bnd (Rd_isNext (47 : Int32) σ4) (fun r12 σ13 =>
    if r12 = (0 : Int32) then (
    bnd (Rd_isNext (37 : Int32) σ13) (fun r21 σ22 =>
    if r21 = (0 : Int32) then (
    some (0, σ22)) else (
    grd (inb (σ22.1 46 4) 60) (
    nam (σ22.2 48 (σ22.1 46 4).toNatClampNeg) (fun y23 =>
    nas (sF σ22 46 4 ((σ22.1 46 4) + (1 : Int32))) (fun σ24 =>
    bnd (rec 5 x1 σ24) (fun r25 σ26 =>
    bnd (Rd_write (-y23) σ26) (fun r27 σ28 =>
    nam (x2 + (1 : Int32)) (fun y29 =>
    Rd_readProduct_L7 rec n x1 y29 σ28))))))))) else (
    grd (inb (σ13.1 46 4) 60) (
    nam (σ13.2 48 (σ13.1 46 4).toNatClampNeg) (fun y14 =>
    nas (sF σ13 46 4 ((σ13.1 46 4) + (1 : Int32))) (fun σ15 =>
    bnd (rec 5 x1 σ15) (fun r16 σ17 =>
    bnd (Rd_write (-y14) σ17) (fun r18 σ19 =>
    nam (x2 + (1 : Int32)) (fun y20 =>
    Rd_readProduct_L7 rec n x1 y20 σ19))))))))) else (
    grd (inb (σ4.1 46 4) 60) (
    nam (σ4.2 48 (σ4.1 46 4).toNatClampNeg) (fun y5 =>
    nas (sF σ4 46 4 ((σ4.1 46 4) + (1 : Int32))) (fun σ6 =>
    bnd (rec 5 x1 σ6) (fun r7 σ8 =>
    bnd (Rd_write (-y5) σ8) (fun r9 σ10 =>
    nam (x2 + (1 : Int32)) (fun y11 =>
    Rd_readProduct_L7 rec n x1 y11 σ10)))))))))
set_option maxRecDepth 100000 in
theorem wk_Rd_readProduct_L7 (l : Launch) (rec : Nat → Int32 → St → Option (Int32 × St)) (dd : Nat) (hdd : 4 ≤ dd) (hr0 : ∀ (a0 : Int32) (σ : St), Spc l shC dd md_Rd_readOr [.ref 46, .int a0] σ (rec 0 a0 σ)) (hr1 : ∀ (a0 : Int32) (σ : St), Spc l shC dd md_Rd_readAnd [.ref 46, .int a0] σ (rec 1 a0 σ)) (hr2 : ∀ (a0 : Int32) (σ : St), Spc l shC dd md_Rd_readLikeness [.ref 46, .int a0] σ (rec 2 a0 σ)) (hr3 : ∀ (a0 : Int32) (σ : St), Spc l shC dd md_Rd_readSum [.ref 46, .int a0] σ (rec 3 a0 σ)) (hr4 : ∀ (a0 : Int32) (σ : St), Spc l shC dd md_Rd_readProduct [.ref 46, .int a0] σ (rec 4 a0 σ)) (hr5 : ∀ (a0 : Int32) (σ : St), Spc l shC dd md_Rd_readPart [.ref 46, .int a0] σ (rec 5 a0 σ)) : ∀ (n : Nat) (x1 x2 : Int32) (σ : St), Ux l shC (dd + 1) md_Rd_readProduct 7 [(0, .ref 46), (1, .int x1), (2, .int x2)] [] σ (Rd_readProduct_L7 rec n x1 x2 σ) := by
  intro n
  induction n with
  | zero => intros; exact ux_none
  | succ n ih =>
    intro x1 x2 σ
    unfold Rd_readProduct_L7
    refine ux_iload_n (dg hd_Rd_readProduct 5 rfl) rfl ?_
    refine ux_bipush (60 : Int32) (dg hd_Rd_readProduct 6 rfl) (by decide) ?_
    refine ux_icmp_ge 77 (dg hd_Rd_readProduct 7 rfl) (by decide) (fun _ => ?_) (fun _ => ?_)
    · exact ux_vret rfl (dg hd_Rd_readProduct 41 rfl)
    · refine ux_aload_n (dg hd_Rd_readProduct 8 rfl) rfl ?_
      refine ux_bipush (42 : Int32) (dg hd_Rd_readProduct 9 rfl) (by decide) ?_
      refine ux_callVi (As := [.int (42 : Int32)]) (sp_Rd_isNext l (42 : Int32) _) (by omega) cv_Rd_isNext wk_511 rfl rfl rfl rfl rfl (Nat.le_of_ble_eq_true rfl) (dg hd_Rd_readProduct 10 rfl) (fun r3 σ4 _ => ?_)
      refine ux_if_ne 40 (dg hd_Rd_readProduct 11 rfl) (by decide) (fun _ => ?_) (fun _ => ?_)
      · refine ux_aload_n (dg hd_Rd_readProduct 12 rfl) rfl ?_
        refine ux_bipush (47 : Int32) (dg hd_Rd_readProduct 13 rfl) (by decide) ?_
        refine ux_callVi (As := [.int (47 : Int32)]) (sp_Rd_isNext l (47 : Int32) _) (by omega) cv_Rd_isNext wk_511 rfl rfl rfl rfl rfl (Nat.le_of_ble_eq_true rfl) (dg hd_Rd_readProduct 14 rfl) (fun r12 σ13 _ => ?_)
        refine ux_if_ne 40 (dg hd_Rd_readProduct 15 rfl) (by decide) (fun _ => ?_) (fun _ => ?_)
        · refine ux_aload_n (dg hd_Rd_readProduct 16 rfl) rfl ?_
          refine ux_bipush (37 : Int32) (dg hd_Rd_readProduct 17 rfl) (by decide) ?_
          refine ux_callVi (As := [.int (37 : Int32)]) (sp_Rd_isNext l (37 : Int32) _) (by omega) cv_Rd_isNext wk_511 rfl rfl rfl rfl rfl (Nat.le_of_ble_eq_true rfl) (dg hd_Rd_readProduct 18 rfl) (fun r21 σ22 _ => ?_)
          refine ux_if_eq 77 (dg hd_Rd_readProduct 19 rfl) (by decide) (fun _ => ?_) (fun _ => ?_)
          · exact ux_vret rfl (dg hd_Rd_readProduct 41 rfl)
          · refine ux_aload_n (dg hd_Rd_readProduct 20 rfl) rfl ?_
            refine ux_getr (q := 48) fcX0 2 (by decide) wk_208 rfl rfl (dg hd_Rd_readProduct 21 rfl) ?_
            refine ux_aload_n (dg hd_Rd_readProduct 22 rfl) rfl ?_
            refine ux_get fcX0 4 (by decide) wk_210 rfl rfl (dg hd_Rd_readProduct 23 rfl) ?_
            refine ux_iald rfl (dg hd_Rd_readProduct 24 rfl) ?_
            refine ux_nam (fun y23 => ?_)
            refine ux_istore_n [(3, .int y23), (0, .ref 46), (1, .int x1), (2, .int x2)] (dg hd_Rd_readProduct 25 rfl) (by decide) rfl ?_
            refine ux_aload_n (dg hd_Rd_readProduct 26 rfl) rfl ?_
            refine ux_dupr (dg hd_Rd_readProduct 27 rfl) ?_
            refine ux_get fcX0 4 (by decide) wk_210 rfl rfl (dg hd_Rd_readProduct 28 rfl) ?_
            refine ux_iconst (1 : Int32) (dg hd_Rd_readProduct 29 rfl) (by decide) ?_
            refine ux_iadd (dg hd_Rd_readProduct 30 rfl) ?_
            refine ux_put fcX0 4 (by decide) wk_210 rfl rfl ⟨rfl, rfl⟩ rfl rfl (dg hd_Rd_readProduct 31 rfl) ?_
            refine ux_nas (fun σ24 => ?_)
            refine ux_aload_n (dg hd_Rd_readProduct 32 rfl) rfl ?_
            refine ux_iload_n (dg hd_Rd_readProduct 33 rfl) rfl ?_
            refine ux_callVv (As := [.int x1]) (hr5 x1 _) (by omega) cv_Rd_readPart wk_501 rfl rfl rfl rfl rfl (Nat.le_of_ble_eq_true rfl) (dg hd_Rd_readProduct 34 rfl) (fun r25 σ26 _ => ?_)
            refine ux_aload_n (dg hd_Rd_readProduct 35 rfl) rfl ?_
            refine ux_iload_n (dg hd_Rd_readProduct 36 rfl) rfl ?_
            refine ux_ineg (dg hd_Rd_readProduct 37 rfl) ?_
            refine ux_callVv (As := [.int (-y23)]) (sp_Rd_write l (-y23) _) (by omega) cv_Rd_write wk_515 rfl rfl rfl rfl rfl (Nat.le_of_ble_eq_true rfl) (dg hd_Rd_readProduct 38 rfl) (fun r27 σ28 _ => ?_)
            refine ux_iincN (1 : Int32) (fun y29 => [(2, .int y29), (3, .int y23), (0, .ref 46), (1, .int x1)]) (dg hd_Rd_readProduct 39 rfl) rfl (by decide) (by decide) (fun _ => rfl) (fun y29 => ?_)
            refine ux_goto 7 (dg hd_Rd_readProduct 40 rfl) (by decide) ?_
            refine ux_wk [(0, .ref 46), (1, .int x1), (2, .int y29)] [2, 3, 0] rfl ?_
            exact ih x1 y29 σ28
        · refine ux_aload_n (dg hd_Rd_readProduct 20 rfl) rfl ?_
          refine ux_getr (q := 48) fcX0 2 (by decide) wk_208 rfl rfl (dg hd_Rd_readProduct 21 rfl) ?_
          refine ux_aload_n (dg hd_Rd_readProduct 22 rfl) rfl ?_
          refine ux_get fcX0 4 (by decide) wk_210 rfl rfl (dg hd_Rd_readProduct 23 rfl) ?_
          refine ux_iald rfl (dg hd_Rd_readProduct 24 rfl) ?_
          refine ux_nam (fun y14 => ?_)
          refine ux_istore_n [(3, .int y14), (0, .ref 46), (1, .int x1), (2, .int x2)] (dg hd_Rd_readProduct 25 rfl) (by decide) rfl ?_
          refine ux_aload_n (dg hd_Rd_readProduct 26 rfl) rfl ?_
          refine ux_dupr (dg hd_Rd_readProduct 27 rfl) ?_
          refine ux_get fcX0 4 (by decide) wk_210 rfl rfl (dg hd_Rd_readProduct 28 rfl) ?_
          refine ux_iconst (1 : Int32) (dg hd_Rd_readProduct 29 rfl) (by decide) ?_
          refine ux_iadd (dg hd_Rd_readProduct 30 rfl) ?_
          refine ux_put fcX0 4 (by decide) wk_210 rfl rfl ⟨rfl, rfl⟩ rfl rfl (dg hd_Rd_readProduct 31 rfl) ?_
          refine ux_nas (fun σ15 => ?_)
          refine ux_aload_n (dg hd_Rd_readProduct 32 rfl) rfl ?_
          refine ux_iload_n (dg hd_Rd_readProduct 33 rfl) rfl ?_
          refine ux_callVv (As := [.int x1]) (hr5 x1 _) (by omega) cv_Rd_readPart wk_501 rfl rfl rfl rfl rfl (Nat.le_of_ble_eq_true rfl) (dg hd_Rd_readProduct 34 rfl) (fun r16 σ17 _ => ?_)
          refine ux_aload_n (dg hd_Rd_readProduct 35 rfl) rfl ?_
          refine ux_iload_n (dg hd_Rd_readProduct 36 rfl) rfl ?_
          refine ux_ineg (dg hd_Rd_readProduct 37 rfl) ?_
          refine ux_callVv (As := [.int (-y14)]) (sp_Rd_write l (-y14) _) (by omega) cv_Rd_write wk_515 rfl rfl rfl rfl rfl (Nat.le_of_ble_eq_true rfl) (dg hd_Rd_readProduct 38 rfl) (fun r18 σ19 _ => ?_)
          refine ux_iincN (1 : Int32) (fun y20 => [(2, .int y20), (3, .int y14), (0, .ref 46), (1, .int x1)]) (dg hd_Rd_readProduct 39 rfl) rfl (by decide) (by decide) (fun _ => rfl) (fun y20 => ?_)
          refine ux_goto 7 (dg hd_Rd_readProduct 40 rfl) (by decide) ?_
          refine ux_wk [(0, .ref 46), (1, .int x1), (2, .int y20)] [2, 3, 0] rfl ?_
          exact ih x1 y20 σ19
      · refine ux_aload_n (dg hd_Rd_readProduct 20 rfl) rfl ?_
        refine ux_getr (q := 48) fcX0 2 (by decide) wk_208 rfl rfl (dg hd_Rd_readProduct 21 rfl) ?_
        refine ux_aload_n (dg hd_Rd_readProduct 22 rfl) rfl ?_
        refine ux_get fcX0 4 (by decide) wk_210 rfl rfl (dg hd_Rd_readProduct 23 rfl) ?_
        refine ux_iald rfl (dg hd_Rd_readProduct 24 rfl) ?_
        refine ux_nam (fun y5 => ?_)
        refine ux_istore_n [(3, .int y5), (0, .ref 46), (1, .int x1), (2, .int x2)] (dg hd_Rd_readProduct 25 rfl) (by decide) rfl ?_
        refine ux_aload_n (dg hd_Rd_readProduct 26 rfl) rfl ?_
        refine ux_dupr (dg hd_Rd_readProduct 27 rfl) ?_
        refine ux_get fcX0 4 (by decide) wk_210 rfl rfl (dg hd_Rd_readProduct 28 rfl) ?_
        refine ux_iconst (1 : Int32) (dg hd_Rd_readProduct 29 rfl) (by decide) ?_
        refine ux_iadd (dg hd_Rd_readProduct 30 rfl) ?_
        refine ux_put fcX0 4 (by decide) wk_210 rfl rfl ⟨rfl, rfl⟩ rfl rfl (dg hd_Rd_readProduct 31 rfl) ?_
        refine ux_nas (fun σ6 => ?_)
        refine ux_aload_n (dg hd_Rd_readProduct 32 rfl) rfl ?_
        refine ux_iload_n (dg hd_Rd_readProduct 33 rfl) rfl ?_
        refine ux_callVv (As := [.int x1]) (hr5 x1 _) (by omega) cv_Rd_readPart wk_501 rfl rfl rfl rfl rfl (Nat.le_of_ble_eq_true rfl) (dg hd_Rd_readProduct 34 rfl) (fun r7 σ8 _ => ?_)
        refine ux_aload_n (dg hd_Rd_readProduct 35 rfl) rfl ?_
        refine ux_iload_n (dg hd_Rd_readProduct 36 rfl) rfl ?_
        refine ux_ineg (dg hd_Rd_readProduct 37 rfl) ?_
        refine ux_callVv (As := [.int (-y5)]) (sp_Rd_write l (-y5) _) (by omega) cv_Rd_write wk_515 rfl rfl rfl rfl rfl (Nat.le_of_ble_eq_true rfl) (dg hd_Rd_readProduct 38 rfl) (fun r9 σ10 _ => ?_)
        refine ux_iincN (1 : Int32) (fun y11 => [(2, .int y11), (3, .int y5), (0, .ref 46), (1, .int x1)]) (dg hd_Rd_readProduct 39 rfl) rfl (by decide) (by decide) (fun _ => rfl) (fun y11 => ?_)
        refine ux_goto 7 (dg hd_Rd_readProduct 40 rfl) (by decide) ?_
        refine ux_wk [(0, .ref 46), (1, .int x1), (2, .int y11)] [2, 3, 0] rfl ?_
        exact ih x1 y11 σ10
def Rd_readProduct (rec : Nat → Int32 → St → Option (Int32 × St)) (p1 : Int32) (σ : St) : Option (Int32 × St) :=
  bnd (rec 5 p1 σ) (fun r1 σ2 =>
  Rd_readProduct_L7 rec 1000 p1 (0 : Int32) σ2)
set_option maxRecDepth 100000 in
theorem wg_Rd_readProduct (l : Launch) (rec : Nat → Int32 → St → Option (Int32 × St)) (dd : Nat) (hdd : 4 ≤ dd) (hr0 : ∀ (a0 : Int32) (σ : St), Spc l shC dd md_Rd_readOr [.ref 46, .int a0] σ (rec 0 a0 σ)) (hr1 : ∀ (a0 : Int32) (σ : St), Spc l shC dd md_Rd_readAnd [.ref 46, .int a0] σ (rec 1 a0 σ)) (hr2 : ∀ (a0 : Int32) (σ : St), Spc l shC dd md_Rd_readLikeness [.ref 46, .int a0] σ (rec 2 a0 σ)) (hr3 : ∀ (a0 : Int32) (σ : St), Spc l shC dd md_Rd_readSum [.ref 46, .int a0] σ (rec 3 a0 σ)) (hr4 : ∀ (a0 : Int32) (σ : St), Spc l shC dd md_Rd_readProduct [.ref 46, .int a0] σ (rec 4 a0 σ)) (hr5 : ∀ (a0 : Int32) (σ : St), Spc l shC dd md_Rd_readPart [.ref 46, .int a0] σ (rec 5 a0 σ)) (p1 : Int32) (σ : St) : Spc l shC (dd + 1) md_Rd_readProduct [.ref 46, .int p1] σ (Rd_readProduct rec p1 σ) := by
  refine Spc_of_Ux [(0, .ref 46), (1, .int p1)] (by decide) rfl (Nat.le_of_ble_eq_true rfl) ?_
  unfold Rd_readProduct
  refine ux_aload_n (dg hd_Rd_readProduct 0 rfl) rfl ?_
  refine ux_iload_n (dg hd_Rd_readProduct 1 rfl) rfl ?_
  refine ux_callVv (As := [.int p1]) (hr5 p1 _) (by omega) cv_Rd_readPart wk_501 rfl rfl rfl rfl rfl (Nat.le_of_ble_eq_true rfl) (dg hd_Rd_readProduct 2 rfl) (fun r1 σ2 _ => ?_)
  refine ux_iconst (0 : Int32) (dg hd_Rd_readProduct 3 rfl) (by decide) ?_
  refine ux_istore_n [(2, .int (0 : Int32)), (0, .ref 46), (1, .int p1)] (dg hd_Rd_readProduct 4 rfl) (by decide) rfl ?_
  refine ux_wk [(0, .ref 46), (1, .int p1), (2, .int (0 : Int32))] [1, 2, 0] rfl ?_
  exact wk_Rd_readProduct_L7 l rec dd hdd hr0 hr1 hr2 hr3 hr4 hr5 1000 p1 (0 : Int32) σ2
def Rd_readPart (rec : Nat → Int32 → St → Option (Int32 × St)) (p1 : Int32) (σ : St) : Option (Int32 × St) :=
  bnd (Rd_nextName  σ) (fun r1 σ2 =>
  if r1 < (0 : Int32) then (
  bnd (Rd_isDigit  σ2) (fun r3 σ4 =>
  if r3 = (0 : Int32) then (
  if (5 : Int32) ≤ p1 then (
  if (5 : Int32) ≤ p1 then (
  nas (sF σ4 46 6 (1 : Int32)) (fun σ5 =>
  some (0, σ5))) else (
  bnd (Rd_isNext (40 : Int32) σ4) (fun r6 σ7 =>
  if r6 = (0 : Int32) then (
  nas (sF σ7 46 6 (1 : Int32)) (fun σ8 =>
  some (0, σ8))) else (
  nas (sF σ7 46 4 ((σ7.1 46 4) + (1 : Int32))) (fun σ9 =>
  bnd (rec 0 (p1 + (1 : Int32)) σ9) (fun r10 σ11 =>
  bnd (Rd_close  σ11) (fun r12 σ13 =>
  some (0, σ13)))))))) else (
  bnd (Rd_isNext (33 : Int32) σ4) (fun r14 σ15 =>
  if r14 = (0 : Int32) then (
  if (5 : Int32) ≤ p1 then (
  nas (sF σ15 46 6 (1 : Int32)) (fun σ16 =>
  some (0, σ16))) else (
  bnd (Rd_isNext (40 : Int32) σ15) (fun r17 σ18 =>
  if r17 = (0 : Int32) then (
  nas (sF σ18 46 6 (1 : Int32)) (fun σ19 =>
  some (0, σ19))) else (
  nas (sF σ18 46 4 ((σ18.1 46 4) + (1 : Int32))) (fun σ20 =>
  bnd (rec 0 (p1 + (1 : Int32)) σ20) (fun r21 σ22 =>
  bnd (Rd_close  σ22) (fun r23 σ24 =>
  some (0, σ24)))))))) else (
  nas (sF σ15 46 4 ((σ15.1 46 4) + (1 : Int32))) (fun σ25 =>
  bnd (rec 5 (p1 + (1 : Int32)) σ25) (fun r26 σ27 =>
  bnd (Rd_write (-33 : Int32) σ27) (fun r28 σ29 =>
  some (0, σ29)))))))) else (
  bnd (Rd_readNumber  σ4) (fun r30 σ31 =>
  some (0, σ31))))) else (
  nas (sF σ2 46 4 ((σ2.1 46 4) + (1 : Int32))) (fun σ32 =>
  bnd (Rd_write ((-1 : Int32) - r1) σ32) (fun r33 σ34 =>
  some (0, σ34)))))
set_option maxRecDepth 100000 in
theorem wg_Rd_readPart (l : Launch) (rec : Nat → Int32 → St → Option (Int32 × St)) (dd : Nat) (hdd : 4 ≤ dd) (hr0 : ∀ (a0 : Int32) (σ : St), Spc l shC dd md_Rd_readOr [.ref 46, .int a0] σ (rec 0 a0 σ)) (hr1 : ∀ (a0 : Int32) (σ : St), Spc l shC dd md_Rd_readAnd [.ref 46, .int a0] σ (rec 1 a0 σ)) (hr2 : ∀ (a0 : Int32) (σ : St), Spc l shC dd md_Rd_readLikeness [.ref 46, .int a0] σ (rec 2 a0 σ)) (hr3 : ∀ (a0 : Int32) (σ : St), Spc l shC dd md_Rd_readSum [.ref 46, .int a0] σ (rec 3 a0 σ)) (hr4 : ∀ (a0 : Int32) (σ : St), Spc l shC dd md_Rd_readProduct [.ref 46, .int a0] σ (rec 4 a0 σ)) (hr5 : ∀ (a0 : Int32) (σ : St), Spc l shC dd md_Rd_readPart [.ref 46, .int a0] σ (rec 5 a0 σ)) (p1 : Int32) (σ : St) : Spc l shC (dd + 1) md_Rd_readPart [.ref 46, .int p1] σ (Rd_readPart rec p1 σ) := by
  refine Spc_of_Ux [(0, .ref 46), (1, .int p1)] (by decide) rfl (Nat.le_of_ble_eq_true rfl) ?_
  unfold Rd_readPart
  refine ux_aload_n (dg hd_Rd_readPart 0 rfl) rfl ?_
  refine ux_callVi (As := []) (sp_Rd_nextName l  _) (by omega) cv_Rd_nextName wk_505 rfl rfl rfl rfl rfl (Nat.le_of_ble_eq_true rfl) (dg hd_Rd_readPart 1 rfl) (fun r1 σ2 _ => ?_)
  refine ux_istore_n [(2, .int r1), (0, .ref 46), (1, .int p1)] (dg hd_Rd_readPart 2 rfl) (by decide) rfl ?_
  refine ux_iload_n (dg hd_Rd_readPart 3 rfl) rfl ?_
  refine ux_if_lt 29 (dg hd_Rd_readPart 4 rfl) (by decide) (fun _ => ?_) (fun _ => ?_)
  · refine ux_aload_n (dg hd_Rd_readPart 17 rfl) rfl ?_
    refine ux_callVi (As := []) (sp_Rd_isDigit l  _) (by omega) cv_Rd_isDigit wk_519 rfl rfl rfl rfl rfl (Nat.le_of_ble_eq_true rfl) (dg hd_Rd_readPart 18 rfl) (fun r3 σ4 _ => ?_)
    refine ux_if_eq 43 (dg hd_Rd_readPart 19 rfl) (by decide) (fun _ => ?_) (fun _ => ?_)
    · refine ux_iload_n (dg hd_Rd_readPart 23 rfl) rfl ?_
      refine ux_iconst (5 : Int32) (dg hd_Rd_readPart 24 rfl) (by decide) ?_
      refine ux_icmp_ge 83 (dg hd_Rd_readPart 25 rfl) (by decide) (fun _ => ?_) (fun _ => ?_)
      · refine ux_iload_n (dg hd_Rd_readPart 45 rfl) rfl ?_
        refine ux_iconst (5 : Int32) (dg hd_Rd_readPart 46 rfl) (by decide) ?_
        refine ux_icmp_ge 121 (dg hd_Rd_readPart 47 rfl) (by decide) (fun _ => ?_) (fun _ => ?_)
        · refine ux_aload_n (dg hd_Rd_readPart 66 rfl) rfl ?_
          refine ux_iconst (1 : Int32) (dg hd_Rd_readPart 67 rfl) (by decide) ?_
          refine ux_put fcX0 6 (by decide) wk_212 rfl rfl (isB_n (by decide)) rfl rfl (dg hd_Rd_readPart 68 rfl) ?_
          refine ux_nas (fun σ5 => ?_)
          exact ux_vret rfl (dg hd_Rd_readPart 69 rfl)
        · refine ux_aload_n (dg hd_Rd_readPart 48 rfl) rfl ?_
          refine ux_bipush (40 : Int32) (dg hd_Rd_readPart 49 rfl) (by decide) ?_
          refine ux_callVi (As := [.int (40 : Int32)]) (sp_Rd_isNext l (40 : Int32) _) (by omega) cv_Rd_isNext wk_511 rfl rfl rfl rfl rfl (Nat.le_of_ble_eq_true rfl) (dg hd_Rd_readPart 50 rfl) (fun r6 σ7 _ => ?_)
          refine ux_if_eq 121 (dg hd_Rd_readPart 51 rfl) (by decide) (fun _ => ?_) (fun _ => ?_)
          · refine ux_aload_n (dg hd_Rd_readPart 66 rfl) rfl ?_
            refine ux_iconst (1 : Int32) (dg hd_Rd_readPart 67 rfl) (by decide) ?_
            refine ux_put fcX0 6 (by decide) wk_212 rfl rfl (isB_n (by decide)) rfl rfl (dg hd_Rd_readPart 68 rfl) ?_
            refine ux_nas (fun σ8 => ?_)
            exact ux_vret rfl (dg hd_Rd_readPart 69 rfl)
          · refine ux_aload_n (dg hd_Rd_readPart 52 rfl) rfl ?_
            refine ux_dupr (dg hd_Rd_readPart 53 rfl) ?_
            refine ux_get fcX0 4 (by decide) wk_210 rfl rfl (dg hd_Rd_readPart 54 rfl) ?_
            refine ux_iconst (1 : Int32) (dg hd_Rd_readPart 55 rfl) (by decide) ?_
            refine ux_iadd (dg hd_Rd_readPart 56 rfl) ?_
            refine ux_put fcX0 4 (by decide) wk_210 rfl rfl ⟨rfl, rfl⟩ rfl rfl (dg hd_Rd_readPart 57 rfl) ?_
            refine ux_nas (fun σ9 => ?_)
            refine ux_aload_n (dg hd_Rd_readPart 58 rfl) rfl ?_
            refine ux_iload_n (dg hd_Rd_readPart 59 rfl) rfl ?_
            refine ux_iconst (1 : Int32) (dg hd_Rd_readPart 60 rfl) (by decide) ?_
            refine ux_iadd (dg hd_Rd_readPart 61 rfl) ?_
            refine ux_callVv (As := [.int (p1 + (1 : Int32))]) (hr0 (p1 + (1 : Int32)) _) (by omega) cv_Rd_readOr wk_481 rfl rfl rfl rfl rfl (Nat.le_of_ble_eq_true rfl) (dg hd_Rd_readPart 62 rfl) (fun r10 σ11 _ => ?_)
            refine ux_aload_n (dg hd_Rd_readPart 63 rfl) rfl ?_
            refine ux_callVv (As := []) (sp_Rd_close l  _) (by omega) cv_Rd_close wk_527 rfl rfl rfl rfl rfl (Nat.le_of_ble_eq_true rfl) (dg hd_Rd_readPart 64 rfl) (fun r12 σ13 _ => ?_)
            refine ux_goto 126 (dg hd_Rd_readPart 65 rfl) (by decide) ?_
            exact ux_vret rfl (dg hd_Rd_readPart 69 rfl)
      · refine ux_aload_n (dg hd_Rd_readPart 26 rfl) rfl ?_
        refine ux_bipush (33 : Int32) (dg hd_Rd_readPart 27 rfl) (by decide) ?_
        refine ux_callVi (As := [.int (33 : Int32)]) (sp_Rd_isNext l (33 : Int32) _) (by omega) cv_Rd_isNext wk_511 rfl rfl rfl rfl rfl (Nat.le_of_ble_eq_true rfl) (dg hd_Rd_readPart 28 rfl) (fun r14 σ15 _ => ?_)
        refine ux_if_eq 83 (dg hd_Rd_readPart 29 rfl) (by decide) (fun _ => ?_) (fun _ => ?_)
        · refine ux_iload_n (dg hd_Rd_readPart 45 rfl) rfl ?_
          refine ux_iconst (5 : Int32) (dg hd_Rd_readPart 46 rfl) (by decide) ?_
          refine ux_icmp_ge 121 (dg hd_Rd_readPart 47 rfl) (by decide) (fun _ => ?_) (fun _ => ?_)
          · refine ux_aload_n (dg hd_Rd_readPart 66 rfl) rfl ?_
            refine ux_iconst (1 : Int32) (dg hd_Rd_readPart 67 rfl) (by decide) ?_
            refine ux_put fcX0 6 (by decide) wk_212 rfl rfl (isB_n (by decide)) rfl rfl (dg hd_Rd_readPart 68 rfl) ?_
            refine ux_nas (fun σ16 => ?_)
            exact ux_vret rfl (dg hd_Rd_readPart 69 rfl)
          · refine ux_aload_n (dg hd_Rd_readPart 48 rfl) rfl ?_
            refine ux_bipush (40 : Int32) (dg hd_Rd_readPart 49 rfl) (by decide) ?_
            refine ux_callVi (As := [.int (40 : Int32)]) (sp_Rd_isNext l (40 : Int32) _) (by omega) cv_Rd_isNext wk_511 rfl rfl rfl rfl rfl (Nat.le_of_ble_eq_true rfl) (dg hd_Rd_readPart 50 rfl) (fun r17 σ18 _ => ?_)
            refine ux_if_eq 121 (dg hd_Rd_readPart 51 rfl) (by decide) (fun _ => ?_) (fun _ => ?_)
            · refine ux_aload_n (dg hd_Rd_readPart 66 rfl) rfl ?_
              refine ux_iconst (1 : Int32) (dg hd_Rd_readPart 67 rfl) (by decide) ?_
              refine ux_put fcX0 6 (by decide) wk_212 rfl rfl (isB_n (by decide)) rfl rfl (dg hd_Rd_readPart 68 rfl) ?_
              refine ux_nas (fun σ19 => ?_)
              exact ux_vret rfl (dg hd_Rd_readPart 69 rfl)
            · refine ux_aload_n (dg hd_Rd_readPart 52 rfl) rfl ?_
              refine ux_dupr (dg hd_Rd_readPart 53 rfl) ?_
              refine ux_get fcX0 4 (by decide) wk_210 rfl rfl (dg hd_Rd_readPart 54 rfl) ?_
              refine ux_iconst (1 : Int32) (dg hd_Rd_readPart 55 rfl) (by decide) ?_
              refine ux_iadd (dg hd_Rd_readPart 56 rfl) ?_
              refine ux_put fcX0 4 (by decide) wk_210 rfl rfl ⟨rfl, rfl⟩ rfl rfl (dg hd_Rd_readPart 57 rfl) ?_
              refine ux_nas (fun σ20 => ?_)
              refine ux_aload_n (dg hd_Rd_readPart 58 rfl) rfl ?_
              refine ux_iload_n (dg hd_Rd_readPart 59 rfl) rfl ?_
              refine ux_iconst (1 : Int32) (dg hd_Rd_readPart 60 rfl) (by decide) ?_
              refine ux_iadd (dg hd_Rd_readPart 61 rfl) ?_
              refine ux_callVv (As := [.int (p1 + (1 : Int32))]) (hr0 (p1 + (1 : Int32)) _) (by omega) cv_Rd_readOr wk_481 rfl rfl rfl rfl rfl (Nat.le_of_ble_eq_true rfl) (dg hd_Rd_readPart 62 rfl) (fun r21 σ22 _ => ?_)
              refine ux_aload_n (dg hd_Rd_readPart 63 rfl) rfl ?_
              refine ux_callVv (As := []) (sp_Rd_close l  _) (by omega) cv_Rd_close wk_527 rfl rfl rfl rfl rfl (Nat.le_of_ble_eq_true rfl) (dg hd_Rd_readPart 64 rfl) (fun r23 σ24 _ => ?_)
              refine ux_goto 126 (dg hd_Rd_readPart 65 rfl) (by decide) ?_
              exact ux_vret rfl (dg hd_Rd_readPart 69 rfl)
        · refine ux_aload_n (dg hd_Rd_readPart 30 rfl) rfl ?_
          refine ux_dupr (dg hd_Rd_readPart 31 rfl) ?_
          refine ux_get fcX0 4 (by decide) wk_210 rfl rfl (dg hd_Rd_readPart 32 rfl) ?_
          refine ux_iconst (1 : Int32) (dg hd_Rd_readPart 33 rfl) (by decide) ?_
          refine ux_iadd (dg hd_Rd_readPart 34 rfl) ?_
          refine ux_put fcX0 4 (by decide) wk_210 rfl rfl ⟨rfl, rfl⟩ rfl rfl (dg hd_Rd_readPart 35 rfl) ?_
          refine ux_nas (fun σ25 => ?_)
          refine ux_aload_n (dg hd_Rd_readPart 36 rfl) rfl ?_
          refine ux_iload_n (dg hd_Rd_readPart 37 rfl) rfl ?_
          refine ux_iconst (1 : Int32) (dg hd_Rd_readPart 38 rfl) (by decide) ?_
          refine ux_iadd (dg hd_Rd_readPart 39 rfl) ?_
          refine ux_callVv (As := [.int (p1 + (1 : Int32))]) (hr5 (p1 + (1 : Int32)) _) (by omega) cv_Rd_readPart wk_501 rfl rfl rfl rfl rfl (Nat.le_of_ble_eq_true rfl) (dg hd_Rd_readPart 40 rfl) (fun r26 σ27 _ => ?_)
          refine ux_aload_n (dg hd_Rd_readPart 41 rfl) rfl ?_
          refine ux_bipush (-33 : Int32) (dg hd_Rd_readPart 42 rfl) (by decide) ?_
          refine ux_callVv (As := [.int (-33 : Int32)]) (sp_Rd_write l (-33 : Int32) _) (by omega) cv_Rd_write wk_515 rfl rfl rfl rfl rfl (Nat.le_of_ble_eq_true rfl) (dg hd_Rd_readPart 43 rfl) (fun r28 σ29 _ => ?_)
          refine ux_goto 126 (dg hd_Rd_readPart 44 rfl) (by decide) ?_
          exact ux_vret rfl (dg hd_Rd_readPart 69 rfl)
    · refine ux_aload_n (dg hd_Rd_readPart 20 rfl) rfl ?_
      refine ux_callVv (As := []) (sp_Rd_readNumber l  _) (by omega) cv_Rd_readNumber wk_523 rfl rfl rfl rfl rfl (Nat.le_of_ble_eq_true rfl) (dg hd_Rd_readPart 21 rfl) (fun r30 σ31 _ => ?_)
      refine ux_goto 126 (dg hd_Rd_readPart 22 rfl) (by decide) ?_
      exact ux_vret rfl (dg hd_Rd_readPart 69 rfl)
  · refine ux_aload_n (dg hd_Rd_readPart 5 rfl) rfl ?_
    refine ux_dupr (dg hd_Rd_readPart 6 rfl) ?_
    refine ux_get fcX0 4 (by decide) wk_210 rfl rfl (dg hd_Rd_readPart 7 rfl) ?_
    refine ux_iconst (1 : Int32) (dg hd_Rd_readPart 8 rfl) (by decide) ?_
    refine ux_iadd (dg hd_Rd_readPart 9 rfl) ?_
    refine ux_put fcX0 4 (by decide) wk_210 rfl rfl ⟨rfl, rfl⟩ rfl rfl (dg hd_Rd_readPart 10 rfl) ?_
    refine ux_nas (fun σ32 => ?_)
    refine ux_aload_n (dg hd_Rd_readPart 11 rfl) rfl ?_
    refine ux_iconst (-1 : Int32) (dg hd_Rd_readPart 12 rfl) (by decide) ?_
    refine ux_iload_n (dg hd_Rd_readPart 13 rfl) rfl ?_
    refine ux_isub (dg hd_Rd_readPart 14 rfl) ?_
    refine ux_callVv (As := [.int ((-1 : Int32) - r1)]) (sp_Rd_write l ((-1 : Int32) - r1) _) (by omega) cv_Rd_write wk_515 rfl rfl rfl rfl rfl (Nat.le_of_ble_eq_true rfl) (dg hd_Rd_readPart 15 rfl) (fun r33 σ34 _ => ?_)
    refine ux_goto 126 (dg hd_Rd_readPart 16 rfl) (by decide) ?_
    exact ux_vret rfl (dg hd_Rd_readPart 69 rfl)
def Rd_grp (dd : Nat) : Nat → Int32 → St → Option (Int32 × St) := match dd with
  | 0 => fun _ _ _ => none
  | dd + 1 => fun k a0 σ => match k with
    | 0 => Rd_readOr (fun k a0 σ => Rd_grp dd k a0 σ) a0 σ
    | 1 => Rd_readAnd (fun k a0 σ => Rd_grp dd k a0 σ) a0 σ
    | 2 => Rd_readLikeness (fun k a0 σ => Rd_grp dd k a0 σ) a0 σ
    | 3 => Rd_readSum (fun k a0 σ => Rd_grp dd k a0 σ) a0 σ
    | 4 => Rd_readProduct (fun k a0 σ => Rd_grp dd k a0 σ) a0 σ
    | 5 => Rd_readPart (fun k a0 σ => Rd_grp dd k a0 σ) a0 σ
    | _ => none
set_option maxHeartbeats 4000000 in
theorem sg_Rd_grp (l : Launch) : ∀ n : Nat, (∀ (a0 : Int32) (σ : St), Spc l shC (4 + n) md_Rd_readOr [.ref 46, .int a0] σ (Rd_grp n 0 a0 σ)) ∧ (∀ (a0 : Int32) (σ : St), Spc l shC (4 + n) md_Rd_readAnd [.ref 46, .int a0] σ (Rd_grp n 1 a0 σ)) ∧ (∀ (a0 : Int32) (σ : St), Spc l shC (4 + n) md_Rd_readLikeness [.ref 46, .int a0] σ (Rd_grp n 2 a0 σ)) ∧ (∀ (a0 : Int32) (σ : St), Spc l shC (4 + n) md_Rd_readSum [.ref 46, .int a0] σ (Rd_grp n 3 a0 σ)) ∧ (∀ (a0 : Int32) (σ : St), Spc l shC (4 + n) md_Rd_readProduct [.ref 46, .int a0] σ (Rd_grp n 4 a0 σ)) ∧ (∀ (a0 : Int32) (σ : St), Spc l shC (4 + n) md_Rd_readPart [.ref 46, .int a0] σ (Rd_grp n 5 a0 σ)) := by
  intro n
  induction n with
  | zero => exact ⟨fun _ _ r σ1 h => (by cases h), fun _ _ r σ1 h => (by cases h), fun _ _ r σ1 h => (by cases h), fun _ _ r σ1 h => (by cases h), fun _ _ r σ1 h => (by cases h), fun _ _ r σ1 h => (by cases h)⟩
  | succ n ih =>
    obtain ⟨h0, h1, h2, h3, h4, h5⟩ := ih
    exact ⟨fun a0 σ => wg_Rd_readOr l (Rd_grp n) (4 + n) (Nat.le_add_right _ _) h0 h1 h2 h3 h4 h5 a0 σ, fun a0 σ => wg_Rd_readAnd l (Rd_grp n) (4 + n) (Nat.le_add_right _ _) h0 h1 h2 h3 h4 h5 a0 σ, fun a0 σ => wg_Rd_readLikeness l (Rd_grp n) (4 + n) (Nat.le_add_right _ _) h0 h1 h2 h3 h4 h5 a0 σ, fun a0 σ => wg_Rd_readSum l (Rd_grp n) (4 + n) (Nat.le_add_right _ _) h0 h1 h2 h3 h4 h5 a0 σ, fun a0 σ => wg_Rd_readProduct l (Rd_grp n) (4 + n) (Nat.le_add_right _ _) h0 h1 h2 h3 h4 h5 a0 σ, fun a0 σ => wg_Rd_readPart l (Rd_grp n) (4 + n) (Nat.le_add_right _ _) h0 h1 h2 h3 h4 h5 a0 σ⟩
theorem sp_Rd_readOr (l : Launch) (n : Nat) (a0 : Int32) (σ : St) : Spc l shC (4 + n) md_Rd_readOr [.ref 46, .int a0] σ (Rd_grp n 0 a0 σ) := (sg_Rd_grp l n).1 a0 σ
theorem sp_Rd_readAnd (l : Launch) (n : Nat) (a0 : Int32) (σ : St) : Spc l shC (4 + n) md_Rd_readAnd [.ref 46, .int a0] σ (Rd_grp n 1 a0 σ) := (sg_Rd_grp l n).2.1 a0 σ
theorem sp_Rd_readLikeness (l : Launch) (n : Nat) (a0 : Int32) (σ : St) : Spc l shC (4 + n) md_Rd_readLikeness [.ref 46, .int a0] σ (Rd_grp n 2 a0 σ) := (sg_Rd_grp l n).2.2.1 a0 σ
theorem sp_Rd_readSum (l : Launch) (n : Nat) (a0 : Int32) (σ : St) : Spc l shC (4 + n) md_Rd_readSum [.ref 46, .int a0] σ (Rd_grp n 3 a0 σ) := (sg_Rd_grp l n).2.2.2.1 a0 σ
theorem sp_Rd_readProduct (l : Launch) (n : Nat) (a0 : Int32) (σ : St) : Spc l shC (4 + n) md_Rd_readProduct [.ref 46, .int a0] σ (Rd_grp n 4 a0 σ) := (sg_Rd_grp l n).2.2.2.2.1 a0 σ
theorem sp_Rd_readPart (l : Launch) (n : Nat) (a0 : Int32) (σ : St) : Spc l shC (4 + n) md_Rd_readPart [.ref 46, .int a0] σ (Rd_grp n 5 a0 σ) := (sg_Rd_grp l n).2.2.2.2.2 a0 σ
def Rd_read (p1 : Nat) (p2 : Int32) (σ : St) : Option (Int32 × St) :=
  grd (cpb (0 : Int32) (0 : Int32) (60 : Int32) 60 60) (
  nas (sC σ (p1 + 1) (0 : Int32).toNatClampNeg 48 (0 : Int32).toNatClampNeg (60 : Int32).toNatClampNeg) (fun σ1 =>
  nas (sF σ1 46 3 (σ1.1 p1 1)) (fun σ2 =>
  nas (sF σ2 46 5 p2) (fun σ3 =>
  nas (sF σ3 46 4 (0 : Int32)) (fun σ4 =>
  nas (sF σ4 46 1 (0 : Int32)) (fun σ5 =>
  nas (sF σ5 46 6 (0 : Int32)) (fun σ6 =>
  bnd (Rd_grp 60 0 (0 : Int32) σ6) (fun r7 σ8 =>
  if (σ8.1 46 6) = (0 : Int32) then (
  if (σ8.1 46 3) ≤ (σ8.1 46 4) then (
  some ((-1 : Int32), σ8)) else (
  some ((σ8.1 46 4), σ8))) else (
  some ((σ8.1 46 4), σ8))))))))))
set_option maxRecDepth 100000 in
theorem sp_Rd_read (l : Launch) {p1 : Nat} (hp1 : isTp p1) (p2 : Int32) (σ : St) : Spc l shC 65 md_Rd_read [.ref 46, .ref p1, .int p2] σ (Rd_read p1 p2 σ) := by
  refine Spc_of_Ux [(0, .ref 46), (1, .ref p1), (2, .int p2)] (by decide) rfl (Nat.le_of_ble_eq_true rfl) ?_
  unfold Rd_read
  refine ux_aload_n (dg hd_Rd_read 0 rfl) rfl ?_
  refine ux_getr (q := (p1 + 1)) fcX3 0 (by decide) wk_189 (tpO hp1) rfl (dg hd_Rd_read 1 rfl) ?_
  refine ux_iconst (0 : Int32) (dg hd_Rd_read 2 rfl) (by decide) ?_
  refine ux_aload_n (dg hd_Rd_read 3 rfl) rfl ?_
  refine ux_getr (q := 48) fcX0 2 (by decide) wk_208 rfl rfl (dg hd_Rd_read 4 rfl) ?_
  refine ux_iconst (0 : Int32) (dg hd_Rd_read 5 rfl) (by decide) ?_
  refine ux_bipush (60 : Int32) (dg hd_Rd_read 6 rfl) (by decide) ?_
  refine ux_acopy (by omega) (Nat.le_of_ble_eq_true rfl) wk_478 wk_480 wk_479 wk_85 (tpA hp1) rfl (dg hd_Rd_read 7 rfl) ?_
  refine ux_nas (fun σ1 => ?_)
  refine ux_aload_n (dg hd_Rd_read 8 rfl) rfl ?_
  refine ux_aload_n (dg hd_Rd_read 9 rfl) rfl ?_
  refine ux_get fcX3 1 (by decide) wk_191 (tpO hp1) rfl (dg hd_Rd_read 10 rfl) ?_
  refine ux_put fcX0 3 (by decide) wk_209 rfl rfl ⟨rfl, rfl⟩ rfl rfl (dg hd_Rd_read 11 rfl) ?_
  refine ux_nas (fun σ2 => ?_)
  refine ux_aload_n (dg hd_Rd_read 12 rfl) rfl ?_
  refine ux_iload_n (dg hd_Rd_read 13 rfl) rfl ?_
  refine ux_put fcX0 5 (by decide) wk_211 rfl rfl ⟨rfl, rfl⟩ rfl rfl (dg hd_Rd_read 14 rfl) ?_
  refine ux_nas (fun σ3 => ?_)
  refine ux_aload_n (dg hd_Rd_read 15 rfl) rfl ?_
  refine ux_iconst (0 : Int32) (dg hd_Rd_read 16 rfl) (by decide) ?_
  refine ux_put fcX0 4 (by decide) wk_210 rfl rfl ⟨rfl, rfl⟩ rfl rfl (dg hd_Rd_read 17 rfl) ?_
  refine ux_nas (fun σ4 => ?_)
  refine ux_aload_n (dg hd_Rd_read 18 rfl) rfl ?_
  refine ux_iconst (0 : Int32) (dg hd_Rd_read 19 rfl) (by decide) ?_
  refine ux_put fcX0 1 (by decide) wk_206 rfl rfl ⟨rfl, rfl⟩ rfl rfl (dg hd_Rd_read 20 rfl) ?_
  refine ux_nas (fun σ5 => ?_)
  refine ux_aload_n (dg hd_Rd_read 21 rfl) rfl ?_
  refine ux_iconst (0 : Int32) (dg hd_Rd_read 22 rfl) (by decide) ?_
  refine ux_put fcX0 6 (by decide) wk_212 rfl rfl (isB_n (by decide)) rfl rfl (dg hd_Rd_read 23 rfl) ?_
  refine ux_nas (fun σ6 => ?_)
  refine ux_aload_n (dg hd_Rd_read 24 rfl) rfl ?_
  refine ux_iconst (0 : Int32) (dg hd_Rd_read 25 rfl) (by decide) ?_
  refine ux_callVv (As := [.int (0 : Int32)]) (sp_Rd_readOr l 60 (0 : Int32) _) (by omega) cv_Rd_readOr wk_481 rfl rfl rfl rfl rfl (Nat.le_of_ble_eq_true rfl) (dg hd_Rd_read 26 rfl) (fun r7 σ8 _ => ?_)
  refine ux_aload_n (dg hd_Rd_read 27 rfl) rfl ?_
  refine ux_get fcX0 6 (by decide) wk_212 rfl rfl (dg hd_Rd_read 28 rfl) ?_
  refine ux_if_ne 66 (dg hd_Rd_read 29 rfl) (by decide) (fun _ => ?_) (fun _ => ?_)
  · refine ux_aload_n (dg hd_Rd_read 30 rfl) rfl ?_
    refine ux_get fcX0 4 (by decide) wk_210 rfl rfl (dg hd_Rd_read 31 rfl) ?_
    refine ux_aload_n (dg hd_Rd_read 32 rfl) rfl ?_
    refine ux_get fcX0 3 (by decide) wk_209 rfl rfl (dg hd_Rd_read 33 rfl) ?_
    refine ux_icmp_ge 73 (dg hd_Rd_read 34 rfl) (by decide) (fun _ => ?_) (fun _ => ?_)
    · refine ux_iconst (-1 : Int32) (dg hd_Rd_read 38 rfl) (by decide) ?_
      exact ux_iret rfl (dg hd_Rd_read 39 rfl)
    · refine ux_aload_n (dg hd_Rd_read 35 rfl) rfl ?_
      refine ux_get fcX0 4 (by decide) wk_210 rfl rfl (dg hd_Rd_read 36 rfl) ?_
      refine ux_goto 74 (dg hd_Rd_read 37 rfl) (by decide) ?_
      exact ux_iret rfl (dg hd_Rd_read 39 rfl)
  · refine ux_aload_n (dg hd_Rd_read 35 rfl) rfl ?_
    refine ux_get fcX0 4 (by decide) wk_210 rfl rfl (dg hd_Rd_read 36 rfl) ?_
    refine ux_goto 74 (dg hd_Rd_read 37 rfl) (by decide) ?_
    exact ux_iret rfl (dg hd_Rd_read 39 rfl)
