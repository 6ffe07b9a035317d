def Rw_isMissing (o : Nat) (σ : St) : Option (Int32 × St) :=
  if (σ.1 o 1) = (0 : Int32) then (
  some ((1 : Int32), σ)) else (
  some ((0 : Int32), σ))
set_option maxRecDepth 100000 in
theorem sp_Rw_isMissing (l : Launch) {o : Nat} (ho : isRw o) (σ : St) : Spc l shC 2 md_Rw_isMissing [.ref o] σ (Rw_isMissing o  σ) := by
  refine Spc_of_Ux [(0, .ref o)] (by decide) rfl (Nat.le_of_ble_eq_true rfl) ?_
  unfold Rw_isMissing
  refine ux_aload_n (dg hd_Rw_isMissing 0 rfl) rfl ?_
  refine ux_get fcX2 1 (by decide) wk_237 (rwO ho) rfl (dg hd_Rw_isMissing 1 rfl) ?_
  refine ux_if_ne 11 (dg hd_Rw_isMissing 2 rfl) (by decide) (fun _ => ?_) (fun _ => ?_)
  · refine ux_iconst (1 : Int32) (dg hd_Rw_isMissing 3 rfl) (by decide) ?_
    refine ux_goto 12 (dg hd_Rw_isMissing 4 rfl) (by decide) ?_
    exact ux_zret rfl (dg hd_Rw_isMissing 6 rfl) (isB_n (by decide))
  · refine ux_iconst (0 : Int32) (dg hd_Rw_isMissing 5 rfl) (by decide) ?_
    exact ux_zret rfl (dg hd_Rw_isMissing 6 rfl) (isB_n (by decide))
def Rw_begin_L12 : Nat → Nat → Int32 → Int32 → Int32 → St → Option (Int32 × St)
  | 0, _, _, _, _, _ => none
  | n + 1, o, x1, x2, x3, σ =>
    if (24 : Int32) ≤ x3 then (
    some (0, σ)) else (
    grd (inb x3 24) (
    nas (sA σ (o + 1) x3.toNatClampNeg (0 : Int32)) (fun σ3 =>
    nam (x3 + (1 : Int32)) (fun y4 =>
    Rw_begin_L12 n o x1 x2 y4 σ3))))
set_option maxRecDepth 100000 in
theorem wk_Rw_begin_L12 (l : Launch) {o : Nat} (ho : isRw o) : ∀ (n : Nat) (x1 x2 x3 : Int32) (σ : St), Ux l shC 2 md_Rw_begin 12 [(0, .ref o), (1, .int x1), (2, .int x2), (3, .int x3)] [] σ (Rw_begin_L12 n o x1 x2 x3 σ) := by
  intro n
  induction n with
  | zero => intros; exact ux_none
  | succ n ih =>
    intro x1 x2 x3 σ
    unfold Rw_begin_L12
    refine ux_iload_n (dg hd_Rw_begin 8 rfl) rfl ?_
    refine ux_bipush (24 : Int32) (dg hd_Rw_begin 9 rfl) (by decide) ?_
    refine ux_icmp_ge 31 (dg hd_Rw_begin 10 rfl) (by decide) (fun _ => ?_) (fun _ => ?_)
    · exact ux_vret rfl (dg hd_Rw_begin 18 rfl)
    · refine ux_aload_n (dg hd_Rw_begin 11 rfl) rfl ?_
      refine ux_getr (q := (o + 1)) fcX2 0 (by decide) wk_234 (rwO ho) rfl (dg hd_Rw_begin 12 rfl) ?_
      refine ux_iload_n (dg hd_Rw_begin 13 rfl) rfl ?_
      refine ux_iconst (0 : Int32) (dg hd_Rw_begin 14 rfl) (by decide) ?_
      refine ux_iast (rwA ho) (dg hd_Rw_begin 15 rfl) ?_
      refine ux_nas (fun σ3 => ?_)
      refine ux_iincN (1 : Int32) (fun y4 => [(3, .int y4), (0, .ref o), (1, .int x1), (2, .int x2)]) (dg hd_Rw_begin 16 rfl) rfl (by decide) (by decide) (fun _ => rfl) (fun y4 => ?_)
      refine ux_goto 12 (dg hd_Rw_begin 17 rfl) (by decide) ?_
      refine ux_wk [(0, .ref o), (1, .int x1), (2, .int x2), (3, .int y4)] [1, 2, 3, 0] rfl ?_
      exact ih x1 x2 y4 σ3
def Rw_begin (o : Nat) (p1 : Int32) (p2 : Int32) (σ : St) : Option (Int32 × St) :=
  nas (sF σ o 1 p1) (fun σ1 =>
  nas (sF σ1 o 2 p2) (fun σ2 =>
  Rw_begin_L12 1000 o p1 p2 (0 : Int32) σ2))
set_option maxRecDepth 100000 in
theorem sp_Rw_begin (l : Launch) {o : Nat} (ho : isRw o) (p1 : Int32) (p2 : Int32) (σ : St) : Spc l shC 2 md_Rw_begin [.ref o, .int p1, .int p2] σ (Rw_begin o p1 p2 σ) := by
  refine Spc_of_Ux [(0, .ref o), (1, .int p1), (2, .int p2)] (by decide) rfl (Nat.le_of_ble_eq_true rfl) ?_
  unfold Rw_begin
  refine ux_aload_n (dg hd_Rw_begin 0 rfl) rfl ?_
  refine ux_iload_n (dg hd_Rw_begin 1 rfl) rfl ?_
  refine ux_put fcX2 1 (by decide) wk_237 rfl rfl ⟨rfl, rfl⟩ (rwO ho) rfl (dg hd_Rw_begin 2 rfl) ?_
  refine ux_nas (fun σ1 => ?_)
  refine ux_aload_n (dg hd_Rw_begin 3 rfl) rfl ?_
  refine ux_iload_n (dg hd_Rw_begin 4 rfl) rfl ?_
  refine ux_put fcX2 2 (by decide) wk_239 rfl rfl ⟨rfl, rfl⟩ (rwO ho) rfl (dg hd_Rw_begin 5 rfl) ?_
  refine ux_nas (fun σ2 => ?_)
  refine ux_iconst (0 : Int32) (dg hd_Rw_begin 6 rfl) (by decide) ?_
  refine ux_istore_n [(3, .int (0 : Int32)), (0, .ref o), (1, .int p1), (2, .int p2)] (dg hd_Rw_begin 7 rfl) (by decide) rfl ?_
  refine ux_wk [(0, .ref o), (1, .int p1), (2, .int p2), (3, .int (0 : Int32))] [1, 2, 3, 0] rfl ?_
  exact wk_Rw_begin_L12 l ho 1000 p1 p2 (0 : Int32) σ2
def Rw_lowest (o : Nat) (p1 : Int32) (σ : St) : Option (Int32 × St) :=
  if (σ.1 o 1) = (32 : Int32) then (
  some (p1, σ)) else (
  some ((p1 &&& (((1 : Int32) <<< ((σ.1 o 1) &&& 31)) - (1 : Int32))), σ))
set_option maxRecDepth 100000 in
theorem sp_Rw_lowest (l : Launch) {o : Nat} (ho : isRw o) (p1 : Int32) (σ : St) : Spc l shC 2 md_Rw_lowest [.ref o, .int p1] σ (Rw_lowest o p1 σ) := by
  refine Spc_of_Ux [(0, .ref o), (1, .int p1)] (by decide) rfl (Nat.le_of_ble_eq_true rfl) ?_
  unfold Rw_lowest
  refine ux_aload_n (dg hd_Rw_lowest 0 rfl) rfl ?_
  refine ux_get fcX2 1 (by decide) wk_237 (rwO ho) rfl (dg hd_Rw_lowest 1 rfl) ?_
  refine ux_bipush (32 : Int32) (dg hd_Rw_lowest 2 rfl) (by decide) ?_
  refine ux_icmp_ne 13 (dg hd_Rw_lowest 3 rfl) (by decide) (fun _ => ?_) (fun _ => ?_)
  · refine ux_iload_n (dg hd_Rw_lowest 4 rfl) rfl ?_
    refine ux_goto 23 (dg hd_Rw_lowest 5 rfl) (by decide) ?_
    exact ux_iret rfl (dg hd_Rw_lowest 14 rfl)
  · refine ux_iload_n (dg hd_Rw_lowest 6 rfl) rfl ?_
    refine ux_iconst (1 : Int32) (dg hd_Rw_lowest 7 rfl) (by decide) ?_
    refine ux_aload_n (dg hd_Rw_lowest 8 rfl) rfl ?_
    refine ux_get fcX2 1 (by decide) wk_237 (rwO ho) rfl (dg hd_Rw_lowest 9 rfl) ?_
    refine ux_ishl (dg hd_Rw_lowest 10 rfl) ?_
    refine ux_iconst (1 : Int32) (dg hd_Rw_lowest 11 rfl) (by decide) ?_
    refine ux_isub (dg hd_Rw_lowest 12 rfl) ?_
    refine ux_iand (dg hd_Rw_lowest 13 rfl) ?_
    exact ux_iret rfl (dg hd_Rw_lowest 14 rfl)
def Rw_holds (o : Nat) (p1 : Int32) (p2 : Int32) (σ : St) : Option (Int32 × St) :=
  if p1 < (0 : Int32) then (
  some ((0 : Int32), σ)) else (
  if p2 < (0 : Int32) then (
  some ((0 : Int32), σ)) else (
  if (σ.1 o 2) < p2 then (
  some ((0 : Int32), σ)) else (
  if ((σ.1 o 2) - p2) < p1 then (
  some ((0 : Int32), σ)) else (
  some ((1 : Int32), σ)))))
set_option maxRecDepth 100000 in
theorem sp_Rw_holds (l : Launch) {o : Nat} (ho : isRw o) (p1 : Int32) (p2 : Int32) (σ : St) : Spc l shC 2 md_Rw_holds [.ref o, .int p1, .int p2] σ (Rw_holds o p1 p2 σ) := by
  refine Spc_of_Ux [(0, .ref o), (1, .int p1), (2, .int p2)] (by decide) rfl (Nat.le_of_ble_eq_true rfl) ?_
  unfold Rw_holds
  refine ux_iload_n (dg hd_Rw_holds 0 rfl) rfl ?_
  refine ux_if_lt 30 (dg hd_Rw_holds 1 rfl) (by decide) (fun _ => ?_) (fun _ => ?_)
  · refine ux_iconst (0 : Int32) (dg hd_Rw_holds 16 rfl) (by decide) ?_
    exact ux_zret rfl (dg hd_Rw_holds 17 rfl) (isB_n (by decide))
  · refine ux_iload_n (dg hd_Rw_holds 2 rfl) rfl ?_
    refine ux_if_lt 30 (dg hd_Rw_holds 3 rfl) (by decide) (fun _ => ?_) (fun _ => ?_)
    · refine ux_iconst (0 : Int32) (dg hd_Rw_holds 16 rfl) (by decide) ?_
      exact ux_zret rfl (dg hd_Rw_holds 17 rfl) (isB_n (by decide))
    · refine ux_iload_n (dg hd_Rw_holds 4 rfl) rfl ?_
      refine ux_aload_n (dg hd_Rw_holds 5 rfl) rfl ?_
      refine ux_get fcX2 2 (by decide) wk_239 (rwO ho) rfl (dg hd_Rw_holds 6 rfl) ?_
      refine ux_icmp_gt 30 (dg hd_Rw_holds 7 rfl) (by decide) (fun _ => ?_) (fun _ => ?_)
      · refine ux_iconst (0 : Int32) (dg hd_Rw_holds 16 rfl) (by decide) ?_
        exact ux_zret rfl (dg hd_Rw_holds 17 rfl) (isB_n (by decide))
      · refine ux_iload_n (dg hd_Rw_holds 8 rfl) rfl ?_
        refine ux_aload_n (dg hd_Rw_holds 9 rfl) rfl ?_
        refine ux_get fcX2 2 (by decide) wk_239 (rwO ho) rfl (dg hd_Rw_holds 10 rfl) ?_
        refine ux_iload_n (dg hd_Rw_holds 11 rfl) rfl ?_
        refine ux_isub (dg hd_Rw_holds 12 rfl) ?_
        refine ux_icmp_gt 30 (dg hd_Rw_holds 13 rfl) (by decide) (fun _ => ?_) (fun _ => ?_)
        · refine ux_iconst (0 : Int32) (dg hd_Rw_holds 16 rfl) (by decide) ?_
          exact ux_zret rfl (dg hd_Rw_holds 17 rfl) (isB_n (by decide))
        · refine ux_iconst (1 : Int32) (dg hd_Rw_holds 14 rfl) (by decide) ?_
          refine ux_goto 31 (dg hd_Rw_holds 15 rfl) (by decide) ?_
          exact ux_zret rfl (dg hd_Rw_holds 17 rfl) (isB_n (by decide))
def Rw_copy (o : Nat) (p1 : Nat) (σ : St) : Option (Int32 × St) :=
  grd (cpb (0 : Int32) (0 : Int32) (24 : Int32) 24 24) (
  nas (sC σ (p1 + 1) (0 : Int32).toNatClampNeg (o + 1) (0 : Int32).toNatClampNeg (24 : Int32).toNatClampNeg) (fun σ1 =>
  nas (sF σ1 o 1 (σ1.1 p1 1)) (fun σ2 =>
  nas (sF σ2 o 2 (σ2.1 p1 2)) (fun σ3 =>
  some (0, σ3)))))
set_option maxRecDepth 100000 in
theorem sp_Rw_copy (l : Launch) {o : Nat} (ho : isRw o) {p1 : Nat} (hp1 : isRw p1) (σ : St) : Spc l shC 2 md_Rw_copy [.ref o, .ref p1] σ (Rw_copy o p1 σ) := by
  refine Spc_of_Ux [(0, .ref o), (1, .ref p1)] (by decide) rfl (Nat.le_of_ble_eq_true rfl) ?_
  unfold Rw_copy
  refine ux_aload_n (dg hd_Rw_copy 0 rfl) rfl ?_
  refine ux_getr (q := (p1 + 1)) fcX2 0 (by decide) wk_234 (rwO hp1) rfl (dg hd_Rw_copy 1 rfl) ?_
  refine ux_iconst (0 : Int32) (dg hd_Rw_copy 2 rfl) (by decide) ?_
  refine ux_aload_n (dg hd_Rw_copy 3 rfl) rfl ?_
  refine ux_getr (q := (o + 1)) fcX2 0 (by decide) wk_234 (rwO ho) rfl (dg hd_Rw_copy 4 rfl) ?_
  refine ux_iconst (0 : Int32) (dg hd_Rw_copy 5 rfl) (by decide) ?_
  refine ux_bipush (24 : Int32) (dg hd_Rw_copy 6 rfl) (by decide) ?_
  refine ux_acopy (by omega) (Nat.le_of_ble_eq_true rfl) wk_745 wk_480 wk_479 wk_85 (rwA hp1) (rwA ho) (dg hd_Rw_copy 7 rfl) ?_
  refine ux_nas (fun σ1 => ?_)
  refine ux_aload_n (dg hd_Rw_copy 8 rfl) rfl ?_
  refine ux_aload_n (dg hd_Rw_copy 9 rfl) rfl ?_
  refine ux_get fcX2 1 (by decide) wk_237 (rwO hp1) rfl (dg hd_Rw_copy 10 rfl) ?_
  refine ux_put fcX2 1 (by decide) wk_237 rfl rfl ⟨rfl, rfl⟩ (rwO ho) rfl (dg hd_Rw_copy 11 rfl) ?_
  refine ux_nas (fun σ2 => ?_)
  refine ux_aload_n (dg hd_Rw_copy 12 rfl) rfl ?_
  refine ux_aload_n (dg hd_Rw_copy 13 rfl) rfl ?_
  refine ux_get fcX2 2 (by decide) wk_239 (rwO hp1) rfl (dg hd_Rw_copy 14 rfl) ?_
  refine ux_put fcX2 2 (by decide) wk_239 rfl rfl ⟨rfl, rfl⟩ (rwO ho) rfl (dg hd_Rw_copy 15 rfl) ?_
  refine ux_nas (fun σ3 => ?_)
  exact ux_vret rfl (dg hd_Rw_copy 16 rfl)
