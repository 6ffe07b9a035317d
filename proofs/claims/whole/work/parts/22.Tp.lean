def Tp_add_L3 : Nat → Nat → Int64 → Int32 → Int32 → St → Option (Int32 × St)
  | 0, _, _, _, _, _ => none
  | n + 1, o, p1, x3, x4, σ =>
    if x3 ≤ x4 then (
    some (0, σ)) else (
    if (60 : Int32) ≤ (σ.1 o 1) then (
    some (0, σ)) else (
    grd (inb (σ.1 o 1) 60) (
    nas (sA σ (o + 1) (σ.1 o 1).toNatClampNeg ((Int64.toInt32 (lush p1 ((8 : Int32) * x4))) &&& (255 : Int32))) (fun σ1 =>
    nas (sF σ1 o 1 ((σ1.1 o 1) + (1 : Int32))) (fun σ2 =>
    nam (x4 + (1 : Int32)) (fun y3 =>
    Tp_add_L3 n o p1 x3 y3 σ2))))))
set_option maxRecDepth 100000 in
theorem wk_Tp_add_L3 (l : Launch) {o : Nat} (ho : isTp o) (p1 : Int64) : ∀ (n : Nat) (x3 x4 : Int32) (σ : St), Ux l shC 2 md_Tp_add 3 [(0, .ref o), (1, .long p1), (3, .int x3), (4, .int x4)] [] σ (Tp_add_L3 n o p1 x3 x4 σ) := by
  intro n
  induction n with
  | zero => intros; exact ux_none
  | succ n ih =>
    intro x3 x4 σ
    unfold Tp_add_L3
    refine ux_iload (dg hd_Tp_add 2 rfl) rfl ?_
    refine ux_iload_n (dg hd_Tp_add 3 rfl) rfl ?_
    refine ux_icmp_ge 55 (dg hd_Tp_add 4 rfl) (by decide) (fun _ => ?_) (fun _ => ?_)
    · exact ux_vret rfl (dg hd_Tp_add 30 rfl)
    · refine ux_aload_n (dg hd_Tp_add 5 rfl) rfl ?_
      refine ux_get fcX3 1 (by decide) wk_190 (tpO ho) rfl (dg hd_Tp_add 6 rfl) ?_
      refine ux_bipush (60 : Int32) (dg hd_Tp_add 7 rfl) (by decide) ?_
      refine ux_icmp_ge 55 (dg hd_Tp_add 8 rfl) (by decide) (fun _ => ?_) (fun _ => ?_)
      · exact ux_vret rfl (dg hd_Tp_add 30 rfl)
      · refine ux_aload_n (dg hd_Tp_add 9 rfl) rfl ?_
        refine ux_getr (q := (o + 1)) fcX3 0 (by decide) wk_188 (tpO ho) rfl (dg hd_Tp_add 10 rfl) ?_
        refine ux_aload_n (dg hd_Tp_add 11 rfl) rfl ?_
        refine ux_get fcX3 1 (by decide) wk_190 (tpO ho) rfl (dg hd_Tp_add 12 rfl) ?_
        refine ux_lload_n (dg hd_Tp_add 13 rfl) rfl ?_
        refine ux_bipush (8 : Int32) (dg hd_Tp_add 14 rfl) (by decide) ?_
        refine ux_iload (dg hd_Tp_add 15 rfl) rfl ?_
        refine ux_imul (dg hd_Tp_add 16 rfl) ?_
        refine ux_lushr (dg hd_Tp_add 17 rfl) ?_
        refine ux_l2i (dg hd_Tp_add 18 rfl) ?_
        refine ux_sipush (255 : Int32) (dg hd_Tp_add 19 rfl) (by decide) ?_
        refine ux_iand (dg hd_Tp_add 20 rfl) ?_
        refine ux_iast (tpA ho) (dg hd_Tp_add 21 rfl) ?_
        refine ux_nas (fun σ1 => ?_)
        refine ux_aload_n (dg hd_Tp_add 22 rfl) rfl ?_
        refine ux_dupr (dg hd_Tp_add 23 rfl) ?_
        refine ux_get fcX3 1 (by decide) wk_190 (tpO ho) rfl (dg hd_Tp_add 24 rfl) ?_
        refine ux_iconst (1 : Int32) (dg hd_Tp_add 25 rfl) (by decide) ?_
        refine ux_iadd (dg hd_Tp_add 26 rfl) ?_
        refine ux_put fcX3 1 (by decide) wk_190 rfl rfl ⟨rfl, rfl⟩ (tpO ho) rfl (dg hd_Tp_add 27 rfl) ?_
        refine ux_nas (fun σ2 => ?_)
        refine ux_iincN (1 : Int32) (fun y3 => [(4, .int y3), (0, .ref o), (1, .long p1), (3, .int x3)]) (dg hd_Tp_add 28 rfl) rfl (by decide) (by decide) (fun _ => rfl) (fun y3 => ?_)
        refine ux_goto 3 (dg hd_Tp_add 29 rfl) (by decide) ?_
        refine ux_wk [(0, .ref o), (1, .long p1), (3, .int x3), (4, .int y3)] [1, 2, 3, 0] rfl ?_
        exact ih x3 y3 σ2
def Tp_add (o : Nat) (p1 : Int64) (p2 : Int32) (σ : St) : Option (Int32 × St) :=
  Tp_add_L3 1000 o p1 p2 (0 : Int32) σ
set_option maxRecDepth 100000 in
theorem sp_Tp_add (l : Launch) {o : Nat} (ho : isTp o) (p1 : Int64) (p2 : Int32) (σ : St) : Spc l shC 2 md_Tp_add [.ref o, .long p1, .int p2] σ (Tp_add o p1 p2 σ) := by
  refine Spc_of_Ux [(0, .ref o), (1, .long p1), (3, .int p2)] (by decide) rfl (Nat.le_of_ble_eq_true rfl) ?_
  unfold Tp_add
  refine ux_iconst (0 : Int32) (dg hd_Tp_add 0 rfl) (by decide) ?_
  refine ux_istore [(4, .int (0 : Int32)), (0, .ref o), (1, .long p1), (3, .int p2)] (dg hd_Tp_add 1 rfl) (by decide) rfl ?_
  refine ux_wk [(0, .ref o), (1, .long p1), (3, .int p2), (4, .int (0 : Int32))] [1, 2, 3, 0] rfl ?_
  exact wk_Tp_add_L3 l ho p1 1000 p2 (0 : Int32) σ
def Tp_copy (o : Nat) (p1 : Nat) (σ : St) : Option (Int32 × St) :=
  grd (cpb (0 : Int32) (0 : Int32) (60 : Int32) 60 60) (
  nas (sC σ (p1 + 1) (0 : Int32).toNatClampNeg (o + 1) (0 : Int32).toNatClampNeg (60 : Int32).toNatClampNeg) (fun σ1 =>
  nas (sF σ1 o 1 (σ1.1 p1 1)) (fun σ2 =>
  some (0, σ2))))
set_option maxRecDepth 100000 in
theorem sp_Tp_copy (l : Launch) {o : Nat} (ho : isTp o) {p1 : Nat} (hp1 : isTp p1) (σ : St) : Spc l shC 2 md_Tp_copy [.ref o, .ref p1] σ (Tp_copy o p1 σ) := by
  refine Spc_of_Ux [(0, .ref o), (1, .ref p1)] (by decide) rfl (Nat.le_of_ble_eq_true rfl) ?_
  unfold Tp_copy
  refine ux_aload_n (dg hd_Tp_copy 0 rfl) rfl ?_
  refine ux_getr (q := (p1 + 1)) fcX3 0 (by decide) wk_188 (tpO hp1) rfl (dg hd_Tp_copy 1 rfl) ?_
  refine ux_iconst (0 : Int32) (dg hd_Tp_copy 2 rfl) (by decide) ?_
  refine ux_aload_n (dg hd_Tp_copy 3 rfl) rfl ?_
  refine ux_getr (q := (o + 1)) fcX3 0 (by decide) wk_188 (tpO ho) rfl (dg hd_Tp_copy 4 rfl) ?_
  refine ux_iconst (0 : Int32) (dg hd_Tp_copy 5 rfl) (by decide) ?_
  refine ux_bipush (60 : Int32) (dg hd_Tp_copy 6 rfl) (by decide) ?_
  refine ux_acopy (by omega) (Nat.le_of_ble_eq_true rfl) wk_740 wk_480 wk_479 wk_85 (tpA hp1) (tpA ho) (dg hd_Tp_copy 7 rfl) ?_
  refine ux_nas (fun σ1 => ?_)
  refine ux_aload_n (dg hd_Tp_copy 8 rfl) rfl ?_
  refine ux_aload_n (dg hd_Tp_copy 9 rfl) rfl ?_
  refine ux_get fcX3 1 (by decide) wk_190 (tpO hp1) rfl (dg hd_Tp_copy 10 rfl) ?_
  refine ux_put fcX3 1 (by decide) wk_190 rfl rfl ⟨rfl, rfl⟩ (tpO ho) rfl (dg hd_Tp_copy 11 rfl) ?_
  refine ux_nas (fun σ2 => ?_)
  exact ux_vret rfl (dg hd_Tp_copy 12 rfl)
