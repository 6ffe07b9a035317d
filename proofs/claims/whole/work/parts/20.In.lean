def In_bitCount (p1 : Int32) (σ : St) : Option (Int32 × St) :=
  nam (p1 - ((iush p1 (1 : Int32)) &&& (1431655765 : Int32))) (fun y1 =>
  nam ((y1 &&& (858993459 : Int32)) + ((iush y1 (2 : Int32)) &&& (858993459 : Int32))) (fun y2 =>
  nam ((y2 + (iush y2 (4 : Int32))) &&& (252645135 : Int32)) (fun y3 =>
  nam (y3 + (iush y3 (8 : Int32))) (fun y4 =>
  nam (y4 + (iush y4 (16 : Int32))) (fun y5 =>
  some ((y5 &&& (63 : Int32)), σ))))))
set_option maxRecDepth 100000 in
theorem sp_In_bitCount (l : Launch) (p1 : Int32) (σ : St) : Spc l shC 2 md_In_bitCount [.int p1] σ (In_bitCount p1 σ) := by
  refine Spc_of_Ux [(0, .int p1)] (by decide) rfl (Nat.le_of_ble_eq_true rfl) ?_
  unfold In_bitCount
  refine ux_iload_n (dg hd_In_bitCount 0 rfl) rfl ?_
  refine ux_iload_n (dg hd_In_bitCount 1 rfl) rfl ?_
  refine ux_iconst (1 : Int32) (dg hd_In_bitCount 2 rfl) (by decide) ?_
  refine ux_iushr (dg hd_In_bitCount 3 rfl) ?_
  refine ux_ldcw (1431655765 : Int32) wk_369 (dg hd_In_bitCount 4 rfl) ?_
  refine ux_iand (dg hd_In_bitCount 5 rfl) ?_
  refine ux_isub (dg hd_In_bitCount 6 rfl) ?_
  refine ux_nam (fun y1 => ?_)
  refine ux_istore_n [(0, .int y1)] (dg hd_In_bitCount 7 rfl) (by decide) rfl ?_
  refine ux_iload_n (dg hd_In_bitCount 8 rfl) rfl ?_
  refine ux_ldcw (858993459 : Int32) wk_370 (dg hd_In_bitCount 9 rfl) ?_
  refine ux_iand (dg hd_In_bitCount 10 rfl) ?_
  refine ux_iload_n (dg hd_In_bitCount 11 rfl) rfl ?_
  refine ux_iconst (2 : Int32) (dg hd_In_bitCount 12 rfl) (by decide) ?_
  refine ux_iushr (dg hd_In_bitCount 13 rfl) ?_
  refine ux_ldcw (858993459 : Int32) wk_370 (dg hd_In_bitCount 14 rfl) ?_
  refine ux_iand (dg hd_In_bitCount 15 rfl) ?_
  refine ux_iadd (dg hd_In_bitCount 16 rfl) ?_
  refine ux_nam (fun y2 => ?_)
  refine ux_istore_n [(0, .int y2)] (dg hd_In_bitCount 17 rfl) (by decide) rfl ?_
  refine ux_iload_n (dg hd_In_bitCount 18 rfl) rfl ?_
  refine ux_iload_n (dg hd_In_bitCount 19 rfl) rfl ?_
  refine ux_iconst (4 : Int32) (dg hd_In_bitCount 20 rfl) (by decide) ?_
  refine ux_iushr (dg hd_In_bitCount 21 rfl) ?_
  refine ux_iadd (dg hd_In_bitCount 22 rfl) ?_
  refine ux_ldcw (252645135 : Int32) wk_371 (dg hd_In_bitCount 23 rfl) ?_
  refine ux_iand (dg hd_In_bitCount 24 rfl) ?_
  refine ux_nam (fun y3 => ?_)
  refine ux_istore_n [(0, .int y3)] (dg hd_In_bitCount 25 rfl) (by decide) rfl ?_
  refine ux_iload_n (dg hd_In_bitCount 26 rfl) rfl ?_
  refine ux_iload_n (dg hd_In_bitCount 27 rfl) rfl ?_
  refine ux_bipush (8 : Int32) (dg hd_In_bitCount 28 rfl) (by decide) ?_
  refine ux_iushr (dg hd_In_bitCount 29 rfl) ?_
  refine ux_iadd (dg hd_In_bitCount 30 rfl) ?_
  refine ux_nam (fun y4 => ?_)
  refine ux_istore_n [(0, .int y4)] (dg hd_In_bitCount 31 rfl) (by decide) rfl ?_
  refine ux_iload_n (dg hd_In_bitCount 32 rfl) rfl ?_
  refine ux_iload_n (dg hd_In_bitCount 33 rfl) rfl ?_
  refine ux_bipush (16 : Int32) (dg hd_In_bitCount 34 rfl) (by decide) ?_
  refine ux_iushr (dg hd_In_bitCount 35 rfl) ?_
  refine ux_iadd (dg hd_In_bitCount 36 rfl) ?_
  refine ux_nam (fun y5 => ?_)
  refine ux_istore_n [(0, .int y5)] (dg hd_In_bitCount 37 rfl) (by decide) rfl ?_
  refine ux_iload_n (dg hd_In_bitCount 38 rfl) rfl ?_
  refine ux_bipush (63 : Int32) (dg hd_In_bitCount 39 rfl) (by decide) ?_
  refine ux_iand (dg hd_In_bitCount 40 rfl) ?_
  exact ux_iret rfl (dg hd_In_bitCount 41 rfl)
def Mn_isWithin (p1 : Int32) (p2 : Int32) (σ : St) : Option (Int32 × St) :=
  if p1 < (0 : Int32) then (
  some ((0 : Int32), σ)) else (
  if p2 < p1 then (
  some ((0 : Int32), σ)) else (
  some ((1 : Int32), σ)))
set_option maxRecDepth 100000 in
theorem sp_Mn_isWithin (l : Launch) (p1 : Int32) (p2 : Int32) (σ : St) : Spc l shC 2 md_Mn_isWithin [.int p1, .int p2] σ (Mn_isWithin p1 p2 σ) := by
  refine Spc_of_Ux [(0, .int p1), (1, .int p2)] (by decide) rfl (Nat.le_of_ble_eq_true rfl) ?_
  unfold Mn_isWithin
  refine ux_iload_n (dg hd_Mn_isWithin 0 rfl) rfl ?_
  refine ux_if_lt 13 (dg hd_Mn_isWithin 1 rfl) (by decide) (fun _ => ?_) (fun _ => ?_)
  · refine ux_iconst (0 : Int32) (dg hd_Mn_isWithin 7 rfl) (by decide) ?_
    exact ux_zret rfl (dg hd_Mn_isWithin 8 rfl) (isB_n (by decide))
  · refine ux_iload_n (dg hd_Mn_isWithin 2 rfl) rfl ?_
    refine ux_iload_n (dg hd_Mn_isWithin 3 rfl) rfl ?_
    refine ux_icmp_gt 13 (dg hd_Mn_isWithin 4 rfl) (by decide) (fun _ => ?_) (fun _ => ?_)
    · refine ux_iconst (0 : Int32) (dg hd_Mn_isWithin 7 rfl) (by decide) ?_
      exact ux_zret rfl (dg hd_Mn_isWithin 8 rfl) (isB_n (by decide))
    · refine ux_iconst (1 : Int32) (dg hd_Mn_isWithin 5 rfl) (by decide) ?_
      refine ux_goto 14 (dg hd_Mn_isWithin 6 rfl) (by decide) ?_
      exact ux_zret rfl (dg hd_Mn_isWithin 8 rfl) (isB_n (by decide))
def Mn_isKindAndMark (p1 : Int32) (σ : St) : Option (Int32 × St) :=
  bnd (Mn_isWithin p1 (69 : Int32) σ) (fun r1 σ2 =>
  grd (isB r1) (some (r1, σ2)))
set_option maxRecDepth 100000 in
theorem sp_Mn_isKindAndMark (l : Launch) (p1 : Int32) (σ : St) : Spc l shC 3 md_Mn_isKindAndMark [.int p1] σ (Mn_isKindAndMark p1 σ) := by
  refine Spc_of_Ux [(0, .int p1)] (by decide) rfl (Nat.le_of_ble_eq_true rfl) ?_
  unfold Mn_isKindAndMark
  refine ux_iload_n (dg hd_Mn_isKindAndMark 0 rfl) rfl ?_
  refine ux_bipush (69 : Int32) (dg hd_Mn_isKindAndMark 1 rfl) (by decide) ?_
  refine ux_callSi (As := [.int p1, .int (69 : Int32)]) (sp_Mn_isWithin l p1 (69 : Int32) _) (by omega) cs_Mn_isWithin wk_322 rfl rfl (Nat.le_of_ble_eq_true rfl) (dg hd_Mn_isKindAndMark 2 rfl) (fun r1 σ2 _ => ?_)
  exact ux_zretg rfl (dg hd_Mn_isKindAndMark 3 rfl)
def Mn_isUnder_L4 : Nat → Int32 → Int32 → Int32 → Int32 → St → Option (Int32 × St)
  | 0, _, _, _, _, _ => none
  | n + 1, x0, x1, x2, x3, σ =>
    if (7 : Int32) ≤ x3 then (
    some ((0 : Int32), σ)) else (
    bnd (Mn_isWithin x2 (6 : Int32) σ) (fun r1 σ2 =>
    if r1 = (0 : Int32) then (
    some ((0 : Int32), σ2)) else (
    if x2 = x1 then (
    some ((1 : Int32), σ2)) else (
    grd (inb x2 7) (
    nam (tbA.getD x2.toNatClampNeg 0) (fun y3 =>
    nam (x3 + (1 : Int32)) (fun y4 =>
    Mn_isUnder_L4 n x0 x1 y3 y4 σ2)))))))
set_option maxRecDepth 100000 in
theorem wk_Mn_isUnder_L4 (l : Launch) : ∀ (n : Nat) (x0 x1 x2 x3 : Int32) (σ : St), Ux l shC 3 md_Mn_isUnder 4 [(0, .int x0), (1, .int x1), (2, .int x2), (3, .int x3)] [] σ (Mn_isUnder_L4 n x0 x1 x2 x3 σ) := by
  intro n
  induction n with
  | zero => intros; exact ux_none
  | succ n ih =>
    intro x0 x1 x2 x3 σ
    unfold Mn_isUnder_L4
    refine ux_iload_n (dg hd_Mn_isUnder 4 rfl) rfl ?_
    refine ux_bipush (7 : Int32) (dg hd_Mn_isUnder 5 rfl) (by decide) ?_
    refine ux_icmp_ge 38 (dg hd_Mn_isUnder 6 rfl) (by decide) (fun _ => ?_) (fun _ => ?_)
    · refine ux_iconst (0 : Int32) (dg hd_Mn_isUnder 22 rfl) (by decide) ?_
      exact ux_zret rfl (dg hd_Mn_isUnder 23 rfl) (isB_n (by decide))
    · refine ux_iload_n (dg hd_Mn_isUnder 7 rfl) rfl ?_
      refine ux_bipush (6 : Int32) (dg hd_Mn_isUnder 8 rfl) (by decide) ?_
      refine ux_callSi (As := [.int x2, .int (6 : Int32)]) (sp_Mn_isWithin l x2 (6 : Int32) _) (by omega) cs_Mn_isWithin wk_322 rfl rfl (Nat.le_of_ble_eq_true rfl) (dg hd_Mn_isUnder 9 rfl) (fun r1 σ2 _ => ?_)
      refine ux_if_eq 38 (dg hd_Mn_isUnder 10 rfl) (by decide) (fun _ => ?_) (fun _ => ?_)
      · refine ux_iconst (0 : Int32) (dg hd_Mn_isUnder 22 rfl) (by decide) ?_
        exact ux_zret rfl (dg hd_Mn_isUnder 23 rfl) (isB_n (by decide))
      · refine ux_iload_n (dg hd_Mn_isUnder 11 rfl) rfl ?_
        refine ux_iload_n (dg hd_Mn_isUnder 12 rfl) rfl ?_
        refine ux_icmp_ne 26 (dg hd_Mn_isUnder 13 rfl) (by decide) (fun _ => ?_) (fun _ => ?_)
        · refine ux_iconst (1 : Int32) (dg hd_Mn_isUnder 14 rfl) (by decide) ?_
          exact ux_zret rfl (dg hd_Mn_isUnder 15 rfl) (isB_n (by decide))
        · refine ux_gets (kk := 0) rfl wk_408 (dg hd_Mn_isUnder 16 rfl) ?_
          refine ux_iload_n (dg hd_Mn_isUnder 17 rfl) rfl ?_
          refine ux_tald (kk := 0) (tab := tbA) rfl rfl (dg hd_Mn_isUnder 18 rfl) ?_
          refine ux_nam (fun y3 => ?_)
          refine ux_istore_n [(2, .int y3), (0, .int x0), (1, .int x1), (3, .int x3)] (dg hd_Mn_isUnder 19 rfl) (by decide) rfl ?_
          refine ux_iincN (1 : Int32) (fun y4 => [(3, .int y4), (2, .int y3), (0, .int x0), (1, .int x1)]) (dg hd_Mn_isUnder 20 rfl) rfl (by decide) (by decide) (fun _ => rfl) (fun y4 => ?_)
          refine ux_goto 4 (dg hd_Mn_isUnder 21 rfl) (by decide) ?_
          refine ux_wk [(0, .int x0), (1, .int x1), (2, .int y3), (3, .int y4)] [2, 3, 1, 0] rfl ?_
          exact ih x0 x1 y3 y4 σ2
def Mn_isUnder (p1 : Int32) (p2 : Int32) (σ : St) : Option (Int32 × St) :=
  Mn_isUnder_L4 1000 p1 p2 p1 (0 : Int32) σ
set_option maxRecDepth 100000 in
theorem sp_Mn_isUnder (l : Launch) (p1 : Int32) (p2 : Int32) (σ : St) : Spc l shC 3 md_Mn_isUnder [.int p1, .int p2] σ (Mn_isUnder p1 p2 σ) := by
  refine Spc_of_Ux [(0, .int p1), (1, .int p2)] (by decide) rfl (Nat.le_of_ble_eq_true rfl) ?_
  unfold Mn_isUnder
  refine ux_iload_n (dg hd_Mn_isUnder 0 rfl) rfl ?_
  refine ux_istore_n [(2, .int p1), (0, .int p1), (1, .int p2)] (dg hd_Mn_isUnder 1 rfl) (by decide) rfl ?_
  refine ux_iconst (0 : Int32) (dg hd_Mn_isUnder 2 rfl) (by decide) ?_
  refine ux_istore_n [(3, .int (0 : Int32)), (2, .int p1), (0, .int p1), (1, .int p2)] (dg hd_Mn_isUnder 3 rfl) (by decide) rfl ?_
  refine ux_wk [(0, .int p1), (1, .int p2), (2, .int p1), (3, .int (0 : Int32))] [2, 3, 1, 0] rfl ?_
  exact wk_Mn_isUnder_L4 l 1000 p1 p2 p1 (0 : Int32) σ
def Mn_isTreaty (p1 : Int32) (σ : St) : Option (Int32 × St) :=
  bnd (Mn_isWithin p1 (63 : Int32) σ) (fun r1 σ2 =>
  grd (isB r1) (some (r1, σ2)))
set_option maxRecDepth 100000 in
theorem sp_Mn_isTreaty (l : Launch) (p1 : Int32) (σ : St) : Spc l shC 3 md_Mn_isTreaty [.int p1] σ (Mn_isTreaty p1 σ) := by
  refine Spc_of_Ux [(0, .int p1)] (by decide) rfl (Nat.le_of_ble_eq_true rfl) ?_
  unfold Mn_isTreaty
  refine ux_iload_n (dg hd_Mn_isTreaty 0 rfl) rfl ?_
  refine ux_bipush (63 : Int32) (dg hd_Mn_isTreaty 1 rfl) (by decide) ?_
  refine ux_callSi (As := [.int p1, .int (63 : Int32)]) (sp_Mn_isWithin l p1 (63 : Int32) _) (by omega) cs_Mn_isWithin wk_322 rfl rfl (Nat.le_of_ble_eq_true rfl) (dg hd_Mn_isTreaty 2 rfl) (fun r1 σ2 _ => ?_)
  exact ux_zretg rfl (dg hd_Mn_isTreaty 3 rfl)
def Mn_isUse (p1 : Int32) (σ : St) : Option (Int32 × St) :=
  bnd (Mn_isWithin p1 (1 : Int32) σ) (fun r1 σ2 =>
  grd (isB r1) (some (r1, σ2)))
set_option maxRecDepth 100000 in
theorem sp_Mn_isUse (l : Launch) (p1 : Int32) (σ : St) : Spc l shC 3 md_Mn_isUse [.int p1] σ (Mn_isUse p1 σ) := by
  refine Spc_of_Ux [(0, .int p1)] (by decide) rfl (Nat.le_of_ble_eq_true rfl) ?_
  unfold Mn_isUse
  refine ux_iload_n (dg hd_Mn_isUse 0 rfl) rfl ?_
  refine ux_iconst (1 : Int32) (dg hd_Mn_isUse 1 rfl) (by decide) ?_
  refine ux_callSi (As := [.int p1, .int (1 : Int32)]) (sp_Mn_isWithin l p1 (1 : Int32) _) (by omega) cs_Mn_isWithin wk_322 rfl rfl (Nat.le_of_ble_eq_true rfl) (dg hd_Mn_isUse 2 rfl) (fun r1 σ2 _ => ?_)
  exact ux_zretg rfl (dg hd_Mn_isUse 3 rfl)
def Mn_isRest (p1 : Int32) (p2 : Int32) (σ : St) : Option (Int32 × St) :=
  if p2 < (1 : Int32) then (
  some ((0 : Int32), σ)) else (
  if (30 : Int32) < p2 then (
  some ((0 : Int32), σ)) else (
  bnd (Mn_isWithin p1 (p2 - (1 : Int32)) σ) (fun r1 σ2 =>
  if r1 = (0 : Int32) then (
  some ((0 : Int32), σ2)) else (
  some ((1 : Int32), σ2)))))
set_option maxRecDepth 100000 in
theorem sp_Mn_isRest (l : Launch) (p1 : Int32) (p2 : Int32) (σ : St) : Spc l shC 3 md_Mn_isRest [.int p1, .int p2] σ (Mn_isRest p1 p2 σ) := by
  refine Spc_of_Ux [(0, .int p1), (1, .int p2)] (by decide) rfl (Nat.le_of_ble_eq_true rfl) ?_
  unfold Mn_isRest
  refine ux_iload_n (dg hd_Mn_isRest 0 rfl) rfl ?_
  refine ux_iconst (1 : Int32) (dg hd_Mn_isRest 1 rfl) (by decide) ?_
  refine ux_icmp_lt 25 (dg hd_Mn_isRest 2 rfl) (by decide) (fun _ => ?_) (fun _ => ?_)
  · refine ux_iconst (0 : Int32) (dg hd_Mn_isRest 14 rfl) (by decide) ?_
    exact ux_zret rfl (dg hd_Mn_isRest 15 rfl) (isB_n (by decide))
  · refine ux_iload_n (dg hd_Mn_isRest 3 rfl) rfl ?_
    refine ux_bipush (30 : Int32) (dg hd_Mn_isRest 4 rfl) (by decide) ?_
    refine ux_icmp_gt 25 (dg hd_Mn_isRest 5 rfl) (by decide) (fun _ => ?_) (fun _ => ?_)
    · refine ux_iconst (0 : Int32) (dg hd_Mn_isRest 14 rfl) (by decide) ?_
      exact ux_zret rfl (dg hd_Mn_isRest 15 rfl) (isB_n (by decide))
    · refine ux_iload_n (dg hd_Mn_isRest 6 rfl) rfl ?_
      refine ux_iload_n (dg hd_Mn_isRest 7 rfl) rfl ?_
      refine ux_iconst (1 : Int32) (dg hd_Mn_isRest 8 rfl) (by decide) ?_
      refine ux_isub (dg hd_Mn_isRest 9 rfl) ?_
      refine ux_callSi (As := [.int p1, .int (p2 - (1 : Int32))]) (sp_Mn_isWithin l p1 (p2 - (1 : Int32)) _) (by omega) cs_Mn_isWithin wk_322 rfl rfl (Nat.le_of_ble_eq_true rfl) (dg hd_Mn_isRest 10 rfl) (fun r1 σ2 _ => ?_)
      refine ux_if_eq 25 (dg hd_Mn_isRest 11 rfl) (by decide) (fun _ => ?_) (fun _ => ?_)
      · refine ux_iconst (0 : Int32) (dg hd_Mn_isRest 14 rfl) (by decide) ?_
        exact ux_zret rfl (dg hd_Mn_isRest 15 rfl) (isB_n (by decide))
      · refine ux_iconst (1 : Int32) (dg hd_Mn_isRest 12 rfl) (by decide) ?_
        refine ux_goto 26 (dg hd_Mn_isRest 13 rfl) (by decide) ?_
        exact ux_zret rfl (dg hd_Mn_isRest 15 rfl) (isB_n (by decide))
def Mn_isSheet (p1 : Int32) (σ : St) : Option (Int32 × St) :=
  bnd (Mn_isWithin p1 (3 : Int32) σ) (fun r1 σ2 =>
  grd (isB r1) (some (r1, σ2)))
set_option maxRecDepth 100000 in
theorem sp_Mn_isSheet (l : Launch) (p1 : Int32) (σ : St) : Spc l shC 3 md_Mn_isSheet [.int p1] σ (Mn_isSheet p1 σ) := by
  refine Spc_of_Ux [(0, .int p1)] (by decide) rfl (Nat.le_of_ble_eq_true rfl) ?_
  unfold Mn_isSheet
  refine ux_iload_n (dg hd_Mn_isSheet 0 rfl) rfl ?_
  refine ux_iconst (3 : Int32) (dg hd_Mn_isSheet 1 rfl) (by decide) ?_
  refine ux_callSi (As := [.int p1, .int (3 : Int32)]) (sp_Mn_isWithin l p1 (3 : Int32) _) (by omega) cs_Mn_isWithin wk_322 rfl rfl (Nat.le_of_ble_eq_true rfl) (dg hd_Mn_isSheet 2 rfl) (fun r1 σ2 _ => ?_)
  exact ux_zretg rfl (dg hd_Mn_isSheet 3 rfl)
def Mn_isBits (p1 : Int32) (σ : St) : Option (Int32 × St) :=
  if p1 = (0 : Int32) then (
  some ((1 : Int32), σ)) else (
  if p1 = (8 : Int32) then (
  some ((1 : Int32), σ)) else (
  if p1 = (16 : Int32) then (
  some ((1 : Int32), σ)) else (
  if p1 = (32 : Int32) then (
  some ((1 : Int32), σ)) else (
  some ((0 : Int32), σ)))))
set_option maxRecDepth 100000 in
theorem sp_Mn_isBits (l : Launch) (p1 : Int32) (σ : St) : Spc l shC 2 md_Mn_isBits [.int p1] σ (Mn_isBits p1 σ) := by
  refine Spc_of_Ux [(0, .int p1)] (by decide) rfl (Nat.le_of_ble_eq_true rfl) ?_
  unfold Mn_isBits
  refine ux_iload_n (dg hd_Mn_isBits 0 rfl) rfl ?_
  refine ux_if_eq 22 (dg hd_Mn_isBits 1 rfl) (by decide) (fun _ => ?_) (fun _ => ?_)
  · refine ux_iconst (1 : Int32) (dg hd_Mn_isBits 11 rfl) (by decide) ?_
    refine ux_goto 27 (dg hd_Mn_isBits 12 rfl) (by decide) ?_
    exact ux_zret rfl (dg hd_Mn_isBits 14 rfl) (isB_n (by decide))
  · refine ux_iload_n (dg hd_Mn_isBits 2 rfl) rfl ?_
    refine ux_bipush (8 : Int32) (dg hd_Mn_isBits 3 rfl) (by decide) ?_
    refine ux_icmp_eq 22 (dg hd_Mn_isBits 4 rfl) (by decide) (fun _ => ?_) (fun _ => ?_)
    · refine ux_iconst (1 : Int32) (dg hd_Mn_isBits 11 rfl) (by decide) ?_
      refine ux_goto 27 (dg hd_Mn_isBits 12 rfl) (by decide) ?_
      exact ux_zret rfl (dg hd_Mn_isBits 14 rfl) (isB_n (by decide))
    · refine ux_iload_n (dg hd_Mn_isBits 5 rfl) rfl ?_
      refine ux_bipush (16 : Int32) (dg hd_Mn_isBits 6 rfl) (by decide) ?_
      refine ux_icmp_eq 22 (dg hd_Mn_isBits 7 rfl) (by decide) (fun _ => ?_) (fun _ => ?_)
      · refine ux_iconst (1 : Int32) (dg hd_Mn_isBits 11 rfl) (by decide) ?_
        refine ux_goto 27 (dg hd_Mn_isBits 12 rfl) (by decide) ?_
        exact ux_zret rfl (dg hd_Mn_isBits 14 rfl) (isB_n (by decide))
      · refine ux_iload_n (dg hd_Mn_isBits 8 rfl) rfl ?_
        refine ux_bipush (32 : Int32) (dg hd_Mn_isBits 9 rfl) (by decide) ?_
        refine ux_icmp_ne 26 (dg hd_Mn_isBits 10 rfl) (by decide) (fun _ => ?_) (fun _ => ?_)
        · refine ux_iconst (1 : Int32) (dg hd_Mn_isBits 11 rfl) (by decide) ?_
          refine ux_goto 27 (dg hd_Mn_isBits 12 rfl) (by decide) ?_
          exact ux_zret rfl (dg hd_Mn_isBits 14 rfl) (isB_n (by decide))
        · refine ux_iconst (0 : Int32) (dg hd_Mn_isBits 13 rfl) (by decide) ?_
          exact ux_zret rfl (dg hd_Mn_isBits 14 rfl) (isB_n (by decide))
