def Rp_copy (o : Nat) (p1 : Nat) (σ : St) : Option (Int32 × St) :=
  grd (inb (0 : Int32) (rpx o).length) (wid ((rpx o).getD (0 : Int32).toNatClampNeg 0) (fun q1 =>
  grd (inb (0 : Int32) (rpx p1).length) (wid ((rpx p1).getD (0 : Int32).toNatClampNeg 0) (fun q2 =>
  bnd (Tx_copy q1 q2 σ) (fun r3 σ4 =>
  grd (inb (1 : Int32) (rpx o).length) (wid ((rpx o).getD (1 : Int32).toNatClampNeg 0) (fun q5 =>
  grd (inb (1 : Int32) (rpx p1).length) (wid ((rpx p1).getD (1 : Int32).toNatClampNeg 0) (fun q6 =>
  bnd (Tx_copy q5 q6 σ4) (fun r7 σ8 =>
  grd (cpb (0 : Int32) (0 : Int32) (6 : Int32) 6 6) (
  nas (sC σ8 (p1 + 1) (0 : Int32).toNatClampNeg (o + 1) (0 : Int32).toNatClampNeg (6 : Int32).toNatClampNeg) (fun σ9 =>
  grd (cpb (0 : Int32) (0 : Int32) (6 : Int32) 6 6) (
  nas (sC σ9 (p1 + 2) (0 : Int32).toNatClampNeg (o + 2) (0 : Int32).toNatClampNeg (6 : Int32).toNatClampNeg) (fun σ10 =>
  grd (cpb (0 : Int32) (0 : Int32) (6 : Int32) 6 6) (
  nas (sC σ10 (p1 + 3) (0 : Int32).toNatClampNeg (o + 3) (0 : Int32).toNatClampNeg (6 : Int32).toNatClampNeg) (fun σ11 =>
  grd (cpb (0 : Int32) (0 : Int32) (6 : Int32) 6 6) (
  nas (sC σ11 (p1 + 4) (0 : Int32).toNatClampNeg (o + 4) (0 : Int32).toNatClampNeg (6 : Int32).toNatClampNeg) (fun σ12 =>
  grd (cpb (0 : Int32) (0 : Int32) (6 : Int32) 6 6) (
  nas (sC σ12 (p1 + 5) (0 : Int32).toNatClampNeg (o + 5) (0 : Int32).toNatClampNeg (6 : Int32).toNatClampNeg) (fun σ13 =>
  grd (cpb (0 : Int32) (0 : Int32) (2 : Int32) 2 2) (
  nas (sC σ13 (p1 + 6) (0 : Int32).toNatClampNeg (o + 6) (0 : Int32).toNatClampNeg (2 : Int32).toNatClampNeg) (fun σ14 =>
  nas (sF σ14 o 9 (σ14.1 p1 9)) (fun σ15 =>
  nas (sF σ15 o 10 (σ15.1 p1 10)) (fun σ16 =>
  nas (sF σ16 o 11 (σ16.1 p1 11)) (fun σ17 =>
  nas (sF σ17 o 12 (σ17.1 p1 12)) (fun σ18 =>
  nas (sF σ18 o 13 (σ18.1 p1 13)) (fun σ19 =>
  nas (sF σ19 o 14 (σ19.1 p1 14)) (fun σ20 =>
  some (0, σ20)))))))))))))))))))))))))))))
set_option maxRecDepth 100000 in
theorem sp_Rp_copy (l : Launch) {o : Nat} (ho : isRp o) {p1 : Nat} (hp1 : isRp p1) (σ : St) : Spc l shC 4 md_Rp_copy [.ref o, .ref p1] σ (Rp_copy o p1 σ) := by
  refine Spc_of_Ux [(0, .ref o), (1, .ref p1)] (by decide) rfl (Nat.le_of_ble_eq_true rfl) ?_
  unfold Rp_copy
  refine ux_aload_n (dg hd_Rp_copy 0 rfl) rfl ?_
  refine ux_getr (q := (rpt o)) fcX1 0 (by decide) wk_122 (rpO ho) rfl (dg hd_Rp_copy 1 rfl) ?_
  refine ux_iconst (0 : Int32) (dg hd_Rp_copy 2 rfl) (by decide) ?_
  refine ux_aald (rpX ho) (fun _ => rfl) (dg hd_Rp_copy 3 rfl) (fun q1 hq1 => ?_)
  have hq1 := rpx_tx hq1
  refine ux_aload_n (dg hd_Rp_copy 4 rfl) rfl ?_
  refine ux_getr (q := (rpt p1)) fcX1 0 (by decide) wk_122 (rpO hp1) rfl (dg hd_Rp_copy 5 rfl) ?_
  refine ux_iconst (0 : Int32) (dg hd_Rp_copy 6 rfl) (by decide) ?_
  refine ux_aald (rpX hp1) (fun _ => rfl) (dg hd_Rp_copy 7 rfl) (fun q2 hq2 => ?_)
  have hq2 := rpx_tx hq2
  refine ux_callVv (As := [.ref q2]) (sp_Tx_copy l hq1 hq2  _) (by omega) cv_Tx_copy wk_590 rfl rfl (txO hq1) rfl rfl (Nat.le_of_ble_eq_true rfl) (dg hd_Rp_copy 8 rfl) (fun r3 σ4 _ => ?_)
  refine ux_aload_n (dg hd_Rp_copy 9 rfl) rfl ?_
  refine ux_getr (q := (rpt o)) fcX1 0 (by decide) wk_122 (rpO ho) rfl (dg hd_Rp_copy 10 rfl) ?_
  refine ux_iconst (1 : Int32) (dg hd_Rp_copy 11 rfl) (by decide) ?_
  refine ux_aald (rpX ho) (fun _ => rfl) (dg hd_Rp_copy 12 rfl) (fun q5 hq5 => ?_)
  have hq5 := rpx_tx hq5
  refine ux_aload_n (dg hd_Rp_copy 13 rfl) rfl ?_
  refine ux_getr (q := (rpt p1)) fcX1 0 (by decide) wk_122 (rpO hp1) rfl (dg hd_Rp_copy 14 rfl) ?_
  refine ux_iconst (1 : Int32) (dg hd_Rp_copy 15 rfl) (by decide) ?_
  refine ux_aald (rpX hp1) (fun _ => rfl) (dg hd_Rp_copy 16 rfl) (fun q6 hq6 => ?_)
  have hq6 := rpx_tx hq6
  refine ux_callVv (As := [.ref q6]) (sp_Tx_copy l hq5 hq6  _) (by omega) cv_Tx_copy wk_590 rfl rfl (txO hq5) rfl rfl (Nat.le_of_ble_eq_true rfl) (dg hd_Rp_copy 17 rfl) (fun r7 σ8 _ => ?_)
  refine ux_aload_n (dg hd_Rp_copy 18 rfl) rfl ?_
  refine ux_getr (q := (p1 + 1)) fcX1 1 (by decide) wk_124 (rpO hp1) rfl (dg hd_Rp_copy 19 rfl) ?_
  refine ux_iconst (0 : Int32) (dg hd_Rp_copy 20 rfl) (by decide) ?_
  refine ux_aload_n (dg hd_Rp_copy 21 rfl) rfl ?_
  refine ux_getr (q := (o + 1)) fcX1 1 (by decide) wk_124 (rpO ho) rfl (dg hd_Rp_copy 22 rfl) ?_
  refine ux_iconst (0 : Int32) (dg hd_Rp_copy 23 rfl) (by decide) ?_
  refine ux_bipush (6 : Int32) (dg hd_Rp_copy 24 rfl) (by decide) ?_
  refine ux_acopy (by omega) (Nat.le_of_ble_eq_true rfl) wk_595 wk_480 wk_479 wk_85 (rpA1 hp1) (rpA1 ho) (dg hd_Rp_copy 25 rfl) ?_
  refine ux_nas (fun σ9 => ?_)
  refine ux_aload_n (dg hd_Rp_copy 26 rfl) rfl ?_
  refine ux_getr (q := (p1 + 2)) fcX1 2 (by decide) wk_126 (rpO hp1) rfl (dg hd_Rp_copy 27 rfl) ?_
  refine ux_iconst (0 : Int32) (dg hd_Rp_copy 28 rfl) (by decide) ?_
  refine ux_aload_n (dg hd_Rp_copy 29 rfl) rfl ?_
  refine ux_getr (q := (o + 2)) fcX1 2 (by decide) wk_126 (rpO ho) rfl (dg hd_Rp_copy 30 rfl) ?_
  refine ux_iconst (0 : Int32) (dg hd_Rp_copy 31 rfl) (by decide) ?_
  refine ux_bipush (6 : Int32) (dg hd_Rp_copy 32 rfl) (by decide) ?_
  refine ux_acopy (by omega) (Nat.le_of_ble_eq_true rfl) wk_595 wk_480 wk_479 wk_85 (rpA2 hp1) (rpA2 ho) (dg hd_Rp_copy 33 rfl) ?_
  refine ux_nas (fun σ10 => ?_)
  refine ux_aload_n (dg hd_Rp_copy 34 rfl) rfl ?_
  refine ux_getr (q := (p1 + 3)) fcX1 3 (by decide) wk_128 (rpO hp1) rfl (dg hd_Rp_copy 35 rfl) ?_
  refine ux_iconst (0 : Int32) (dg hd_Rp_copy 36 rfl) (by decide) ?_
  refine ux_aload_n (dg hd_Rp_copy 37 rfl) rfl ?_
  refine ux_getr (q := (o + 3)) fcX1 3 (by decide) wk_128 (rpO ho) rfl (dg hd_Rp_copy 38 rfl) ?_
  refine ux_iconst (0 : Int32) (dg hd_Rp_copy 39 rfl) (by decide) ?_
  refine ux_bipush (6 : Int32) (dg hd_Rp_copy 40 rfl) (by decide) ?_
  refine ux_acopy (by omega) (Nat.le_of_ble_eq_true rfl) wk_595 wk_480 wk_479 wk_85 (rpA3 hp1) (rpA3 ho) (dg hd_Rp_copy 41 rfl) ?_
  refine ux_nas (fun σ11 => ?_)
  refine ux_aload_n (dg hd_Rp_copy 42 rfl) rfl ?_
  refine ux_getr (q := (p1 + 4)) fcX1 4 (by decide) wk_130 (rpO hp1) rfl (dg hd_Rp_copy 43 rfl) ?_
  refine ux_iconst (0 : Int32) (dg hd_Rp_copy 44 rfl) (by decide) ?_
  refine ux_aload_n (dg hd_Rp_copy 45 rfl) rfl ?_
  refine ux_getr (q := (o + 4)) fcX1 4 (by decide) wk_130 (rpO ho) rfl (dg hd_Rp_copy 46 rfl) ?_
  refine ux_iconst (0 : Int32) (dg hd_Rp_copy 47 rfl) (by decide) ?_
  refine ux_bipush (6 : Int32) (dg hd_Rp_copy 48 rfl) (by decide) ?_
  refine ux_acopy (by omega) (Nat.le_of_ble_eq_true rfl) wk_595 wk_480 wk_479 wk_85 (rpA4 hp1) (rpA4 ho) (dg hd_Rp_copy 49 rfl) ?_
  refine ux_nas (fun σ12 => ?_)
  refine ux_aload_n (dg hd_Rp_copy 50 rfl) rfl ?_
  refine ux_getr (q := (p1 + 5)) fcX1 5 (by decide) wk_132 (rpO hp1) rfl (dg hd_Rp_copy 51 rfl) ?_
  refine ux_iconst (0 : Int32) (dg hd_Rp_copy 52 rfl) (by decide) ?_
  refine ux_aload_n (dg hd_Rp_copy 53 rfl) rfl ?_
  refine ux_getr (q := (o + 5)) fcX1 5 (by decide) wk_132 (rpO ho) rfl (dg hd_Rp_copy 54 rfl) ?_
  refine ux_iconst (0 : Int32) (dg hd_Rp_copy 55 rfl) (by decide) ?_
  refine ux_bipush (6 : Int32) (dg hd_Rp_copy 56 rfl) (by decide) ?_
  refine ux_acopy (by omega) (Nat.le_of_ble_eq_true rfl) wk_595 wk_480 wk_479 wk_85 (rpA5 hp1) (rpA5 ho) (dg hd_Rp_copy 57 rfl) ?_
  refine ux_nas (fun σ13 => ?_)
  refine ux_aload_n (dg hd_Rp_copy 58 rfl) rfl ?_
  refine ux_getr (q := (p1 + 6)) fcX1 6 (by decide) wk_134 (rpO hp1) rfl (dg hd_Rp_copy 59 rfl) ?_
  refine ux_iconst (0 : Int32) (dg hd_Rp_copy 60 rfl) (by decide) ?_
  refine ux_aload_n (dg hd_Rp_copy 61 rfl) rfl ?_
  refine ux_getr (q := (o + 6)) fcX1 6 (by decide) wk_134 (rpO ho) rfl (dg hd_Rp_copy 62 rfl) ?_
  refine ux_iconst (0 : Int32) (dg hd_Rp_copy 63 rfl) (by decide) ?_
  refine ux_aload_n (dg hd_Rp_copy 64 rfl) rfl ?_
  refine ux_getr (q := (o + 6)) fcX1 6 (by decide) wk_134 (rpO ho) rfl (dg hd_Rp_copy 65 rfl) ?_
  refine ux_alen (2 : Int32) (rpA6 ho) rfl (dg hd_Rp_copy 66 rfl) ?_
  refine ux_acopy (by omega) (Nat.le_of_ble_eq_true rfl) wk_595 wk_480 wk_479 wk_85 (rpA6 hp1) (rpA6 ho) (dg hd_Rp_copy 67 rfl) ?_
  refine ux_nas (fun σ14 => ?_)
  refine ux_aload_n (dg hd_Rp_copy 68 rfl) rfl ?_
  refine ux_aload_n (dg hd_Rp_copy 69 rfl) rfl ?_
  refine ux_get fcX1 9 (by decide) wk_140 (rpO hp1) rfl (dg hd_Rp_copy 70 rfl) ?_
  refine ux_put fcX1 9 (by decide) wk_140 rfl rfl ⟨rfl, rfl⟩ (rpO ho) rfl (dg hd_Rp_copy 71 rfl) ?_
  refine ux_nas (fun σ15 => ?_)
  refine ux_aload_n (dg hd_Rp_copy 72 rfl) rfl ?_
  refine ux_aload_n (dg hd_Rp_copy 73 rfl) rfl ?_
  refine ux_get fcX1 10 (by decide) wk_141 (rpO hp1) rfl (dg hd_Rp_copy 74 rfl) ?_
  refine ux_put fcX1 10 (by decide) wk_141 rfl rfl ⟨rfl, rfl⟩ (rpO ho) rfl (dg hd_Rp_copy 75 rfl) ?_
  refine ux_nas (fun σ16 => ?_)
  refine ux_aload_n (dg hd_Rp_copy 76 rfl) rfl ?_
  refine ux_aload_n (dg hd_Rp_copy 77 rfl) rfl ?_
  refine ux_get fcX1 11 (by decide) wk_143 (rpO hp1) rfl (dg hd_Rp_copy 78 rfl) ?_
  refine ux_put fcX1 11 (by decide) wk_143 rfl rfl ⟨rfl, rfl⟩ (rpO ho) rfl (dg hd_Rp_copy 79 rfl) ?_
  refine ux_nas (fun σ17 => ?_)
  refine ux_aload_n (dg hd_Rp_copy 80 rfl) rfl ?_
  refine ux_aload_n (dg hd_Rp_copy 81 rfl) rfl ?_
  refine ux_get fcX1 12 (by decide) wk_145 (rpO hp1) rfl (dg hd_Rp_copy 82 rfl) ?_
  refine ux_put fcX1 12 (by decide) wk_145 rfl rfl ⟨rfl, rfl⟩ (rpO ho) rfl (dg hd_Rp_copy 83 rfl) ?_
  refine ux_nas (fun σ18 => ?_)
  refine ux_aload_n (dg hd_Rp_copy 84 rfl) rfl ?_
  refine ux_aload_n (dg hd_Rp_copy 85 rfl) rfl ?_
  refine ux_get fcX1 13 (by decide) wk_147 (rpO hp1) rfl (dg hd_Rp_copy 86 rfl) ?_
  refine ux_put fcX1 13 (by decide) wk_147 rfl rfl ⟨rfl, rfl⟩ (rpO ho) rfl (dg hd_Rp_copy 87 rfl) ?_
  refine ux_nas (fun σ19 => ?_)
  refine ux_aload_n (dg hd_Rp_copy 88 rfl) rfl ?_
  refine ux_aload_n (dg hd_Rp_copy 89 rfl) rfl ?_
  refine ux_get fcX1 14 (by decide) wk_149 (rpO hp1) rfl (dg hd_Rp_copy 90 rfl) ?_
  refine ux_put fcX1 14 (by decide) wk_149 rfl rfl ⟨rfl, rfl⟩ (rpO ho) rfl (dg hd_Rp_copy 91 rfl) ?_
  refine ux_nas (fun σ20 => ?_)
  exact ux_vret rfl (dg hd_Rp_copy 92 rfl)
def Rp_has (o : Nat) (p1 : Int32) (σ : St) : Option (Int32 × St) :=
  if p1 < (0 : Int32) then (
  some ((0 : Int32), σ)) else (
  if (σ.1 o 9) ≤ p1 then (
  some ((0 : Int32), σ)) else (
  some ((1 : Int32), σ)))
set_option maxRecDepth 100000 in
theorem sp_Rp_has (l : Launch) {o : Nat} (ho : isRp o) (p1 : Int32) (σ : St) : Spc l shC 2 md_Rp_has [.ref o, .int p1] σ (Rp_has o p1 σ) := by
  refine Spc_of_Ux [(0, .ref o), (1, .int p1)] (by decide) rfl (Nat.le_of_ble_eq_true rfl) ?_
  unfold Rp_has
  refine ux_iload_n (dg hd_Rp_has 0 rfl) rfl ?_
  refine ux_if_lt 16 (dg hd_Rp_has 1 rfl) (by decide) (fun _ => ?_) (fun _ => ?_)
  · refine ux_iconst (0 : Int32) (dg hd_Rp_has 8 rfl) (by decide) ?_
    exact ux_zret rfl (dg hd_Rp_has 9 rfl) (isB_n (by decide))
  · refine ux_iload_n (dg hd_Rp_has 2 rfl) rfl ?_
    refine ux_aload_n (dg hd_Rp_has 3 rfl) rfl ?_
    refine ux_get fcX1 9 (by decide) wk_140 (rpO ho) rfl (dg hd_Rp_has 4 rfl) ?_
    refine ux_icmp_ge 16 (dg hd_Rp_has 5 rfl) (by decide) (fun _ => ?_) (fun _ => ?_)
    · refine ux_iconst (0 : Int32) (dg hd_Rp_has 8 rfl) (by decide) ?_
      exact ux_zret rfl (dg hd_Rp_has 9 rfl) (isB_n (by decide))
    · refine ux_iconst (1 : Int32) (dg hd_Rp_has 6 rfl) (by decide) ?_
      refine ux_goto 17 (dg hd_Rp_has 7 rfl) (by decide) ?_
      exact ux_zret rfl (dg hd_Rp_has 9 rfl) (isB_n (by decide))
def Rp_setKindAndMark (o : Nat) (p1 : Int32) (p2 : Int32) (σ : St) : Option (Int32 × St) :=
  grd (nz (10 : Int32)) (
  grd (inb p1 6) (
  nas (sA σ (o + 1) p1.toNatClampNeg (p2 / (10 : Int32))) (fun σ1 =>
  grd (nz (10 : Int32)) (
  grd (inb p1 6) (
  nas (sA σ1 (o + 2) p1.toNatClampNeg (irm p2 (10 : Int32))) (fun σ2 =>
  some (0, σ2)))))))
set_option maxRecDepth 100000 in
theorem sp_Rp_setKindAndMark (l : Launch) {o : Nat} (ho : isRp o) (p1 : Int32) (p2 : Int32) (σ : St) : Spc l shC 2 md_Rp_setKindAndMark [.ref o, .int p1, .int p2] σ (Rp_setKindAndMark o p1 p2 σ) := by
  refine Spc_of_Ux [(0, .ref o), (1, .int p1), (2, .int p2)] (by decide) rfl (Nat.le_of_ble_eq_true rfl) ?_
  unfold Rp_setKindAndMark
  refine ux_aload_n (dg hd_Rp_setKindAndMark 0 rfl) rfl ?_
  refine ux_getr (q := (o + 1)) fcX1 1 (by decide) wk_124 (rpO ho) rfl (dg hd_Rp_setKindAndMark 1 rfl) ?_
  refine ux_iload_n (dg hd_Rp_setKindAndMark 2 rfl) rfl ?_
  refine ux_iload_n (dg hd_Rp_setKindAndMark 3 rfl) rfl ?_
  refine ux_bipush (10 : Int32) (dg hd_Rp_setKindAndMark 4 rfl) (by decide) ?_
  refine ux_idiv (dg hd_Rp_setKindAndMark 5 rfl) ?_
  refine ux_iast (rpA1 ho) (dg hd_Rp_setKindAndMark 6 rfl) ?_
  refine ux_nas (fun σ1 => ?_)
  refine ux_aload_n (dg hd_Rp_setKindAndMark 7 rfl) rfl ?_
  refine ux_getr (q := (o + 2)) fcX1 2 (by decide) wk_126 (rpO ho) rfl (dg hd_Rp_setKindAndMark 8 rfl) ?_
  refine ux_iload_n (dg hd_Rp_setKindAndMark 9 rfl) rfl ?_
  refine ux_iload_n (dg hd_Rp_setKindAndMark 10 rfl) rfl ?_
  refine ux_bipush (10 : Int32) (dg hd_Rp_setKindAndMark 11 rfl) (by decide) ?_
  refine ux_irem (dg hd_Rp_setKindAndMark 12 rfl) ?_
  refine ux_iast (rpA2 ho) (dg hd_Rp_setKindAndMark 13 rfl) ?_
  refine ux_nas (fun σ2 => ?_)
  exact ux_vret rfl (dg hd_Rp_setKindAndMark 14 rfl)
def Rp_add (o : Nat) (p1 : Int32) (p2 : Int32) (p3 : Int32) (σ : St) : Option (Int32 × St) :=
  nam (σ.1 o 9) (fun y1 =>
  nas (sF σ o 9 ((σ.1 o 9) + (1 : Int32))) (fun σ2 =>
  bnd (Rp_setKindAndMark o y1 p1 σ2) (fun r3 σ4 =>
  grd (inb y1 6) (
  nas (sA σ4 (o + 3) y1.toNatClampNeg p2) (fun σ5 =>
  grd (inb y1 6) (
  nas (sA σ5 (o + 4) y1.toNatClampNeg p3) (fun σ6 =>
  grd (inb y1 6) (
  nas (sA σ6 (o + 5) y1.toNatClampNeg (0 : Int32)) (fun σ7 =>
  some (y1, σ7))))))))))
set_option maxRecDepth 100000 in
theorem sp_Rp_add (l : Launch) {o : Nat} (ho : isRp o) (p1 : Int32) (p2 : Int32) (p3 : Int32) (σ : St) : Spc l shC 3 md_Rp_add [.ref o, .int p1, .int p2, .int p3] σ (Rp_add o p1 p2 p3 σ) := by
  refine Spc_of_Ux [(0, .ref o), (1, .int p1), (2, .int p2), (3, .int p3)] (by decide) rfl (Nat.le_of_ble_eq_true rfl) ?_
  unfold Rp_add
  refine ux_aload_n (dg hd_Rp_add 0 rfl) rfl ?_
  refine ux_get fcX1 9 (by decide) wk_140 (rpO ho) rfl (dg hd_Rp_add 1 rfl) ?_
  refine ux_nam (fun y1 => ?_)
  refine ux_istore [(4, .int y1), (0, .ref o), (1, .int p1), (2, .int p2), (3, .int p3)] (dg hd_Rp_add 2 rfl) (by decide) rfl ?_
  refine ux_aload_n (dg hd_Rp_add 3 rfl) rfl ?_
  refine ux_dupr (dg hd_Rp_add 4 rfl) ?_
  refine ux_get fcX1 9 (by decide) wk_140 (rpO ho) rfl (dg hd_Rp_add 5 rfl) ?_
  refine ux_iconst (1 : Int32) (dg hd_Rp_add 6 rfl) (by decide) ?_
  refine ux_iadd (dg hd_Rp_add 7 rfl) ?_
  refine ux_put fcX1 9 (by decide) wk_140 rfl rfl ⟨rfl, rfl⟩ (rpO ho) rfl (dg hd_Rp_add 8 rfl) ?_
  refine ux_nas (fun σ2 => ?_)
  refine ux_aload_n (dg hd_Rp_add 9 rfl) rfl ?_
  refine ux_iload (dg hd_Rp_add 10 rfl) rfl ?_
  refine ux_iload_n (dg hd_Rp_add 11 rfl) rfl ?_
  refine ux_callVv (As := [.int y1, .int p1]) (sp_Rp_setKindAndMark l ho y1 p1 _) (by omega) cv_Rp_setKindAndMark wk_334 rfl rfl (rpO ho) rfl rfl (Nat.le_of_ble_eq_true rfl) (dg hd_Rp_add 12 rfl) (fun r3 σ4 _ => ?_)
  refine ux_aload_n (dg hd_Rp_add 13 rfl) rfl ?_
  refine ux_getr (q := (o + 3)) fcX1 3 (by decide) wk_128 (rpO ho) rfl (dg hd_Rp_add 14 rfl) ?_
  refine ux_iload (dg hd_Rp_add 15 rfl) rfl ?_
  refine ux_iload_n (dg hd_Rp_add 16 rfl) rfl ?_
  refine ux_iast (rpA3 ho) (dg hd_Rp_add 17 rfl) ?_
  refine ux_nas (fun σ5 => ?_)
  refine ux_aload_n (dg hd_Rp_add 18 rfl) rfl ?_
  refine ux_getr (q := (o + 4)) fcX1 4 (by decide) wk_130 (rpO ho) rfl (dg hd_Rp_add 19 rfl) ?_
  refine ux_iload (dg hd_Rp_add 20 rfl) rfl ?_
  refine ux_iload_n (dg hd_Rp_add 21 rfl) rfl ?_
  refine ux_iast (rpA4 ho) (dg hd_Rp_add 22 rfl) ?_
  refine ux_nas (fun σ6 => ?_)
  refine ux_aload_n (dg hd_Rp_add 23 rfl) rfl ?_
  refine ux_getr (q := (o + 5)) fcX1 5 (by decide) wk_132 (rpO ho) rfl (dg hd_Rp_add 24 rfl) ?_
  refine ux_iload (dg hd_Rp_add 25 rfl) rfl ?_
  refine ux_iconst (0 : Int32) (dg hd_Rp_add 26 rfl) (by decide) ?_
  refine ux_iast (rpA5 ho) (dg hd_Rp_add 27 rfl) ?_
  refine ux_nas (fun σ7 => ?_)
  refine ux_iload (dg hd_Rp_add 28 rfl) rfl ?_
  exact ux_iret rfl (dg hd_Rp_add 29 rfl)
def Rp_word (o : Nat) (σ : St) : Option (Int32 × St) :=
  grd (nz (4 : Int32)) (
  some ((irm (σ.1 o 10) (4 : Int32)), σ))
set_option maxRecDepth 100000 in
theorem sp_Rp_word (l : Launch) {o : Nat} (ho : isRp o) (σ : St) : Spc l shC 2 md_Rp_word [.ref o] σ (Rp_word o  σ) := by
  refine Spc_of_Ux [(0, .ref o)] (by decide) rfl (Nat.le_of_ble_eq_true rfl) ?_
  unfold Rp_word
  refine ux_aload_n (dg hd_Rp_word 0 rfl) rfl ?_
  refine ux_get fcX1 10 (by decide) wk_141 (rpO ho) rfl (dg hd_Rp_word 1 rfl) ?_
  refine ux_iconst (4 : Int32) (dg hd_Rp_word 2 rfl) (by decide) ?_
  refine ux_irem (dg hd_Rp_word 3 rfl) ?_
  exact ux_iret rfl (dg hd_Rp_word 4 rfl)
def Rp_turns (o : Nat) (σ : St) : Option (Int32 × St) :=
  grd (inb (0 : Int32) 2) (
  if (σ.2 (o + 6) (0 : Int32).toNatClampNeg) ≤ (0 : Int32) then (
  some ((0 : Int32), σ)) else (
  grd (inb (1 : Int32) 2) (
  if (σ.2 (o + 6) (1 : Int32).toNatClampNeg) ≤ (0 : Int32) then (
  some ((0 : Int32), σ)) else (
  some ((1 : Int32), σ)))))
set_option maxRecDepth 100000 in
theorem sp_Rp_turns (l : Launch) {o : Nat} (ho : isRp o) (σ : St) : Spc l shC 2 md_Rp_turns [.ref o] σ (Rp_turns o  σ) := by
  refine Spc_of_Ux [(0, .ref o)] (by decide) rfl (Nat.le_of_ble_eq_true rfl) ?_
  unfold Rp_turns
  refine ux_aload_n (dg hd_Rp_turns 0 rfl) rfl ?_
  refine ux_getr (q := (o + 6)) fcX1 6 (by decide) wk_134 (rpO ho) rfl (dg hd_Rp_turns 1 rfl) ?_
  refine ux_iconst (0 : Int32) (dg hd_Rp_turns 2 rfl) (by decide) ?_
  refine ux_iald (rpA6 ho) (dg hd_Rp_turns 3 rfl) ?_
  refine ux_if_le 22 (dg hd_Rp_turns 4 rfl) (by decide) (fun _ => ?_) (fun _ => ?_)
  · refine ux_iconst (0 : Int32) (dg hd_Rp_turns 12 rfl) (by decide) ?_
    exact ux_zret rfl (dg hd_Rp_turns 13 rfl) (isB_n (by decide))
  · refine ux_aload_n (dg hd_Rp_turns 5 rfl) rfl ?_
    refine ux_getr (q := (o + 6)) fcX1 6 (by decide) wk_134 (rpO ho) rfl (dg hd_Rp_turns 6 rfl) ?_
    refine ux_iconst (1 : Int32) (dg hd_Rp_turns 7 rfl) (by decide) ?_
    refine ux_iald (rpA6 ho) (dg hd_Rp_turns 8 rfl) ?_
    refine ux_if_le 22 (dg hd_Rp_turns 9 rfl) (by decide) (fun _ => ?_) (fun _ => ?_)
    · refine ux_iconst (0 : Int32) (dg hd_Rp_turns 12 rfl) (by decide) ?_
      exact ux_zret rfl (dg hd_Rp_turns 13 rfl) (isB_n (by decide))
    · refine ux_iconst (1 : Int32) (dg hd_Rp_turns 10 rfl) (by decide) ?_
      refine ux_goto 23 (dg hd_Rp_turns 11 rfl) (by decide) ?_
      exact ux_zret rfl (dg hd_Rp_turns 13 rfl) (isB_n (by decide))
def Rp_mayTalk (o : Nat) (σ : St) : Option (Int32 × St) :=
  bnd (Rp_turns o  σ) (fun r1 σ2 =>
  if r1 = (0 : Int32) then (
  some ((0 : Int32), σ2)) else (
  bnd (Rp_word o  σ2) (fun r3 σ4 =>
  if r3 = (3 : Int32) then (
  some ((0 : Int32), σ4)) else (
  some ((1 : Int32), σ4)))))
set_option maxRecDepth 100000 in
theorem sp_Rp_mayTalk (l : Launch) {o : Nat} (ho : isRp o) (σ : St) : Spc l shC 3 md_Rp_mayTalk [.ref o] σ (Rp_mayTalk o  σ) := by
  refine Spc_of_Ux [(0, .ref o)] (by decide) rfl (Nat.le_of_ble_eq_true rfl) ?_
  unfold Rp_mayTalk
  refine ux_aload_n (dg hd_Rp_mayTalk 0 rfl) rfl ?_
  refine ux_callVi (As := []) (sp_Rp_turns l ho  _) (by omega) cv_Rp_turns wk_453 rfl rfl (rpO ho) rfl rfl (Nat.le_of_ble_eq_true rfl) (dg hd_Rp_mayTalk 1 rfl) (fun r1 σ2 _ => ?_)
  refine ux_if_eq 19 (dg hd_Rp_mayTalk 2 rfl) (by decide) (fun _ => ?_) (fun _ => ?_)
  · refine ux_iconst (0 : Int32) (dg hd_Rp_mayTalk 9 rfl) (by decide) ?_
    exact ux_zret rfl (dg hd_Rp_mayTalk 10 rfl) (isB_n (by decide))
  · refine ux_aload_n (dg hd_Rp_mayTalk 3 rfl) rfl ?_
    refine ux_callVi (As := []) (sp_Rp_word l ho  _) (by omega) cv_Rp_word wk_354 rfl rfl (rpO ho) rfl rfl (Nat.le_of_ble_eq_true rfl) (dg hd_Rp_mayTalk 4 rfl) (fun r3 σ4 _ => ?_)
    refine ux_iconst (3 : Int32) (dg hd_Rp_mayTalk 5 rfl) (by decide) ?_
    refine ux_icmp_eq 19 (dg hd_Rp_mayTalk 6 rfl) (by decide) (fun _ => ?_) (fun _ => ?_)
    · refine ux_iconst (0 : Int32) (dg hd_Rp_mayTalk 9 rfl) (by decide) ?_
      exact ux_zret rfl (dg hd_Rp_mayTalk 10 rfl) (isB_n (by decide))
    · refine ux_iconst (1 : Int32) (dg hd_Rp_mayTalk 7 rfl) (by decide) ?_
      refine ux_goto 20 (dg hd_Rp_mayTalk 8 rfl) (by decide) ?_
      exact ux_zret rfl (dg hd_Rp_mayTalk 10 rfl) (isB_n (by decide))
def Rp_setIn_L4 : Nat → Nat → Int32 → Int32 → St → Option (Int32 × St)
  | 0, _, _, _, _ => none
  | n + 1, o, x1, x2, σ =>
    if (σ.1 o 9) ≤ x2 then (
    some (x1, σ)) else (
    grd (inb x2 6) (
    nam (x1 ||| ((σ.2 (o + 5) x2.toNatClampNeg) <<< (x2 &&& 31))) (fun y1 =>
    nam (x2 + (1 : Int32)) (fun y2 =>
    Rp_setIn_L4 n o y1 y2 σ))))
set_option maxRecDepth 100000 in
theorem wk_Rp_setIn_L4 (l : Launch) {o : Nat} (ho : isRp o) : ∀ (n : Nat) (x1 x2 : Int32) (σ : St), Ux l shC 2 md_Rp_setIn 4 [(0, .ref o), (1, .int x1), (2, .int x2)] [] σ (Rp_setIn_L4 n o x1 x2 σ) := by
  intro n
  induction n with
  | zero => intros; exact ux_none
  | succ n ih =>
    intro x1 x2 σ
    unfold Rp_setIn_L4
    refine ux_iload_n (dg hd_Rp_setIn 4 rfl) rfl ?_
    refine ux_aload_n (dg hd_Rp_setIn 5 rfl) rfl ?_
    refine ux_get fcX1 9 (by decide) wk_140 (rpO ho) rfl (dg hd_Rp_setIn 6 rfl) ?_
    refine ux_icmp_ge 29 (dg hd_Rp_setIn 7 rfl) (by decide) (fun _ => ?_) (fun _ => ?_)
    · refine ux_iload_n (dg hd_Rp_setIn 19 rfl) rfl ?_
      exact ux_iret rfl (dg hd_Rp_setIn 20 rfl)
    · refine ux_iload_n (dg hd_Rp_setIn 8 rfl) rfl ?_
      refine ux_aload_n (dg hd_Rp_setIn 9 rfl) rfl ?_
      refine ux_getr (q := (o + 5)) fcX1 5 (by decide) wk_132 (rpO ho) rfl (dg hd_Rp_setIn 10 rfl) ?_
      refine ux_iload_n (dg hd_Rp_setIn 11 rfl) rfl ?_
      refine ux_iald (rpA5 ho) (dg hd_Rp_setIn 12 rfl) ?_
      refine ux_iload_n (dg hd_Rp_setIn 13 rfl) rfl ?_
      refine ux_ishl (dg hd_Rp_setIn 14 rfl) ?_
      refine ux_ior (dg hd_Rp_setIn 15 rfl) ?_
      refine ux_nam (fun y1 => ?_)
      refine ux_istore_n [(1, .int y1), (0, .ref o), (2, .int x2)] (dg hd_Rp_setIn 16 rfl) (by decide) rfl ?_
      refine ux_iincN (1 : Int32) (fun y2 => [(2, .int y2), (1, .int y1), (0, .ref o)]) (dg hd_Rp_setIn 17 rfl) rfl (by decide) (by decide) (fun _ => rfl) (fun y2 => ?_)
      refine ux_goto 4 (dg hd_Rp_setIn 18 rfl) (by decide) ?_
      refine ux_wk [(0, .ref o), (1, .int y1), (2, .int y2)] [2, 1, 0] rfl ?_
      exact ih y1 y2 σ
def Rp_setIn (o : Nat) (σ : St) : Option (Int32 × St) :=
  Rp_setIn_L4 1000 o (0 : Int32) (0 : Int32) σ
set_option maxRecDepth 100000 in
theorem sp_Rp_setIn (l : Launch) {o : Nat} (ho : isRp o) (σ : St) : Spc l shC 2 md_Rp_setIn [.ref o] σ (Rp_setIn o  σ) := by
  refine Spc_of_Ux [(0, .ref o)] (by decide) rfl (Nat.le_of_ble_eq_true rfl) ?_
  unfold Rp_setIn
  refine ux_iconst (0 : Int32) (dg hd_Rp_setIn 0 rfl) (by decide) ?_
  refine ux_istore_n [(1, .int (0 : Int32)), (0, .ref o)] (dg hd_Rp_setIn 1 rfl) (by decide) rfl ?_
  refine ux_iconst (0 : Int32) (dg hd_Rp_setIn 2 rfl) (by decide) ?_
  refine ux_istore_n [(2, .int (0 : Int32)), (1, .int (0 : Int32)), (0, .ref o)] (dg hd_Rp_setIn 3 rfl) (by decide) rfl ?_
  refine ux_wk [(0, .ref o), (1, .int (0 : Int32)), (2, .int (0 : Int32))] [2, 1, 0] rfl ?_
  exact wk_Rp_setIn_L4 l ho 1000 (0 : Int32) (0 : Int32) σ
def Rp_howManyIn (o : Nat) (σ : St) : Option (Int32 × St) :=
  bnd (Rp_setIn o  σ) (fun r1 σ2 =>
  bnd (In_bitCount r1 σ2) (fun r3 σ4 =>
  some (r3, σ4)))
set_option maxRecDepth 100000 in
theorem sp_Rp_howManyIn (l : Launch) {o : Nat} (ho : isRp o) (σ : St) : Spc l shC 3 md_Rp_howManyIn [.ref o] σ (Rp_howManyIn o  σ) := by
  refine Spc_of_Ux [(0, .ref o)] (by decide) rfl (Nat.le_of_ble_eq_true rfl) ?_
  unfold Rp_howManyIn
  refine ux_aload_n (dg hd_Rp_howManyIn 0 rfl) rfl ?_
  refine ux_callVi (As := []) (sp_Rp_setIn l ho  _) (by omega) cv_Rp_setIn wk_362 rfl rfl (rpO ho) rfl rfl (Nat.le_of_ble_eq_true rfl) (dg hd_Rp_howManyIn 1 rfl) (fun r1 σ2 _ => ?_)
  refine ux_callSi (As := [.int r1]) (sp_In_bitCount l r1 _) (by omega) cs_In_bitCount wk_366 rfl rfl (Nat.le_of_ble_eq_true rfl) (dg hd_Rp_howManyIn 2 rfl) (fun r3 σ4 _ => ?_)
  exact ux_iret rfl (dg hd_Rp_howManyIn 3 rfl)
def Rp_takes (o : Nat) (p1 : Int32) (σ : St) : Option (Int32 × St) :=
  bnd (Rp_word o  σ) (fun r1 σ2 =>
  nam ((1 : Int32) + r1) (fun y3 =>
  grd (inb p1 6) (
  if (σ2.2 (o + 1) p1.toNatClampNeg) = (1 : Int32) then (
  some ((y3 + (1 : Int32)), σ2)) else if (σ2.2 (o + 1) p1.toNatClampNeg) = (2 : Int32) then (
  some (y3, σ2)) else if (σ2.2 (o + 1) p1.toNatClampNeg) = (3 : Int32) then (
  some ((1 : Int32), σ2)) else if (σ2.2 (o + 1) p1.toNatClampNeg) = (4 : Int32) then (
  bnd (Rp_howManyIn o  σ2) (fun r7 σ8 =>
  some (((y3 + (1 : Int32)) + r7), σ8))) else if (σ2.2 (o + 1) p1.toNatClampNeg) = (5 : Int32) then (
  grd (nz (2 : Int32)) (
  some ((y3 / (2 : Int32)), σ2))) else if (σ2.2 (o + 1) p1.toNatClampNeg) = (6 : Int32) then (
  some (((2 : Int32) * y3), σ2)) else (
  some (y3, σ2)))))
set_option maxRecDepth 100000 in
theorem sp_Rp_takes (l : Launch) {o : Nat} (ho : isRp o) (p1 : Int32) (σ : St) : Spc l shC 4 md_Rp_takes [.ref o, .int p1] σ (Rp_takes o p1 σ) := by
  refine Spc_of_Ux [(0, .ref o), (1, .int p1)] (by decide) rfl (Nat.le_of_ble_eq_true rfl) ?_
  unfold Rp_takes
  refine ux_iconst (1 : Int32) (dg hd_Rp_takes 0 rfl) (by decide) ?_
  refine ux_aload_n (dg hd_Rp_takes 1 rfl) rfl ?_
  refine ux_callVi (As := []) (sp_Rp_word l ho  _) (by omega) cv_Rp_word wk_354 rfl rfl (rpO ho) rfl rfl (Nat.le_of_ble_eq_true rfl) (dg hd_Rp_takes 2 rfl) (fun r1 σ2 _ => ?_)
  refine ux_iadd (dg hd_Rp_takes 3 rfl) ?_
  refine ux_nam (fun y3 => ?_)
  refine ux_istore_n [(2, .int y3), (0, .ref o), (1, .int p1)] (dg hd_Rp_takes 4 rfl) (by decide) rfl ?_
  refine ux_aload_n (dg hd_Rp_takes 5 rfl) rfl ?_
  refine ux_getr (q := (o + 1)) fcX1 1 (by decide) wk_124 (rpO ho) rfl (dg hd_Rp_takes 6 rfl) ?_
  refine ux_iload_n (dg hd_Rp_takes 7 rfl) rfl ?_
  refine ux_iald (rpA1 ho) (dg hd_Rp_takes 8 rfl) ?_
  refine ux_case (1 : Int32) (fun _ => ?_) (fun c4 => ?_)
  · refine ux_tabIn 52 (dg hd_Rp_takes 9 rfl) (by decide) (by decide) rfl (by decide) ?_
    refine ux_iload_n (dg hd_Rp_takes 10 rfl) rfl ?_
    refine ux_iconst (1 : Int32) (dg hd_Rp_takes 11 rfl) (by decide) ?_
    refine ux_iadd (dg hd_Rp_takes 12 rfl) ?_
    exact ux_iret rfl (dg hd_Rp_takes 13 rfl)
  refine ux_case (2 : Int32) (fun _ => ?_) (fun c5 => ?_)
  · refine ux_tabIn 75 (dg hd_Rp_takes 9 rfl) (by decide) (by decide) rfl (by decide) ?_
    refine ux_iload_n (dg hd_Rp_takes 31 rfl) rfl ?_
    exact ux_iret rfl (dg hd_Rp_takes 32 rfl)
  refine ux_case (3 : Int32) (fun _ => ?_) (fun c6 => ?_)
  · refine ux_tabIn 56 (dg hd_Rp_takes 9 rfl) (by decide) (by decide) rfl (by decide) ?_
    refine ux_iconst (1 : Int32) (dg hd_Rp_takes 14 rfl) (by decide) ?_
    exact ux_iret rfl (dg hd_Rp_takes 15 rfl)
  refine ux_case (4 : Int32) (fun _ => ?_) (fun c9 => ?_)
  · refine ux_tabIn 58 (dg hd_Rp_takes 9 rfl) (by decide) (by decide) rfl (by decide) ?_
    refine ux_iload_n (dg hd_Rp_takes 16 rfl) rfl ?_
    refine ux_iconst (1 : Int32) (dg hd_Rp_takes 17 rfl) (by decide) ?_
    refine ux_iadd (dg hd_Rp_takes 18 rfl) ?_
    refine ux_aload_n (dg hd_Rp_takes 19 rfl) rfl ?_
    refine ux_callVi (As := []) (sp_Rp_howManyIn l ho  _) (by omega) cv_Rp_howManyIn wk_358 rfl rfl (rpO ho) rfl rfl (Nat.le_of_ble_eq_true rfl) (dg hd_Rp_takes 20 rfl) (fun r7 σ8 _ => ?_)
    refine ux_iadd (dg hd_Rp_takes 21 rfl) ?_
    exact ux_iret rfl (dg hd_Rp_takes 22 rfl)
  refine ux_case (5 : Int32) (fun _ => ?_) (fun c10 => ?_)
  · refine ux_tabIn 67 (dg hd_Rp_takes 9 rfl) (by decide) (by decide) rfl (by decide) ?_
    refine ux_iload_n (dg hd_Rp_takes 23 rfl) rfl ?_
    refine ux_iconst (2 : Int32) (dg hd_Rp_takes 24 rfl) (by decide) ?_
    refine ux_idiv (dg hd_Rp_takes 25 rfl) ?_
    exact ux_iret rfl (dg hd_Rp_takes 26 rfl)
  refine ux_case (6 : Int32) (fun _ => ?_) (fun c11 => ?_)
  · refine ux_tabIn 71 (dg hd_Rp_takes 9 rfl) (by decide) (by decide) rfl (by decide) ?_
    refine ux_iconst (2 : Int32) (dg hd_Rp_takes 27 rfl) (by decide) ?_
    refine ux_iload_n (dg hd_Rp_takes 28 rfl) rfl ?_
    refine ux_imul (dg hd_Rp_takes 29 rfl) ?_
    exact ux_iret rfl (dg hd_Rp_takes 30 rfl)
  refine ux_tabOut 75 (dg hd_Rp_takes 9 rfl) (by have hc4 := lv_neT (a := 1) c4 (by decide); have hc5 := lv_neT (a := 2) c5 (by decide); have hc6 := lv_neT (a := 3) c6 (by decide); have hc9 := lv_neT (a := 4) c9 (by decide); have hc10 := lv_neT (a := 5) c10 (by decide); have hc11 := lv_neT (a := 6) c11 (by decide); omega) (by decide) ?_
  refine ux_iload_n (dg hd_Rp_takes 31 rfl) rfl ?_
  exact ux_iret rfl (dg hd_Rp_takes 32 rfl)
def Rp_leans (o : Nat) (p1 : Int32) (p2 : Int32) (σ : St) : Option (Int32 × St) :=
  grd (inb p1 6) (
  bnd (In_bitCount (p2 &&& (((7 : Int32) * (σ.2 (o + 2) p1.toNatClampNeg)) + (9 : Int32))) σ) (fun r1 σ2 =>
  nam ((10 : Int32) * r1) (fun y3 =>
  grd (inb p1 6) (
  if (σ2.2 (o + 1) p1.toNatClampNeg) = (1 : Int32) then (
  some (((60 : Int32) - y3), σ2)) else if (σ2.2 (o + 1) p1.toNatClampNeg) = (2 : Int32) then (
  grd (inb p1 6) (
  some ((y3 + ((5 : Int32) * (σ2.2 (o + 4) p1.toNatClampNeg))), σ2))) else if (σ2.2 (o + 1) p1.toNatClampNeg) = (3 : Int32) then (
  grd (nz (5 : Int32)) (
  some (((40 : Int32) + (irm p2 (5 : Int32))), σ2))) else if (σ2.2 (o + 1) p1.toNatClampNeg) = (4 : Int32) then (
  some ((((60 : Int32) - y3) - (10 : Int32)), σ2)) else if (σ2.2 (o + 1) p1.toNatClampNeg) = (5 : Int32) then (
  grd (inb p1 6) (
  grd (nz (7 : Int32)) (
  some (((y3 + ((5 : Int32) * (σ2.2 (o + 4) p1.toNatClampNeg))) + (irm (σ2.1 o 10) (7 : Int32))), σ2)))) else if (σ2.2 (o + 1) p1.toNatClampNeg) = (6 : Int32) then (
  grd (nz (2 : Int32)) (
  grd (inb p1 6) (
  some (((y3 / (2 : Int32)) + (σ2.2 (o + 2) p1.toNatClampNeg)), σ2)))) else (
  some (y3, σ2))))))
set_option maxRecDepth 100000 in
theorem sp_Rp_leans (l : Launch) {o : Nat} (ho : isRp o) (p1 : Int32) (p2 : Int32) (σ : St) : Spc l shC 3 md_Rp_leans [.ref o, .int p1, .int p2] σ (Rp_leans o p1 p2 σ) := by
  refine Spc_of_Ux [(0, .ref o), (1, .int p1), (2, .int p2)] (by decide) rfl (Nat.le_of_ble_eq_true rfl) ?_
  unfold Rp_leans
  refine ux_bipush (10 : Int32) (dg hd_Rp_leans 0 rfl) (by decide) ?_
  refine ux_iload_n (dg hd_Rp_leans 1 rfl) rfl ?_
  refine ux_bipush (7 : Int32) (dg hd_Rp_leans 2 rfl) (by decide) ?_
  refine ux_aload_n (dg hd_Rp_leans 3 rfl) rfl ?_
  refine ux_getr (q := (o + 2)) fcX1 2 (by decide) wk_126 (rpO ho) rfl (dg hd_Rp_leans 4 rfl) ?_
  refine ux_iload_n (dg hd_Rp_leans 5 rfl) rfl ?_
  refine ux_iald (rpA2 ho) (dg hd_Rp_leans 6 rfl) ?_
  refine ux_imul (dg hd_Rp_leans 7 rfl) ?_
  refine ux_bipush (9 : Int32) (dg hd_Rp_leans 8 rfl) (by decide) ?_
  refine ux_iadd (dg hd_Rp_leans 9 rfl) ?_
  refine ux_iand (dg hd_Rp_leans 10 rfl) ?_
  refine ux_callSi (As := [.int (p2 &&& (((7 : Int32) * (σ.2 (o + 2) p1.toNatClampNeg)) + (9 : Int32)))]) (sp_In_bitCount l (p2 &&& (((7 : Int32) * (σ.2 (o + 2) p1.toNatClampNeg)) + (9 : Int32))) _) (by omega) cs_In_bitCount wk_366 rfl rfl (Nat.le_of_ble_eq_true rfl) (dg hd_Rp_leans 11 rfl) (fun r1 σ2 _ => ?_)
  refine ux_imul (dg hd_Rp_leans 12 rfl) ?_
  refine ux_nam (fun y3 => ?_)
  refine ux_istore_n [(3, .int y3), (0, .ref o), (1, .int p1), (2, .int p2)] (dg hd_Rp_leans 13 rfl) (by decide) rfl ?_
  refine ux_aload_n (dg hd_Rp_leans 14 rfl) rfl ?_
  refine ux_getr (q := (o + 1)) fcX1 1 (by decide) wk_124 (rpO ho) rfl (dg hd_Rp_leans 15 rfl) ?_
  refine ux_iload_n (dg hd_Rp_leans 16 rfl) rfl ?_
  refine ux_iald (rpA1 ho) (dg hd_Rp_leans 17 rfl) ?_
  refine ux_case (1 : Int32) (fun _ => ?_) (fun c4 => ?_)
  · refine ux_tabIn 64 (dg hd_Rp_leans 18 rfl) (by decide) (by decide) rfl (by decide) ?_
    refine ux_bipush (60 : Int32) (dg hd_Rp_leans 19 rfl) (by decide) ?_
    refine ux_iload_n (dg hd_Rp_leans 20 rfl) rfl ?_
    refine ux_isub (dg hd_Rp_leans 21 rfl) ?_
    exact ux_iret rfl (dg hd_Rp_leans 22 rfl)
  refine ux_case (2 : Int32) (fun _ => ?_) (fun c5 => ?_)
  · refine ux_tabIn 69 (dg hd_Rp_leans 18 rfl) (by decide) (by decide) rfl (by decide) ?_
    refine ux_iload_n (dg hd_Rp_leans 23 rfl) rfl ?_
    refine ux_iconst (5 : Int32) (dg hd_Rp_leans 24 rfl) (by decide) ?_
    refine ux_aload_n (dg hd_Rp_leans 25 rfl) rfl ?_
    refine ux_getr (q := (o + 4)) fcX1 4 (by decide) wk_130 (rpO ho) rfl (dg hd_Rp_leans 26 rfl) ?_
    refine ux_iload_n (dg hd_Rp_leans 27 rfl) rfl ?_
    refine ux_iald (rpA4 ho) (dg hd_Rp_leans 28 rfl) ?_
    refine ux_imul (dg hd_Rp_leans 29 rfl) ?_
    refine ux_iadd (dg hd_Rp_leans 30 rfl) ?_
    exact ux_iret rfl (dg hd_Rp_leans 31 rfl)
  refine ux_case (3 : Int32) (fun _ => ?_) (fun c6 => ?_)
  · refine ux_tabIn 80 (dg hd_Rp_leans 18 rfl) (by decide) (by decide) rfl (by decide) ?_
    refine ux_bipush (40 : Int32) (dg hd_Rp_leans 32 rfl) (by decide) ?_
    refine ux_iload_n (dg hd_Rp_leans 33 rfl) rfl ?_
    refine ux_iconst (5 : Int32) (dg hd_Rp_leans 34 rfl) (by decide) ?_
    refine ux_irem (dg hd_Rp_leans 35 rfl) ?_
    refine ux_iadd (dg hd_Rp_leans 36 rfl) ?_
    exact ux_iret rfl (dg hd_Rp_leans 37 rfl)
  refine ux_case (4 : Int32) (fun _ => ?_) (fun c7 => ?_)
  · refine ux_tabIn 87 (dg hd_Rp_leans 18 rfl) (by decide) (by decide) rfl (by decide) ?_
    refine ux_bipush (60 : Int32) (dg hd_Rp_leans 38 rfl) (by decide) ?_
    refine ux_iload_n (dg hd_Rp_leans 39 rfl) rfl ?_
    refine ux_isub (dg hd_Rp_leans 40 rfl) ?_
    refine ux_bipush (10 : Int32) (dg hd_Rp_leans 41 rfl) (by decide) ?_
    refine ux_isub (dg hd_Rp_leans 42 rfl) ?_
    exact ux_iret rfl (dg hd_Rp_leans 43 rfl)
  refine ux_case (5 : Int32) (fun _ => ?_) (fun c8 => ?_)
  · refine ux_tabIn 95 (dg hd_Rp_leans 18 rfl) (by decide) (by decide) rfl (by decide) ?_
    refine ux_iload_n (dg hd_Rp_leans 44 rfl) rfl ?_
    refine ux_iconst (5 : Int32) (dg hd_Rp_leans 45 rfl) (by decide) ?_
    refine ux_aload_n (dg hd_Rp_leans 46 rfl) rfl ?_
    refine ux_getr (q := (o + 4)) fcX1 4 (by decide) wk_130 (rpO ho) rfl (dg hd_Rp_leans 47 rfl) ?_
    refine ux_iload_n (dg hd_Rp_leans 48 rfl) rfl ?_
    refine ux_iald (rpA4 ho) (dg hd_Rp_leans 49 rfl) ?_
    refine ux_imul (dg hd_Rp_leans 50 rfl) ?_
    refine ux_iadd (dg hd_Rp_leans 51 rfl) ?_
    refine ux_aload_n (dg hd_Rp_leans 52 rfl) rfl ?_
    refine ux_get fcX1 10 (by decide) wk_141 (rpO ho) rfl (dg hd_Rp_leans 53 rfl) ?_
    refine ux_bipush (7 : Int32) (dg hd_Rp_leans 54 rfl) (by decide) ?_
    refine ux_irem (dg hd_Rp_leans 55 rfl) ?_
    refine ux_iadd (dg hd_Rp_leans 56 rfl) ?_
    exact ux_iret rfl (dg hd_Rp_leans 57 rfl)
  refine ux_case (6 : Int32) (fun _ => ?_) (fun c9 => ?_)
  · refine ux_tabIn 114 (dg hd_Rp_leans 18 rfl) (by decide) (by decide) rfl (by decide) ?_
    refine ux_iload_n (dg hd_Rp_leans 58 rfl) rfl ?_
    refine ux_iconst (2 : Int32) (dg hd_Rp_leans 59 rfl) (by decide) ?_
    refine ux_idiv (dg hd_Rp_leans 60 rfl) ?_
    refine ux_aload_n (dg hd_Rp_leans 61 rfl) rfl ?_
    refine ux_getr (q := (o + 2)) fcX1 2 (by decide) wk_126 (rpO ho) rfl (dg hd_Rp_leans 62 rfl) ?_
    refine ux_iload_n (dg hd_Rp_leans 63 rfl) rfl ?_
    refine ux_iald (rpA2 ho) (dg hd_Rp_leans 64 rfl) ?_
    refine ux_iadd (dg hd_Rp_leans 65 rfl) ?_
    exact ux_iret rfl (dg hd_Rp_leans 66 rfl)
  refine ux_tabOut 125 (dg hd_Rp_leans 18 rfl) (by have hc4 := lv_neT (a := 1) c4 (by decide); have hc5 := lv_neT (a := 2) c5 (by decide); have hc6 := lv_neT (a := 3) c6 (by decide); have hc7 := lv_neT (a := 4) c7 (by decide); have hc8 := lv_neT (a := 5) c8 (by decide); have hc9 := lv_neT (a := 6) c9 (by decide); omega) (by decide) ?_
  refine ux_iload_n (dg hd_Rp_leans 67 rfl) rfl ?_
  exact ux_iret rfl (dg hd_Rp_leans 68 rfl)
def Rp_costs (o : Nat) (p1 : Int32) (σ : St) : Option (Int32 × St) :=
  grd (inb (0 : Int32) (rpx o).length) (wid ((rpx o).getD (0 : Int32).toNatClampNeg 0) (fun q1 =>
  bnd (Rp_takes o p1 σ) (fun r2 σ3 =>
  bnd (Rp_word o  σ3) (fun r4 σ5 =>
  bnd (Rp_howManyIn o  σ5) (fun r6 σ7 =>
  bnd (Tx_gives q1 r2 r4 r6 σ7) (fun r8 σ9 =>
  some (r8, σ9)))))))
set_option maxRecDepth 100000 in
theorem sp_Rp_costs (l : Launch) {o : Nat} (ho : isRp o) (p1 : Int32) (σ : St) : Spc l shC 5 md_Rp_costs [.ref o, .int p1] σ (Rp_costs o p1 σ) := by
  refine Spc_of_Ux [(0, .ref o), (1, .int p1)] (by decide) rfl (Nat.le_of_ble_eq_true rfl) ?_
  unfold Rp_costs
  refine ux_aload_n (dg hd_Rp_costs 0 rfl) rfl ?_
  refine ux_getr (q := (rpt o)) fcX1 0 (by decide) wk_122 (rpO ho) rfl (dg hd_Rp_costs 1 rfl) ?_
  refine ux_iconst (0 : Int32) (dg hd_Rp_costs 2 rfl) (by decide) ?_
  refine ux_aald (rpX ho) (fun _ => rfl) (dg hd_Rp_costs 3 rfl) (fun q1 hq1 => ?_)
  have hq1 := rpx_tx hq1
  refine ux_aload_n (dg hd_Rp_costs 4 rfl) rfl ?_
  refine ux_iload_n (dg hd_Rp_costs 5 rfl) rfl ?_
  refine ux_callVi (As := [.int p1]) (sp_Rp_takes l ho p1 _) (by omega) cv_Rp_takes wk_350 rfl rfl (rpO ho) rfl rfl (Nat.le_of_ble_eq_true rfl) (dg hd_Rp_costs 6 rfl) (fun r2 σ3 _ => ?_)
  refine ux_aload_n (dg hd_Rp_costs 7 rfl) rfl ?_
  refine ux_callVi (As := []) (sp_Rp_word l ho  _) (by omega) cv_Rp_word wk_354 rfl rfl (rpO ho) rfl rfl (Nat.le_of_ble_eq_true rfl) (dg hd_Rp_costs 8 rfl) (fun r4 σ5 _ => ?_)
  refine ux_aload_n (dg hd_Rp_costs 9 rfl) rfl ?_
  refine ux_callVi (As := []) (sp_Rp_howManyIn l ho  _) (by omega) cv_Rp_howManyIn wk_358 rfl rfl (rpO ho) rfl rfl (Nat.le_of_ble_eq_true rfl) (dg hd_Rp_costs 10 rfl) (fun r6 σ7 _ => ?_)
  refine ux_callVi (As := [.int r2, .int r4, .int r6]) (sp_Tx_gives l hq1 r2 r4 r6 _) (by omega) cv_Tx_gives wk_372 rfl rfl (txO hq1) rfl rfl (Nat.le_of_ble_eq_true rfl) (dg hd_Rp_costs 11 rfl) (fun r8 σ9 _ => ?_)
  exact ux_iret rfl (dg hd_Rp_costs 12 rfl)
def Rp_likes (o : Nat) (p1 : Int32) (p2 : Int32) (σ : St) : Option (Int32 × St) :=
  grd (inb (1 : Int32) (rpx o).length) (wid ((rpx o).getD (1 : Int32).toNatClampNeg 0) (fun q1 =>
  bnd (Rp_leans o p1 p2 σ) (fun r2 σ3 =>
  grd (inb p1 6) (
  bnd (Tx_gives q1 r2 p2 (σ3.2 (o + 4) p1.toNatClampNeg) σ3) (fun r4 σ5 =>
  some (r4, σ5))))))
set_option maxRecDepth 100000 in
theorem sp_Rp_likes (l : Launch) {o : Nat} (ho : isRp o) (p1 : Int32) (p2 : Int32) (σ : St) : Spc l shC 5 md_Rp_likes [.ref o, .int p1, .int p2] σ (Rp_likes o p1 p2 σ) := by
  refine Spc_of_Ux [(0, .ref o), (1, .int p1), (2, .int p2)] (by decide) rfl (Nat.le_of_ble_eq_true rfl) ?_
  unfold Rp_likes
  refine ux_aload_n (dg hd_Rp_likes 0 rfl) rfl ?_
  refine ux_getr (q := (rpt o)) fcX1 0 (by decide) wk_122 (rpO ho) rfl (dg hd_Rp_likes 1 rfl) ?_
  refine ux_iconst (1 : Int32) (dg hd_Rp_likes 2 rfl) (by decide) ?_
  refine ux_aald (rpX ho) (fun _ => rfl) (dg hd_Rp_likes 3 rfl) (fun q1 hq1 => ?_)
  have hq1 := rpx_tx hq1
  refine ux_aload_n (dg hd_Rp_likes 4 rfl) rfl ?_
  refine ux_iload_n (dg hd_Rp_likes 5 rfl) rfl ?_
  refine ux_iload_n (dg hd_Rp_likes 6 rfl) rfl ?_
  refine ux_callVi (As := [.int p1, .int p2]) (sp_Rp_leans l ho p1 p2 _) (by omega) cv_Rp_leans wk_441 rfl rfl (rpO ho) rfl rfl (Nat.le_of_ble_eq_true rfl) (dg hd_Rp_likes 7 rfl) (fun r2 σ3 _ => ?_)
  refine ux_iload_n (dg hd_Rp_likes 8 rfl) rfl ?_
  refine ux_aload_n (dg hd_Rp_likes 9 rfl) rfl ?_
  refine ux_getr (q := (o + 4)) fcX1 4 (by decide) wk_130 (rpO ho) rfl (dg hd_Rp_likes 10 rfl) ?_
  refine ux_iload_n (dg hd_Rp_likes 11 rfl) rfl ?_
  refine ux_iald (rpA4 ho) (dg hd_Rp_likes 12 rfl) ?_
  refine ux_callVi (As := [.int r2, .int p2, .int (σ3.2 (o + 4) p1.toNatClampNeg)]) (sp_Tx_gives l hq1 r2 p2 (σ3.2 (o + 4) p1.toNatClampNeg) _) (by omega) cv_Tx_gives wk_372 rfl rfl (txO hq1) rfl rfl (Nat.le_of_ble_eq_true rfl) (dg hd_Rp_likes 13 rfl) (fun r4 σ5 _ => ?_)
  exact ux_iret rfl (dg hd_Rp_likes 14 rfl)
def Rp_isTaken_L2 : Nat → Nat → Int32 → Int32 → St → Option (Int32 × St)
  | 0, _, _, _, _ => none
  | n + 1, o, x1, x2, σ =>
    if (σ.1 o 9) ≤ x2 then (
    some ((1 : Int32), σ)) else (
    grd (inb x2 6) (
    if (σ.2 (o + 5) x2.toNatClampNeg) = (1 : Int32) then (
    bnd (Rp_likes o x2 x1 σ) (fun r2 σ3 =>
    if (σ3.1 o 12) ≤ r2 then (
    nam (x2 + (1 : Int32)) (fun y4 =>
    Rp_isTaken_L2 n o x1 y4 σ3)) else (
    some ((0 : Int32), σ3)))) else (
    nam (x2 + (1 : Int32)) (fun y1 =>
    Rp_isTaken_L2 n o x1 y1 σ))))
set_option maxRecDepth 100000 in
theorem wk_Rp_isTaken_L2 (l : Launch) {o : Nat} (ho : isRp o) : ∀ (n : Nat) (x1 x2 : Int32) (σ : St), Ux l shC 6 md_Rp_isTaken 2 [(0, .ref o), (1, .int x1), (2, .int x2)] [] σ (Rp_isTaken_L2 n o x1 x2 σ) := by
  intro n
  induction n with
  | zero => intros; exact ux_none
  | succ n ih =>
    intro x1 x2 σ
    unfold Rp_isTaken_L2
    refine ux_iload_n (dg hd_Rp_isTaken 2 rfl) rfl ?_
    refine ux_aload_n (dg hd_Rp_isTaken 3 rfl) rfl ?_
    refine ux_get fcX1 9 (by decide) wk_140 (rpO ho) rfl (dg hd_Rp_isTaken 4 rfl) ?_
    refine ux_icmp_ge 41 (dg hd_Rp_isTaken 5 rfl) (by decide) (fun _ => ?_) (fun _ => ?_)
    · refine ux_iconst (1 : Int32) (dg hd_Rp_isTaken 23 rfl) (by decide) ?_
      exact ux_zret rfl (dg hd_Rp_isTaken 24 rfl) (isB_n (by decide))
    · refine ux_aload_n (dg hd_Rp_isTaken 6 rfl) rfl ?_
      refine ux_getr (q := (o + 5)) fcX1 5 (by decide) wk_132 (rpO ho) rfl (dg hd_Rp_isTaken 7 rfl) ?_
      refine ux_iload_n (dg hd_Rp_isTaken 8 rfl) rfl ?_
      refine ux_iald (rpA5 ho) (dg hd_Rp_isTaken 9 rfl) ?_
      refine ux_iconst (1 : Int32) (dg hd_Rp_isTaken 10 rfl) (by decide) ?_
      refine ux_icmp_ne 35 (dg hd_Rp_isTaken 11 rfl) (by decide) (fun _ => ?_) (fun _ => ?_)
      · refine ux_aload_n (dg hd_Rp_isTaken 12 rfl) rfl ?_
        refine ux_iload_n (dg hd_Rp_isTaken 13 rfl) rfl ?_
        refine ux_iload_n (dg hd_Rp_isTaken 14 rfl) rfl ?_
        refine ux_callVi (As := [.int x2, .int x1]) (sp_Rp_likes l ho x2 x1 _) (by omega) cv_Rp_likes wk_458 rfl rfl (rpO ho) rfl rfl (Nat.le_of_ble_eq_true rfl) (dg hd_Rp_isTaken 15 rfl) (fun r2 σ3 _ => ?_)
        refine ux_aload_n (dg hd_Rp_isTaken 16 rfl) rfl ?_
        refine ux_get fcX1 12 (by decide) wk_145 (rpO ho) rfl (dg hd_Rp_isTaken 17 rfl) ?_
        refine ux_icmp_ge 35 (dg hd_Rp_isTaken 18 rfl) (by decide) (fun _ => ?_) (fun _ => ?_)
        · refine ux_iincN (1 : Int32) (fun y4 => [(2, .int y4), (0, .ref o), (1, .int x1)]) (dg hd_Rp_isTaken 21 rfl) rfl (by decide) (by decide) (fun _ => rfl) (fun y4 => ?_)
          refine ux_goto 2 (dg hd_Rp_isTaken 22 rfl) (by decide) ?_
          refine ux_wk [(0, .ref o), (1, .int x1), (2, .int y4)] [1, 2, 0] rfl ?_
          exact ih x1 y4 σ3
        · refine ux_iconst (0 : Int32) (dg hd_Rp_isTaken 19 rfl) (by decide) ?_
          exact ux_zret rfl (dg hd_Rp_isTaken 20 rfl) (isB_n (by decide))
      · refine ux_iincN (1 : Int32) (fun y1 => [(2, .int y1), (0, .ref o), (1, .int x1)]) (dg hd_Rp_isTaken 21 rfl) rfl (by decide) (by decide) (fun _ => rfl) (fun y1 => ?_)
        refine ux_goto 2 (dg hd_Rp_isTaken 22 rfl) (by decide) ?_
        refine ux_wk [(0, .ref o), (1, .int x1), (2, .int y1)] [1, 2, 0] rfl ?_
        exact ih x1 y1 σ
def Rp_isTaken (o : Nat) (p1 : Int32) (σ : St) : Option (Int32 × St) :=
  Rp_isTaken_L2 1000 o p1 (0 : Int32) σ
set_option maxRecDepth 100000 in
theorem sp_Rp_isTaken (l : Launch) {o : Nat} (ho : isRp o) (p1 : Int32) (σ : St) : Spc l shC 6 md_Rp_isTaken [.ref o, .int p1] σ (Rp_isTaken o p1 σ) := by
  refine Spc_of_Ux [(0, .ref o), (1, .int p1)] (by decide) rfl (Nat.le_of_ble_eq_true rfl) ?_
  unfold Rp_isTaken
  refine ux_iconst (0 : Int32) (dg hd_Rp_isTaken 0 rfl) (by decide) ?_
  refine ux_istore_n [(2, .int (0 : Int32)), (0, .ref o), (1, .int p1)] (dg hd_Rp_isTaken 1 rfl) (by decide) rfl ?_
  refine ux_wk [(0, .ref o), (1, .int p1), (2, .int (0 : Int32))] [1, 2, 0] rfl ?_
  exact wk_Rp_isTaken_L2 l ho 1000 p1 (0 : Int32) σ
def Rp_leastLiking_L5 : Nat → Nat → Int32 → Int32 → Int32 → St → Option (Int32 × St)
  | 0, _, _, _, _, _ => none
  | n + 1, o, x1, x2, x3, σ =>
    if (σ.1 o 9) ≤ x3 then (
    some (x2, σ)) else (
    grd (inb x3 6) (
    if (σ.2 (o + 5) x3.toNatClampNeg) = (1 : Int32) then (
    bnd (Rp_likes o x3 x1 σ) (fun r2 σ3 =>
    nam (imn x2 r2) (fun y4 =>
    nam (x3 + (1 : Int32)) (fun y5 =>
    Rp_leastLiking_L5 n o x1 y4 y5 σ3)))) else (
    nam (x3 + (1 : Int32)) (fun y1 =>
    Rp_leastLiking_L5 n o x1 x2 y1 σ))))
set_option maxRecDepth 100000 in
theorem wk_Rp_leastLiking_L5 (l : Launch) {o : Nat} (ho : isRp o) : ∀ (n : Nat) (x1 x2 x3 : Int32) (σ : St), Ux l shC 6 md_Rp_leastLiking 5 [(0, .ref o), (1, .int x1), (2, .int x2), (3, .int x3)] [] σ (Rp_leastLiking_L5 n o x1 x2 x3 σ) := by
  intro n
  induction n with
  | zero => intros; exact ux_none
  | succ n ih =>
    intro x1 x2 x3 σ
    unfold Rp_leastLiking_L5
    refine ux_iload_n (dg hd_Rp_leastLiking 4 rfl) rfl ?_
    refine ux_aload_n (dg hd_Rp_leastLiking 5 rfl) rfl ?_
    refine ux_get fcX1 9 (by decide) wk_140 (rpO ho) rfl (dg hd_Rp_leastLiking 6 rfl) ?_
    refine ux_icmp_ge 40 (dg hd_Rp_leastLiking 7 rfl) (by decide) (fun _ => ?_) (fun _ => ?_)
    · refine ux_iload_n (dg hd_Rp_leastLiking 23 rfl) rfl ?_
      exact ux_iret rfl (dg hd_Rp_leastLiking 24 rfl)
    · refine ux_aload_n (dg hd_Rp_leastLiking 8 rfl) rfl ?_
      refine ux_getr (q := (o + 5)) fcX1 5 (by decide) wk_132 (rpO ho) rfl (dg hd_Rp_leastLiking 9 rfl) ?_
      refine ux_iload_n (dg hd_Rp_leastLiking 10 rfl) rfl ?_
      refine ux_iald (rpA5 ho) (dg hd_Rp_leastLiking 11 rfl) ?_
      refine ux_iconst (1 : Int32) (dg hd_Rp_leastLiking 12 rfl) (by decide) ?_
      refine ux_icmp_ne 34 (dg hd_Rp_leastLiking 13 rfl) (by decide) (fun _ => ?_) (fun _ => ?_)
      · refine ux_iload_n (dg hd_Rp_leastLiking 14 rfl) rfl ?_
        refine ux_aload_n (dg hd_Rp_leastLiking 15 rfl) rfl ?_
        refine ux_iload_n (dg hd_Rp_leastLiking 16 rfl) rfl ?_
        refine ux_iload_n (dg hd_Rp_leastLiking 17 rfl) rfl ?_
        refine ux_callVi (As := [.int x3, .int x1]) (sp_Rp_likes l ho x3 x1 _) (by omega) cv_Rp_likes wk_458 rfl rfl (rpO ho) rfl rfl (Nat.le_of_ble_eq_true rfl) (dg hd_Rp_leastLiking 18 rfl) (fun r2 σ3 _ => ?_)
        refine ux_mmin (by omega) (Nat.le_of_ble_eq_true rfl) wk_560 wk_391 wk_84 wk_392 (dg hd_Rp_leastLiking 19 rfl) ?_
        refine ux_nam (fun y4 => ?_)
        refine ux_istore_n [(2, .int y4), (0, .ref o), (1, .int x1), (3, .int x3)] (dg hd_Rp_leastLiking 20 rfl) (by decide) rfl ?_
        refine ux_iincN (1 : Int32) (fun y5 => [(3, .int y5), (2, .int y4), (0, .ref o), (1, .int x1)]) (dg hd_Rp_leastLiking 21 rfl) rfl (by decide) (by decide) (fun _ => rfl) (fun y5 => ?_)
        refine ux_goto 5 (dg hd_Rp_leastLiking 22 rfl) (by decide) ?_
        refine ux_wk [(0, .ref o), (1, .int x1), (2, .int y4), (3, .int y5)] [2, 3, 1, 0] rfl ?_
        exact ih x1 y4 y5 σ3
      · refine ux_iincN (1 : Int32) (fun y1 => [(3, .int y1), (0, .ref o), (1, .int x1), (2, .int x2)]) (dg hd_Rp_leastLiking 21 rfl) rfl (by decide) (by decide) (fun _ => rfl) (fun y1 => ?_)
        refine ux_goto 5 (dg hd_Rp_leastLiking 22 rfl) (by decide) ?_
        refine ux_wk [(0, .ref o), (1, .int x1), (2, .int x2), (3, .int y1)] [1, 2, 3, 0] rfl ?_
        exact ih x1 x2 y1 σ
def Rp_leastLiking (o : Nat) (p1 : Int32) (σ : St) : Option (Int32 × St) :=
  Rp_leastLiking_L5 1000 o p1 (99 : Int32) (0 : Int32) σ
set_option maxRecDepth 100000 in
theorem sp_Rp_leastLiking (l : Launch) {o : Nat} (ho : isRp o) (p1 : Int32) (σ : St) : Spc l shC 6 md_Rp_leastLiking [.ref o, .int p1] σ (Rp_leastLiking o p1 σ) := by
  refine Spc_of_Ux [(0, .ref o), (1, .int p1)] (by decide) rfl (Nat.le_of_ble_eq_true rfl) ?_
  unfold Rp_leastLiking
  refine ux_bipush (99 : Int32) (dg hd_Rp_leastLiking 0 rfl) (by decide) ?_
  refine ux_istore_n [(2, .int (99 : Int32)), (0, .ref o), (1, .int p1)] (dg hd_Rp_leastLiking 1 rfl) (by decide) rfl ?_
  refine ux_iconst (0 : Int32) (dg hd_Rp_leastLiking 2 rfl) (by decide) ?_
  refine ux_istore_n [(3, .int (0 : Int32)), (2, .int (99 : Int32)), (0, .ref o), (1, .int p1)] (dg hd_Rp_leastLiking 3 rfl) (by decide) rfl ?_
  refine ux_wk [(0, .ref o), (1, .int p1), (2, .int (99 : Int32)), (3, .int (0 : Int32))] [2, 3, 1, 0] rfl ?_
  exact wk_Rp_leastLiking_L5 l ho 1000 p1 (99 : Int32) (0 : Int32) σ
def Rp_onlyAgainst_L4 : Nat → Nat → Int32 → Int32 → Int32 → St → Option (Int32 × St)
  | 0, _, _, _, _, _ => none
  | n + 1, o, x1, x2, x3, σ =>
    if (σ.1 o 9) ≤ x3 then (
    some (x2, σ)) else (
    grd (inb x3 6) (
    if (σ.2 (o + 5) x3.toNatClampNeg) = (1 : Int32) then (
    bnd (Rp_likes o x3 x1 σ) (fun r2 σ3 =>
    if (σ3.1 o 12) ≤ r2 then (
    nam (x3 + (1 : Int32)) (fun y4 =>
    Rp_onlyAgainst_L4 n o x1 x2 y4 σ3)) else (
    if x2 < (0 : Int32) then (
    nam (x3 + (1 : Int32)) (fun y5 =>
    Rp_onlyAgainst_L4 n o x1 x3 y5 σ3)) else (
    some ((-1 : Int32), σ3))))) else (
    nam (x3 + (1 : Int32)) (fun y1 =>
    Rp_onlyAgainst_L4 n o x1 x2 y1 σ))))
set_option maxRecDepth 100000 in
theorem wk_Rp_onlyAgainst_L4 (l : Launch) {o : Nat} (ho : isRp o) : ∀ (n : Nat) (x1 x2 x3 : Int32) (σ : St), Ux l shC 6 md_Rp_onlyAgainst 4 [(0, .ref o), (1, .int x1), (2, .int x2), (3, .int x3)] [] σ (Rp_onlyAgainst_L4 n o x1 x2 x3 σ) := by
  intro n
  induction n with
  | zero => intros; exact ux_none
  | succ n ih =>
    intro x1 x2 x3 σ
    unfold Rp_onlyAgainst_L4
    refine ux_iload_n (dg hd_Rp_onlyAgainst 4 rfl) rfl ?_
    refine ux_aload_n (dg hd_Rp_onlyAgainst 5 rfl) rfl ?_
    refine ux_get fcX1 9 (by decide) wk_140 (rpO ho) rfl (dg hd_Rp_onlyAgainst 6 rfl) ?_
    refine ux_icmp_ge 49 (dg hd_Rp_onlyAgainst 7 rfl) (by decide) (fun _ => ?_) (fun _ => ?_)
    · refine ux_iload_n (dg hd_Rp_onlyAgainst 29 rfl) rfl ?_
      exact ux_iret rfl (dg hd_Rp_onlyAgainst 30 rfl)
    · refine ux_aload_n (dg hd_Rp_onlyAgainst 8 rfl) rfl ?_
      refine ux_getr (q := (o + 5)) fcX1 5 (by decide) wk_132 (rpO ho) rfl (dg hd_Rp_onlyAgainst 9 rfl) ?_
      refine ux_iload_n (dg hd_Rp_onlyAgainst 10 rfl) rfl ?_
      refine ux_iald (rpA5 ho) (dg hd_Rp_onlyAgainst 11 rfl) ?_
      refine ux_iconst (1 : Int32) (dg hd_Rp_onlyAgainst 12 rfl) (by decide) ?_
      refine ux_icmp_ne 43 (dg hd_Rp_onlyAgainst 13 rfl) (by decide) (fun _ => ?_) (fun _ => ?_)
      · refine ux_aload_n (dg hd_Rp_onlyAgainst 14 rfl) rfl ?_
        refine ux_iload_n (dg hd_Rp_onlyAgainst 15 rfl) rfl ?_
        refine ux_iload_n (dg hd_Rp_onlyAgainst 16 rfl) rfl ?_
        refine ux_callVi (As := [.int x3, .int x1]) (sp_Rp_likes l ho x3 x1 _) (by omega) cv_Rp_likes wk_458 rfl rfl (rpO ho) rfl rfl (Nat.le_of_ble_eq_true rfl) (dg hd_Rp_onlyAgainst 17 rfl) (fun r2 σ3 _ => ?_)
        refine ux_aload_n (dg hd_Rp_onlyAgainst 18 rfl) rfl ?_
        refine ux_get fcX1 12 (by decide) wk_145 (rpO ho) rfl (dg hd_Rp_onlyAgainst 19 rfl) ?_
        refine ux_icmp_ge 43 (dg hd_Rp_onlyAgainst 20 rfl) (by decide) (fun _ => ?_) (fun _ => ?_)
        · refine ux_iincN (1 : Int32) (fun y4 => [(3, .int y4), (0, .ref o), (1, .int x1), (2, .int x2)]) (dg hd_Rp_onlyAgainst 27 rfl) rfl (by decide) (by decide) (fun _ => rfl) (fun y4 => ?_)
          refine ux_goto 4 (dg hd_Rp_onlyAgainst 28 rfl) (by decide) ?_
          refine ux_wk [(0, .ref o), (1, .int x1), (2, .int x2), (3, .int y4)] [1, 2, 3, 0] rfl ?_
          exact ih x1 x2 y4 σ3
        · refine ux_iload_n (dg hd_Rp_onlyAgainst 21 rfl) rfl ?_
          refine ux_if_lt 41 (dg hd_Rp_onlyAgainst 22 rfl) (by decide) (fun _ => ?_) (fun _ => ?_)
          · refine ux_iload_n (dg hd_Rp_onlyAgainst 25 rfl) rfl ?_
            refine ux_istore_n [(2, .int x3), (0, .ref o), (1, .int x1), (3, .int x3)] (dg hd_Rp_onlyAgainst 26 rfl) (by decide) rfl ?_
            refine ux_iincN (1 : Int32) (fun y5 => [(3, .int y5), (2, .int x3), (0, .ref o), (1, .int x1)]) (dg hd_Rp_onlyAgainst 27 rfl) rfl (by decide) (by decide) (fun _ => rfl) (fun y5 => ?_)
            refine ux_goto 4 (dg hd_Rp_onlyAgainst 28 rfl) (by decide) ?_
            refine ux_wk [(0, .ref o), (1, .int x1), (2, .int x3), (3, .int y5)] [2, 3, 1, 0] rfl ?_
            exact ih x1 x3 y5 σ3
          · refine ux_iconst (-1 : Int32) (dg hd_Rp_onlyAgainst 23 rfl) (by decide) ?_
            exact ux_iret rfl (dg hd_Rp_onlyAgainst 24 rfl)
      · refine ux_iincN (1 : Int32) (fun y1 => [(3, .int y1), (0, .ref o), (1, .int x1), (2, .int x2)]) (dg hd_Rp_onlyAgainst 27 rfl) rfl (by decide) (by decide) (fun _ => rfl) (fun y1 => ?_)
        refine ux_goto 4 (dg hd_Rp_onlyAgainst 28 rfl) (by decide) ?_
        refine ux_wk [(0, .ref o), (1, .int x1), (2, .int x2), (3, .int y1)] [1, 2, 3, 0] rfl ?_
        exact ih x1 x2 y1 σ
def Rp_onlyAgainst (o : Nat) (p1 : Int32) (σ : St) : Option (Int32 × St) :=
  Rp_onlyAgainst_L4 1000 o p1 (-1 : Int32) (0 : Int32) σ
set_option maxRecDepth 100000 in
theorem sp_Rp_onlyAgainst (l : Launch) {o : Nat} (ho : isRp o) (p1 : Int32) (σ : St) : Spc l shC 6 md_Rp_onlyAgainst [.ref o, .int p1] σ (Rp_onlyAgainst o p1 σ) := by
  refine Spc_of_Ux [(0, .ref o), (1, .int p1)] (by decide) rfl (Nat.le_of_ble_eq_true rfl) ?_
  unfold Rp_onlyAgainst
  refine ux_iconst (-1 : Int32) (dg hd_Rp_onlyAgainst 0 rfl) (by decide) ?_
  refine ux_istore_n [(2, .int (-1 : Int32)), (0, .ref o), (1, .int p1)] (dg hd_Rp_onlyAgainst 1 rfl) (by decide) rfl ?_
  refine ux_iconst (0 : Int32) (dg hd_Rp_onlyAgainst 2 rfl) (by decide) ?_
  refine ux_istore_n [(3, .int (0 : Int32)), (2, .int (-1 : Int32)), (0, .ref o), (1, .int p1)] (dg hd_Rp_onlyAgainst 3 rfl) (by decide) rfl ?_
  refine ux_wk [(0, .ref o), (1, .int p1), (2, .int (-1 : Int32)), (3, .int (0 : Int32))] [2, 3, 1, 0] rfl ?_
  exact wk_Rp_onlyAgainst_L4 l ho 1000 p1 (-1 : Int32) (0 : Int32) σ
def Rp_whoBalks_L61 : Nat → Nat → Int32 → Int32 → St → Option (Int32 × St)
  | 0, _, _, _, _ => none
  | n + 1, o, x1, x2, σ =>
    if (σ.1 o 9) ≤ x2 then (
    some ((imx x1 (0 : Int32)), σ)) else (
    grd (inb x2 6) (
    if (σ.2 (o + 5) x2.toNatClampNeg) = (1 : Int32) then (
    if x1 < (0 : Int32) then (
    nam (x2 + (1 : Int32)) (fun y2 =>
    Rp_whoBalks_L61 n o x2 y2 σ)) else (
    grd (inb x2 6) (
    grd (inb x1 6) (
    if (σ.2 (o + 8) x2.toNatClampNeg) ≤ (σ.2 (o + 8) x1.toNatClampNeg) then (
    nam (x2 + (1 : Int32)) (fun y3 =>
    Rp_whoBalks_L61 n o x1 y3 σ)) else (
    nam (x2 + (1 : Int32)) (fun y4 =>
    Rp_whoBalks_L61 n o x2 y4 σ)))))) else (
    nam (x2 + (1 : Int32)) (fun y1 =>
    Rp_whoBalks_L61 n o x1 y1 σ))))
set_option maxRecDepth 100000 in
theorem wk_Rp_whoBalks_L61 (l : Launch) {o : Nat} (ho : isRp o) : ∀ (n : Nat) (x1 x2 : Int32) (σ : St), Ux l shC 7 md_Rp_whoBalks 61 [(0, .ref o), (1, .int x1), (2, .int x2)] [] σ (Rp_whoBalks_L61 n o x1 x2 σ) := by
  intro n
  induction n with
  | zero => intros; exact ux_none
  | succ n ih =>
    intro x1 x2 σ
    unfold Rp_whoBalks_L61
    refine ux_iload_n (dg hd_Rp_whoBalks 38 rfl) rfl ?_
    refine ux_aload_n (dg hd_Rp_whoBalks 39 rfl) rfl ?_
    refine ux_get fcX1 9 (by decide) wk_140 (rpO ho) rfl (dg hd_Rp_whoBalks 40 rfl) ?_
    refine ux_icmp_ge 106 (dg hd_Rp_whoBalks 41 rfl) (by decide) (fun _ => ?_) (fun _ => ?_)
    · refine ux_iload_n (dg hd_Rp_whoBalks 63 rfl) rfl ?_
      refine ux_iconst (0 : Int32) (dg hd_Rp_whoBalks 64 rfl) (by decide) ?_
      refine ux_mmax (by omega) (Nat.le_of_ble_eq_true rfl) wk_625 wk_394 wk_84 wk_395 (dg hd_Rp_whoBalks 65 rfl) ?_
      exact ux_iret rfl (dg hd_Rp_whoBalks 66 rfl)
    · refine ux_aload_n (dg hd_Rp_whoBalks 42 rfl) rfl ?_
      refine ux_getr (q := (o + 5)) fcX1 5 (by decide) wk_132 (rpO ho) rfl (dg hd_Rp_whoBalks 43 rfl) ?_
      refine ux_iload_n (dg hd_Rp_whoBalks 44 rfl) rfl ?_
      refine ux_iald (rpA5 ho) (dg hd_Rp_whoBalks 45 rfl) ?_
      refine ux_iconst (1 : Int32) (dg hd_Rp_whoBalks 46 rfl) (by decide) ?_
      refine ux_icmp_ne 100 (dg hd_Rp_whoBalks 47 rfl) (by decide) (fun _ => ?_) (fun _ => ?_)
      · refine ux_iload_n (dg hd_Rp_whoBalks 48 rfl) rfl ?_
        refine ux_if_lt 98 (dg hd_Rp_whoBalks 49 rfl) (by decide) (fun _ => ?_) (fun _ => ?_)
        · refine ux_iload_n (dg hd_Rp_whoBalks 59 rfl) rfl ?_
          refine ux_istore_n [(1, .int x2), (0, .ref o), (2, .int x2)] (dg hd_Rp_whoBalks 60 rfl) (by decide) rfl ?_
          refine ux_iincN (1 : Int32) (fun y2 => [(2, .int y2), (1, .int x2), (0, .ref o)]) (dg hd_Rp_whoBalks 61 rfl) rfl (by decide) (by decide) (fun _ => rfl) (fun y2 => ?_)
          refine ux_goto 61 (dg hd_Rp_whoBalks 62 rfl) (by decide) ?_
          refine ux_wk [(0, .ref o), (1, .int x2), (2, .int y2)] [2, 1, 0] rfl ?_
          exact ih x2 y2 σ
        · refine ux_aload_n (dg hd_Rp_whoBalks 50 rfl) rfl ?_
          refine ux_getr (q := (o + 8)) fcX1 8 (by decide) wk_137 (rpO ho) rfl (dg hd_Rp_whoBalks 51 rfl) ?_
          refine ux_iload_n (dg hd_Rp_whoBalks 52 rfl) rfl ?_
          refine ux_iald (rpA8 ho) (dg hd_Rp_whoBalks 53 rfl) ?_
          refine ux_aload_n (dg hd_Rp_whoBalks 54 rfl) rfl ?_
          refine ux_getr (q := (o + 8)) fcX1 8 (by decide) wk_137 (rpO ho) rfl (dg hd_Rp_whoBalks 55 rfl) ?_
          refine ux_iload_n (dg hd_Rp_whoBalks 56 rfl) rfl ?_
          refine ux_iald (rpA8 ho) (dg hd_Rp_whoBalks 57 rfl) ?_
          refine ux_icmp_le 100 (dg hd_Rp_whoBalks 58 rfl) (by decide) (fun _ => ?_) (fun _ => ?_)
          · refine ux_iincN (1 : Int32) (fun y3 => [(2, .int y3), (0, .ref o), (1, .int x1)]) (dg hd_Rp_whoBalks 61 rfl) rfl (by decide) (by decide) (fun _ => rfl) (fun y3 => ?_)
            refine ux_goto 61 (dg hd_Rp_whoBalks 62 rfl) (by decide) ?_
            refine ux_wk [(0, .ref o), (1, .int x1), (2, .int y3)] [1, 2, 0] rfl ?_
            exact ih x1 y3 σ
          · refine ux_iload_n (dg hd_Rp_whoBalks 59 rfl) rfl ?_
            refine ux_istore_n [(1, .int x2), (0, .ref o), (2, .int x2)] (dg hd_Rp_whoBalks 60 rfl) (by decide) rfl ?_
            refine ux_iincN (1 : Int32) (fun y4 => [(2, .int y4), (1, .int x2), (0, .ref o)]) (dg hd_Rp_whoBalks 61 rfl) rfl (by decide) (by decide) (fun _ => rfl) (fun y4 => ?_)
            refine ux_goto 61 (dg hd_Rp_whoBalks 62 rfl) (by decide) ?_
            refine ux_wk [(0, .ref o), (1, .int x2), (2, .int y4)] [2, 1, 0] rfl ?_
            exact ih x2 y4 σ
      · refine ux_iincN (1 : Int32) (fun y1 => [(2, .int y1), (0, .ref o), (1, .int x1)]) (dg hd_Rp_whoBalks 61 rfl) rfl (by decide) (by decide) (fun _ => rfl) (fun y1 => ?_)
        refine ux_goto 61 (dg hd_Rp_whoBalks 62 rfl) (by decide) ?_
        refine ux_wk [(0, .ref o), (1, .int x1), (2, .int y1)] [1, 2, 0] rfl ?_
        exact ih x1 y1 σ
def Rp_whoBalks_L25 : Nat → Nat → Int32 → St → Option (Int32 × St)
  | 0, _, _, _ => none
  | n + 1, o, x1, σ =>
    if (64 : Int32) ≤ x1 then (
    Rp_whoBalks_L61 1000 o (-1 : Int32) (0 : Int32) σ) else (
    bnd (Rp_onlyAgainst o x1 σ) (fun r5 σ6 =>
    if r5 < (0 : Int32) then (
    nam (x1 + (1 : Int32)) (fun y7 =>
    Rp_whoBalks_L25 n o y7 σ6)) else (
    grd (inb r5 6) (
    grd (inb r5 6) (
    nas (sA σ6 (o + 8) r5.toNatClampNeg ((σ6.2 (o + 8) r5.toNatClampNeg) + (1 : Int32))) (fun σ8 =>
    nam (x1 + (1 : Int32)) (fun y9 =>
    Rp_whoBalks_L25 n o y9 σ8)))))))
set_option maxRecDepth 100000 in
theorem wk_Rp_whoBalks_L25 (l : Launch) {o : Nat} (ho : isRp o) : ∀ (n : Nat) (x1 : Int32) (σ : St), Ux l shC 7 md_Rp_whoBalks 25 [(0, .ref o), (1, .int x1)] [] σ (Rp_whoBalks_L25 n o x1 σ) := by
  intro n
  induction n with
  | zero => intros; exact ux_none
  | succ n ih =>
    intro x1 σ
    unfold Rp_whoBalks_L25
    refine ux_iload_n (dg hd_Rp_whoBalks 15 rfl) rfl ?_
    refine ux_bipush (64 : Int32) (dg hd_Rp_whoBalks 16 rfl) (by decide) ?_
    refine ux_icmp_ge 57 (dg hd_Rp_whoBalks 17 rfl) (by decide) (fun _ => ?_) (fun _ => ?_)
    · refine ux_iconst (-1 : Int32) (dg hd_Rp_whoBalks 34 rfl) (by decide) ?_
      refine ux_istore_n [(1, .int (-1 : Int32)), (0, .ref o)] (dg hd_Rp_whoBalks 35 rfl) (by decide) rfl ?_
      refine ux_iconst (0 : Int32) (dg hd_Rp_whoBalks 36 rfl) (by decide) ?_
      refine ux_istore_n [(2, .int (0 : Int32)), (1, .int (-1 : Int32)), (0, .ref o)] (dg hd_Rp_whoBalks 37 rfl) (by decide) rfl ?_
      refine ux_wk [(0, .ref o), (1, .int (-1 : Int32)), (2, .int (0 : Int32))] [2, 1, 0] rfl ?_
      exact wk_Rp_whoBalks_L61 l ho 1000 (-1 : Int32) (0 : Int32) σ
    · refine ux_aload_n (dg hd_Rp_whoBalks 18 rfl) rfl ?_
      refine ux_iload_n (dg hd_Rp_whoBalks 19 rfl) rfl ?_
      refine ux_callVi (As := [.int x1]) (sp_Rp_onlyAgainst l ho x1 _) (by omega) cv_Rp_onlyAgainst wk_621 rfl rfl (rpO ho) rfl rfl (Nat.le_of_ble_eq_true rfl) (dg hd_Rp_whoBalks 20 rfl) (fun r5 σ6 _ => ?_)
      refine ux_istore_n [(2, .int r5), (0, .ref o), (1, .int x1)] (dg hd_Rp_whoBalks 21 rfl) (by decide) rfl ?_
      refine ux_iload_n (dg hd_Rp_whoBalks 22 rfl) rfl ?_
      refine ux_if_lt 51 (dg hd_Rp_whoBalks 23 rfl) (by decide) (fun _ => ?_) (fun _ => ?_)
      · refine ux_iincN (1 : Int32) (fun y7 => [(1, .int y7), (2, .int r5), (0, .ref o)]) (dg hd_Rp_whoBalks 32 rfl) rfl (by decide) (by decide) (fun _ => rfl) (fun y7 => ?_)
        refine ux_goto 25 (dg hd_Rp_whoBalks 33 rfl) (by decide) ?_
        refine ux_wk [(0, .ref o), (1, .int y7)] [2, 0] rfl ?_
        exact ih y7 σ6
      · refine ux_aload_n (dg hd_Rp_whoBalks 24 rfl) rfl ?_
        refine ux_getr (q := (o + 8)) fcX1 8 (by decide) wk_137 (rpO ho) rfl (dg hd_Rp_whoBalks 25 rfl) ?_
        refine ux_iload_n (dg hd_Rp_whoBalks 26 rfl) rfl ?_
        refine ux_dup2 (dg hd_Rp_whoBalks 27 rfl) ?_
        refine ux_iald (rpA8 ho) (dg hd_Rp_whoBalks 28 rfl) ?_
        refine ux_iconst (1 : Int32) (dg hd_Rp_whoBalks 29 rfl) (by decide) ?_
        refine ux_iadd (dg hd_Rp_whoBalks 30 rfl) ?_
        refine ux_iast (rpA8 ho) (dg hd_Rp_whoBalks 31 rfl) ?_
        refine ux_nas (fun σ8 => ?_)
        refine ux_iincN (1 : Int32) (fun y9 => [(1, .int y9), (2, .int r5), (0, .ref o)]) (dg hd_Rp_whoBalks 32 rfl) rfl (by decide) (by decide) (fun _ => rfl) (fun y9 => ?_)
        refine ux_goto 25 (dg hd_Rp_whoBalks 33 rfl) (by decide) ?_
        refine ux_wk [(0, .ref o), (1, .int y9)] [2, 0] rfl ?_
        exact ih y9 σ8
def Rp_whoBalks_L2 : Nat → Nat → Int32 → St → Option (Int32 × St)
  | 0, _, _, _ => none
  | n + 1, o, x1, σ =>
    if (σ.1 o 9) ≤ x1 then (
    Rp_whoBalks_L25 1000 o (0 : Int32) σ) else (
    grd (inb x1 6) (
    nas (sA σ (o + 8) x1.toNatClampNeg (0 : Int32)) (fun σ10 =>
    nam (x1 + (1 : Int32)) (fun y11 =>
    Rp_whoBalks_L2 n o y11 σ10))))
set_option maxRecDepth 100000 in
theorem wk_Rp_whoBalks_L2 (l : Launch) {o : Nat} (ho : isRp o) : ∀ (n : Nat) (x1 : Int32) (σ : St), Ux l shC 7 md_Rp_whoBalks 2 [(0, .ref o), (1, .int x1)] [] σ (Rp_whoBalks_L2 n o x1 σ) := by
  intro n
  induction n with
  | zero => intros; exact ux_none
  | succ n ih =>
    intro x1 σ
    unfold Rp_whoBalks_L2
    refine ux_iload_n (dg hd_Rp_whoBalks 2 rfl) rfl ?_
    refine ux_aload_n (dg hd_Rp_whoBalks 3 rfl) rfl ?_
    refine ux_get fcX1 9 (by decide) wk_140 (rpO ho) rfl (dg hd_Rp_whoBalks 4 rfl) ?_
    refine ux_icmp_ge 23 (dg hd_Rp_whoBalks 5 rfl) (by decide) (fun _ => ?_) (fun _ => ?_)
    · refine ux_iconst (0 : Int32) (dg hd_Rp_whoBalks 13 rfl) (by decide) ?_
      refine ux_istore_n [(1, .int (0 : Int32)), (0, .ref o)] (dg hd_Rp_whoBalks 14 rfl) (by decide) rfl ?_
      refine ux_wk [(0, .ref o), (1, .int (0 : Int32))] [1, 0] rfl ?_
      exact wk_Rp_whoBalks_L25 l ho 1000 (0 : Int32) σ
    · refine ux_aload_n (dg hd_Rp_whoBalks 6 rfl) rfl ?_
      refine ux_getr (q := (o + 8)) fcX1 8 (by decide) wk_137 (rpO ho) rfl (dg hd_Rp_whoBalks 7 rfl) ?_
      refine ux_iload_n (dg hd_Rp_whoBalks 8 rfl) rfl ?_
      refine ux_iconst (0 : Int32) (dg hd_Rp_whoBalks 9 rfl) (by decide) ?_
      refine ux_iast (rpA8 ho) (dg hd_Rp_whoBalks 10 rfl) ?_
      refine ux_nas (fun σ10 => ?_)
      refine ux_iincN (1 : Int32) (fun y11 => [(1, .int y11), (0, .ref o)]) (dg hd_Rp_whoBalks 11 rfl) rfl (by decide) (by decide) (fun _ => rfl) (fun y11 => ?_)
      refine ux_goto 2 (dg hd_Rp_whoBalks 12 rfl) (by decide) ?_
      refine ux_wk [(0, .ref o), (1, .int y11)] [1, 0] rfl ?_
      exact ih y11 σ10
def Rp_whoBalks (o : Nat) (σ : St) : Option (Int32 × St) :=
  Rp_whoBalks_L2 1000 o (0 : Int32) σ
set_option maxRecDepth 100000 in
theorem sp_Rp_whoBalks (l : Launch) {o : Nat} (ho : isRp o) (σ : St) : Spc l shC 7 md_Rp_whoBalks [.ref o] σ (Rp_whoBalks o  σ) := by
  refine Spc_of_Ux [(0, .ref o)] (by decide) rfl (Nat.le_of_ble_eq_true rfl) ?_
  unfold Rp_whoBalks
  refine ux_iconst (0 : Int32) (dg hd_Rp_whoBalks 0 rfl) (by decide) ?_
  refine ux_istore_n [(1, .int (0 : Int32)), (0, .ref o)] (dg hd_Rp_whoBalks 1 rfl) (by decide) rfl ?_
  refine ux_wk [(0, .ref o), (1, .int (0 : Int32))] [1, 0] rfl ?_
  exact wk_Rp_whoBalks_L2 l ho 1000 (0 : Int32) σ
def Rp_skip (o : Nat) (p1 : Int32) (σ : St) : Option (Int32 × St) :=
  grd (inb p1 6) (
  if (σ.2 (o + 5) p1.toNatClampNeg) = (0 : Int32) then (
  grd (inb p1 6) (
  grd (inb p1 6) (
  nas (sA σ (o + 3) p1.toNatClampNeg (imn (99 : Int32) ((σ.2 (o + 3) p1.toNatClampNeg) + (1 : Int32)))) (fun σ3 =>
  some ((0 : Int32), σ3))))) else (
  grd (inb p1 6) (
  grd (inb p1 6) (
  if (σ.2 (o + 7) p1.toNatClampNeg) ≤ (σ.2 (o + 3) p1.toNatClampNeg) then (
  grd (inb p1 6) (
  grd (inb p1 6) (
  grd (inb p1 6) (
  nas (sA σ (o + 3) p1.toNatClampNeg ((σ.2 (o + 3) p1.toNatClampNeg) - (σ.2 (o + 7) p1.toNatClampNeg))) (fun σ1 =>
  some ((0 : Int32), σ1)))))) else (
  grd (inb p1 6) (
  nas (sA σ (o + 5) p1.toNatClampNeg (0 : Int32)) (fun σ2 =>
  some ((1 : Int32), σ2))))))))
set_option maxRecDepth 100000 in
theorem sp_Rp_skip (l : Launch) {o : Nat} (ho : isRp o) (p1 : Int32) (σ : St) : Spc l shC 2 md_Rp_skip [.ref o, .int p1] σ (Rp_skip o p1 σ) := by
  refine Spc_of_Ux [(0, .ref o), (1, .int p1)] (by decide) rfl (Nat.le_of_ble_eq_true rfl) ?_
  unfold Rp_skip
  refine ux_aload_n (dg hd_Rp_skip 0 rfl) rfl ?_
  refine ux_getr (q := (o + 5)) fcX1 5 (by decide) wk_132 (rpO ho) rfl (dg hd_Rp_skip 1 rfl) ?_
  refine ux_iload_n (dg hd_Rp_skip 2 rfl) rfl ?_
  refine ux_iald (rpA5 ho) (dg hd_Rp_skip 3 rfl) ?_
  refine ux_if_ne 30 (dg hd_Rp_skip 4 rfl) (by decide) (fun _ => ?_) (fun _ => ?_)
  · refine ux_aload_n (dg hd_Rp_skip 5 rfl) rfl ?_
    refine ux_getr (q := (o + 3)) fcX1 3 (by decide) wk_128 (rpO ho) rfl (dg hd_Rp_skip 6 rfl) ?_
    refine ux_iload_n (dg hd_Rp_skip 7 rfl) rfl ?_
    refine ux_bipush (99 : Int32) (dg hd_Rp_skip 8 rfl) (by decide) ?_
    refine ux_aload_n (dg hd_Rp_skip 9 rfl) rfl ?_
    refine ux_getr (q := (o + 3)) fcX1 3 (by decide) wk_128 (rpO ho) rfl (dg hd_Rp_skip 10 rfl) ?_
    refine ux_iload_n (dg hd_Rp_skip 11 rfl) rfl ?_
    refine ux_iald (rpA3 ho) (dg hd_Rp_skip 12 rfl) ?_
    refine ux_iconst (1 : Int32) (dg hd_Rp_skip 13 rfl) (by decide) ?_
    refine ux_iadd (dg hd_Rp_skip 14 rfl) ?_
    refine ux_mmin (by omega) (Nat.le_of_ble_eq_true rfl) wk_560 wk_391 wk_84 wk_392 (dg hd_Rp_skip 15 rfl) ?_
    refine ux_iast (rpA3 ho) (dg hd_Rp_skip 16 rfl) ?_
    refine ux_nas (fun σ3 => ?_)
    refine ux_iconst (0 : Int32) (dg hd_Rp_skip 17 rfl) (by decide) ?_
    exact ux_iret rfl (dg hd_Rp_skip 18 rfl)
  · refine ux_aload_n (dg hd_Rp_skip 19 rfl) rfl ?_
    refine ux_getr (q := (o + 3)) fcX1 3 (by decide) wk_128 (rpO ho) rfl (dg hd_Rp_skip 20 rfl) ?_
    refine ux_iload_n (dg hd_Rp_skip 21 rfl) rfl ?_
    refine ux_iald (rpA3 ho) (dg hd_Rp_skip 22 rfl) ?_
    refine ux_aload_n (dg hd_Rp_skip 23 rfl) rfl ?_
    refine ux_getr (q := (o + 7)) fcX1 7 (by decide) wk_136 (rpO ho) rfl (dg hd_Rp_skip 24 rfl) ?_
    refine ux_iload_n (dg hd_Rp_skip 25 rfl) rfl ?_
    refine ux_iald (rpA7 ho) (dg hd_Rp_skip 26 rfl) ?_
    refine ux_icmp_ge 54 (dg hd_Rp_skip 27 rfl) (by decide) (fun _ => ?_) (fun _ => ?_)
    · refine ux_aload_n (dg hd_Rp_skip 35 rfl) rfl ?_
      refine ux_getr (q := (o + 3)) fcX1 3 (by decide) wk_128 (rpO ho) rfl (dg hd_Rp_skip 36 rfl) ?_
      refine ux_iload_n (dg hd_Rp_skip 37 rfl) rfl ?_
      refine ux_dup2 (dg hd_Rp_skip 38 rfl) ?_
      refine ux_iald (rpA3 ho) (dg hd_Rp_skip 39 rfl) ?_
      refine ux_aload_n (dg hd_Rp_skip 40 rfl) rfl ?_
      refine ux_getr (q := (o + 7)) fcX1 7 (by decide) wk_136 (rpO ho) rfl (dg hd_Rp_skip 41 rfl) ?_
      refine ux_iload_n (dg hd_Rp_skip 42 rfl) rfl ?_
      refine ux_iald (rpA7 ho) (dg hd_Rp_skip 43 rfl) ?_
      refine ux_isub (dg hd_Rp_skip 44 rfl) ?_
      refine ux_iast (rpA3 ho) (dg hd_Rp_skip 45 rfl) ?_
      refine ux_nas (fun σ1 => ?_)
      refine ux_iconst (0 : Int32) (dg hd_Rp_skip 46 rfl) (by decide) ?_
      exact ux_iret rfl (dg hd_Rp_skip 47 rfl)
    · refine ux_aload_n (dg hd_Rp_skip 28 rfl) rfl ?_
      refine ux_getr (q := (o + 5)) fcX1 5 (by decide) wk_132 (rpO ho) rfl (dg hd_Rp_skip 29 rfl) ?_
      refine ux_iload_n (dg hd_Rp_skip 30 rfl) rfl ?_
      refine ux_iconst (0 : Int32) (dg hd_Rp_skip 31 rfl) (by decide) ?_
      refine ux_iast (rpA5 ho) (dg hd_Rp_skip 32 rfl) ?_
      refine ux_nas (fun σ2 => ?_)
      refine ux_iconst (1 : Int32) (dg hd_Rp_skip 33 rfl) (by decide) ?_
      exact ux_iret rfl (dg hd_Rp_skip 34 rfl)
def Rp_pass_L38 : Nat → Nat → Int32 → Int32 → St → Option (Int32 × St)
  | 0, _, _, _, _ => none
  | n + 1, o, x1, x2, σ =>
    if (σ.1 o 9) ≤ x2 then (
    grd (inb (0 : Int32) 2) (
    grd (inb (0 : Int32) 2) (
    nas (sA σ (o + 6) (0 : Int32).toNatClampNeg ((σ.2 (o + 6) (0 : Int32).toNatClampNeg) - (1 : Int32))) (fun σ5 =>
    grd (inb (1 : Int32) 2) (
    grd (inb (1 : Int32) 2) (
    nas (sA σ5 (o + 6) (1 : Int32).toNatClampNeg ((σ5.2 (o + 6) (1 : Int32).toNatClampNeg) - (1 : Int32))) (fun σ6 =>
    nas (sF σ6 o 13 (imn (99999 : Int32) ((σ6.1 o 13) + x1))) (fun σ7 =>
    nas (sF σ7 o 10 ((σ7.1 o 10) + (1 : Int32))) (fun σ8 =>
    some (x1, σ8)))))))))) else (
    bnd (Rp_skip o x2 σ) (fun r9 σ10 =>
    nam (x1 + r9) (fun y11 =>
    nam (x2 + (1 : Int32)) (fun y12 =>
    Rp_pass_L38 n o y11 y12 σ10))))
set_option maxRecDepth 100000 in
theorem wk_Rp_pass_L38 (l : Launch) {o : Nat} (ho : isRp o) : ∀ (n : Nat) (x1 x2 : Int32) (σ : St), Ux l shC 6 md_Rp_pass 38 [(0, .ref o), (1, .int x1), (2, .int x2)] [] σ (Rp_pass_L38 n o x1 x2 σ) := by
  intro n
  induction n with
  | zero => intros; exact ux_none
  | succ n ih =>
    intro x1 x2 σ
    unfold Rp_pass_L38
    refine ux_iload_n (dg hd_Rp_pass 22 rfl) rfl ?_
    refine ux_aload_n (dg hd_Rp_pass 23 rfl) rfl ?_
    refine ux_get fcX1 9 (by decide) wk_140 (rpO ho) rfl (dg hd_Rp_pass 24 rfl) ?_
    refine ux_icmp_ge 60 (dg hd_Rp_pass 25 rfl) (by decide) (fun _ => ?_) (fun _ => ?_)
    · refine ux_aload_n (dg hd_Rp_pass 34 rfl) rfl ?_
      refine ux_getr (q := (o + 6)) fcX1 6 (by decide) wk_134 (rpO ho) rfl (dg hd_Rp_pass 35 rfl) ?_
      refine ux_iconst (0 : Int32) (dg hd_Rp_pass 36 rfl) (by decide) ?_
      refine ux_dup2 (dg hd_Rp_pass 37 rfl) ?_
      refine ux_iald (rpA6 ho) (dg hd_Rp_pass 38 rfl) ?_
      refine ux_iconst (1 : Int32) (dg hd_Rp_pass 39 rfl) (by decide) ?_
      refine ux_isub (dg hd_Rp_pass 40 rfl) ?_
      refine ux_iast (rpA6 ho) (dg hd_Rp_pass 41 rfl) ?_
      refine ux_nas (fun σ5 => ?_)
      refine ux_aload_n (dg hd_Rp_pass 42 rfl) rfl ?_
      refine ux_getr (q := (o + 6)) fcX1 6 (by decide) wk_134 (rpO ho) rfl (dg hd_Rp_pass 43 rfl) ?_
      refine ux_iconst (1 : Int32) (dg hd_Rp_pass 44 rfl) (by decide) ?_
      refine ux_dup2 (dg hd_Rp_pass 45 rfl) ?_
      refine ux_iald (rpA6 ho) (dg hd_Rp_pass 46 rfl) ?_
      refine ux_iconst (1 : Int32) (dg hd_Rp_pass 47 rfl) (by decide) ?_
      refine ux_isub (dg hd_Rp_pass 48 rfl) ?_
      refine ux_iast (rpA6 ho) (dg hd_Rp_pass 49 rfl) ?_
      refine ux_nas (fun σ6 => ?_)
      refine ux_aload_n (dg hd_Rp_pass 50 rfl) rfl ?_
      refine ux_ldc (99999 : Int32) wk_561 (dg hd_Rp_pass 51 rfl) ?_
      refine ux_aload_n (dg hd_Rp_pass 52 rfl) rfl ?_
      refine ux_get fcX1 13 (by decide) wk_147 (rpO ho) rfl (dg hd_Rp_pass 53 rfl) ?_
      refine ux_iload_n (dg hd_Rp_pass 54 rfl) rfl ?_
      refine ux_iadd (dg hd_Rp_pass 55 rfl) ?_
      refine ux_mmin (by omega) (Nat.le_of_ble_eq_true rfl) wk_560 wk_391 wk_84 wk_392 (dg hd_Rp_pass 56 rfl) ?_
      refine ux_put fcX1 13 (by decide) wk_147 rfl rfl ⟨rfl, rfl⟩ (rpO ho) rfl (dg hd_Rp_pass 57 rfl) ?_
      refine ux_nas (fun σ7 => ?_)
      refine ux_aload_n (dg hd_Rp_pass 58 rfl) rfl ?_
      refine ux_dupr (dg hd_Rp_pass 59 rfl) ?_
      refine ux_get fcX1 10 (by decide) wk_141 (rpO ho) rfl (dg hd_Rp_pass 60 rfl) ?_
      refine ux_iconst (1 : Int32) (dg hd_Rp_pass 61 rfl) (by decide) ?_
      refine ux_iadd (dg hd_Rp_pass 62 rfl) ?_
      refine ux_put fcX1 10 (by decide) wk_141 rfl rfl ⟨rfl, rfl⟩ (rpO ho) rfl (dg hd_Rp_pass 63 rfl) ?_
      refine ux_nas (fun σ8 => ?_)
      refine ux_iload_n (dg hd_Rp_pass 64 rfl) rfl ?_
      exact ux_iret rfl (dg hd_Rp_pass 65 rfl)
    · refine ux_iload_n (dg hd_Rp_pass 26 rfl) rfl ?_
      refine ux_aload_n (dg hd_Rp_pass 27 rfl) rfl ?_
      refine ux_iload_n (dg hd_Rp_pass 28 rfl) rfl ?_
      refine ux_callVi (As := [.int x2]) (sp_Rp_skip l ho x2 _) (by omega) cv_Rp_skip wk_556 rfl rfl (rpO ho) rfl rfl (Nat.le_of_ble_eq_true rfl) (dg hd_Rp_pass 29 rfl) (fun r9 σ10 _ => ?_)
      refine ux_iadd (dg hd_Rp_pass 30 rfl) ?_
      refine ux_nam (fun y11 => ?_)
      refine ux_istore_n [(1, .int y11), (0, .ref o), (2, .int x2)] (dg hd_Rp_pass 31 rfl) (by decide) rfl ?_
      refine ux_iincN (1 : Int32) (fun y12 => [(2, .int y12), (1, .int y11), (0, .ref o)]) (dg hd_Rp_pass 32 rfl) rfl (by decide) (by decide) (fun _ => rfl) (fun y12 => ?_)
      refine ux_goto 38 (dg hd_Rp_pass 33 rfl) (by decide) ?_
      refine ux_wk [(0, .ref o), (1, .int y11), (2, .int y12)] [2, 1, 0] rfl ?_
      exact ih y11 y12 σ10
def Rp_pass_L11 : Nat → Nat → Int32 → Int32 → St → Option (Int32 × St)
  | 0, _, _, _, _ => none
  | n + 1, o, x1, x2, σ =>
    if (σ.1 o 9) ≤ x2 then (
    Rp_pass_L38 1000 o x1 (0 : Int32) σ) else (
    bnd (Rp_costs o x2 σ) (fun r13 σ14 =>
    grd (inb x2 6) (
    nas (sA σ14 (o + 7) x2.toNatClampNeg r13) (fun σ15 =>
    nam (x2 + (1 : Int32)) (fun y16 =>
    Rp_pass_L11 n o x1 y16 σ15)))))
set_option maxRecDepth 100000 in
theorem wk_Rp_pass_L11 (l : Launch) {o : Nat} (ho : isRp o) : ∀ (n : Nat) (x1 x2 : Int32) (σ : St), Ux l shC 6 md_Rp_pass 11 [(0, .ref o), (1, .int x1), (2, .int x2)] [] σ (Rp_pass_L11 n o x1 x2 σ) := by
  intro n
  induction n with
  | zero => intros; exact ux_none
  | succ n ih =>
    intro x1 x2 σ
    unfold Rp_pass_L11
    refine ux_iload_n (dg hd_Rp_pass 7 rfl) rfl ?_
    refine ux_aload_n (dg hd_Rp_pass 8 rfl) rfl ?_
    refine ux_get fcX1 9 (by decide) wk_140 (rpO ho) rfl (dg hd_Rp_pass 9 rfl) ?_
    refine ux_icmp_ge 36 (dg hd_Rp_pass 10 rfl) (by decide) (fun _ => ?_) (fun _ => ?_)
    · refine ux_iconst (0 : Int32) (dg hd_Rp_pass 20 rfl) (by decide) ?_
      refine ux_istore_n [(2, .int (0 : Int32)), (0, .ref o), (1, .int x1)] (dg hd_Rp_pass 21 rfl) (by decide) rfl ?_
      refine ux_wk [(0, .ref o), (1, .int x1), (2, .int (0 : Int32))] [1, 2, 0] rfl ?_
      exact wk_Rp_pass_L38 l ho 1000 x1 (0 : Int32) σ
    · refine ux_aload_n (dg hd_Rp_pass 11 rfl) rfl ?_
      refine ux_getr (q := (o + 7)) fcX1 7 (by decide) wk_136 (rpO ho) rfl (dg hd_Rp_pass 12 rfl) ?_
      refine ux_iload_n (dg hd_Rp_pass 13 rfl) rfl ?_
      refine ux_aload_n (dg hd_Rp_pass 14 rfl) rfl ?_
      refine ux_iload_n (dg hd_Rp_pass 15 rfl) rfl ?_
      refine ux_callVi (As := [.int x2]) (sp_Rp_costs l ho x2 _) (by omega) cv_Rp_costs wk_555 rfl rfl (rpO ho) rfl rfl (Nat.le_of_ble_eq_true rfl) (dg hd_Rp_pass 16 rfl) (fun r13 σ14 _ => ?_)
      refine ux_iast (rpA7 ho) (dg hd_Rp_pass 17 rfl) ?_
      refine ux_nas (fun σ15 => ?_)
      refine ux_iincN (1 : Int32) (fun y16 => [(2, .int y16), (0, .ref o), (1, .int x1)]) (dg hd_Rp_pass 18 rfl) rfl (by decide) (by decide) (fun _ => rfl) (fun y16 => ?_)
      refine ux_goto 11 (dg hd_Rp_pass 19 rfl) (by decide) ?_
      refine ux_wk [(0, .ref o), (1, .int x1), (2, .int y16)] [1, 2, 0] rfl ?_
      exact ih x1 y16 σ15
def Rp_pass (o : Nat) (σ : St) : Option (Int32 × St) :=
  bnd (Rp_turns o  σ) (fun r1 σ2 =>
  if r1 = (0 : Int32) then (
  nas (sF σ2 o 13 (imn (99999 : Int32) ((σ2.1 o 13) + (0 : Int32)))) (fun σ3 =>
  nas (sF σ3 o 10 ((σ3.1 o 10) + (1 : Int32))) (fun σ4 =>
  some ((0 : Int32), σ4)))) else (
  Rp_pass_L11 1000 o (0 : Int32) (0 : Int32) σ2))
set_option maxRecDepth 100000 in
theorem sp_Rp_pass (l : Launch) {o : Nat} (ho : isRp o) (σ : St) : Spc l shC 6 md_Rp_pass [.ref o] σ (Rp_pass o  σ) := by
  refine Spc_of_Ux [(0, .ref o)] (by decide) rfl (Nat.le_of_ble_eq_true rfl) ?_
  unfold Rp_pass
  refine ux_iconst (0 : Int32) (dg hd_Rp_pass 0 rfl) (by decide) ?_
  refine ux_istore_n [(1, .int (0 : Int32)), (0, .ref o)] (dg hd_Rp_pass 1 rfl) (by decide) rfl ?_
  refine ux_aload_n (dg hd_Rp_pass 2 rfl) rfl ?_
  refine ux_callVi (As := []) (sp_Rp_turns l ho  _) (by omega) cv_Rp_turns wk_453 rfl rfl (rpO ho) rfl rfl (Nat.le_of_ble_eq_true rfl) (dg hd_Rp_pass 3 rfl) (fun r1 σ2 _ => ?_)
  refine ux_if_eq 80 (dg hd_Rp_pass 4 rfl) (by decide) (fun _ => ?_) (fun _ => ?_)
  · refine ux_aload_n (dg hd_Rp_pass 50 rfl) rfl ?_
    refine ux_ldc (99999 : Int32) wk_561 (dg hd_Rp_pass 51 rfl) ?_
    refine ux_aload_n (dg hd_Rp_pass 52 rfl) rfl ?_
    refine ux_get fcX1 13 (by decide) wk_147 (rpO ho) rfl (dg hd_Rp_pass 53 rfl) ?_
    refine ux_iload_n (dg hd_Rp_pass 54 rfl) rfl ?_
    refine ux_iadd (dg hd_Rp_pass 55 rfl) ?_
    refine ux_mmin (by omega) (Nat.le_of_ble_eq_true rfl) wk_560 wk_391 wk_84 wk_392 (dg hd_Rp_pass 56 rfl) ?_
    refine ux_put fcX1 13 (by decide) wk_147 rfl rfl ⟨rfl, rfl⟩ (rpO ho) rfl (dg hd_Rp_pass 57 rfl) ?_
    refine ux_nas (fun σ3 => ?_)
    refine ux_aload_n (dg hd_Rp_pass 58 rfl) rfl ?_
    refine ux_dupr (dg hd_Rp_pass 59 rfl) ?_
    refine ux_get fcX1 10 (by decide) wk_141 (rpO ho) rfl (dg hd_Rp_pass 60 rfl) ?_
    refine ux_iconst (1 : Int32) (dg hd_Rp_pass 61 rfl) (by decide) ?_
    refine ux_iadd (dg hd_Rp_pass 62 rfl) ?_
    refine ux_put fcX1 10 (by decide) wk_141 rfl rfl ⟨rfl, rfl⟩ (rpO ho) rfl (dg hd_Rp_pass 63 rfl) ?_
    refine ux_nas (fun σ4 => ?_)
    refine ux_iload_n (dg hd_Rp_pass 64 rfl) rfl ?_
    exact ux_iret rfl (dg hd_Rp_pass 65 rfl)
  · refine ux_iconst (0 : Int32) (dg hd_Rp_pass 5 rfl) (by decide) ?_
    refine ux_istore_n [(2, .int (0 : Int32)), (1, .int (0 : Int32)), (0, .ref o)] (dg hd_Rp_pass 6 rfl) (by decide) rfl ?_
    refine ux_wk [(0, .ref o), (1, .int (0 : Int32)), (2, .int (0 : Int32))] [2, 1, 0] rfl ?_
    exact wk_Rp_pass_L11 l ho 1000 (0 : Int32) (0 : Int32) σ2
def Rp_draw (o : Nat) (σ : St) : Option (Int32 × St) :=
  nas (sF σ o 14 (((σ.1 o 14) * (1103515245 : Int32)) + (12345 : Int32))) (fun σ1 =>
  some ((iush (σ1.1 o 14) (8 : Int32)), σ1))
set_option maxRecDepth 100000 in
theorem sp_Rp_draw (l : Launch) {o : Nat} (ho : isRp o) (σ : St) : Spc l shC 2 md_Rp_draw [.ref o] σ (Rp_draw o  σ) := by
  refine Spc_of_Ux [(0, .ref o)] (by decide) rfl (Nat.le_of_ble_eq_true rfl) ?_
  unfold Rp_draw
  refine ux_aload_n (dg hd_Rp_draw 0 rfl) rfl ?_
  refine ux_aload_n (dg hd_Rp_draw 1 rfl) rfl ?_
  refine ux_get fcX1 14 (by decide) wk_149 (rpO ho) rfl (dg hd_Rp_draw 2 rfl) ?_
  refine ux_ldc (1103515245 : Int32) wk_574 (dg hd_Rp_draw 3 rfl) ?_
  refine ux_imul (dg hd_Rp_draw 4 rfl) ?_
  refine ux_sipush (12345 : Int32) (dg hd_Rp_draw 5 rfl) (by decide) ?_
  refine ux_iadd (dg hd_Rp_draw 6 rfl) ?_
  refine ux_put fcX1 14 (by decide) wk_149 rfl rfl ⟨rfl, rfl⟩ (rpO ho) rfl (dg hd_Rp_draw 7 rfl) ?_
  refine ux_nas (fun σ1 => ?_)
  refine ux_aload_n (dg hd_Rp_draw 8 rfl) rfl ?_
  refine ux_get fcX1 14 (by decide) wk_149 (rpO ho) rfl (dg hd_Rp_draw 9 rfl) ?_
  refine ux_bipush (8 : Int32) (dg hd_Rp_draw 10 rfl) (by decide) ?_
  refine ux_iushr (dg hd_Rp_draw 11 rfl) ?_
  exact ux_iret rfl (dg hd_Rp_draw 12 rfl)
def Rp_passByDraws (o : Nat) (σ : St) : Option (Int32 × St) :=
  if (σ.1 o 9) ≤ (0 : Int32) then (
  bnd (Rp_pass o  σ) (fun r1 σ2 =>
  some ((0 : Int32), σ2))) else (
  bnd (Rp_draw o  σ) (fun r3 σ4 =>
  grd (nz (σ4.1 o 9)) (
  nam (irm r3 (σ4.1 o 9)) (fun y5 =>
  bnd (Rp_draw o  σ4) (fun r6 σ7 =>
  grd (nz (64 : Int32)) (
  nam (irm r6 (64 : Int32)) (fun y8 =>
  bnd (Rp_turns o  σ7) (fun r9 σ10 =>
  if r9 = (0 : Int32) then (
  grd (inb y5 6) (
  if (σ10.2 (o + 5) y5.toNatClampNeg) = (1 : Int32) then (
  bnd (Rp_mayTalk o  σ10) (fun r13 σ14 =>
  if r13 = (0 : Int32) then (
  bnd (Rp_pass o  σ14) (fun r15 σ16 =>
  some ((0 : Int32), σ16))) else (
  bnd (Rp_isTaken o y8 σ14) (fun r17 σ18 =>
  if r17 = (0 : Int32) then (
  bnd (Rp_pass o  σ18) (fun r19 σ20 =>
  some ((0 : Int32), σ20))) else (
  nas (sF σ18 o 11 y8) (fun σ21 =>
  bnd (Rp_pass o  σ21) (fun r22 σ23 =>
  some ((1 : Int32), σ23)))))))) else (
  bnd (Rp_pass o  σ10) (fun r11 σ12 =>
  some ((0 : Int32), σ12))))) else (
  grd (inb y5 6) (
  nas (sA σ10 (o + 5) y5.toNatClampNeg (1 : Int32)) (fun σ24 =>
  grd (inb y5 6) (
  if (σ24.2 (o + 5) y5.toNatClampNeg) = (1 : Int32) then (
  bnd (Rp_mayTalk o  σ24) (fun r27 σ28 =>
  if r27 = (0 : Int32) then (
  bnd (Rp_pass o  σ28) (fun r29 σ30 =>
  some ((0 : Int32), σ30))) else (
  bnd (Rp_isTaken o y8 σ28) (fun r31 σ32 =>
  if r31 = (0 : Int32) then (
  bnd (Rp_pass o  σ32) (fun r33 σ34 =>
  some ((0 : Int32), σ34))) else (
  nas (sF σ32 o 11 y8) (fun σ35 =>
  bnd (Rp_pass o  σ35) (fun r36 σ37 =>
  some ((1 : Int32), σ37)))))))) else (
  bnd (Rp_pass o  σ24) (fun r25 σ26 =>
  some ((0 : Int32), σ26)))))))))))))))
set_option maxRecDepth 100000 in
theorem sp_Rp_passByDraws (l : Launch) {o : Nat} (ho : isRp o) (σ : St) : Spc l shC 7 md_Rp_passByDraws [.ref o] σ (Rp_passByDraws o  σ) := by
  refine Spc_of_Ux [(0, .ref o)] (by decide) rfl (Nat.le_of_ble_eq_true rfl) ?_
  unfold Rp_passByDraws
  refine ux_iconst (0 : Int32) (dg hd_Rp_passByDraws 0 rfl) (by decide) ?_
  refine ux_istore_n [(1, .int (0 : Int32)), (0, .ref o)] (dg hd_Rp_passByDraws 1 rfl) (by decide) rfl ?_
  refine ux_aload_n (dg hd_Rp_passByDraws 2 rfl) rfl ?_
  refine ux_get fcX1 9 (by decide) wk_140 (rpO ho) rfl (dg hd_Rp_passByDraws 3 rfl) ?_
  refine ux_if_le 73 (dg hd_Rp_passByDraws 4 rfl) (by decide) (fun _ => ?_) (fun _ => ?_)
  · refine ux_aload_n (dg hd_Rp_passByDraws 42 rfl) rfl ?_
    refine ux_callVi (As := []) (sp_Rp_pass l ho  _) (by omega) cv_Rp_pass wk_577 rfl rfl (rpO ho) rfl rfl (Nat.le_of_ble_eq_true rfl) (dg hd_Rp_passByDraws 43 rfl) (fun r1 σ2 _ => ?_)
    refine ux_pop (dg hd_Rp_passByDraws 44 rfl) ?_
    refine ux_iload_n (dg hd_Rp_passByDraws 45 rfl) rfl ?_
    exact ux_iret rfl (dg hd_Rp_passByDraws 46 rfl)
  · refine ux_aload_n (dg hd_Rp_passByDraws 5 rfl) rfl ?_
    refine ux_callVi (As := []) (sp_Rp_draw l ho  _) (by omega) cv_Rp_draw wk_570 rfl rfl (rpO ho) rfl rfl (Nat.le_of_ble_eq_true rfl) (dg hd_Rp_passByDraws 6 rfl) (fun r3 σ4 _ => ?_)
    refine ux_aload_n (dg hd_Rp_passByDraws 7 rfl) rfl ?_
    refine ux_get fcX1 9 (by decide) wk_140 (rpO ho) rfl (dg hd_Rp_passByDraws 8 rfl) ?_
    refine ux_irem (dg hd_Rp_passByDraws 9 rfl) ?_
    refine ux_nam (fun y5 => ?_)
    refine ux_istore_n [(2, .int y5), (1, .int (0 : Int32)), (0, .ref o)] (dg hd_Rp_passByDraws 10 rfl) (by decide) rfl ?_
    refine ux_aload_n (dg hd_Rp_passByDraws 11 rfl) rfl ?_
    refine ux_callVi (As := []) (sp_Rp_draw l ho  _) (by omega) cv_Rp_draw wk_570 rfl rfl (rpO ho) rfl rfl (Nat.le_of_ble_eq_true rfl) (dg hd_Rp_passByDraws 12 rfl) (fun r6 σ7 _ => ?_)
    refine ux_bipush (64 : Int32) (dg hd_Rp_passByDraws 13 rfl) (by decide) ?_
    refine ux_irem (dg hd_Rp_passByDraws 14 rfl) ?_
    refine ux_nam (fun y8 => ?_)
    refine ux_istore_n [(3, .int y8), (2, .int y5), (1, .int (0 : Int32)), (0, .ref o)] (dg hd_Rp_passByDraws 15 rfl) (by decide) rfl ?_
    refine ux_aload_n (dg hd_Rp_passByDraws 16 rfl) rfl ?_
    refine ux_callVi (As := []) (sp_Rp_turns l ho  _) (by omega) cv_Rp_turns wk_453 rfl rfl (rpO ho) rfl rfl (Nat.le_of_ble_eq_true rfl) (dg hd_Rp_passByDraws 17 rfl) (fun r9 σ10 _ => ?_)
    refine ux_if_eq 41 (dg hd_Rp_passByDraws 18 rfl) (by decide) (fun _ => ?_) (fun _ => ?_)
    · refine ux_aload_n (dg hd_Rp_passByDraws 24 rfl) rfl ?_
      refine ux_getr (q := (o + 5)) fcX1 5 (by decide) wk_132 (rpO ho) rfl (dg hd_Rp_passByDraws 25 rfl) ?_
      refine ux_iload_n (dg hd_Rp_passByDraws 26 rfl) rfl ?_
      refine ux_iald (rpA5 ho) (dg hd_Rp_passByDraws 27 rfl) ?_
      refine ux_iconst (1 : Int32) (dg hd_Rp_passByDraws 28 rfl) (by decide) ?_
      refine ux_icmp_ne 73 (dg hd_Rp_passByDraws 29 rfl) (by decide) (fun _ => ?_) (fun _ => ?_)
      · refine ux_aload_n (dg hd_Rp_passByDraws 30 rfl) rfl ?_
        refine ux_callVi (As := []) (sp_Rp_mayTalk l ho  _) (by omega) cv_Rp_mayTalk wk_575 rfl rfl (rpO ho) rfl rfl (Nat.le_of_ble_eq_true rfl) (dg hd_Rp_passByDraws 31 rfl) (fun r13 σ14 _ => ?_)
        refine ux_if_eq 73 (dg hd_Rp_passByDraws 32 rfl) (by decide) (fun _ => ?_) (fun _ => ?_)
        · refine ux_aload_n (dg hd_Rp_passByDraws 42 rfl) rfl ?_
          refine ux_callVi (As := []) (sp_Rp_pass l ho  _) (by omega) cv_Rp_pass wk_577 rfl rfl (rpO ho) rfl rfl (Nat.le_of_ble_eq_true rfl) (dg hd_Rp_passByDraws 43 rfl) (fun r15 σ16 _ => ?_)
          refine ux_pop (dg hd_Rp_passByDraws 44 rfl) ?_
          refine ux_iload_n (dg hd_Rp_passByDraws 45 rfl) rfl ?_
          exact ux_iret rfl (dg hd_Rp_passByDraws 46 rfl)
        · refine ux_aload_n (dg hd_Rp_passByDraws 33 rfl) rfl ?_
          refine ux_iload_n (dg hd_Rp_passByDraws 34 rfl) rfl ?_
          refine ux_callVi (As := [.int y8]) (sp_Rp_isTaken l ho y8 _) (by omega) cv_Rp_isTaken wk_576 rfl rfl (rpO ho) rfl rfl (Nat.le_of_ble_eq_true rfl) (dg hd_Rp_passByDraws 35 rfl) (fun r17 σ18 _ => ?_)
          refine ux_if_eq 73 (dg hd_Rp_passByDraws 36 rfl) (by decide) (fun _ => ?_) (fun _ => ?_)
          · refine ux_aload_n (dg hd_Rp_passByDraws 42 rfl) rfl ?_
            refine ux_callVi (As := []) (sp_Rp_pass l ho  _) (by omega) cv_Rp_pass wk_577 rfl rfl (rpO ho) rfl rfl (Nat.le_of_ble_eq_true rfl) (dg hd_Rp_passByDraws 43 rfl) (fun r19 σ20 _ => ?_)
            refine ux_pop (dg hd_Rp_passByDraws 44 rfl) ?_
            refine ux_iload_n (dg hd_Rp_passByDraws 45 rfl) rfl ?_
            exact ux_iret rfl (dg hd_Rp_passByDraws 46 rfl)
          · refine ux_aload_n (dg hd_Rp_passByDraws 37 rfl) rfl ?_
            refine ux_iload_n (dg hd_Rp_passByDraws 38 rfl) rfl ?_
            refine ux_put fcX1 11 (by decide) wk_143 rfl rfl ⟨rfl, rfl⟩ (rpO ho) rfl (dg hd_Rp_passByDraws 39 rfl) ?_
            refine ux_nas (fun σ21 => ?_)
            refine ux_iconst (1 : Int32) (dg hd_Rp_passByDraws 40 rfl) (by decide) ?_
            refine ux_istore_n [(1, .int (1 : Int32)), (3, .int y8), (2, .int y5), (0, .ref o)] (dg hd_Rp_passByDraws 41 rfl) (by decide) rfl ?_
            refine ux_aload_n (dg hd_Rp_passByDraws 42 rfl) rfl ?_
            refine ux_callVi (As := []) (sp_Rp_pass l ho  _) (by omega) cv_Rp_pass wk_577 rfl rfl (rpO ho) rfl rfl (Nat.le_of_ble_eq_true rfl) (dg hd_Rp_passByDraws 43 rfl) (fun r22 σ23 _ => ?_)
            refine ux_pop (dg hd_Rp_passByDraws 44 rfl) ?_
            refine ux_iload_n (dg hd_Rp_passByDraws 45 rfl) rfl ?_
            exact ux_iret rfl (dg hd_Rp_passByDraws 46 rfl)
      · refine ux_aload_n (dg hd_Rp_passByDraws 42 rfl) rfl ?_
        refine ux_callVi (As := []) (sp_Rp_pass l ho  _) (by omega) cv_Rp_pass wk_577 rfl rfl (rpO ho) rfl rfl (Nat.le_of_ble_eq_true rfl) (dg hd_Rp_passByDraws 43 rfl) (fun r11 σ12 _ => ?_)
        refine ux_pop (dg hd_Rp_passByDraws 44 rfl) ?_
        refine ux_iload_n (dg hd_Rp_passByDraws 45 rfl) rfl ?_
        exact ux_iret rfl (dg hd_Rp_passByDraws 46 rfl)
    · refine ux_aload_n (dg hd_Rp_passByDraws 19 rfl) rfl ?_
      refine ux_getr (q := (o + 5)) fcX1 5 (by decide) wk_132 (rpO ho) rfl (dg hd_Rp_passByDraws 20 rfl) ?_
      refine ux_iload_n (dg hd_Rp_passByDraws 21 rfl) rfl ?_
      refine ux_iconst (1 : Int32) (dg hd_Rp_passByDraws 22 rfl) (by decide) ?_
      refine ux_iast (rpA5 ho) (dg hd_Rp_passByDraws 23 rfl) ?_
      refine ux_nas (fun σ24 => ?_)
      refine ux_aload_n (dg hd_Rp_passByDraws 24 rfl) rfl ?_
      refine ux_getr (q := (o + 5)) fcX1 5 (by decide) wk_132 (rpO ho) rfl (dg hd_Rp_passByDraws 25 rfl) ?_
      refine ux_iload_n (dg hd_Rp_passByDraws 26 rfl) rfl ?_
      refine ux_iald (rpA5 ho) (dg hd_Rp_passByDraws 27 rfl) ?_
      refine ux_iconst (1 : Int32) (dg hd_Rp_passByDraws 28 rfl) (by decide) ?_
      refine ux_icmp_ne 73 (dg hd_Rp_passByDraws 29 rfl) (by decide) (fun _ => ?_) (fun _ => ?_)
      · refine ux_aload_n (dg hd_Rp_passByDraws 30 rfl) rfl ?_
        refine ux_callVi (As := []) (sp_Rp_mayTalk l ho  _) (by omega) cv_Rp_mayTalk wk_575 rfl rfl (rpO ho) rfl rfl (Nat.le_of_ble_eq_true rfl) (dg hd_Rp_passByDraws 31 rfl) (fun r27 σ28 _ => ?_)
        refine ux_if_eq 73 (dg hd_Rp_passByDraws 32 rfl) (by decide) (fun _ => ?_) (fun _ => ?_)
        · refine ux_aload_n (dg hd_Rp_passByDraws 42 rfl) rfl ?_
          refine ux_callVi (As := []) (sp_Rp_pass l ho  _) (by omega) cv_Rp_pass wk_577 rfl rfl (rpO ho) rfl rfl (Nat.le_of_ble_eq_true rfl) (dg hd_Rp_passByDraws 43 rfl) (fun r29 σ30 _ => ?_)
          refine ux_pop (dg hd_Rp_passByDraws 44 rfl) ?_
          refine ux_iload_n (dg hd_Rp_passByDraws 45 rfl) rfl ?_
          exact ux_iret rfl (dg hd_Rp_passByDraws 46 rfl)
        · refine ux_aload_n (dg hd_Rp_passByDraws 33 rfl) rfl ?_
          refine ux_iload_n (dg hd_Rp_passByDraws 34 rfl) rfl ?_
          refine ux_callVi (As := [.int y8]) (sp_Rp_isTaken l ho y8 _) (by omega) cv_Rp_isTaken wk_576 rfl rfl (rpO ho) rfl rfl (Nat.le_of_ble_eq_true rfl) (dg hd_Rp_passByDraws 35 rfl) (fun r31 σ32 _ => ?_)
          refine ux_if_eq 73 (dg hd_Rp_passByDraws 36 rfl) (by decide) (fun _ => ?_) (fun _ => ?_)
          · refine ux_aload_n (dg hd_Rp_passByDraws 42 rfl) rfl ?_
            refine ux_callVi (As := []) (sp_Rp_pass l ho  _) (by omega) cv_Rp_pass wk_577 rfl rfl (rpO ho) rfl rfl (Nat.le_of_ble_eq_true rfl) (dg hd_Rp_passByDraws 43 rfl) (fun r33 σ34 _ => ?_)
            refine ux_pop (dg hd_Rp_passByDraws 44 rfl) ?_
            refine ux_iload_n (dg hd_Rp_passByDraws 45 rfl) rfl ?_
            exact ux_iret rfl (dg hd_Rp_passByDraws 46 rfl)
          · refine ux_aload_n (dg hd_Rp_passByDraws 37 rfl) rfl ?_
            refine ux_iload_n (dg hd_Rp_passByDraws 38 rfl) rfl ?_
            refine ux_put fcX1 11 (by decide) wk_143 rfl rfl ⟨rfl, rfl⟩ (rpO ho) rfl (dg hd_Rp_passByDraws 39 rfl) ?_
            refine ux_nas (fun σ35 => ?_)
            refine ux_iconst (1 : Int32) (dg hd_Rp_passByDraws 40 rfl) (by decide) ?_
            refine ux_istore_n [(1, .int (1 : Int32)), (3, .int y8), (2, .int y5), (0, .ref o)] (dg hd_Rp_passByDraws 41 rfl) (by decide) rfl ?_
            refine ux_aload_n (dg hd_Rp_passByDraws 42 rfl) rfl ?_
            refine ux_callVi (As := []) (sp_Rp_pass l ho  _) (by omega) cv_Rp_pass wk_577 rfl rfl (rpO ho) rfl rfl (Nat.le_of_ble_eq_true rfl) (dg hd_Rp_passByDraws 43 rfl) (fun r36 σ37 _ => ?_)
            refine ux_pop (dg hd_Rp_passByDraws 44 rfl) ?_
            refine ux_iload_n (dg hd_Rp_passByDraws 45 rfl) rfl ?_
            exact ux_iret rfl (dg hd_Rp_passByDraws 46 rfl)
      · refine ux_aload_n (dg hd_Rp_passByDraws 42 rfl) rfl ?_
        refine ux_callVi (As := []) (sp_Rp_pass l ho  _) (by omega) cv_Rp_pass wk_577 rfl rfl (rpO ho) rfl rfl (Nat.le_of_ble_eq_true rfl) (dg hd_Rp_passByDraws 43 rfl) (fun r25 σ26 _ => ?_)
        refine ux_pop (dg hd_Rp_passByDraws 44 rfl) ?_
        refine ux_iload_n (dg hd_Rp_passByDraws 45 rfl) rfl ?_
        exact ux_iret rfl (dg hd_Rp_passByDraws 46 rfl)
