def Tx_learn (o : Nat) (p1 : Nat) (p2 : Int32) (σ : St) : Option (Int32 × St) :=
  grd (cpb (0 : Int32) (0 : Int32) (60 : Int32) 60 60) (
  nas (sC σ p1 (0 : Int32).toNatClampNeg (o + 1) (0 : Int32).toNatClampNeg (60 : Int32).toNatClampNeg) (fun σ1 =>
  nas (sF σ1 o 3 p2) (fun σ2 =>
  some (0, σ2))))
set_option maxRecDepth 100000 in
theorem sp_Tx_learn (l : Launch) {o : Nat} (ho : isTx o) {p1 : Nat} (hp1 : shC[p1]? = some (.inl 60)) (p2 : Int32) (σ : St) : Spc l shC 2 md_Tx_learn [.ref o, .ref p1, .int p2] σ (Tx_learn o p1 p2 σ) := by
  refine Spc_of_Ux [(0, .ref o), (1, .ref p1), (2, .int p2)] (by decide) rfl (Nat.le_of_ble_eq_true rfl) ?_
  unfold Tx_learn
  refine ux_aload_n (dg hd_Tx_learn 0 rfl) rfl ?_
  refine ux_iconst (0 : Int32) (dg hd_Tx_learn 1 rfl) (by decide) ?_
  refine ux_aload_n (dg hd_Tx_learn 2 rfl) rfl ?_
  refine ux_getr (q := (o + 1)) fcX4 1 (by decide) wk_108 (txO ho) rfl (dg hd_Tx_learn 3 rfl) ?_
  refine ux_iconst (0 : Int32) (dg hd_Tx_learn 4 rfl) (by decide) ?_
  refine ux_bipush (60 : Int32) (dg hd_Tx_learn 5 rfl) (by decide) ?_
  refine ux_acopy (by omega) (Nat.le_of_ble_eq_true rfl) wk_535 wk_480 wk_479 wk_85 hp1 (txA1 ho) (dg hd_Tx_learn 6 rfl) ?_
  refine ux_nas (fun σ1 => ?_)
  refine ux_aload_n (dg hd_Tx_learn 7 rfl) rfl ?_
  refine ux_iload_n (dg hd_Tx_learn 8 rfl) rfl ?_
  refine ux_put fcX4 3 (by decide) wk_110 rfl rfl ⟨rfl, rfl⟩ (txO ho) rfl (dg hd_Tx_learn 9 rfl) ?_
  refine ux_nas (fun σ2 => ?_)
  exact ux_vret rfl (dg hd_Tx_learn 10 rfl)
def Tx_copy (o : Nat) (p1 : Nat) (σ : St) : Option (Int32 × St) :=
  bnd (Tx_learn o (p1 + 1) (σ.1 p1 3) σ) (fun r1 σ2 =>
  some (0, σ2))
set_option maxRecDepth 100000 in
theorem sp_Tx_copy (l : Launch) {o : Nat} (ho : isTx o) {p1 : Nat} (hp1 : isTx p1) (σ : St) : Spc l shC 3 md_Tx_copy [.ref o, .ref p1] σ (Tx_copy o p1 σ) := by
  refine Spc_of_Ux [(0, .ref o), (1, .ref p1)] (by decide) rfl (Nat.le_of_ble_eq_true rfl) ?_
  unfold Tx_copy
  refine ux_aload_n (dg hd_Tx_copy 0 rfl) rfl ?_
  refine ux_aload_n (dg hd_Tx_copy 1 rfl) rfl ?_
  refine ux_getr (q := (p1 + 1)) fcX4 1 (by decide) wk_108 (txO hp1) rfl (dg hd_Tx_copy 2 rfl) ?_
  refine ux_aload_n (dg hd_Tx_copy 3 rfl) rfl ?_
  refine ux_get fcX4 3 (by decide) wk_110 (txO hp1) rfl (dg hd_Tx_copy 4 rfl) ?_
  refine ux_callVv (As := [.ref (p1 + 1), .int (σ.1 p1 3)]) (sp_Tx_learn l ho (txA1 hp1) (σ.1 p1 3) _) (by omega) cv_Tx_learn wk_594 rfl rfl (txO ho) rfl rfl (Nat.le_of_ble_eq_true rfl) (dg hd_Tx_copy 5 rfl) (fun r1 σ2 _ => ?_)
  exact ux_vret rfl (dg hd_Tx_copy 6 rfl)
def Tx_isTold (o : Nat) (σ : St) : Option (Int32 × St) :=
  if (σ.1 o 3) ≤ (0 : Int32) then (
  some ((0 : Int32), σ)) else (
  some ((1 : Int32), σ))
set_option maxRecDepth 100000 in
theorem sp_Tx_isTold (l : Launch) {o : Nat} (ho : isTx o) (σ : St) : Spc l shC 2 md_Tx_isTold [.ref o] σ (Tx_isTold o  σ) := by
  refine Spc_of_Ux [(0, .ref o)] (by decide) rfl (Nat.le_of_ble_eq_true rfl) ?_
  unfold Tx_isTold
  refine ux_aload_n (dg hd_Tx_isTold 0 rfl) rfl ?_
  refine ux_get fcX4 3 (by decide) wk_110 (txO ho) rfl (dg hd_Tx_isTold 1 rfl) ?_
  refine ux_if_le 11 (dg hd_Tx_isTold 2 rfl) (by decide) (fun _ => ?_) (fun _ => ?_)
  · refine ux_iconst (0 : Int32) (dg hd_Tx_isTold 5 rfl) (by decide) ?_
    exact ux_zret rfl (dg hd_Tx_isTold 6 rfl) (isB_n (by decide))
  · refine ux_iconst (1 : Int32) (dg hd_Tx_isTold 3 rfl) (by decide) ?_
    refine ux_goto 12 (dg hd_Tx_isTold 4 rfl) (by decide) ?_
    exact ux_zret rfl (dg hd_Tx_isTold 6 rfl) (isB_n (by decide))
def Tx_join (p1 : Int32) (p2 : Int32) (p3 : Int32) (σ : St) : Option (Int32 × St) :=
  if p1 = (37 : Int32) then (
  if p3 = (0 : Int32) then (
  some ((0 : Int32), σ)) else (
  grd (nz p3) (
  some ((irm p2 p3), σ)))) else if p1 = (38 : Int32) then (
  if p2 = (0 : Int32) then (
  some ((0 : Int32), σ)) else (
  if p3 = (0 : Int32) then (
  some ((0 : Int32), σ)) else (
  some ((1 : Int32), σ)))) else if p1 = (42 : Int32) then (
  some ((p2 * p3), σ)) else if p1 = (43 : Int32) then (
  some ((p2 + p3), σ)) else if p1 = (45 : Int32) then (
  some ((p2 - p3), σ)) else if p1 = (47 : Int32) then (
  if p3 = (0 : Int32) then (
  some ((0 : Int32), σ)) else (
  grd (nz p3) (
  some ((p2 / p3), σ)))) else if p1 = (60 : Int32) then (
  if p3 ≤ p2 then (
  some ((0 : Int32), σ)) else (
  some ((1 : Int32), σ))) else if p1 = (61 : Int32) then (
  if p2 = p3 then (
  some ((1 : Int32), σ)) else (
  some ((0 : Int32), σ))) else if p1 = (62 : Int32) then (
  if p2 ≤ p3 then (
  some ((0 : Int32), σ)) else (
  some ((1 : Int32), σ))) else if p1 = (124 : Int32) then (
  if p2 = (0 : Int32) then (
  if p3 = (0 : Int32) then (
  some ((0 : Int32), σ)) else (
  some ((1 : Int32), σ))) else (
  some ((1 : Int32), σ))) else (
  some ((0 : Int32), σ))
set_option maxRecDepth 100000 in
theorem sp_Tx_join (l : Launch) (p1 : Int32) (p2 : Int32) (p3 : Int32) (σ : St) : Spc l shC 2 md_Tx_join [.int p1, .int p2, .int p3] σ (Tx_join p1 p2 p3 σ) := by
  refine Spc_of_Ux [(0, .int p1), (1, .int p2), (2, .int p3)] (by decide) rfl (Nat.le_of_ble_eq_true rfl) ?_
  unfold Tx_join
  refine ux_iload_n (dg hd_Tx_join 0 rfl) rfl ?_
  refine ux_case (37 : Int32) (fun _ => ?_) (fun c1 => ?_)
  · refine ux_look 177 (dg hd_Tx_join 1 rfl) rfl rfl (by decide) ?_
    refine ux_iload_n (dg hd_Tx_join 59 rfl) rfl ?_
    refine ux_if_ne 185 (dg hd_Tx_join 60 rfl) (by decide) (fun _ => ?_) (fun _ => ?_)
    · refine ux_iconst (0 : Int32) (dg hd_Tx_join 61 rfl) (by decide) ?_
      refine ux_goto 188 (dg hd_Tx_join 62 rfl) (by decide) ?_
      exact ux_iret rfl (dg hd_Tx_join 66 rfl)
    · refine ux_iload_n (dg hd_Tx_join 63 rfl) rfl ?_
      refine ux_iload_n (dg hd_Tx_join 64 rfl) rfl ?_
      refine ux_irem (dg hd_Tx_join 65 rfl) ?_
      exact ux_iret rfl (dg hd_Tx_join 66 rfl)
  refine ux_case (38 : Int32) (fun _ => ?_) (fun c2 => ?_)
  · refine ux_look 106 (dg hd_Tx_join 1 rfl) rfl rfl (by decide) ?_
    refine ux_iload_n (dg hd_Tx_join 10 rfl) rfl ?_
    refine ux_if_eq 118 (dg hd_Tx_join 11 rfl) (by decide) (fun _ => ?_) (fun _ => ?_)
    · refine ux_iconst (0 : Int32) (dg hd_Tx_join 16 rfl) (by decide) ?_
      exact ux_iret rfl (dg hd_Tx_join 17 rfl)
    · refine ux_iload_n (dg hd_Tx_join 12 rfl) rfl ?_
      refine ux_if_eq 118 (dg hd_Tx_join 13 rfl) (by decide) (fun _ => ?_) (fun _ => ?_)
      · refine ux_iconst (0 : Int32) (dg hd_Tx_join 16 rfl) (by decide) ?_
        exact ux_iret rfl (dg hd_Tx_join 17 rfl)
      · refine ux_iconst (1 : Int32) (dg hd_Tx_join 14 rfl) (by decide) ?_
        refine ux_goto 119 (dg hd_Tx_join 15 rfl) (by decide) ?_
        exact ux_iret rfl (dg hd_Tx_join 17 rfl)
  refine ux_case (42 : Int32) (fun _ => ?_) (fun c3 => ?_)
  · refine ux_look 161 (dg hd_Tx_join 1 rfl) rfl rfl (by decide) ?_
    refine ux_iload_n (dg hd_Tx_join 47 rfl) rfl ?_
    refine ux_iload_n (dg hd_Tx_join 48 rfl) rfl ?_
    refine ux_imul (dg hd_Tx_join 49 rfl) ?_
    exact ux_iret rfl (dg hd_Tx_join 50 rfl)
  refine ux_case (43 : Int32) (fun _ => ?_) (fun c4 => ?_)
  · refine ux_look 153 (dg hd_Tx_join 1 rfl) rfl rfl (by decide) ?_
    refine ux_iload_n (dg hd_Tx_join 39 rfl) rfl ?_
    refine ux_iload_n (dg hd_Tx_join 40 rfl) rfl ?_
    refine ux_iadd (dg hd_Tx_join 41 rfl) ?_
    exact ux_iret rfl (dg hd_Tx_join 42 rfl)
  refine ux_case (45 : Int32) (fun _ => ?_) (fun c5 => ?_)
  · refine ux_look 157 (dg hd_Tx_join 1 rfl) rfl rfl (by decide) ?_
    refine ux_iload_n (dg hd_Tx_join 43 rfl) rfl ?_
    refine ux_iload_n (dg hd_Tx_join 44 rfl) rfl ?_
    refine ux_isub (dg hd_Tx_join 45 rfl) ?_
    exact ux_iret rfl (dg hd_Tx_join 46 rfl)
  refine ux_case (47 : Int32) (fun _ => ?_) (fun c6 => ?_)
  · refine ux_look 165 (dg hd_Tx_join 1 rfl) rfl rfl (by decide) ?_
    refine ux_iload_n (dg hd_Tx_join 51 rfl) rfl ?_
    refine ux_if_ne 173 (dg hd_Tx_join 52 rfl) (by decide) (fun _ => ?_) (fun _ => ?_)
    · refine ux_iconst (0 : Int32) (dg hd_Tx_join 53 rfl) (by decide) ?_
      refine ux_goto 176 (dg hd_Tx_join 54 rfl) (by decide) ?_
      exact ux_iret rfl (dg hd_Tx_join 58 rfl)
    · refine ux_iload_n (dg hd_Tx_join 55 rfl) rfl ?_
      refine ux_iload_n (dg hd_Tx_join 56 rfl) rfl ?_
      refine ux_idiv (dg hd_Tx_join 57 rfl) ?_
      exact ux_iret rfl (dg hd_Tx_join 58 rfl)
  refine ux_case (60 : Int32) (fun _ => ?_) (fun c7 => ?_)
  · refine ux_look 120 (dg hd_Tx_join 1 rfl) rfl rfl (by decide) ?_
    refine ux_iload_n (dg hd_Tx_join 18 rfl) rfl ?_
    refine ux_iload_n (dg hd_Tx_join 19 rfl) rfl ?_
    refine ux_icmp_ge 129 (dg hd_Tx_join 20 rfl) (by decide) (fun _ => ?_) (fun _ => ?_)
    · refine ux_iconst (0 : Int32) (dg hd_Tx_join 23 rfl) (by decide) ?_
      exact ux_iret rfl (dg hd_Tx_join 24 rfl)
    · refine ux_iconst (1 : Int32) (dg hd_Tx_join 21 rfl) (by decide) ?_
      refine ux_goto 130 (dg hd_Tx_join 22 rfl) (by decide) ?_
      exact ux_iret rfl (dg hd_Tx_join 24 rfl)
  refine ux_case (61 : Int32) (fun _ => ?_) (fun c8 => ?_)
  · refine ux_look 131 (dg hd_Tx_join 1 rfl) rfl rfl (by decide) ?_
    refine ux_iload_n (dg hd_Tx_join 25 rfl) rfl ?_
    refine ux_iload_n (dg hd_Tx_join 26 rfl) rfl ?_
    refine ux_icmp_ne 140 (dg hd_Tx_join 27 rfl) (by decide) (fun _ => ?_) (fun _ => ?_)
    · refine ux_iconst (1 : Int32) (dg hd_Tx_join 28 rfl) (by decide) ?_
      refine ux_goto 141 (dg hd_Tx_join 29 rfl) (by decide) ?_
      exact ux_iret rfl (dg hd_Tx_join 31 rfl)
    · refine ux_iconst (0 : Int32) (dg hd_Tx_join 30 rfl) (by decide) ?_
      exact ux_iret rfl (dg hd_Tx_join 31 rfl)
  refine ux_case (62 : Int32) (fun _ => ?_) (fun c9 => ?_)
  · refine ux_look 142 (dg hd_Tx_join 1 rfl) rfl rfl (by decide) ?_
    refine ux_iload_n (dg hd_Tx_join 32 rfl) rfl ?_
    refine ux_iload_n (dg hd_Tx_join 33 rfl) rfl ?_
    refine ux_icmp_le 151 (dg hd_Tx_join 34 rfl) (by decide) (fun _ => ?_) (fun _ => ?_)
    · refine ux_iconst (0 : Int32) (dg hd_Tx_join 37 rfl) (by decide) ?_
      exact ux_iret rfl (dg hd_Tx_join 38 rfl)
    · refine ux_iconst (1 : Int32) (dg hd_Tx_join 35 rfl) (by decide) ?_
      refine ux_goto 152 (dg hd_Tx_join 36 rfl) (by decide) ?_
      exact ux_iret rfl (dg hd_Tx_join 38 rfl)
  refine ux_case (124 : Int32) (fun _ => ?_) (fun c10 => ?_)
  · refine ux_look 92 (dg hd_Tx_join 1 rfl) rfl rfl (by decide) ?_
    refine ux_iload_n (dg hd_Tx_join 2 rfl) rfl ?_
    refine ux_if_ne 100 (dg hd_Tx_join 3 rfl) (by decide) (fun _ => ?_) (fun _ => ?_)
    · refine ux_iload_n (dg hd_Tx_join 4 rfl) rfl ?_
      refine ux_if_eq 104 (dg hd_Tx_join 5 rfl) (by decide) (fun _ => ?_) (fun _ => ?_)
      · refine ux_iconst (0 : Int32) (dg hd_Tx_join 8 rfl) (by decide) ?_
        exact ux_iret rfl (dg hd_Tx_join 9 rfl)
      · refine ux_iconst (1 : Int32) (dg hd_Tx_join 6 rfl) (by decide) ?_
        refine ux_goto 105 (dg hd_Tx_join 7 rfl) (by decide) ?_
        exact ux_iret rfl (dg hd_Tx_join 9 rfl)
    · refine ux_iconst (1 : Int32) (dg hd_Tx_join 6 rfl) (by decide) ?_
      refine ux_goto 105 (dg hd_Tx_join 7 rfl) (by decide) ?_
      exact ux_iret rfl (dg hd_Tx_join 9 rfl)
  refine ux_look (off := 188) 189 (dg hd_Tx_join 1 rfl) rfl ((lv_osw (a := 37) c1 (by decide)).trans <| (lv_osw (a := 38) c2 (by decide)).trans <| (lv_osw (a := 42) c3 (by decide)).trans <| (lv_osw (a := 43) c4 (by decide)).trans <| (lv_osw (a := 45) c5 (by decide)).trans <| (lv_osw (a := 47) c6 (by decide)).trans <| (lv_osw (a := 60) c7 (by decide)).trans <| (lv_osw (a := 61) c8 (by decide)).trans <| (lv_osw (a := 62) c9 (by decide)).trans <| (lv_osw (a := 124) c10 (by decide)).trans <| rfl) (by decide) ?_
  refine ux_iconst (0 : Int32) (dg hd_Tx_join 67 rfl) (by decide) ?_
  exact ux_iret rfl (dg hd_Tx_join 68 rfl)
def Tx_meaning (p1 : Int32) (p2 : Int32) (p3 : Int32) (p4 : Int32) (σ : St) : Option (Int32 × St) :=
  if p1 = (-3 : Int32) then (
  some (p4, σ)) else if p1 = (-2 : Int32) then (
  some (p3, σ)) else if p1 = (-1 : Int32) then (
  some (p2, σ)) else (
  some (p1, σ))
set_option maxRecDepth 100000 in
theorem sp_Tx_meaning (l : Launch) (p1 : Int32) (p2 : Int32) (p3 : Int32) (p4 : Int32) (σ : St) : Spc l shC 2 md_Tx_meaning [.int p1, .int p2, .int p3, .int p4] σ (Tx_meaning p1 p2 p3 p4 σ) := by
  refine Spc_of_Ux [(0, .int p1), (1, .int p2), (2, .int p3), (3, .int p4)] (by decide) rfl (Nat.le_of_ble_eq_true rfl) ?_
  unfold Tx_meaning
  refine ux_iload_n (dg hd_Tx_meaning 0 rfl) rfl ?_
  refine ux_case (-3 : Int32) (fun _ => ?_) (fun c1 => ?_)
  · refine ux_tabIn 32 (dg hd_Tx_meaning 1 rfl) (by decide) (by decide) rfl (by decide) ?_
    refine ux_iload_n (dg hd_Tx_meaning 6 rfl) rfl ?_
    exact ux_iret rfl (dg hd_Tx_meaning 7 rfl)
  refine ux_case (-2 : Int32) (fun _ => ?_) (fun c2 => ?_)
  · refine ux_tabIn 30 (dg hd_Tx_meaning 1 rfl) (by decide) (by decide) rfl (by decide) ?_
    refine ux_iload_n (dg hd_Tx_meaning 4 rfl) rfl ?_
    exact ux_iret rfl (dg hd_Tx_meaning 5 rfl)
  refine ux_case (-1 : Int32) (fun _ => ?_) (fun c3 => ?_)
  · refine ux_tabIn 28 (dg hd_Tx_meaning 1 rfl) (by decide) (by decide) rfl (by decide) ?_
    refine ux_iload_n (dg hd_Tx_meaning 2 rfl) rfl ?_
    exact ux_iret rfl (dg hd_Tx_meaning 3 rfl)
  refine ux_tabOut 34 (dg hd_Tx_meaning 1 rfl) (by have hc1 := lv_neT (a := -3) c1 (by decide); have hc2 := lv_neT (a := -2) c2 (by decide); have hc3 := lv_neT (a := -1) c3 (by decide); omega) (by decide) ?_
  refine ux_iload_n (dg hd_Tx_meaning 8 rfl) rfl ?_
  exact ux_iret rfl (dg hd_Tx_meaning 9 rfl)
def Tx_work_L6 : Nat → Nat → Int32 → Int32 → Int32 → Int32 → Int32 → St → Option (Int32 × St)
  | 0, _, _, _, _, _, _, _ => none
  | n + 1, o, x1, x2, x3, x4, x5, σ =>
    if (σ.1 o 3) ≤ x5 then (
    grd (inb (0 : Int32) 60) (
    some ((σ.2 (o + 2) (0 : Int32).toNatClampNeg), σ))) else (
    grd (inb x5 60) (
    nam (σ.2 (o + 1) x5.toNatClampNeg) (fun y1 =>
    if y1 = (-33 : Int32) then (
    if x4 < (1 : Int32) then (
    if (-3 : Int32) ≤ y1 then (
    if y1 < (-3 : Int32) then (
    nam (x5 + (1 : Int32)) (fun y21 =>
    Tx_work_L6 n o x1 x2 x3 x4 y21 σ)) else (
    if (60 : Int32) ≤ x4 then (
    nam (x5 + (1 : Int32)) (fun y22 =>
    Tx_work_L6 n o x1 x2 x3 x4 y22 σ)) else (
    bnd (Tx_meaning y1 x1 x2 x3 σ) (fun r23 σ24 =>
    grd (inb x4 60) (
    nas (sA σ24 (o + 2) x4.toNatClampNeg r23) (fun σ25 =>
    nam (x4 + (1 : Int32)) (fun y26 =>
    nam (x5 + (1 : Int32)) (fun y27 =>
    Tx_work_L6 n o x1 x2 x3 y26 y27 σ25)))))))) else (
    if x4 < (2 : Int32) then (
    if y1 < (-3 : Int32) then (
    nam (x5 + (1 : Int32)) (fun y28 =>
    Tx_work_L6 n o x1 x2 x3 x4 y28 σ)) else (
    if (60 : Int32) ≤ x4 then (
    nam (x5 + (1 : Int32)) (fun y29 =>
    Tx_work_L6 n o x1 x2 x3 x4 y29 σ)) else (
    bnd (Tx_meaning y1 x1 x2 x3 σ) (fun r30 σ31 =>
    grd (inb x4 60) (
    nas (sA σ31 (o + 2) x4.toNatClampNeg r30) (fun σ32 =>
    nam (x4 + (1 : Int32)) (fun y33 =>
    nam (x5 + (1 : Int32)) (fun y34 =>
    Tx_work_L6 n o x1 x2 x3 y33 y34 σ32)))))))) else (
    nam (x4 + (-1 : Int32)) (fun y35 =>
    grd (inb (y35 - (1 : Int32)) 60) (
    grd (inb y35 60) (
    bnd (Tx_join (-y1) (σ.2 (o + 2) (y35 - (1 : Int32)).toNatClampNeg) (σ.2 (o + 2) y35.toNatClampNeg) σ) (fun r36 σ37 =>
    grd (inb (y35 - (1 : Int32)) 60) (
    nas (sA σ37 (o + 2) (y35 - (1 : Int32)).toNatClampNeg r36) (fun σ38 =>
    nam (x5 + (1 : Int32)) (fun y39 =>
    Tx_work_L6 n o x1 x2 x3 y35 y39 σ38)))))))))) else (
    grd (inb (x4 - (1 : Int32)) 60) (
    if (σ.2 (o + 2) (x4 - (1 : Int32)).toNatClampNeg) = (0 : Int32) then (
    grd (inb (x4 - (1 : Int32)) 60) (
    nas (sA σ (o + 2) (x4 - (1 : Int32)).toNatClampNeg (1 : Int32)) (fun σ42 =>
    nam (x5 + (1 : Int32)) (fun y43 =>
    Tx_work_L6 n o x1 x2 x3 x4 y43 σ42)))) else (
    grd (inb (x4 - (1 : Int32)) 60) (
    nas (sA σ (o + 2) (x4 - (1 : Int32)).toNatClampNeg (0 : Int32)) (fun σ40 =>
    nam (x5 + (1 : Int32)) (fun y41 =>
    Tx_work_L6 n o x1 x2 x3 x4 y41 σ40))))))) else (
    if (-3 : Int32) ≤ y1 then (
    if y1 < (-3 : Int32) then (
    nam (x5 + (1 : Int32)) (fun y2 =>
    Tx_work_L6 n o x1 x2 x3 x4 y2 σ)) else (
    if (60 : Int32) ≤ x4 then (
    nam (x5 + (1 : Int32)) (fun y3 =>
    Tx_work_L6 n o x1 x2 x3 x4 y3 σ)) else (
    bnd (Tx_meaning y1 x1 x2 x3 σ) (fun r4 σ5 =>
    grd (inb x4 60) (
    nas (sA σ5 (o + 2) x4.toNatClampNeg r4) (fun σ6 =>
    nam (x4 + (1 : Int32)) (fun y7 =>
    nam (x5 + (1 : Int32)) (fun y8 =>
    Tx_work_L6 n o x1 x2 x3 y7 y8 σ6)))))))) else (
    if x4 < (2 : Int32) then (
    if y1 < (-3 : Int32) then (
    nam (x5 + (1 : Int32)) (fun y9 =>
    Tx_work_L6 n o x1 x2 x3 x4 y9 σ)) else (
    if (60 : Int32) ≤ x4 then (
    nam (x5 + (1 : Int32)) (fun y10 =>
    Tx_work_L6 n o x1 x2 x3 x4 y10 σ)) else (
    bnd (Tx_meaning y1 x1 x2 x3 σ) (fun r11 σ12 =>
    grd (inb x4 60) (
    nas (sA σ12 (o + 2) x4.toNatClampNeg r11) (fun σ13 =>
    nam (x4 + (1 : Int32)) (fun y14 =>
    nam (x5 + (1 : Int32)) (fun y15 =>
    Tx_work_L6 n o x1 x2 x3 y14 y15 σ13)))))))) else (
    nam (x4 + (-1 : Int32)) (fun y16 =>
    grd (inb (y16 - (1 : Int32)) 60) (
    grd (inb y16 60) (
    bnd (Tx_join (-y1) (σ.2 (o + 2) (y16 - (1 : Int32)).toNatClampNeg) (σ.2 (o + 2) y16.toNatClampNeg) σ) (fun r17 σ18 =>
    grd (inb (y16 - (1 : Int32)) 60) (
    nas (sA σ18 (o + 2) (y16 - (1 : Int32)).toNatClampNeg r17) (fun σ19 =>
    nam (x5 + (1 : Int32)) (fun y20 =>
    Tx_work_L6 n o x1 x2 x3 y16 y20 σ19)))))))))))))
set_option maxRecDepth 100000 in
theorem wk_Tx_work_L6 (l : Launch) {o : Nat} (ho : isTx o) : ∀ (n : Nat) (x1 x2 x3 x4 x5 : Int32) (σ : St), Ux l shC 3 md_Tx_work 6 [(0, .ref o), (1, .int x1), (2, .int x2), (3, .int x3), (4, .int x4), (5, .int x5)] [] σ (Tx_work_L6 n o x1 x2 x3 x4 x5 σ) := by
  intro n
  induction n with
  | zero => intros; exact ux_none
  | succ n ih =>
    intro x1 x2 x3 x4 x5 σ
    unfold Tx_work_L6
    refine ux_iload (dg hd_Tx_work 4 rfl) rfl ?_
    refine ux_aload_n (dg hd_Tx_work 5 rfl) rfl ?_
    refine ux_get fcX4 3 (by decide) wk_110 (txO ho) rfl (dg hd_Tx_work 6 rfl) ?_
    refine ux_icmp_ge 154 (dg hd_Tx_work 7 rfl) (by decide) (fun _ => ?_) (fun _ => ?_)
    · refine ux_aload_n (dg hd_Tx_work 81 rfl) rfl ?_
      refine ux_getr (q := (o + 2)) fcX4 2 (by decide) wk_109 (txO ho) rfl (dg hd_Tx_work 82 rfl) ?_
      refine ux_iconst (0 : Int32) (dg hd_Tx_work 83 rfl) (by decide) ?_
      refine ux_iald (txA2 ho) (dg hd_Tx_work 84 rfl) ?_
      exact ux_iret rfl (dg hd_Tx_work 85 rfl)
    · refine ux_aload_n (dg hd_Tx_work 8 rfl) rfl ?_
      refine ux_getr (q := (o + 1)) fcX4 1 (by decide) wk_108 (txO ho) rfl (dg hd_Tx_work 9 rfl) ?_
      refine ux_iload (dg hd_Tx_work 10 rfl) rfl ?_
      refine ux_iald (txA1 ho) (dg hd_Tx_work 11 rfl) ?_
      refine ux_nam (fun y1 => ?_)
      refine ux_istore [(6, .int y1), (0, .ref o), (1, .int x1), (2, .int x2), (3, .int x3), (4, .int x4), (5, .int x5)] (dg hd_Tx_work 12 rfl) (by decide) rfl ?_
      refine ux_iload (dg hd_Tx_work 13 rfl) rfl ?_
      refine ux_bipush (-33 : Int32) (dg hd_Tx_work 14 rfl) (by decide) ?_
      refine ux_icmp_ne 66 (dg hd_Tx_work 15 rfl) (by decide) (fun _ => ?_) (fun _ => ?_)
      · refine ux_iload (dg hd_Tx_work 16 rfl) rfl ?_
        refine ux_iconst (1 : Int32) (dg hd_Tx_work 17 rfl) (by decide) ?_
        refine ux_icmp_lt 66 (dg hd_Tx_work 18 rfl) (by decide) (fun _ => ?_) (fun _ => ?_)
        · refine ux_iload (dg hd_Tx_work 36 rfl) rfl ?_
          refine ux_bipush (-3 : Int32) (dg hd_Tx_work 37 rfl) (by decide) ?_
          refine ux_icmp_ge 116 (dg hd_Tx_work 38 rfl) (by decide) (fun _ => ?_) (fun _ => ?_)
          · refine ux_iload (dg hd_Tx_work 63 rfl) rfl ?_
            refine ux_bipush (-3 : Int32) (dg hd_Tx_work 64 rfl) (by decide) ?_
            refine ux_icmp_lt 148 (dg hd_Tx_work 65 rfl) (by decide) (fun _ => ?_) (fun _ => ?_)
            · refine ux_iincN (1 : Int32) (fun y21 => [(5, .int y21), (6, .int y1), (0, .ref o), (1, .int x1), (2, .int x2), (3, .int x3), (4, .int x4)]) (dg hd_Tx_work 79 rfl) rfl (by decide) (by decide) (fun _ => rfl) (fun y21 => ?_)
              refine ux_goto 6 (dg hd_Tx_work 80 rfl) (by decide) ?_
              refine ux_wk [(0, .ref o), (1, .int x1), (2, .int x2), (3, .int x3), (4, .int x4), (5, .int y21)] [2, 3, 4, 5, 6, 0] rfl ?_
              exact ih x1 x2 x3 x4 y21 σ
            · refine ux_iload (dg hd_Tx_work 66 rfl) rfl ?_
              refine ux_bipush (60 : Int32) (dg hd_Tx_work 67 rfl) (by decide) ?_
              refine ux_icmp_ge 148 (dg hd_Tx_work 68 rfl) (by decide) (fun _ => ?_) (fun _ => ?_)
              · refine ux_iincN (1 : Int32) (fun y22 => [(5, .int y22), (6, .int y1), (0, .ref o), (1, .int x1), (2, .int x2), (3, .int x3), (4, .int x4)]) (dg hd_Tx_work 79 rfl) rfl (by decide) (by decide) (fun _ => rfl) (fun y22 => ?_)
                refine ux_goto 6 (dg hd_Tx_work 80 rfl) (by decide) ?_
                refine ux_wk [(0, .ref o), (1, .int x1), (2, .int x2), (3, .int x3), (4, .int x4), (5, .int y22)] [2, 3, 4, 5, 6, 0] rfl ?_
                exact ih x1 x2 x3 x4 y22 σ
              · refine ux_aload_n (dg hd_Tx_work 69 rfl) rfl ?_
                refine ux_getr (q := (o + 2)) fcX4 2 (by decide) wk_109 (txO ho) rfl (dg hd_Tx_work 70 rfl) ?_
                refine ux_iload (dg hd_Tx_work 71 rfl) rfl ?_
                refine ux_iload (dg hd_Tx_work 72 rfl) rfl ?_
                refine ux_iload_n (dg hd_Tx_work 73 rfl) rfl ?_
                refine ux_iload_n (dg hd_Tx_work 74 rfl) rfl ?_
                refine ux_iload_n (dg hd_Tx_work 75 rfl) rfl ?_
                refine ux_callSi (As := [.int y1, .int x1, .int x2, .int x3]) (sp_Tx_meaning l y1 x1 x2 x3 _) (by omega) cs_Tx_meaning wk_387 rfl rfl (Nat.le_of_ble_eq_true rfl) (dg hd_Tx_work 76 rfl) (fun r23 σ24 _ => ?_)
                refine ux_iast (txA2 ho) (dg hd_Tx_work 77 rfl) ?_
                refine ux_nas (fun σ25 => ?_)
                refine ux_iincN (1 : Int32) (fun y26 => [(4, .int y26), (6, .int y1), (0, .ref o), (1, .int x1), (2, .int x2), (3, .int x3), (5, .int x5)]) (dg hd_Tx_work 78 rfl) rfl (by decide) (by decide) (fun _ => rfl) (fun y26 => ?_)
                refine ux_iincN (1 : Int32) (fun y27 => [(5, .int y27), (4, .int y26), (6, .int y1), (0, .ref o), (1, .int x1), (2, .int x2), (3, .int x3)]) (dg hd_Tx_work 79 rfl) rfl (by decide) (by decide) (fun _ => rfl) (fun y27 => ?_)
                refine ux_goto 6 (dg hd_Tx_work 80 rfl) (by decide) ?_
                refine ux_wk [(0, .ref o), (1, .int x1), (2, .int x2), (3, .int x3), (4, .int y26), (5, .int y27)] [3, 4, 5, 6, 1, 0] rfl ?_
                exact ih x1 x2 x3 y26 y27 σ25
          · refine ux_iload (dg hd_Tx_work 39 rfl) rfl ?_
            refine ux_iconst (2 : Int32) (dg hd_Tx_work 40 rfl) (by decide) ?_
            refine ux_icmp_lt 116 (dg hd_Tx_work 41 rfl) (by decide) (fun _ => ?_) (fun _ => ?_)
            · refine ux_iload (dg hd_Tx_work 63 rfl) rfl ?_
              refine ux_bipush (-3 : Int32) (dg hd_Tx_work 64 rfl) (by decide) ?_
              refine ux_icmp_lt 148 (dg hd_Tx_work 65 rfl) (by decide) (fun _ => ?_) (fun _ => ?_)
              · refine ux_iincN (1 : Int32) (fun y28 => [(5, .int y28), (6, .int y1), (0, .ref o), (1, .int x1), (2, .int x2), (3, .int x3), (4, .int x4)]) (dg hd_Tx_work 79 rfl) rfl (by decide) (by decide) (fun _ => rfl) (fun y28 => ?_)
                refine ux_goto 6 (dg hd_Tx_work 80 rfl) (by decide) ?_
                refine ux_wk [(0, .ref o), (1, .int x1), (2, .int x2), (3, .int x3), (4, .int x4), (5, .int y28)] [2, 3, 4, 5, 6, 0] rfl ?_
                exact ih x1 x2 x3 x4 y28 σ
              · refine ux_iload (dg hd_Tx_work 66 rfl) rfl ?_
                refine ux_bipush (60 : Int32) (dg hd_Tx_work 67 rfl) (by decide) ?_
                refine ux_icmp_ge 148 (dg hd_Tx_work 68 rfl) (by decide) (fun _ => ?_) (fun _ => ?_)
                · refine ux_iincN (1 : Int32) (fun y29 => [(5, .int y29), (6, .int y1), (0, .ref o), (1, .int x1), (2, .int x2), (3, .int x3), (4, .int x4)]) (dg hd_Tx_work 79 rfl) rfl (by decide) (by decide) (fun _ => rfl) (fun y29 => ?_)
                  refine ux_goto 6 (dg hd_Tx_work 80 rfl) (by decide) ?_
                  refine ux_wk [(0, .ref o), (1, .int x1), (2, .int x2), (3, .int x3), (4, .int x4), (5, .int y29)] [2, 3, 4, 5, 6, 0] rfl ?_
                  exact ih x1 x2 x3 x4 y29 σ
                · refine ux_aload_n (dg hd_Tx_work 69 rfl) rfl ?_
                  refine ux_getr (q := (o + 2)) fcX4 2 (by decide) wk_109 (txO ho) rfl (dg hd_Tx_work 70 rfl) ?_
                  refine ux_iload (dg hd_Tx_work 71 rfl) rfl ?_
                  refine ux_iload (dg hd_Tx_work 72 rfl) rfl ?_
                  refine ux_iload_n (dg hd_Tx_work 73 rfl) rfl ?_
                  refine ux_iload_n (dg hd_Tx_work 74 rfl) rfl ?_
                  refine ux_iload_n (dg hd_Tx_work 75 rfl) rfl ?_
                  refine ux_callSi (As := [.int y1, .int x1, .int x2, .int x3]) (sp_Tx_meaning l y1 x1 x2 x3 _) (by omega) cs_Tx_meaning wk_387 rfl rfl (Nat.le_of_ble_eq_true rfl) (dg hd_Tx_work 76 rfl) (fun r30 σ31 _ => ?_)
                  refine ux_iast (txA2 ho) (dg hd_Tx_work 77 rfl) ?_
                  refine ux_nas (fun σ32 => ?_)
                  refine ux_iincN (1 : Int32) (fun y33 => [(4, .int y33), (6, .int y1), (0, .ref o), (1, .int x1), (2, .int x2), (3, .int x3), (5, .int x5)]) (dg hd_Tx_work 78 rfl) rfl (by decide) (by decide) (fun _ => rfl) (fun y33 => ?_)
                  refine ux_iincN (1 : Int32) (fun y34 => [(5, .int y34), (4, .int y33), (6, .int y1), (0, .ref o), (1, .int x1), (2, .int x2), (3, .int x3)]) (dg hd_Tx_work 79 rfl) rfl (by decide) (by decide) (fun _ => rfl) (fun y34 => ?_)
                  refine ux_goto 6 (dg hd_Tx_work 80 rfl) (by decide) ?_
                  refine ux_wk [(0, .ref o), (1, .int x1), (2, .int x2), (3, .int x3), (4, .int y33), (5, .int y34)] [3, 4, 5, 6, 1, 0] rfl ?_
                  exact ih x1 x2 x3 y33 y34 σ32
            · refine ux_iincN (-1 : Int32) (fun y35 => [(4, .int y35), (6, .int y1), (0, .ref o), (1, .int x1), (2, .int x2), (3, .int x3), (5, .int x5)]) (dg hd_Tx_work 42 rfl) rfl (by decide) (by decide) (fun _ => rfl) (fun y35 => ?_)
              refine ux_aload_n (dg hd_Tx_work 43 rfl) rfl ?_
              refine ux_getr (q := (o + 2)) fcX4 2 (by decide) wk_109 (txO ho) rfl (dg hd_Tx_work 44 rfl) ?_
              refine ux_iload (dg hd_Tx_work 45 rfl) rfl ?_
              refine ux_iconst (1 : Int32) (dg hd_Tx_work 46 rfl) (by decide) ?_
              refine ux_isub (dg hd_Tx_work 47 rfl) ?_
              refine ux_iload (dg hd_Tx_work 48 rfl) rfl ?_
              refine ux_ineg (dg hd_Tx_work 49 rfl) ?_
              refine ux_aload_n (dg hd_Tx_work 50 rfl) rfl ?_
              refine ux_getr (q := (o + 2)) fcX4 2 (by decide) wk_109 (txO ho) rfl (dg hd_Tx_work 51 rfl) ?_
              refine ux_iload (dg hd_Tx_work 52 rfl) rfl ?_
              refine ux_iconst (1 : Int32) (dg hd_Tx_work 53 rfl) (by decide) ?_
              refine ux_isub (dg hd_Tx_work 54 rfl) ?_
              refine ux_iald (txA2 ho) (dg hd_Tx_work 55 rfl) ?_
              refine ux_aload_n (dg hd_Tx_work 56 rfl) rfl ?_
              refine ux_getr (q := (o + 2)) fcX4 2 (by decide) wk_109 (txO ho) rfl (dg hd_Tx_work 57 rfl) ?_
              refine ux_iload (dg hd_Tx_work 58 rfl) rfl ?_
              refine ux_iald (txA2 ho) (dg hd_Tx_work 59 rfl) ?_
              refine ux_callSi (As := [.int (-y1), .int (σ.2 (o + 2) (y35 - (1 : Int32)).toNatClampNeg), .int (σ.2 (o + 2) y35.toNatClampNeg)]) (sp_Tx_join l (-y1) (σ.2 (o + 2) (y35 - (1 : Int32)).toNatClampNeg) (σ.2 (o + 2) y35.toNatClampNeg) _) (by omega) cs_Tx_join wk_384 rfl rfl (Nat.le_of_ble_eq_true rfl) (dg hd_Tx_work 60 rfl) (fun r36 σ37 _ => ?_)
              refine ux_iast (txA2 ho) (dg hd_Tx_work 61 rfl) ?_
              refine ux_nas (fun σ38 => ?_)
              refine ux_goto 148 (dg hd_Tx_work 62 rfl) (by decide) ?_
              refine ux_iincN (1 : Int32) (fun y39 => [(5, .int y39), (4, .int y35), (6, .int y1), (0, .ref o), (1, .int x1), (2, .int x2), (3, .int x3)]) (dg hd_Tx_work 79 rfl) rfl (by decide) (by decide) (fun _ => rfl) (fun y39 => ?_)
              refine ux_goto 6 (dg hd_Tx_work 80 rfl) (by decide) ?_
              refine ux_wk [(0, .ref o), (1, .int x1), (2, .int x2), (3, .int x3), (4, .int y35), (5, .int y39)] [3, 4, 5, 6, 1, 0] rfl ?_
              exact ih x1 x2 x3 y35 y39 σ38
        · refine ux_aload_n (dg hd_Tx_work 19 rfl) rfl ?_
          refine ux_getr (q := (o + 2)) fcX4 2 (by decide) wk_109 (txO ho) rfl (dg hd_Tx_work 20 rfl) ?_
          refine ux_iload (dg hd_Tx_work 21 rfl) rfl ?_
          refine ux_iconst (1 : Int32) (dg hd_Tx_work 22 rfl) (by decide) ?_
          refine ux_isub (dg hd_Tx_work 23 rfl) ?_
          refine ux_aload_n (dg hd_Tx_work 24 rfl) rfl ?_
          refine ux_getr (q := (o + 2)) fcX4 2 (by decide) wk_109 (txO ho) rfl (dg hd_Tx_work 25 rfl) ?_
          refine ux_iload (dg hd_Tx_work 26 rfl) rfl ?_
          refine ux_iconst (1 : Int32) (dg hd_Tx_work 27 rfl) (by decide) ?_
          refine ux_isub (dg hd_Tx_work 28 rfl) ?_
          refine ux_iald (txA2 ho) (dg hd_Tx_work 29 rfl) ?_
          refine ux_if_ne 61 (dg hd_Tx_work 30 rfl) (by decide) (fun _ => ?_) (fun _ => ?_)
          · refine ux_iconst (1 : Int32) (dg hd_Tx_work 31 rfl) (by decide) ?_
            refine ux_goto 62 (dg hd_Tx_work 32 rfl) (by decide) ?_
            refine ux_iast (txA2 ho) (dg hd_Tx_work 34 rfl) ?_
            refine ux_nas (fun σ42 => ?_)
            refine ux_goto 148 (dg hd_Tx_work 35 rfl) (by decide) ?_
            refine ux_iincN (1 : Int32) (fun y43 => [(5, .int y43), (6, .int y1), (0, .ref o), (1, .int x1), (2, .int x2), (3, .int x3), (4, .int x4)]) (dg hd_Tx_work 79 rfl) rfl (by decide) (by decide) (fun _ => rfl) (fun y43 => ?_)
            refine ux_goto 6 (dg hd_Tx_work 80 rfl) (by decide) ?_
            refine ux_wk [(0, .ref o), (1, .int x1), (2, .int x2), (3, .int x3), (4, .int x4), (5, .int y43)] [2, 3, 4, 5, 6, 0] rfl ?_
            exact ih x1 x2 x3 x4 y43 σ42
          · refine ux_iconst (0 : Int32) (dg hd_Tx_work 33 rfl) (by decide) ?_
            refine ux_iast (txA2 ho) (dg hd_Tx_work 34 rfl) ?_
            refine ux_nas (fun σ40 => ?_)
            refine ux_goto 148 (dg hd_Tx_work 35 rfl) (by decide) ?_
            refine ux_iincN (1 : Int32) (fun y41 => [(5, .int y41), (6, .int y1), (0, .ref o), (1, .int x1), (2, .int x2), (3, .int x3), (4, .int x4)]) (dg hd_Tx_work 79 rfl) rfl (by decide) (by decide) (fun _ => rfl) (fun y41 => ?_)
            refine ux_goto 6 (dg hd_Tx_work 80 rfl) (by decide) ?_
            refine ux_wk [(0, .ref o), (1, .int x1), (2, .int x2), (3, .int x3), (4, .int x4), (5, .int y41)] [2, 3, 4, 5, 6, 0] rfl ?_
            exact ih x1 x2 x3 x4 y41 σ40
      · refine ux_iload (dg hd_Tx_work 36 rfl) rfl ?_
        refine ux_bipush (-3 : Int32) (dg hd_Tx_work 37 rfl) (by decide) ?_
        refine ux_icmp_ge 116 (dg hd_Tx_work 38 rfl) (by decide) (fun _ => ?_) (fun _ => ?_)
        · refine ux_iload (dg hd_Tx_work 63 rfl) rfl ?_
          refine ux_bipush (-3 : Int32) (dg hd_Tx_work 64 rfl) (by decide) ?_
          refine ux_icmp_lt 148 (dg hd_Tx_work 65 rfl) (by decide) (fun _ => ?_) (fun _ => ?_)
          · refine ux_iincN (1 : Int32) (fun y2 => [(5, .int y2), (6, .int y1), (0, .ref o), (1, .int x1), (2, .int x2), (3, .int x3), (4, .int x4)]) (dg hd_Tx_work 79 rfl) rfl (by decide) (by decide) (fun _ => rfl) (fun y2 => ?_)
            refine ux_goto 6 (dg hd_Tx_work 80 rfl) (by decide) ?_
            refine ux_wk [(0, .ref o), (1, .int x1), (2, .int x2), (3, .int x3), (4, .int x4), (5, .int y2)] [2, 3, 4, 5, 6, 0] rfl ?_
            exact ih x1 x2 x3 x4 y2 σ
          · refine ux_iload (dg hd_Tx_work 66 rfl) rfl ?_
            refine ux_bipush (60 : Int32) (dg hd_Tx_work 67 rfl) (by decide) ?_
            refine ux_icmp_ge 148 (dg hd_Tx_work 68 rfl) (by decide) (fun _ => ?_) (fun _ => ?_)
            · refine ux_iincN (1 : Int32) (fun y3 => [(5, .int y3), (6, .int y1), (0, .ref o), (1, .int x1), (2, .int x2), (3, .int x3), (4, .int x4)]) (dg hd_Tx_work 79 rfl) rfl (by decide) (by decide) (fun _ => rfl) (fun y3 => ?_)
              refine ux_goto 6 (dg hd_Tx_work 80 rfl) (by decide) ?_
              refine ux_wk [(0, .ref o), (1, .int x1), (2, .int x2), (3, .int x3), (4, .int x4), (5, .int y3)] [2, 3, 4, 5, 6, 0] rfl ?_
              exact ih x1 x2 x3 x4 y3 σ
            · refine ux_aload_n (dg hd_Tx_work 69 rfl) rfl ?_
              refine ux_getr (q := (o + 2)) fcX4 2 (by decide) wk_109 (txO ho) rfl (dg hd_Tx_work 70 rfl) ?_
              refine ux_iload (dg hd_Tx_work 71 rfl) rfl ?_
              refine ux_iload (dg hd_Tx_work 72 rfl) rfl ?_
              refine ux_iload_n (dg hd_Tx_work 73 rfl) rfl ?_
              refine ux_iload_n (dg hd_Tx_work 74 rfl) rfl ?_
              refine ux_iload_n (dg hd_Tx_work 75 rfl) rfl ?_
              refine ux_callSi (As := [.int y1, .int x1, .int x2, .int x3]) (sp_Tx_meaning l y1 x1 x2 x3 _) (by omega) cs_Tx_meaning wk_387 rfl rfl (Nat.le_of_ble_eq_true rfl) (dg hd_Tx_work 76 rfl) (fun r4 σ5 _ => ?_)
              refine ux_iast (txA2 ho) (dg hd_Tx_work 77 rfl) ?_
              refine ux_nas (fun σ6 => ?_)
              refine ux_iincN (1 : Int32) (fun y7 => [(4, .int y7), (6, .int y1), (0, .ref o), (1, .int x1), (2, .int x2), (3, .int x3), (5, .int x5)]) (dg hd_Tx_work 78 rfl) rfl (by decide) (by decide) (fun _ => rfl) (fun y7 => ?_)
              refine ux_iincN (1 : Int32) (fun y8 => [(5, .int y8), (4, .int y7), (6, .int y1), (0, .ref o), (1, .int x1), (2, .int x2), (3, .int x3)]) (dg hd_Tx_work 79 rfl) rfl (by decide) (by decide) (fun _ => rfl) (fun y8 => ?_)
              refine ux_goto 6 (dg hd_Tx_work 80 rfl) (by decide) ?_
              refine ux_wk [(0, .ref o), (1, .int x1), (2, .int x2), (3, .int x3), (4, .int y7), (5, .int y8)] [3, 4, 5, 6, 1, 0] rfl ?_
              exact ih x1 x2 x3 y7 y8 σ6
        · refine ux_iload (dg hd_Tx_work 39 rfl) rfl ?_
          refine ux_iconst (2 : Int32) (dg hd_Tx_work 40 rfl) (by decide) ?_
          refine ux_icmp_lt 116 (dg hd_Tx_work 41 rfl) (by decide) (fun _ => ?_) (fun _ => ?_)
          · refine ux_iload (dg hd_Tx_work 63 rfl) rfl ?_
            refine ux_bipush (-3 : Int32) (dg hd_Tx_work 64 rfl) (by decide) ?_
            refine ux_icmp_lt 148 (dg hd_Tx_work 65 rfl) (by decide) (fun _ => ?_) (fun _ => ?_)
            · refine ux_iincN (1 : Int32) (fun y9 => [(5, .int y9), (6, .int y1), (0, .ref o), (1, .int x1), (2, .int x2), (3, .int x3), (4, .int x4)]) (dg hd_Tx_work 79 rfl) rfl (by decide) (by decide) (fun _ => rfl) (fun y9 => ?_)
              refine ux_goto 6 (dg hd_Tx_work 80 rfl) (by decide) ?_
              refine ux_wk [(0, .ref o), (1, .int x1), (2, .int x2), (3, .int x3), (4, .int x4), (5, .int y9)] [2, 3, 4, 5, 6, 0] rfl ?_
              exact ih x1 x2 x3 x4 y9 σ
            · refine ux_iload (dg hd_Tx_work 66 rfl) rfl ?_
              refine ux_bipush (60 : Int32) (dg hd_Tx_work 67 rfl) (by decide) ?_
              refine ux_icmp_ge 148 (dg hd_Tx_work 68 rfl) (by decide) (fun _ => ?_) (fun _ => ?_)
              · refine ux_iincN (1 : Int32) (fun y10 => [(5, .int y10), (6, .int y1), (0, .ref o), (1, .int x1), (2, .int x2), (3, .int x3), (4, .int x4)]) (dg hd_Tx_work 79 rfl) rfl (by decide) (by decide) (fun _ => rfl) (fun y10 => ?_)
                refine ux_goto 6 (dg hd_Tx_work 80 rfl) (by decide) ?_
                refine ux_wk [(0, .ref o), (1, .int x1), (2, .int x2), (3, .int x3), (4, .int x4), (5, .int y10)] [2, 3, 4, 5, 6, 0] rfl ?_
                exact ih x1 x2 x3 x4 y10 σ
              · refine ux_aload_n (dg hd_Tx_work 69 rfl) rfl ?_
                refine ux_getr (q := (o + 2)) fcX4 2 (by decide) wk_109 (txO ho) rfl (dg hd_Tx_work 70 rfl) ?_
                refine ux_iload (dg hd_Tx_work 71 rfl) rfl ?_
                refine ux_iload (dg hd_Tx_work 72 rfl) rfl ?_
                refine ux_iload_n (dg hd_Tx_work 73 rfl) rfl ?_
                refine ux_iload_n (dg hd_Tx_work 74 rfl) rfl ?_
                refine ux_iload_n (dg hd_Tx_work 75 rfl) rfl ?_
                refine ux_callSi (As := [.int y1, .int x1, .int x2, .int x3]) (sp_Tx_meaning l y1 x1 x2 x3 _) (by omega) cs_Tx_meaning wk_387 rfl rfl (Nat.le_of_ble_eq_true rfl) (dg hd_Tx_work 76 rfl) (fun r11 σ12 _ => ?_)
                refine ux_iast (txA2 ho) (dg hd_Tx_work 77 rfl) ?_
                refine ux_nas (fun σ13 => ?_)
                refine ux_iincN (1 : Int32) (fun y14 => [(4, .int y14), (6, .int y1), (0, .ref o), (1, .int x1), (2, .int x2), (3, .int x3), (5, .int x5)]) (dg hd_Tx_work 78 rfl) rfl (by decide) (by decide) (fun _ => rfl) (fun y14 => ?_)
                refine ux_iincN (1 : Int32) (fun y15 => [(5, .int y15), (4, .int y14), (6, .int y1), (0, .ref o), (1, .int x1), (2, .int x2), (3, .int x3)]) (dg hd_Tx_work 79 rfl) rfl (by decide) (by decide) (fun _ => rfl) (fun y15 => ?_)
                refine ux_goto 6 (dg hd_Tx_work 80 rfl) (by decide) ?_
                refine ux_wk [(0, .ref o), (1, .int x1), (2, .int x2), (3, .int x3), (4, .int y14), (5, .int y15)] [3, 4, 5, 6, 1, 0] rfl ?_
                exact ih x1 x2 x3 y14 y15 σ13
          · refine ux_iincN (-1 : Int32) (fun y16 => [(4, .int y16), (6, .int y1), (0, .ref o), (1, .int x1), (2, .int x2), (3, .int x3), (5, .int x5)]) (dg hd_Tx_work 42 rfl) rfl (by decide) (by decide) (fun _ => rfl) (fun y16 => ?_)
            refine ux_aload_n (dg hd_Tx_work 43 rfl) rfl ?_
            refine ux_getr (q := (o + 2)) fcX4 2 (by decide) wk_109 (txO ho) rfl (dg hd_Tx_work 44 rfl) ?_
            refine ux_iload (dg hd_Tx_work 45 rfl) rfl ?_
            refine ux_iconst (1 : Int32) (dg hd_Tx_work 46 rfl) (by decide) ?_
            refine ux_isub (dg hd_Tx_work 47 rfl) ?_
            refine ux_iload (dg hd_Tx_work 48 rfl) rfl ?_
            refine ux_ineg (dg hd_Tx_work 49 rfl) ?_
            refine ux_aload_n (dg hd_Tx_work 50 rfl) rfl ?_
            refine ux_getr (q := (o + 2)) fcX4 2 (by decide) wk_109 (txO ho) rfl (dg hd_Tx_work 51 rfl) ?_
            refine ux_iload (dg hd_Tx_work 52 rfl) rfl ?_
            refine ux_iconst (1 : Int32) (dg hd_Tx_work 53 rfl) (by decide) ?_
            refine ux_isub (dg hd_Tx_work 54 rfl) ?_
            refine ux_iald (txA2 ho) (dg hd_Tx_work 55 rfl) ?_
            refine ux_aload_n (dg hd_Tx_work 56 rfl) rfl ?_
            refine ux_getr (q := (o + 2)) fcX4 2 (by decide) wk_109 (txO ho) rfl (dg hd_Tx_work 57 rfl) ?_
            refine ux_iload (dg hd_Tx_work 58 rfl) rfl ?_
            refine ux_iald (txA2 ho) (dg hd_Tx_work 59 rfl) ?_
            refine ux_callSi (As := [.int (-y1), .int (σ.2 (o + 2) (y16 - (1 : Int32)).toNatClampNeg), .int (σ.2 (o + 2) y16.toNatClampNeg)]) (sp_Tx_join l (-y1) (σ.2 (o + 2) (y16 - (1 : Int32)).toNatClampNeg) (σ.2 (o + 2) y16.toNatClampNeg) _) (by omega) cs_Tx_join wk_384 rfl rfl (Nat.le_of_ble_eq_true rfl) (dg hd_Tx_work 60 rfl) (fun r17 σ18 _ => ?_)
            refine ux_iast (txA2 ho) (dg hd_Tx_work 61 rfl) ?_
            refine ux_nas (fun σ19 => ?_)
            refine ux_goto 148 (dg hd_Tx_work 62 rfl) (by decide) ?_
            refine ux_iincN (1 : Int32) (fun y20 => [(5, .int y20), (4, .int y16), (6, .int y1), (0, .ref o), (1, .int x1), (2, .int x2), (3, .int x3)]) (dg hd_Tx_work 79 rfl) rfl (by decide) (by decide) (fun _ => rfl) (fun y20 => ?_)
            refine ux_goto 6 (dg hd_Tx_work 80 rfl) (by decide) ?_
            refine ux_wk [(0, .ref o), (1, .int x1), (2, .int x2), (3, .int x3), (4, .int y16), (5, .int y20)] [3, 4, 5, 6, 1, 0] rfl ?_
            exact ih x1 x2 x3 y16 y20 σ19
def Tx_work (o : Nat) (p1 : Int32) (p2 : Int32) (p3 : Int32) (σ : St) : Option (Int32 × St) :=
  Tx_work_L6 1000 o p1 p2 p3 (0 : Int32) (0 : Int32) σ
set_option maxRecDepth 100000 in
theorem sp_Tx_work (l : Launch) {o : Nat} (ho : isTx o) (p1 : Int32) (p2 : Int32) (p3 : Int32) (σ : St) : Spc l shC 3 md_Tx_work [.ref o, .int p1, .int p2, .int p3] σ (Tx_work o p1 p2 p3 σ) := by
  refine Spc_of_Ux [(0, .ref o), (1, .int p1), (2, .int p2), (3, .int p3)] (by decide) rfl (Nat.le_of_ble_eq_true rfl) ?_
  unfold Tx_work
  refine ux_iconst (0 : Int32) (dg hd_Tx_work 0 rfl) (by decide) ?_
  refine ux_istore [(4, .int (0 : Int32)), (0, .ref o), (1, .int p1), (2, .int p2), (3, .int p3)] (dg hd_Tx_work 1 rfl) (by decide) rfl ?_
  refine ux_iconst (0 : Int32) (dg hd_Tx_work 2 rfl) (by decide) ?_
  refine ux_istore [(5, .int (0 : Int32)), (4, .int (0 : Int32)), (0, .ref o), (1, .int p1), (2, .int p2), (3, .int p3)] (dg hd_Tx_work 3 rfl) (by decide) rfl ?_
  refine ux_wk [(0, .ref o), (1, .int p1), (2, .int p2), (3, .int p3), (4, .int (0 : Int32)), (5, .int (0 : Int32))] [2, 3, 4, 5, 1, 0] rfl ?_
  exact wk_Tx_work_L6 l ho 1000 p1 p2 p3 (0 : Int32) (0 : Int32) σ
def Tx_gives (o : Nat) (p1 : Int32) (p2 : Int32) (p3 : Int32) (σ : St) : Option (Int32 × St) :=
  bnd (Tx_isTold o  σ) (fun r1 σ2 =>
  if r1 = (0 : Int32) then (
  some ((imx (0 : Int32) (imn (σ2.1 o 0) p1)), σ2)) else (
  bnd (Tx_work o p1 p2 p3 σ2) (fun r3 σ4 =>
  some ((imx (0 : Int32) (imn (σ4.1 o 0) r3)), σ4))))
set_option maxRecDepth 100000 in
theorem sp_Tx_gives (l : Launch) {o : Nat} (ho : isTx o) (p1 : Int32) (p2 : Int32) (p3 : Int32) (σ : St) : Spc l shC 4 md_Tx_gives [.ref o, .int p1, .int p2, .int p3] σ (Tx_gives o p1 p2 p3 σ) := by
  refine Spc_of_Ux [(0, .ref o), (1, .int p1), (2, .int p2), (3, .int p3)] (by decide) rfl (Nat.le_of_ble_eq_true rfl) ?_
  unfold Tx_gives
  refine ux_aload_n (dg hd_Tx_gives 0 rfl) rfl ?_
  refine ux_callVi (As := []) (sp_Tx_isTold l ho  _) (by omega) cv_Tx_isTold wk_376 rfl rfl (txO ho) rfl rfl (Nat.le_of_ble_eq_true rfl) (dg hd_Tx_gives 1 rfl) (fun r1 σ2 _ => ?_)
  refine ux_if_eq 17 (dg hd_Tx_gives 2 rfl) (by decide) (fun _ => ?_) (fun _ => ?_)
  · refine ux_iload_n (dg hd_Tx_gives 9 rfl) rfl ?_
    refine ux_istore [(4, .int p1), (0, .ref o), (1, .int p1), (2, .int p2), (3, .int p3)] (dg hd_Tx_gives 10 rfl) (by decide) rfl ?_
    refine ux_iconst (0 : Int32) (dg hd_Tx_gives 11 rfl) (by decide) ?_
    refine ux_aload_n (dg hd_Tx_gives 12 rfl) rfl ?_
    refine ux_get fcX4 0 (by decide) wk_107 (txO ho) rfl (dg hd_Tx_gives 13 rfl) ?_
    refine ux_iload (dg hd_Tx_gives 14 rfl) rfl ?_
    refine ux_mmin (by omega) (Nat.le_of_ble_eq_true rfl) wk_390 wk_391 wk_84 wk_392 (dg hd_Tx_gives 15 rfl) ?_
    refine ux_mmax (by omega) (Nat.le_of_ble_eq_true rfl) wk_393 wk_394 wk_84 wk_395 (dg hd_Tx_gives 16 rfl) ?_
    exact ux_iret rfl (dg hd_Tx_gives 17 rfl)
  · refine ux_aload_n (dg hd_Tx_gives 3 rfl) rfl ?_
    refine ux_iload_n (dg hd_Tx_gives 4 rfl) rfl ?_
    refine ux_iload_n (dg hd_Tx_gives 5 rfl) rfl ?_
    refine ux_iload_n (dg hd_Tx_gives 6 rfl) rfl ?_
    refine ux_callVi (As := [.int p1, .int p2, .int p3]) (sp_Tx_work l ho p1 p2 p3 _) (by omega) cv_Tx_work wk_380 rfl rfl (txO ho) rfl rfl (Nat.le_of_ble_eq_true rfl) (dg hd_Tx_gives 7 rfl) (fun r3 σ4 _ => ?_)
    refine ux_goto 18 (dg hd_Tx_gives 8 rfl) (by decide) ?_
    refine ux_istore [(4, .int r3), (0, .ref o), (1, .int p1), (2, .int p2), (3, .int p3)] (dg hd_Tx_gives 10 rfl) (by decide) rfl ?_
    refine ux_iconst (0 : Int32) (dg hd_Tx_gives 11 rfl) (by decide) ?_
    refine ux_aload_n (dg hd_Tx_gives 12 rfl) rfl ?_
    refine ux_get fcX4 0 (by decide) wk_107 (txO ho) rfl (dg hd_Tx_gives 13 rfl) ?_
    refine ux_iload (dg hd_Tx_gives 14 rfl) rfl ?_
    refine ux_mmin (by omega) (Nat.le_of_ble_eq_true rfl) wk_390 wk_391 wk_84 wk_392 (dg hd_Tx_gives 15 rfl) ?_
    refine ux_mmax (by omega) (Nat.le_of_ble_eq_true rfl) wk_393 wk_394 wk_84 wk_395 (dg hd_Tx_gives 16 rfl) ?_
    exact ux_iret rfl (dg hd_Tx_gives 17 rfl)
