def Rp_breathsRight_L2 : Nat → Nat → Nat → Int32 → St → Option (Int32 × St)
  | 0, _, _, _, _ => none
  | n + 1, o, p1, x2, σ =>
    if (σ.1 p1 2) ≤ x2 then (
    some (x2, σ)) else (
    if (σ.1 o 9) ≤ x2 then (
    some (x2, σ)) else (
    grd (inb x2 24) (
    grd (inb x2 6) (
    if (σ.2 (p1 + 1) x2.toNatClampNeg) = (σ.2 (o + 3) x2.toNatClampNeg) then (
    nam (x2 + (1 : Int32)) (fun y1 =>
    Rp_breathsRight_L2 n o p1 y1 σ)) else (
    some (x2, σ))))))
set_option maxRecDepth 100000 in
theorem wk_Rp_breathsRight_L2 (l : Launch) {o : Nat} (ho : isRp o) {p1 : Nat} (hp1 : isRw p1) : ∀ (n : Nat) (x2 : Int32) (σ : St), Ux l shC 2 md_Rp_breathsRight 2 [(0, .ref o), (1, .ref p1), (2, .int x2)] [] σ (Rp_breathsRight_L2 n o p1 x2 σ) := by
  intro n
  induction n with
  | zero => intros; exact ux_none
  | succ n ih =>
    intro x2 σ
    unfold Rp_breathsRight_L2
    refine ux_iload_n (dg hd_Rp_breathsRight 2 rfl) rfl ?_
    refine ux_aload_n (dg hd_Rp_breathsRight 3 rfl) rfl ?_
    refine ux_get fcX2 2 (by decide) wk_240 (rwO hp1) rfl (dg hd_Rp_breathsRight 4 rfl) ?_
    refine ux_icmp_ge 39 (dg hd_Rp_breathsRight 5 rfl) (by decide) (fun _ => ?_) (fun _ => ?_)
    · refine ux_iload_n (dg hd_Rp_breathsRight 21 rfl) rfl ?_
      exact ux_iret rfl (dg hd_Rp_breathsRight 22 rfl)
    · refine ux_iload_n (dg hd_Rp_breathsRight 6 rfl) rfl ?_
      refine ux_aload_n (dg hd_Rp_breathsRight 7 rfl) rfl ?_
      refine ux_get fcX1 9 (by decide) wk_140 (rpO ho) rfl (dg hd_Rp_breathsRight 8 rfl) ?_
      refine ux_icmp_ge 39 (dg hd_Rp_breathsRight 9 rfl) (by decide) (fun _ => ?_) (fun _ => ?_)
      · refine ux_iload_n (dg hd_Rp_breathsRight 21 rfl) rfl ?_
        exact ux_iret rfl (dg hd_Rp_breathsRight 22 rfl)
      · refine ux_aload_n (dg hd_Rp_breathsRight 10 rfl) rfl ?_
        refine ux_getr (q := (p1 + 1)) fcX2 0 (by decide) wk_235 (rwO hp1) rfl (dg hd_Rp_breathsRight 11 rfl) ?_
        refine ux_iload_n (dg hd_Rp_breathsRight 12 rfl) rfl ?_
        refine ux_iald (rwA hp1) (dg hd_Rp_breathsRight 13 rfl) ?_
        refine ux_aload_n (dg hd_Rp_breathsRight 14 rfl) rfl ?_
        refine ux_getr (q := (o + 3)) fcX1 3 (by decide) wk_128 (rpO ho) rfl (dg hd_Rp_breathsRight 15 rfl) ?_
        refine ux_iload_n (dg hd_Rp_breathsRight 16 rfl) rfl ?_
        refine ux_iald (rpA3 ho) (dg hd_Rp_breathsRight 17 rfl) ?_
        refine ux_icmp_ne 39 (dg hd_Rp_breathsRight 18 rfl) (by decide) (fun _ => ?_) (fun _ => ?_)
        · refine ux_iincN (1 : Int32) (fun y1 => [(2, .int y1), (0, .ref o), (1, .ref p1)]) (dg hd_Rp_breathsRight 19 rfl) rfl (by decide) (by decide) (fun _ => rfl) (fun y1 => ?_)
          refine ux_goto 2 (dg hd_Rp_breathsRight 20 rfl) (by decide) ?_
          refine ux_wk [(0, .ref o), (1, .ref p1), (2, .int y1)] [1, 2, 0] rfl ?_
          exact ih y1 σ
        · refine ux_iload_n (dg hd_Rp_breathsRight 21 rfl) rfl ?_
          exact ux_iret rfl (dg hd_Rp_breathsRight 22 rfl)
def Rp_breathsRight (o : Nat) (p1 : Nat) (σ : St) : Option (Int32 × St) :=
  Rp_breathsRight_L2 1000 o p1 (0 : Int32) σ
set_option maxRecDepth 100000 in
theorem sp_Rp_breathsRight (l : Launch) {o : Nat} (ho : isRp o) {p1 : Nat} (hp1 : isRw p1) (σ : St) : Spc l shC 2 md_Rp_breathsRight [.ref o, .ref p1] σ (Rp_breathsRight o p1 σ) := by
  refine Spc_of_Ux [(0, .ref o), (1, .ref p1)] (by decide) rfl (Nat.le_of_ble_eq_true rfl) ?_
  unfold Rp_breathsRight
  refine ux_iconst (0 : Int32) (dg hd_Rp_breathsRight 0 rfl) (by decide) ?_
  refine ux_istore_n [(2, .int (0 : Int32)), (0, .ref o), (1, .ref p1)] (dg hd_Rp_breathsRight 1 rfl) (by decide) rfl ?_
  refine ux_wk [(0, .ref o), (1, .ref p1), (2, .int (0 : Int32))] [1, 2, 0] rfl ?_
  exact wk_Rp_breathsRight_L2 l ho hp1 1000 (0 : Int32) σ
def Rp_costsRight_L2 : Nat → Nat → Nat → Int32 → St → Option (Int32 × St)
  | 0, _, _, _, _ => none
  | n + 1, o, p1, x2, σ =>
    if (σ.1 p1 2) ≤ x2 then (
    some (x2, σ)) else (
    if (σ.1 o 9) ≤ x2 then (
    some (x2, σ)) else (
    grd (inb x2 24) (
    bnd (Rp_costs o x2 σ) (fun r1 σ2 =>
    if (σ.2 (p1 + 1) x2.toNatClampNeg) = r1 then (
    nam (x2 + (1 : Int32)) (fun y3 =>
    Rp_costsRight_L2 n o p1 y3 σ2)) else (
    some (x2, σ2))))))
set_option maxRecDepth 100000 in
theorem wk_Rp_costsRight_L2 (l : Launch) {o : Nat} (ho : isRp o) {p1 : Nat} (hp1 : isRw p1) : ∀ (n : Nat) (x2 : Int32) (σ : St), Ux l shC 6 md_Rp_costsRight 2 [(0, .ref o), (1, .ref p1), (2, .int x2)] [] σ (Rp_costsRight_L2 n o p1 x2 σ) := by
  intro n
  induction n with
  | zero => intros; exact ux_none
  | succ n ih =>
    intro x2 σ
    unfold Rp_costsRight_L2
    refine ux_iload_n (dg hd_Rp_costsRight 2 rfl) rfl ?_
    refine ux_aload_n (dg hd_Rp_costsRight 3 rfl) rfl ?_
    refine ux_get fcX2 2 (by decide) wk_240 (rwO hp1) rfl (dg hd_Rp_costsRight 4 rfl) ?_
    refine ux_icmp_ge 38 (dg hd_Rp_costsRight 5 rfl) (by decide) (fun _ => ?_) (fun _ => ?_)
    · refine ux_iload_n (dg hd_Rp_costsRight 20 rfl) rfl ?_
      exact ux_iret rfl (dg hd_Rp_costsRight 21 rfl)
    · refine ux_iload_n (dg hd_Rp_costsRight 6 rfl) rfl ?_
      refine ux_aload_n (dg hd_Rp_costsRight 7 rfl) rfl ?_
      refine ux_get fcX1 9 (by decide) wk_140 (rpO ho) rfl (dg hd_Rp_costsRight 8 rfl) ?_
      refine ux_icmp_ge 38 (dg hd_Rp_costsRight 9 rfl) (by decide) (fun _ => ?_) (fun _ => ?_)
      · refine ux_iload_n (dg hd_Rp_costsRight 20 rfl) rfl ?_
        exact ux_iret rfl (dg hd_Rp_costsRight 21 rfl)
      · refine ux_aload_n (dg hd_Rp_costsRight 10 rfl) rfl ?_
        refine ux_getr (q := (p1 + 1)) fcX2 0 (by decide) wk_235 (rwO hp1) rfl (dg hd_Rp_costsRight 11 rfl) ?_
        refine ux_iload_n (dg hd_Rp_costsRight 12 rfl) rfl ?_
        refine ux_iald (rwA hp1) (dg hd_Rp_costsRight 13 rfl) ?_
        refine ux_aload_n (dg hd_Rp_costsRight 14 rfl) rfl ?_
        refine ux_iload_n (dg hd_Rp_costsRight 15 rfl) rfl ?_
        refine ux_callVi (As := [.int x2]) (sp_Rp_costs l ho x2 _) (by omega) cv_Rp_costs wk_555 rfl rfl (rpO ho) rfl rfl (Nat.le_of_ble_eq_true rfl) (dg hd_Rp_costsRight 16 rfl) (fun r1 σ2 _ => ?_)
        refine ux_icmp_ne 38 (dg hd_Rp_costsRight 17 rfl) (by decide) (fun _ => ?_) (fun _ => ?_)
        · refine ux_iincN (1 : Int32) (fun y3 => [(2, .int y3), (0, .ref o), (1, .ref p1)]) (dg hd_Rp_costsRight 18 rfl) rfl (by decide) (by decide) (fun _ => rfl) (fun y3 => ?_)
          refine ux_goto 2 (dg hd_Rp_costsRight 19 rfl) (by decide) ?_
          refine ux_wk [(0, .ref o), (1, .ref p1), (2, .int y3)] [1, 2, 0] rfl ?_
          exact ih y3 σ2
        · refine ux_iload_n (dg hd_Rp_costsRight 20 rfl) rfl ?_
          exact ux_iret rfl (dg hd_Rp_costsRight 21 rfl)
def Rp_costsRight (o : Nat) (p1 : Nat) (σ : St) : Option (Int32 × St) :=
  Rp_costsRight_L2 1000 o p1 (0 : Int32) σ
set_option maxRecDepth 100000 in
theorem sp_Rp_costsRight (l : Launch) {o : Nat} (ho : isRp o) {p1 : Nat} (hp1 : isRw p1) (σ : St) : Spc l shC 6 md_Rp_costsRight [.ref o, .ref p1] σ (Rp_costsRight o p1 σ) := by
  refine Spc_of_Ux [(0, .ref o), (1, .ref p1)] (by decide) rfl (Nat.le_of_ble_eq_true rfl) ?_
  unfold Rp_costsRight
  refine ux_iconst (0 : Int32) (dg hd_Rp_costsRight 0 rfl) (by decide) ?_
  refine ux_istore_n [(2, .int (0 : Int32)), (0, .ref o), (1, .ref p1)] (dg hd_Rp_costsRight 1 rfl) (by decide) rfl ?_
  refine ux_wk [(0, .ref o), (1, .ref p1), (2, .int (0 : Int32))] [1, 2, 0] rfl ?_
  exact wk_Rp_costsRight_L2 l ho hp1 1000 (0 : Int32) σ
def Rp_takeBreaths_L2 : Nat → Nat → Nat → Int32 → St → Option (Int32 × St)
  | 0, _, _, _, _ => none
  | n + 1, o, p1, x2, σ =>
    if (σ.1 p1 2) ≤ x2 then (
    some (x2, σ)) else (
    if (σ.1 o 9) ≤ x2 then (
    some (x2, σ)) else (
    grd (inb x2 24) (
    bnd (Mn_isWithin (σ.2 (p1 + 1) x2.toNatClampNeg) (99 : Int32) σ) (fun r1 σ2 =>
    if r1 = (0 : Int32) then (
    some (x2, σ2)) else (
    grd (inb x2 24) (
    grd (inb x2 6) (
    nas (sA σ2 (o + 3) x2.toNatClampNeg (σ2.2 (p1 + 1) x2.toNatClampNeg)) (fun σ3 =>
    nam (x2 + (1 : Int32)) (fun y4 =>
    Rp_takeBreaths_L2 n o p1 y4 σ3)))))))))
set_option maxRecDepth 100000 in
theorem wk_Rp_takeBreaths_L2 (l : Launch) {o : Nat} (ho : isRp o) {p1 : Nat} (hp1 : isRw p1) : ∀ (n : Nat) (x2 : Int32) (σ : St), Ux l shC 3 md_Rp_takeBreaths 2 [(0, .ref o), (1, .ref p1), (2, .int x2)] [] σ (Rp_takeBreaths_L2 n o p1 x2 σ) := by
  intro n
  induction n with
  | zero => intros; exact ux_none
  | succ n ih =>
    intro x2 σ
    unfold Rp_takeBreaths_L2
    refine ux_iload_n (dg hd_Rp_takeBreaths 2 rfl) rfl ?_
    refine ux_aload_n (dg hd_Rp_takeBreaths 3 rfl) rfl ?_
    refine ux_get fcX2 2 (by decide) wk_240 (rwO hp1) rfl (dg hd_Rp_takeBreaths 4 rfl) ?_
    refine ux_icmp_ge 50 (dg hd_Rp_takeBreaths 5 rfl) (by decide) (fun _ => ?_) (fun _ => ?_)
    · refine ux_iload_n (dg hd_Rp_takeBreaths 27 rfl) rfl ?_
      exact ux_iret rfl (dg hd_Rp_takeBreaths 28 rfl)
    · refine ux_iload_n (dg hd_Rp_takeBreaths 6 rfl) rfl ?_
      refine ux_aload_n (dg hd_Rp_takeBreaths 7 rfl) rfl ?_
      refine ux_get fcX1 9 (by decide) wk_140 (rpO ho) rfl (dg hd_Rp_takeBreaths 8 rfl) ?_
      refine ux_icmp_ge 50 (dg hd_Rp_takeBreaths 9 rfl) (by decide) (fun _ => ?_) (fun _ => ?_)
      · refine ux_iload_n (dg hd_Rp_takeBreaths 27 rfl) rfl ?_
        exact ux_iret rfl (dg hd_Rp_takeBreaths 28 rfl)
      · refine ux_aload_n (dg hd_Rp_takeBreaths 10 rfl) rfl ?_
        refine ux_getr (q := (p1 + 1)) fcX2 0 (by decide) wk_235 (rwO hp1) rfl (dg hd_Rp_takeBreaths 11 rfl) ?_
        refine ux_iload_n (dg hd_Rp_takeBreaths 12 rfl) rfl ?_
        refine ux_iald (rwA hp1) (dg hd_Rp_takeBreaths 13 rfl) ?_
        refine ux_bipush (99 : Int32) (dg hd_Rp_takeBreaths 14 rfl) (by decide) ?_
        refine ux_callNi (host := "RopeTreaty") (As := [.int (σ.2 (p1 + 1) x2.toNatClampNeg), .int (99 : Int32)]) (sp_Mn_isWithin l (σ.2 (p1 + 1) x2.toNatClampNeg) (99 : Int32) _) (by omega) cs_Mn_isWithin (by decide +kernel) rfl rfl (Nat.le_of_ble_eq_true rfl) (dg hd_Rp_takeBreaths 15 rfl) (fun r1 σ2 _ => ?_)
        refine ux_if_eq 50 (dg hd_Rp_takeBreaths 16 rfl) (by decide) (fun _ => ?_) (fun _ => ?_)
        · refine ux_iload_n (dg hd_Rp_takeBreaths 27 rfl) rfl ?_
          exact ux_iret rfl (dg hd_Rp_takeBreaths 28 rfl)
        · refine ux_aload_n (dg hd_Rp_takeBreaths 17 rfl) rfl ?_
          refine ux_getr (q := (o + 3)) fcX1 3 (by decide) wk_128 (rpO ho) rfl (dg hd_Rp_takeBreaths 18 rfl) ?_
          refine ux_iload_n (dg hd_Rp_takeBreaths 19 rfl) rfl ?_
          refine ux_aload_n (dg hd_Rp_takeBreaths 20 rfl) rfl ?_
          refine ux_getr (q := (p1 + 1)) fcX2 0 (by decide) wk_235 (rwO hp1) rfl (dg hd_Rp_takeBreaths 21 rfl) ?_
          refine ux_iload_n (dg hd_Rp_takeBreaths 22 rfl) rfl ?_
          refine ux_iald (rwA hp1) (dg hd_Rp_takeBreaths 23 rfl) ?_
          refine ux_iast (rpA3 ho) (dg hd_Rp_takeBreaths 24 rfl) ?_
          refine ux_nas (fun σ3 => ?_)
          refine ux_iincN (1 : Int32) (fun y4 => [(2, .int y4), (0, .ref o), (1, .ref p1)]) (dg hd_Rp_takeBreaths 25 rfl) rfl (by decide) (by decide) (fun _ => rfl) (fun y4 => ?_)
          refine ux_goto 2 (dg hd_Rp_takeBreaths 26 rfl) (by decide) ?_
          refine ux_wk [(0, .ref o), (1, .ref p1), (2, .int y4)] [1, 2, 0] rfl ?_
          exact ih y4 σ3
def Rp_takeBreaths (o : Nat) (p1 : Nat) (σ : St) : Option (Int32 × St) :=
  Rp_takeBreaths_L2 1000 o p1 (0 : Int32) σ
set_option maxRecDepth 100000 in
theorem sp_Rp_takeBreaths (l : Launch) {o : Nat} (ho : isRp o) {p1 : Nat} (hp1 : isRw p1) (σ : St) : Spc l shC 3 md_Rp_takeBreaths [.ref o, .ref p1] σ (Rp_takeBreaths o p1 σ) := by
  refine Spc_of_Ux [(0, .ref o), (1, .ref p1)] (by decide) rfl (Nat.le_of_ble_eq_true rfl) ?_
  unfold Rp_takeBreaths
  refine ux_iconst (0 : Int32) (dg hd_Rp_takeBreaths 0 rfl) (by decide) ?_
  refine ux_istore_n [(2, .int (0 : Int32)), (0, .ref o), (1, .ref p1)] (dg hd_Rp_takeBreaths 1 rfl) (by decide) rfl ?_
  refine ux_wk [(0, .ref o), (1, .ref p1), (2, .int (0 : Int32))] [1, 2, 0] rfl ?_
  exact wk_Rp_takeBreaths_L2 l ho hp1 1000 (0 : Int32) σ
