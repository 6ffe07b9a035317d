def Mo_error (p1 : Int32) (σ : St) : Option (Int32 × St) :=
  nam ((-1000000000 : Int32) - p1) (fun y1 =>
  grd (inb y1 7) (
  grd (inb y1 7) (
  nas (sA σ 4 y1.toNatClampNeg ((σ.2 4 y1.toNatClampNeg) + (1 : Int32))) (fun σ2 =>
  some (p1, σ2)))))
set_option maxRecDepth 100000 in
theorem sp_Mo_error (l : Launch) (p1 : Int32) (σ : St) : Spc l shM 2 md_Mo_error [.ref 0, .int p1] σ (Mo_error p1 σ) := by
  refine Spc_of_Ux [(0, .ref 0), (1, .int p1)] (by decide) rfl (Nat.le_of_ble_eq_true rfl) ?_
  unfold Mo_error
  refine ux_aload_n (dg hd_Mo_error 0 rfl) rfl ?_
  refine ux_getr (q := 4) fcX7 4 (by decide) wk_777 rfl rfl (dg hd_Mo_error 1 rfl) ?_
  refine ux_ldc (-1000000000 : Int32) wk_852 (dg hd_Mo_error 2 rfl) ?_
  refine ux_iload_n (dg hd_Mo_error 3 rfl) rfl ?_
  refine ux_isub (dg hd_Mo_error 4 rfl) ?_
  refine ux_nam (fun y1 => ?_)
  refine ux_dup2 (dg hd_Mo_error 5 rfl) ?_
  refine ux_iald rfl (dg hd_Mo_error 6 rfl) ?_
  refine ux_iconst (1 : Int32) (dg hd_Mo_error 7 rfl) (by decide) ?_
  refine ux_iadd (dg hd_Mo_error 8 rfl) ?_
  refine ux_iast rfl (dg hd_Mo_error 9 rfl) ?_
  refine ux_nas (fun σ2 => ?_)
  refine ux_iload_n (dg hd_Mo_error 10 rfl) rfl ?_
  exact ux_iret rfl (dg hd_Mo_error 11 rfl)
def Mo_in (p1 : Int32) (p2 : Int32) (p3 : Int32) (σ : St) : Option (Int32 × St) :=
  if p1 < p2 then (
  some ((0 : Int32), σ)) else (
  if p3 < p1 then (
  some ((0 : Int32), σ)) else (
  some ((1 : Int32), σ)))
set_option maxRecDepth 100000 in
theorem sp_Mo_in (l : Launch) (p1 : Int32) (p2 : Int32) (p3 : Int32) (σ : St) : Spc l shM 2 md_Mo_in [.int p1, .int p2, .int p3] σ (Mo_in p1 p2 p3 σ) := by
  refine Spc_of_Ux [(0, .int p1), (1, .int p2), (2, .int p3)] (by decide) rfl (Nat.le_of_ble_eq_true rfl) ?_
  unfold Mo_in
  refine ux_iload_n (dg hd_Mo_in 0 rfl) rfl ?_
  refine ux_iload_n (dg hd_Mo_in 1 rfl) rfl ?_
  refine ux_icmp_lt 14 (dg hd_Mo_in 2 rfl) (by decide) (fun _ => ?_) (fun _ => ?_)
  · refine ux_iconst (0 : Int32) (dg hd_Mo_in 8 rfl) (by decide) ?_
    exact ux_zret rfl (dg hd_Mo_in 9 rfl) (isB_n (by decide))
  · refine ux_iload_n (dg hd_Mo_in 3 rfl) rfl ?_
    refine ux_iload_n (dg hd_Mo_in 4 rfl) rfl ?_
    refine ux_icmp_gt 14 (dg hd_Mo_in 5 rfl) (by decide) (fun _ => ?_) (fun _ => ?_)
    · refine ux_iconst (0 : Int32) (dg hd_Mo_in 8 rfl) (by decide) ?_
      exact ux_zret rfl (dg hd_Mo_in 9 rfl) (isB_n (by decide))
    · refine ux_iconst (1 : Int32) (dg hd_Mo_in 6 rfl) (by decide) ?_
      refine ux_goto 15 (dg hd_Mo_in 7 rfl) (by decide) ?_
      exact ux_zret rfl (dg hd_Mo_in 9 rfl) (isB_n (by decide))
def Mo_held (p1 : Int32) (p2 : Int32) (p3 : Int32) (σ : St) : Option (Int32 × St) :=
  if p2 ≤ p1 then (
  if p1 ≤ p3 then (
  some (p1, σ)) else (
  some (p3, σ))) else (
  some (p2, σ))
set_option maxRecDepth 100000 in
theorem sp_Mo_held (l : Launch) (p1 : Int32) (p2 : Int32) (p3 : Int32) (σ : St) : Spc l shM 2 md_Mo_held [.int p1, .int p2, .int p3] σ (Mo_held p1 p2 p3 σ) := by
  refine Spc_of_Ux [(0, .int p1), (1, .int p2), (2, .int p3)] (by decide) rfl (Nat.le_of_ble_eq_true rfl) ?_
  unfold Mo_held
  refine ux_iload_n (dg hd_Mo_held 0 rfl) rfl ?_
  refine ux_iload_n (dg hd_Mo_held 1 rfl) rfl ?_
  refine ux_icmp_ge 9 (dg hd_Mo_held 2 rfl) (by decide) (fun _ => ?_) (fun _ => ?_)
  · refine ux_iload_n (dg hd_Mo_held 5 rfl) rfl ?_
    refine ux_iload_n (dg hd_Mo_held 6 rfl) rfl ?_
    refine ux_icmp_le 18 (dg hd_Mo_held 7 rfl) (by decide) (fun _ => ?_) (fun _ => ?_)
    · refine ux_iload_n (dg hd_Mo_held 10 rfl) rfl ?_
      exact ux_iret rfl (dg hd_Mo_held 11 rfl)
    · refine ux_iload_n (dg hd_Mo_held 8 rfl) rfl ?_
      refine ux_goto 19 (dg hd_Mo_held 9 rfl) (by decide) ?_
      exact ux_iret rfl (dg hd_Mo_held 11 rfl)
  · refine ux_iload_n (dg hd_Mo_held 3 rfl) rfl ?_
    refine ux_goto 19 (dg hd_Mo_held 4 rfl) (by decide) ?_
    exact ux_iret rfl (dg hd_Mo_held 11 rfl)
def Mo_copyAll_L2 : Nat → Nat → Nat → Int32 → St → Option (Int32 × St)
  | 0, _, _, _, _ => none
  | n + 1, p1, p2, x2, σ =>
    if (366 : Int32) ≤ x2 then (
    some (0, σ)) else (
    grd (inb x2 366) (
    grd (inb x2 366) (
    nas (sA σ p2 x2.toNatClampNeg (σ.2 p1 x2.toNatClampNeg)) (fun σ1 =>
    nam (x2 + (1 : Int32)) (fun y2 =>
    Mo_copyAll_L2 n p1 p2 y2 σ1)))))
set_option maxRecDepth 100000 in
theorem wk_Mo_copyAll_L2 (l : Launch) {p1 : Nat} (hp1 : isA366 p1) {p2 : Nat} (hp2 : isA366 p2) : ∀ (n : Nat) (x2 : Int32) (σ : St), Ux l shM 2 md_Mo_copyAll 2 [(0, .ref p1), (1, .ref p2), (2, .int x2)] [] σ (Mo_copyAll_L2 n p1 p2 x2 σ) := by
  intro n
  induction n with
  | zero => intros; exact ux_none
  | succ n ih =>
    intro x2 σ
    unfold Mo_copyAll_L2
    refine ux_iload_n (dg hd_Mo_copyAll 2 rfl) rfl ?_
    refine ux_sipush (366 : Int32) (dg hd_Mo_copyAll 3 rfl) (by decide) ?_
    refine ux_icmp_ge 21 (dg hd_Mo_copyAll 4 rfl) (by decide) (fun _ => ?_) (fun _ => ?_)
    · exact ux_vret rfl (dg hd_Mo_copyAll 13 rfl)
    · refine ux_aload_n (dg hd_Mo_copyAll 5 rfl) rfl ?_
      refine ux_iload_n (dg hd_Mo_copyAll 6 rfl) rfl ?_
      refine ux_aload_n (dg hd_Mo_copyAll 7 rfl) rfl ?_
      refine ux_iload_n (dg hd_Mo_copyAll 8 rfl) rfl ?_
      refine ux_iald hp1 (dg hd_Mo_copyAll 9 rfl) ?_
      refine ux_iast hp2 (dg hd_Mo_copyAll 10 rfl) ?_
      refine ux_nas (fun σ1 => ?_)
      refine ux_iincN (1 : Int32) (fun y2 => [(2, .int y2), (0, .ref p1), (1, .ref p2)]) (dg hd_Mo_copyAll 11 rfl) rfl (by decide) (by decide) (fun _ => rfl) (fun y2 => ?_)
      refine ux_goto 2 (dg hd_Mo_copyAll 12 rfl) (by decide) ?_
      refine ux_wk [(0, .ref p1), (1, .ref p2), (2, .int y2)] [1, 2, 0] rfl ?_
      exact ih y2 σ1
def Mo_copyAll (p1 : Nat) (p2 : Nat) (σ : St) : Option (Int32 × St) :=
  Mo_copyAll_L2 1000 p1 p2 (0 : Int32) σ
set_option maxRecDepth 100000 in
theorem sp_Mo_copyAll (l : Launch) {p1 : Nat} (hp1 : shM[p1]? = some (.inl 366)) {p2 : Nat} (hp2 : shM[p2]? = some (.inl 366)) (σ : St) : Spc l shM 2 md_Mo_copyAll [.ref p1, .ref p2] σ (Mo_copyAll p1 p2 σ) := by
  refine Spc_of_Ux [(0, .ref p1), (1, .ref p2)] (by decide) rfl (Nat.le_of_ble_eq_true rfl) ?_
  unfold Mo_copyAll
  refine ux_iconst (0 : Int32) (dg hd_Mo_copyAll 0 rfl) (by decide) ?_
  refine ux_istore_n [(2, .int (0 : Int32)), (0, .ref p1), (1, .ref p2)] (dg hd_Mo_copyAll 1 rfl) (by decide) rfl ?_
  refine ux_wk [(0, .ref p1), (1, .ref p2), (2, .int (0 : Int32))] [1, 2, 0] rfl ?_
  exact wk_Mo_copyAll_L2 l hp1 hp2 1000 (0 : Int32) σ
def Mo_thinks  (σ : St) : Option (Int32 × St) :=
  bnd (Mo_copyAll 1 3 σ) (fun r1 σ2 =>
  some (0, σ2))
set_option maxRecDepth 100000 in
theorem sp_Mo_thinks (l : Launch) (σ : St) : Spc l shM 3 md_Mo_thinks [.ref 0] σ (Mo_thinks  σ) := by
  refine Spc_of_Ux [(0, .ref 0)] (by decide) rfl (Nat.le_of_ble_eq_true rfl) ?_
  unfold Mo_thinks
  refine ux_aload_n (dg hd_Mo_thinks 0 rfl) rfl ?_
  refine ux_getr (q := 1) fcX7 0 (by decide) wk_773 rfl rfl (dg hd_Mo_thinks 1 rfl) ?_
  refine ux_aload_n (dg hd_Mo_thinks 2 rfl) rfl ?_
  refine ux_getr (q := 3) fcX7 2 (by decide) wk_775 rfl rfl (dg hd_Mo_thinks 3 rfl) ?_
  refine ux_callSv (As := [.ref 1, .ref 3]) (sp_Mo_copyAll l rfl rfl  _) (by omega) cs_Mo_copyAll wk_1075 rfl rfl (Nat.le_of_ble_eq_true rfl) (dg hd_Mo_thinks 4 rfl) (fun r1 σ2 _ => ?_)
  exact ux_vret rfl (dg hd_Mo_thinks 5 rfl)
def Mo_putsBack  (σ : St) : Option (Int32 × St) :=
  bnd (Mo_copyAll 3 1 σ) (fun r1 σ2 =>
  some (0, σ2))
set_option maxRecDepth 100000 in
theorem sp_Mo_putsBack (l : Launch) (σ : St) : Spc l shM 3 md_Mo_putsBack [.ref 0] σ (Mo_putsBack  σ) := by
  refine Spc_of_Ux [(0, .ref 0)] (by decide) rfl (Nat.le_of_ble_eq_true rfl) ?_
  unfold Mo_putsBack
  refine ux_aload_n (dg hd_Mo_putsBack 0 rfl) rfl ?_
  refine ux_getr (q := 3) fcX7 2 (by decide) wk_775 rfl rfl (dg hd_Mo_putsBack 1 rfl) ?_
  refine ux_aload_n (dg hd_Mo_putsBack 2 rfl) rfl ?_
  refine ux_getr (q := 1) fcX7 0 (by decide) wk_773 rfl rfl (dg hd_Mo_putsBack 3 rfl) ?_
  refine ux_callSv (As := [.ref 3, .ref 1]) (sp_Mo_copyAll l rfl rfl  _) (by omega) cs_Mo_copyAll wk_1075 rfl rfl (Nat.le_of_ble_eq_true rfl) (dg hd_Mo_putsBack 4 rfl) (fun r1 σ2 _ => ?_)
  exact ux_vret rfl (dg hd_Mo_putsBack 5 rfl)
def Mo_bits_L4 : Nat → Int32 → Int32 → Int32 → St → Option (Int32 × St)
  | 0, _, _, _, _ => none
  | n + 1, x0, x1, x2, σ =>
    if x2 = (0 : Int32) then (
    some (x1, σ)) else (
    nam (x1 + (1 : Int32)) (fun y1 =>
    nam (x2 &&& (x2 - (1 : Int32))) (fun y2 =>
    Mo_bits_L4 n x0 y1 y2 σ)))
set_option maxRecDepth 100000 in
theorem wk_Mo_bits_L4 (l : Launch) : ∀ (n : Nat) (x0 x1 x2 : Int32) (σ : St), Ux l shM 2 md_Mo_bits 4 [(0, .int x0), (1, .int x1), (2, .int x2)] [] σ (Mo_bits_L4 n x0 x1 x2 σ) := by
  intro n
  induction n with
  | zero => intros; exact ux_none
  | succ n ih =>
    intro x0 x1 x2 σ
    unfold Mo_bits_L4
    refine ux_iload_n (dg hd_Mo_bits 4 rfl) rfl ?_
    refine ux_if_eq 20 (dg hd_Mo_bits 5 rfl) (by decide) (fun _ => ?_) (fun _ => ?_)
    · refine ux_iload_n (dg hd_Mo_bits 14 rfl) rfl ?_
      exact ux_iret rfl (dg hd_Mo_bits 15 rfl)
    · refine ux_iincN (1 : Int32) (fun y1 => [(1, .int y1), (0, .int x0), (2, .int x2)]) (dg hd_Mo_bits 6 rfl) rfl (by decide) (by decide) (fun _ => rfl) (fun y1 => ?_)
      refine ux_iload_n (dg hd_Mo_bits 7 rfl) rfl ?_
      refine ux_iload_n (dg hd_Mo_bits 8 rfl) rfl ?_
      refine ux_iconst (1 : Int32) (dg hd_Mo_bits 9 rfl) (by decide) ?_
      refine ux_isub (dg hd_Mo_bits 10 rfl) ?_
      refine ux_iand (dg hd_Mo_bits 11 rfl) ?_
      refine ux_nam (fun y2 => ?_)
      refine ux_istore_n [(2, .int y2), (1, .int y1), (0, .int x0)] (dg hd_Mo_bits 12 rfl) (by decide) rfl ?_
      refine ux_goto 4 (dg hd_Mo_bits 13 rfl) (by decide) ?_
      refine ux_wk [(0, .int x0), (1, .int y1), (2, .int y2)] [2, 1, 0] rfl ?_
      exact ih x0 y1 y2 σ
def Mo_bits (p1 : Int32) (σ : St) : Option (Int32 × St) :=
  Mo_bits_L4 1000 p1 (0 : Int32) p1 σ
set_option maxRecDepth 100000 in
theorem sp_Mo_bits (l : Launch) (p1 : Int32) (σ : St) : Spc l shM 2 md_Mo_bits [.int p1] σ (Mo_bits p1 σ) := by
  refine Spc_of_Ux [(0, .int p1)] (by decide) rfl (Nat.le_of_ble_eq_true rfl) ?_
  unfold Mo_bits
  refine ux_iconst (0 : Int32) (dg hd_Mo_bits 0 rfl) (by decide) ?_
  refine ux_istore_n [(1, .int (0 : Int32)), (0, .int p1)] (dg hd_Mo_bits 1 rfl) (by decide) rfl ?_
  refine ux_iload_n (dg hd_Mo_bits 2 rfl) rfl ?_
  refine ux_istore_n [(2, .int p1), (1, .int (0 : Int32)), (0, .int p1)] (dg hd_Mo_bits 3 rfl) (by decide) rfl ?_
  refine ux_wk [(0, .int p1), (1, .int (0 : Int32)), (2, .int p1)] [2, 1, 0] rfl ?_
  exact wk_Mo_bits_L4 l 1000 p1 (0 : Int32) p1 σ
def Mo_isJumper (p1 : Int32) (σ : St) : Option (Int32 × St) :=
  grd (inb (2 : Int32) 366) (
  bnd (Mo_in p1 (0 : Int32) ((σ.2 1 (2 : Int32).toNatClampNeg) - (1 : Int32)) σ) (fun r1 σ2 =>
  grd (isB r1) (some (r1, σ2))))
set_option maxRecDepth 100000 in
theorem sp_Mo_isJumper (l : Launch) (p1 : Int32) (σ : St) : Spc l shM 3 md_Mo_isJumper [.ref 0, .int p1] σ (Mo_isJumper p1 σ) := by
  refine Spc_of_Ux [(0, .ref 0), (1, .int p1)] (by decide) rfl (Nat.le_of_ble_eq_true rfl) ?_
  unfold Mo_isJumper
  refine ux_iload_n (dg hd_Mo_isJumper 0 rfl) rfl ?_
  refine ux_iconst (0 : Int32) (dg hd_Mo_isJumper 1 rfl) (by decide) ?_
  refine ux_aload_n (dg hd_Mo_isJumper 2 rfl) rfl ?_
  refine ux_getr (q := 1) fcX7 0 (by decide) wk_773 rfl rfl (dg hd_Mo_isJumper 3 rfl) ?_
  refine ux_iconst (2 : Int32) (dg hd_Mo_isJumper 4 rfl) (by decide) ?_
  refine ux_iald rfl (dg hd_Mo_isJumper 5 rfl) ?_
  refine ux_iconst (1 : Int32) (dg hd_Mo_isJumper 6 rfl) (by decide) ?_
  refine ux_isub (dg hd_Mo_isJumper 7 rfl) ?_
  refine ux_callSi (As := [.int p1, .int (0 : Int32), .int ((σ.2 1 (2 : Int32).toNatClampNeg) - (1 : Int32))]) (sp_Mo_in l p1 (0 : Int32) ((σ.2 1 (2 : Int32).toNatClampNeg) - (1 : Int32)) _) (by omega) cs_Mo_in wk_844 rfl rfl (Nat.le_of_ble_eq_true rfl) (dg hd_Mo_isJumper 8 rfl) (fun r1 σ2 _ => ?_)
  exact ux_zretg rfl (dg hd_Mo_isJumper 9 rfl)
def Mo_isTreaty (p1 : Int32) (σ : St) : Option (Int32 × St) :=
  bnd (Mo_in p1 (0 : Int32) (63 : Int32) σ) (fun r1 σ2 =>
  grd (isB r1) (some (r1, σ2)))
set_option maxRecDepth 100000 in
theorem sp_Mo_isTreaty (l : Launch) (p1 : Int32) (σ : St) : Spc l shM 3 md_Mo_isTreaty [.int p1] σ (Mo_isTreaty p1 σ) := by
  refine Spc_of_Ux [(0, .int p1)] (by decide) rfl (Nat.le_of_ble_eq_true rfl) ?_
  unfold Mo_isTreaty
  refine ux_iload_n (dg hd_Mo_isTreaty 0 rfl) rfl ?_
  refine ux_iconst (0 : Int32) (dg hd_Mo_isTreaty 1 rfl) (by decide) ?_
  refine ux_bipush (63 : Int32) (dg hd_Mo_isTreaty 2 rfl) (by decide) ?_
  refine ux_callSi (As := [.int p1, .int (0 : Int32), .int (63 : Int32)]) (sp_Mo_in l p1 (0 : Int32) (63 : Int32) _) (by omega) cs_Mo_in wk_844 rfl rfl (Nat.le_of_ble_eq_true rfl) (dg hd_Mo_isTreaty 3 rfl) (fun r1 σ2 _ => ?_)
  exact ux_zretg rfl (dg hd_Mo_isTreaty 4 rfl)
def Mo_becomes (p1 : Int32) (p2 : Int32) (σ : St) : Option (Int32 × St) :=
  grd (inb p1 366) (
  nam (σ.2 1 p1.toNatClampNeg) (fun y1 =>
  grd (inb p1 366) (
  nas (sA σ 1 p1.toNatClampNeg p2) (fun σ2 =>
  some (y1, σ2)))))
set_option maxRecDepth 100000 in
theorem sp_Mo_becomes (l : Launch) (p1 : Int32) (p2 : Int32) (σ : St) : Spc l shM 2 md_Mo_becomes [.ref 0, .int p1, .int p2] σ (Mo_becomes p1 p2 σ) := by
  refine Spc_of_Ux [(0, .ref 0), (1, .int p1), (2, .int p2)] (by decide) rfl (Nat.le_of_ble_eq_true rfl) ?_
  unfold Mo_becomes
  refine ux_aload_n (dg hd_Mo_becomes 0 rfl) rfl ?_
  refine ux_getr (q := 1) fcX7 0 (by decide) wk_773 rfl rfl (dg hd_Mo_becomes 1 rfl) ?_
  refine ux_iload_n (dg hd_Mo_becomes 2 rfl) rfl ?_
  refine ux_iald rfl (dg hd_Mo_becomes 3 rfl) ?_
  refine ux_nam (fun y1 => ?_)
  refine ux_istore_n [(3, .int y1), (0, .ref 0), (1, .int p1), (2, .int p2)] (dg hd_Mo_becomes 4 rfl) (by decide) rfl ?_
  refine ux_aload_n (dg hd_Mo_becomes 5 rfl) rfl ?_
  refine ux_getr (q := 1) fcX7 0 (by decide) wk_773 rfl rfl (dg hd_Mo_becomes 6 rfl) ?_
  refine ux_iload_n (dg hd_Mo_becomes 7 rfl) rfl ?_
  refine ux_iload_n (dg hd_Mo_becomes 8 rfl) rfl ?_
  refine ux_iast rfl (dg hd_Mo_becomes 9 rfl) ?_
  refine ux_nas (fun σ2 => ?_)
  refine ux_iload_n (dg hd_Mo_becomes 10 rfl) rfl ?_
  exact ux_iret rfl (dg hd_Mo_becomes 11 rfl)
def Mo_of (p1 : Int32) (p2 : Int32) (σ : St) : Option (Int32 × St) :=
  grd (inb (((10 : Int32) + ((5 : Int32) * p1)) + p2) 366) (
  some ((σ.2 1 (((10 : Int32) + ((5 : Int32) * p1)) + p2).toNatClampNeg), σ))
set_option maxRecDepth 100000 in
theorem sp_Mo_of (l : Launch) (p1 : Int32) (p2 : Int32) (σ : St) : Spc l shM 2 md_Mo_of [.ref 0, .int p1, .int p2] σ (Mo_of p1 p2 σ) := by
  refine Spc_of_Ux [(0, .ref 0), (1, .int p1), (2, .int p2)] (by decide) rfl (Nat.le_of_ble_eq_true rfl) ?_
  unfold Mo_of
  refine ux_aload_n (dg hd_Mo_of 0 rfl) rfl ?_
  refine ux_getr (q := 1) fcX7 0 (by decide) wk_773 rfl rfl (dg hd_Mo_of 1 rfl) ?_
  refine ux_bipush (10 : Int32) (dg hd_Mo_of 2 rfl) (by decide) ?_
  refine ux_iconst (5 : Int32) (dg hd_Mo_of 3 rfl) (by decide) ?_
  refine ux_iload_n (dg hd_Mo_of 4 rfl) rfl ?_
  refine ux_imul (dg hd_Mo_of 5 rfl) ?_
  refine ux_iadd (dg hd_Mo_of 6 rfl) ?_
  refine ux_iload_n (dg hd_Mo_of 7 rfl) rfl ?_
  refine ux_iadd (dg hd_Mo_of 8 rfl) ?_
  refine ux_iald rfl (dg hd_Mo_of 9 rfl) ?_
  exact ux_iret rfl (dg hd_Mo_of 10 rfl)
def Mo_lets (p1 : Int32) (p2 : Int32) (p3 : Int32) (σ : St) : Option (Int32 × St) :=
  grd (inb (((10 : Int32) + ((5 : Int32) * p1)) + p2) 366) (
  nas (sA σ 1 (((10 : Int32) + ((5 : Int32) * p1)) + p2).toNatClampNeg p3) (fun σ1 =>
  some (0, σ1)))
set_option maxRecDepth 100000 in
theorem sp_Mo_lets (l : Launch) (p1 : Int32) (p2 : Int32) (p3 : Int32) (σ : St) : Spc l shM 2 md_Mo_lets [.ref 0, .int p1, .int p2, .int p3] σ (Mo_lets p1 p2 p3 σ) := by
  refine Spc_of_Ux [(0, .ref 0), (1, .int p1), (2, .int p2), (3, .int p3)] (by decide) rfl (Nat.le_of_ble_eq_true rfl) ?_
  unfold Mo_lets
  refine ux_aload_n (dg hd_Mo_lets 0 rfl) rfl ?_
  refine ux_getr (q := 1) fcX7 0 (by decide) wk_773 rfl rfl (dg hd_Mo_lets 1 rfl) ?_
  refine ux_bipush (10 : Int32) (dg hd_Mo_lets 2 rfl) (by decide) ?_
  refine ux_iconst (5 : Int32) (dg hd_Mo_lets 3 rfl) (by decide) ?_
  refine ux_iload_n (dg hd_Mo_lets 4 rfl) rfl ?_
  refine ux_imul (dg hd_Mo_lets 5 rfl) ?_
  refine ux_iadd (dg hd_Mo_lets 6 rfl) ?_
  refine ux_iload_n (dg hd_Mo_lets 7 rfl) rfl ?_
  refine ux_iadd (dg hd_Mo_lets 8 rfl) ?_
  refine ux_iload_n (dg hd_Mo_lets 9 rfl) rfl ?_
  refine ux_iast rfl (dg hd_Mo_lets 10 rfl) ?_
  refine ux_nas (fun σ1 => ?_)
  exact ux_vret rfl (dg hd_Mo_lets 11 rfl)
def Mo_isIn (p1 : Int32) (σ : St) : Option (Int32 × St) :=
  bnd (Mo_of p1 (4 : Int32) σ) (fun r1 σ2 =>
  if r1 = (1 : Int32) then (
  some ((1 : Int32), σ2)) else (
  some ((0 : Int32), σ2)))
set_option maxRecDepth 100000 in
theorem sp_Mo_isIn (l : Launch) (p1 : Int32) (σ : St) : Spc l shM 3 md_Mo_isIn [.ref 0, .int p1] σ (Mo_isIn p1 σ) := by
  refine Spc_of_Ux [(0, .ref 0), (1, .int p1)] (by decide) rfl (Nat.le_of_ble_eq_true rfl) ?_
  unfold Mo_isIn
  refine ux_aload_n (dg hd_Mo_isIn 0 rfl) rfl ?_
  refine ux_iload_n (dg hd_Mo_isIn 1 rfl) rfl ?_
  refine ux_iconst (4 : Int32) (dg hd_Mo_isIn 2 rfl) (by decide) ?_
  refine ux_callVi (As := [.int p1, .int (4 : Int32)]) (sp_Mo_of l p1 (4 : Int32) _) (by omega) cv_Mo_of wk_866 rfl rfl rfl rfl rfl (Nat.le_of_ble_eq_true rfl) (dg hd_Mo_isIn 3 rfl) (fun r1 σ2 _ => ?_)
  refine ux_iconst (1 : Int32) (dg hd_Mo_isIn 4 rfl) (by decide) ?_
  refine ux_icmp_ne 14 (dg hd_Mo_isIn 5 rfl) (by decide) (fun _ => ?_) (fun _ => ?_)
  · refine ux_iconst (1 : Int32) (dg hd_Mo_isIn 6 rfl) (by decide) ?_
    refine ux_goto 15 (dg hd_Mo_isIn 7 rfl) (by decide) ?_
    exact ux_zret rfl (dg hd_Mo_isIn 9 rfl) (isB_n (by decide))
  · refine ux_iconst (0 : Int32) (dg hd_Mo_isIn 8 rfl) (by decide) ?_
    exact ux_zret rfl (dg hd_Mo_isIn 9 rfl) (isB_n (by decide))
def Mo_allIn_L4 : Nat → Int32 → Int32 → St → Option (Int32 × St)
  | 0, _, _, _ => none
  | n + 1, x1, x2, σ =>
    grd (inb (2 : Int32) 366) (
    if (σ.2 1 (2 : Int32).toNatClampNeg) ≤ x2 then (
    some (x1, σ)) else (
    bnd (Mo_isIn x2 σ) (fun r1 σ2 =>
    if r1 = (0 : Int32) then (
    nam (x1 ||| (0 : Int32)) (fun y3 =>
    nam (x2 + (1 : Int32)) (fun y4 =>
    Mo_allIn_L4 n y3 y4 σ2))) else (
    nam (x1 ||| ((1 : Int32) <<< (x2 &&& 31))) (fun y5 =>
    nam (x2 + (1 : Int32)) (fun y6 =>
    Mo_allIn_L4 n y5 y6 σ2))))))
set_option maxRecDepth 100000 in
theorem wk_Mo_allIn_L4 (l : Launch) : ∀ (n : Nat) (x1 x2 : Int32) (σ : St), Ux l shM 4 md_Mo_allIn 4 [(0, .ref 0), (1, .int x1), (2, .int x2)] [] σ (Mo_allIn_L4 n x1 x2 σ) := by
  intro n
  induction n with
  | zero => intros; exact ux_none
  | succ n ih =>
    intro x1 x2 σ
    unfold Mo_allIn_L4
    refine ux_iload_n (dg hd_Mo_allIn 4 rfl) rfl ?_
    refine ux_aload_n (dg hd_Mo_allIn 5 rfl) rfl ?_
    refine ux_getr (q := 1) fcX7 0 (by decide) wk_773 rfl rfl (dg hd_Mo_allIn 6 rfl) ?_
    refine ux_iconst (2 : Int32) (dg hd_Mo_allIn 7 rfl) (by decide) ?_
    refine ux_iald rfl (dg hd_Mo_allIn 8 rfl) ?_
    refine ux_icmp_ge 38 (dg hd_Mo_allIn 9 rfl) (by decide) (fun _ => ?_) (fun _ => ?_)
    · refine ux_iload_n (dg hd_Mo_allIn 24 rfl) rfl ?_
      exact ux_iret rfl (dg hd_Mo_allIn 25 rfl)
    · refine ux_iload_n (dg hd_Mo_allIn 10 rfl) rfl ?_
      refine ux_aload_n (dg hd_Mo_allIn 11 rfl) rfl ?_
      refine ux_iload_n (dg hd_Mo_allIn 12 rfl) rfl ?_
      refine ux_callVi (As := [.int x2]) (sp_Mo_isIn l x2 _) (by omega) cv_Mo_isIn wk_886 rfl rfl rfl rfl rfl (Nat.le_of_ble_eq_true rfl) (dg hd_Mo_allIn 13 rfl) (fun r1 σ2 _ => ?_)
      refine ux_if_eq 29 (dg hd_Mo_allIn 14 rfl) (by decide) (fun _ => ?_) (fun _ => ?_)
      · refine ux_iconst (0 : Int32) (dg hd_Mo_allIn 19 rfl) (by decide) ?_
        refine ux_ior (dg hd_Mo_allIn 20 rfl) ?_
        refine ux_nam (fun y3 => ?_)
        refine ux_istore_n [(1, .int y3), (0, .ref 0), (2, .int x2)] (dg hd_Mo_allIn 21 rfl) (by decide) rfl ?_
        refine ux_iincN (1 : Int32) (fun y4 => [(2, .int y4), (1, .int y3), (0, .ref 0)]) (dg hd_Mo_allIn 22 rfl) rfl (by decide) (by decide) (fun _ => rfl) (fun y4 => ?_)
        refine ux_goto 4 (dg hd_Mo_allIn 23 rfl) (by decide) ?_
        refine ux_wk [(0, .ref 0), (1, .int y3), (2, .int y4)] [2, 1, 0] rfl ?_
        exact ih y3 y4 σ2
      · refine ux_iconst (1 : Int32) (dg hd_Mo_allIn 15 rfl) (by decide) ?_
        refine ux_iload_n (dg hd_Mo_allIn 16 rfl) rfl ?_
        refine ux_ishl (dg hd_Mo_allIn 17 rfl) ?_
        refine ux_goto 30 (dg hd_Mo_allIn 18 rfl) (by decide) ?_
        refine ux_ior (dg hd_Mo_allIn 20 rfl) ?_
        refine ux_nam (fun y5 => ?_)
        refine ux_istore_n [(1, .int y5), (0, .ref 0), (2, .int x2)] (dg hd_Mo_allIn 21 rfl) (by decide) rfl ?_
        refine ux_iincN (1 : Int32) (fun y6 => [(2, .int y6), (1, .int y5), (0, .ref 0)]) (dg hd_Mo_allIn 22 rfl) rfl (by decide) (by decide) (fun _ => rfl) (fun y6 => ?_)
        refine ux_goto 4 (dg hd_Mo_allIn 23 rfl) (by decide) ?_
        refine ux_wk [(0, .ref 0), (1, .int y5), (2, .int y6)] [2, 1, 0] rfl ?_
        exact ih y5 y6 σ2
def Mo_allIn  (σ : St) : Option (Int32 × St) :=
  Mo_allIn_L4 1000 (0 : Int32) (0 : Int32) σ
set_option maxRecDepth 100000 in
theorem sp_Mo_allIn (l : Launch) (σ : St) : Spc l shM 4 md_Mo_allIn [.ref 0] σ (Mo_allIn  σ) := by
  refine Spc_of_Ux [(0, .ref 0)] (by decide) rfl (Nat.le_of_ble_eq_true rfl) ?_
  unfold Mo_allIn
  refine ux_iconst (0 : Int32) (dg hd_Mo_allIn 0 rfl) (by decide) ?_
  refine ux_istore_n [(1, .int (0 : Int32)), (0, .ref 0)] (dg hd_Mo_allIn 1 rfl) (by decide) rfl ?_
  refine ux_iconst (0 : Int32) (dg hd_Mo_allIn 2 rfl) (by decide) ?_
  refine ux_istore_n [(2, .int (0 : Int32)), (1, .int (0 : Int32)), (0, .ref 0)] (dg hd_Mo_allIn 3 rfl) (by decide) rfl ?_
  refine ux_wk [(0, .ref 0), (1, .int (0 : Int32)), (2, .int (0 : Int32))] [2, 1, 0] rfl ?_
  exact wk_Mo_allIn_L4 l 1000 (0 : Int32) (0 : Int32) σ
def Mo_word  (σ : St) : Option (Int32 × St) :=
  grd (inb (0 : Int32) 366) (
  grd (nz (4 : Int32)) (
  some ((irm (σ.2 1 (0 : Int32).toNatClampNeg) (4 : Int32)), σ)))
set_option maxRecDepth 100000 in
theorem sp_Mo_word (l : Launch) (σ : St) : Spc l shM 2 md_Mo_word [.ref 0] σ (Mo_word  σ) := by
  refine Spc_of_Ux [(0, .ref 0)] (by decide) rfl (Nat.le_of_ble_eq_true rfl) ?_
  unfold Mo_word
  refine ux_aload_n (dg hd_Mo_word 0 rfl) rfl ?_
  refine ux_getr (q := 1) fcX7 0 (by decide) wk_773 rfl rfl (dg hd_Mo_word 1 rfl) ?_
  refine ux_iconst (0 : Int32) (dg hd_Mo_word 2 rfl) (by decide) ?_
  refine ux_iald rfl (dg hd_Mo_word 3 rfl) ?_
  refine ux_iconst (4 : Int32) (dg hd_Mo_word 4 rfl) (by decide) ?_
  refine ux_irem (dg hd_Mo_word 5 rfl) ?_
  exact ux_iret rfl (dg hd_Mo_word 6 rfl)
def Mo_doesTurn  (σ : St) : Option (Int32 × St) :=
  grd (inb (5 : Int32) 366) (
  if (σ.2 1 (5 : Int32).toNatClampNeg) ≤ (0 : Int32) then (
  some ((0 : Int32), σ)) else (
  grd (inb (6 : Int32) 366) (
  if (σ.2 1 (6 : Int32).toNatClampNeg) ≤ (0 : Int32) then (
  some ((0 : Int32), σ)) else (
  some ((1 : Int32), σ)))))
set_option maxRecDepth 100000 in
theorem sp_Mo_doesTurn (l : Launch) (σ : St) : Spc l shM 2 md_Mo_doesTurn [.ref 0] σ (Mo_doesTurn  σ) := by
  refine Spc_of_Ux [(0, .ref 0)] (by decide) rfl (Nat.le_of_ble_eq_true rfl) ?_
  unfold Mo_doesTurn
  refine ux_aload_n (dg hd_Mo_doesTurn 0 rfl) rfl ?_
  refine ux_getr (q := 1) fcX7 0 (by decide) wk_773 rfl rfl (dg hd_Mo_doesTurn 1 rfl) ?_
  refine ux_iconst (5 : Int32) (dg hd_Mo_doesTurn 2 rfl) (by decide) ?_
  refine ux_iald rfl (dg hd_Mo_doesTurn 3 rfl) ?_
  refine ux_if_le 23 (dg hd_Mo_doesTurn 4 rfl) (by decide) (fun _ => ?_) (fun _ => ?_)
  · refine ux_iconst (0 : Int32) (dg hd_Mo_doesTurn 12 rfl) (by decide) ?_
    exact ux_zret rfl (dg hd_Mo_doesTurn 13 rfl) (isB_n (by decide))
  · refine ux_aload_n (dg hd_Mo_doesTurn 5 rfl) rfl ?_
    refine ux_getr (q := 1) fcX7 0 (by decide) wk_773 rfl rfl (dg hd_Mo_doesTurn 6 rfl) ?_
    refine ux_bipush (6 : Int32) (dg hd_Mo_doesTurn 7 rfl) (by decide) ?_
    refine ux_iald rfl (dg hd_Mo_doesTurn 8 rfl) ?_
    refine ux_if_le 23 (dg hd_Mo_doesTurn 9 rfl) (by decide) (fun _ => ?_) (fun _ => ?_)
    · refine ux_iconst (0 : Int32) (dg hd_Mo_doesTurn 12 rfl) (by decide) ?_
      exact ux_zret rfl (dg hd_Mo_doesTurn 13 rfl) (isB_n (by decide))
    · refine ux_iconst (1 : Int32) (dg hd_Mo_doesTurn 10 rfl) (by decide) ?_
      refine ux_goto 24 (dg hd_Mo_doesTurn 11 rfl) (by decide) ?_
      exact ux_zret rfl (dg hd_Mo_doesTurn 13 rfl) (isB_n (by decide))
def Mo_takesOf (p1 : Int32) (σ : St) : Option (Int32 × St) :=
  bnd (Mo_word  σ) (fun r1 σ2 =>
  nam ((1 : Int32) + r1) (fun y3 =>
  bnd (Mo_of p1 (0 : Int32) σ2) (fun r4 σ5 =>
  if r4 = (1 : Int32) then (
  some ((y3 + (1 : Int32)), σ5)) else if r4 = (2 : Int32) then (
  some (y3, σ5)) else if r4 = (3 : Int32) then (
  some ((1 : Int32), σ5)) else if r4 = (4 : Int32) then (
  bnd (Mo_allIn  σ5) (fun r9 σ10 =>
  bnd (Mo_bits r9 σ10) (fun r11 σ12 =>
  some (((y3 + (1 : Int32)) + r11), σ12)))) else if r4 = (5 : Int32) then (
  grd (nz (2 : Int32)) (
  some ((y3 / (2 : Int32)), σ5))) else if r4 = (6 : Int32) then (
  some (((2 : Int32) * y3), σ5)) else (
  some (y3, σ5)))))
set_option maxRecDepth 100000 in
theorem sp_Mo_takesOf (l : Launch) (p1 : Int32) (σ : St) : Spc l shM 5 md_Mo_takesOf [.ref 0, .int p1] σ (Mo_takesOf p1 σ) := by
  refine Spc_of_Ux [(0, .ref 0), (1, .int p1)] (by decide) rfl (Nat.le_of_ble_eq_true rfl) ?_
  unfold Mo_takesOf
  refine ux_iconst (1 : Int32) (dg hd_Mo_takesOf 0 rfl) (by decide) ?_
  refine ux_aload_n (dg hd_Mo_takesOf 1 rfl) rfl ?_
  refine ux_callVi (As := []) (sp_Mo_word l  _) (by omega) cv_Mo_word wk_878 rfl rfl rfl rfl rfl (Nat.le_of_ble_eq_true rfl) (dg hd_Mo_takesOf 2 rfl) (fun r1 σ2 _ => ?_)
  refine ux_iadd (dg hd_Mo_takesOf 3 rfl) ?_
  refine ux_nam (fun y3 => ?_)
  refine ux_istore_n [(2, .int y3), (0, .ref 0), (1, .int p1)] (dg hd_Mo_takesOf 4 rfl) (by decide) rfl ?_
  refine ux_aload_n (dg hd_Mo_takesOf 5 rfl) rfl ?_
  refine ux_iload_n (dg hd_Mo_takesOf 6 rfl) rfl ?_
  refine ux_iconst (0 : Int32) (dg hd_Mo_takesOf 7 rfl) (by decide) ?_
  refine ux_callVi (As := [.int p1, .int (0 : Int32)]) (sp_Mo_of l p1 (0 : Int32) _) (by omega) cv_Mo_of wk_866 rfl rfl rfl rfl rfl (Nat.le_of_ble_eq_true rfl) (dg hd_Mo_takesOf 8 rfl) (fun r4 σ5 _ => ?_)
  refine ux_case (1 : Int32) (fun _ => ?_) (fun c6 => ?_)
  · refine ux_tabIn 52 (dg hd_Mo_takesOf 9 rfl) (by decide) (by decide) rfl (by decide) ?_
    refine ux_iload_n (dg hd_Mo_takesOf 10 rfl) rfl ?_
    refine ux_iconst (1 : Int32) (dg hd_Mo_takesOf 11 rfl) (by decide) ?_
    refine ux_iadd (dg hd_Mo_takesOf 12 rfl) ?_
    exact ux_iret rfl (dg hd_Mo_takesOf 13 rfl)
  refine ux_case (2 : Int32) (fun _ => ?_) (fun c7 => ?_)
  · refine ux_tabIn 78 (dg hd_Mo_takesOf 9 rfl) (by decide) (by decide) rfl (by decide) ?_
    refine ux_iload_n (dg hd_Mo_takesOf 32 rfl) rfl ?_
    exact ux_iret rfl (dg hd_Mo_takesOf 33 rfl)
  refine ux_case (3 : Int32) (fun _ => ?_) (fun c8 => ?_)
  · refine ux_tabIn 56 (dg hd_Mo_takesOf 9 rfl) (by decide) (by decide) rfl (by decide) ?_
    refine ux_iconst (1 : Int32) (dg hd_Mo_takesOf 14 rfl) (by decide) ?_
    exact ux_iret rfl (dg hd_Mo_takesOf 15 rfl)
  refine ux_case (4 : Int32) (fun _ => ?_) (fun c13 => ?_)
  · refine ux_tabIn 58 (dg hd_Mo_takesOf 9 rfl) (by decide) (by decide) rfl (by decide) ?_
    refine ux_iload_n (dg hd_Mo_takesOf 16 rfl) rfl ?_
    refine ux_iconst (1 : Int32) (dg hd_Mo_takesOf 17 rfl) (by decide) ?_
    refine ux_iadd (dg hd_Mo_takesOf 18 rfl) ?_
    refine ux_aload_n (dg hd_Mo_takesOf 19 rfl) rfl ?_
    refine ux_callVi (As := []) (sp_Mo_allIn l  _) (by omega) cv_Mo_allIn wk_882 rfl rfl rfl rfl rfl (Nat.le_of_ble_eq_true rfl) (dg hd_Mo_takesOf 20 rfl) (fun r9 σ10 _ => ?_)
    refine ux_callSi (As := [.int r9]) (sp_Mo_bits l r9 _) (by omega) cs_Mo_bits wk_890 rfl rfl (Nat.le_of_ble_eq_true rfl) (dg hd_Mo_takesOf 21 rfl) (fun r11 σ12 _ => ?_)
    refine ux_iadd (dg hd_Mo_takesOf 22 rfl) ?_
    exact ux_iret rfl (dg hd_Mo_takesOf 23 rfl)
  refine ux_case (5 : Int32) (fun _ => ?_) (fun c14 => ?_)
  · refine ux_tabIn 70 (dg hd_Mo_takesOf 9 rfl) (by decide) (by decide) rfl (by decide) ?_
    refine ux_iload_n (dg hd_Mo_takesOf 24 rfl) rfl ?_
    refine ux_iconst (2 : Int32) (dg hd_Mo_takesOf 25 rfl) (by decide) ?_
    refine ux_idiv (dg hd_Mo_takesOf 26 rfl) ?_
    exact ux_iret rfl (dg hd_Mo_takesOf 27 rfl)
  refine ux_case (6 : Int32) (fun _ => ?_) (fun c15 => ?_)
  · refine ux_tabIn 74 (dg hd_Mo_takesOf 9 rfl) (by decide) (by decide) rfl (by decide) ?_
    refine ux_iconst (2 : Int32) (dg hd_Mo_takesOf 28 rfl) (by decide) ?_
    refine ux_iload_n (dg hd_Mo_takesOf 29 rfl) rfl ?_
    refine ux_imul (dg hd_Mo_takesOf 30 rfl) ?_
    exact ux_iret rfl (dg hd_Mo_takesOf 31 rfl)
  refine ux_tabOut 78 (dg hd_Mo_takesOf 9 rfl) (by have hc6 := lv_neT (a := 1) c6 (by decide); have hc7 := lv_neT (a := 2) c7 (by decide); have hc8 := lv_neT (a := 3) c8 (by decide); have hc13 := lv_neT (a := 4) c13 (by decide); have hc14 := lv_neT (a := 5) c14 (by decide); have hc15 := lv_neT (a := 6) c15 (by decide); omega) (by decide) ?_
  refine ux_iload_n (dg hd_Mo_takesOf 32 rfl) rfl ?_
  exact ux_iret rfl (dg hd_Mo_takesOf 33 rfl)
def Mo_twoOf (p1 : Int32) (p2 : Int32) (p3 : Int32) (σ : St) : Option (Int32 × St) :=
  if p1 = (37 : Int32) then (
  if p3 = (0 : Int32) then (
  some ((0 : Int32), σ)) else (
  grd (nz p3) (
  some ((irm p2 p3), σ)))) else if p1 = (38 : Int32) then (
  if p2 = (0 : Int32) then (
  some ((0 : Int32), σ)) else (
  if p3 = (0 : Int32) then (
  some ((0 : Int32), σ)) else (
  some ((1 : Int32), σ)))) else if p1 = (39 : Int32) then (
  if p2 = (0 : Int32) then (
  if p3 = (0 : Int32) then (
  some ((0 : Int32), σ)) else (
  some ((1 : Int32), σ))) else (
  some ((1 : Int32), σ))) else if p1 = (40 : Int32) then (
  if p2 = (0 : Int32) then (
  if p3 = (0 : Int32) then (
  some ((0 : Int32), σ)) else (
  some ((1 : Int32), σ))) else (
  some ((1 : Int32), σ))) else if p1 = (41 : Int32) then (
  if p2 = (0 : Int32) then (
  if p3 = (0 : Int32) then (
  some ((0 : Int32), σ)) else (
  some ((1 : Int32), σ))) else (
  some ((1 : Int32), σ))) else if p1 = (42 : Int32) then (
  some ((p2 * p3), σ)) else if p1 = (43 : Int32) then (
  some ((p2 + p3), σ)) else if p1 = (44 : Int32) then (
  if p2 = (0 : Int32) then (
  if p3 = (0 : Int32) then (
  some ((0 : Int32), σ)) else (
  some ((1 : Int32), σ))) else (
  some ((1 : Int32), σ))) else if p1 = (45 : Int32) then (
  some ((p2 - p3), σ)) else if p1 = (46 : Int32) then (
  if p2 = (0 : Int32) then (
  if p3 = (0 : Int32) then (
  some ((0 : Int32), σ)) else (
  some ((1 : Int32), σ))) else (
  some ((1 : Int32), σ))) else if p1 = (47 : Int32) then (
  if p3 = (0 : Int32) then (
  some ((0 : Int32), σ)) else (
  grd (nz p3) (
  some ((p2 / p3), σ)))) else if p1 = (48 : Int32) then (
  if p2 = (0 : Int32) then (
  if p3 = (0 : Int32) then (
  some ((0 : Int32), σ)) else (
  some ((1 : Int32), σ))) else (
  some ((1 : Int32), σ))) else if p1 = (49 : Int32) then (
  if p2 = (0 : Int32) then (
  if p3 = (0 : Int32) then (
  some ((0 : Int32), σ)) else (
  some ((1 : Int32), σ))) else (
  some ((1 : Int32), σ))) else if p1 = (50 : Int32) then (
  if p2 = (0 : Int32) then (
  if p3 = (0 : Int32) then (
  some ((0 : Int32), σ)) else (
  some ((1 : Int32), σ))) else (
  some ((1 : Int32), σ))) else if p1 = (51 : Int32) then (
  if p2 = (0 : Int32) then (
  if p3 = (0 : Int32) then (
  some ((0 : Int32), σ)) else (
  some ((1 : Int32), σ))) else (
  some ((1 : Int32), σ))) else if p1 = (52 : Int32) then (
  if p2 = (0 : Int32) then (
  if p3 = (0 : Int32) then (
  some ((0 : Int32), σ)) else (
  some ((1 : Int32), σ))) else (
  some ((1 : Int32), σ))) else if p1 = (53 : Int32) then (
  if p2 = (0 : Int32) then (
  if p3 = (0 : Int32) then (
  some ((0 : Int32), σ)) else (
  some ((1 : Int32), σ))) else (
  some ((1 : Int32), σ))) else if p1 = (54 : Int32) then (
  if p2 = (0 : Int32) then (
  if p3 = (0 : Int32) then (
  some ((0 : Int32), σ)) else (
  some ((1 : Int32), σ))) else (
  some ((1 : Int32), σ))) else if p1 = (55 : Int32) then (
  if p2 = (0 : Int32) then (
  if p3 = (0 : Int32) then (
  some ((0 : Int32), σ)) else (
  some ((1 : Int32), σ))) else (
  some ((1 : Int32), σ))) else if p1 = (56 : Int32) then (
  if p2 = (0 : Int32) then (
  if p3 = (0 : Int32) then (
  some ((0 : Int32), σ)) else (
  some ((1 : Int32), σ))) else (
  some ((1 : Int32), σ))) else if p1 = (57 : Int32) then (
  if p2 = (0 : Int32) then (
  if p3 = (0 : Int32) then (
  some ((0 : Int32), σ)) else (
  some ((1 : Int32), σ))) else (
  some ((1 : Int32), σ))) else if p1 = (58 : Int32) then (
  if p2 = (0 : Int32) then (
  if p3 = (0 : Int32) then (
  some ((0 : Int32), σ)) else (
  some ((1 : Int32), σ))) else (
  some ((1 : Int32), σ))) else if p1 = (59 : Int32) then (
  if p2 = (0 : Int32) then (
  if p3 = (0 : Int32) then (
  some ((0 : Int32), σ)) else (
  some ((1 : Int32), σ))) else (
  some ((1 : Int32), σ))) else if p1 = (60 : Int32) then (
  if p3 ≤ p2 then (
  some ((0 : Int32), σ)) else (
  some ((1 : Int32), σ))) else if p1 = (61 : Int32) then (
  if p2 = p3 then (
  some ((1 : Int32), σ)) else (
  some ((0 : Int32), σ))) else if p1 = (62 : Int32) then (
  if p2 ≤ p3 then (
  some ((0 : Int32), σ)) else (
  some ((1 : Int32), σ))) else (
  if p2 = (0 : Int32) then (
  if p3 = (0 : Int32) then (
  some ((0 : Int32), σ)) else (
  some ((1 : Int32), σ))) else (
  some ((1 : Int32), σ)))
set_option maxRecDepth 100000 in
theorem sp_Mo_twoOf (l : Launch) (p1 : Int32) (p2 : Int32) (p3 : Int32) (σ : St) : Spc l shM 2 md_Mo_twoOf [.int p1, .int p2, .int p3] σ (Mo_twoOf p1 p2 p3 σ) := by
  refine Spc_of_Ux [(0, .int p1), (1, .int p2), (2, .int p3)] (by decide) rfl (Nat.le_of_ble_eq_true rfl) ?_
  unfold Mo_twoOf
  refine ux_iload_n (dg hd_Mo_twoOf 0 rfl) rfl ?_
  refine ux_case (37 : Int32) (fun _ => ?_) (fun c1 => ?_)
  · refine ux_tabIn 144 (dg hd_Mo_twoOf 1 rfl) (by decide) (by decide) rfl (by decide) ?_
    refine ux_iload_n (dg hd_Mo_twoOf 22 rfl) rfl ?_
    refine ux_if_ne 152 (dg hd_Mo_twoOf 23 rfl) (by decide) (fun _ => ?_) (fun _ => ?_)
    · refine ux_iconst (0 : Int32) (dg hd_Mo_twoOf 24 rfl) (by decide) ?_
      refine ux_goto 155 (dg hd_Mo_twoOf 25 rfl) (by decide) ?_
      exact ux_iret rfl (dg hd_Mo_twoOf 29 rfl)
    · refine ux_iload_n (dg hd_Mo_twoOf 26 rfl) rfl ?_
      refine ux_iload_n (dg hd_Mo_twoOf 27 rfl) rfl ?_
      refine ux_irem (dg hd_Mo_twoOf 28 rfl) ?_
      exact ux_iret rfl (dg hd_Mo_twoOf 29 rfl)
  refine ux_case (38 : Int32) (fun _ => ?_) (fun c2 => ?_)
  · refine ux_tabIn 189 (dg hd_Mo_twoOf 1 rfl) (by decide) (by decide) rfl (by decide) ?_
    refine ux_iload_n (dg hd_Mo_twoOf 51 rfl) rfl ?_
    refine ux_if_eq 201 (dg hd_Mo_twoOf 52 rfl) (by decide) (fun _ => ?_) (fun _ => ?_)
    · refine ux_iconst (0 : Int32) (dg hd_Mo_twoOf 57 rfl) (by decide) ?_
      exact ux_iret rfl (dg hd_Mo_twoOf 58 rfl)
    · refine ux_iload_n (dg hd_Mo_twoOf 53 rfl) rfl ?_
      refine ux_if_eq 201 (dg hd_Mo_twoOf 54 rfl) (by decide) (fun _ => ?_) (fun _ => ?_)
      · refine ux_iconst (0 : Int32) (dg hd_Mo_twoOf 57 rfl) (by decide) ?_
        exact ux_iret rfl (dg hd_Mo_twoOf 58 rfl)
      · refine ux_iconst (1 : Int32) (dg hd_Mo_twoOf 55 rfl) (by decide) ?_
        refine ux_goto 202 (dg hd_Mo_twoOf 56 rfl) (by decide) ?_
        exact ux_iret rfl (dg hd_Mo_twoOf 58 rfl)
  refine ux_case (39 : Int32) (fun _ => ?_) (fun c3 => ?_)
  · refine ux_tabIn 203 (dg hd_Mo_twoOf 1 rfl) (by decide) (by decide) rfl (by decide) ?_
    refine ux_iload_n (dg hd_Mo_twoOf 59 rfl) rfl ?_
    refine ux_if_ne 211 (dg hd_Mo_twoOf 60 rfl) (by decide) (fun _ => ?_) (fun _ => ?_)
    · refine ux_iload_n (dg hd_Mo_twoOf 61 rfl) rfl ?_
      refine ux_if_eq 215 (dg hd_Mo_twoOf 62 rfl) (by decide) (fun _ => ?_) (fun _ => ?_)
      · refine ux_iconst (0 : Int32) (dg hd_Mo_twoOf 65 rfl) (by decide) ?_
        exact ux_iret rfl (dg hd_Mo_twoOf 66 rfl)
      · refine ux_iconst (1 : Int32) (dg hd_Mo_twoOf 63 rfl) (by decide) ?_
        refine ux_goto 216 (dg hd_Mo_twoOf 64 rfl) (by decide) ?_
        exact ux_iret rfl (dg hd_Mo_twoOf 66 rfl)
    · refine ux_iconst (1 : Int32) (dg hd_Mo_twoOf 63 rfl) (by decide) ?_
      refine ux_goto 216 (dg hd_Mo_twoOf 64 rfl) (by decide) ?_
      exact ux_iret rfl (dg hd_Mo_twoOf 66 rfl)
  refine ux_case (40 : Int32) (fun _ => ?_) (fun c4 => ?_)
  · refine ux_tabIn 203 (dg hd_Mo_twoOf 1 rfl) (by decide) (by decide) rfl (by decide) ?_
    refine ux_iload_n (dg hd_Mo_twoOf 59 rfl) rfl ?_
    refine ux_if_ne 211 (dg hd_Mo_twoOf 60 rfl) (by decide) (fun _ => ?_) (fun _ => ?_)
    · refine ux_iload_n (dg hd_Mo_twoOf 61 rfl) rfl ?_
      refine ux_if_eq 215 (dg hd_Mo_twoOf 62 rfl) (by decide) (fun _ => ?_) (fun _ => ?_)
      · refine ux_iconst (0 : Int32) (dg hd_Mo_twoOf 65 rfl) (by decide) ?_
        exact ux_iret rfl (dg hd_Mo_twoOf 66 rfl)
      · refine ux_iconst (1 : Int32) (dg hd_Mo_twoOf 63 rfl) (by decide) ?_
        refine ux_goto 216 (dg hd_Mo_twoOf 64 rfl) (by decide) ?_
        exact ux_iret rfl (dg hd_Mo_twoOf 66 rfl)
    · refine ux_iconst (1 : Int32) (dg hd_Mo_twoOf 63 rfl) (by decide) ?_
      refine ux_goto 216 (dg hd_Mo_twoOf 64 rfl) (by decide) ?_
      exact ux_iret rfl (dg hd_Mo_twoOf 66 rfl)
  refine ux_case (41 : Int32) (fun _ => ?_) (fun c5 => ?_)
  · refine ux_tabIn 203 (dg hd_Mo_twoOf 1 rfl) (by decide) (by decide) rfl (by decide) ?_
    refine ux_iload_n (dg hd_Mo_twoOf 59 rfl) rfl ?_
    refine ux_if_ne 211 (dg hd_Mo_twoOf 60 rfl) (by decide) (fun _ => ?_) (fun _ => ?_)
    · refine ux_iload_n (dg hd_Mo_twoOf 61 rfl) rfl ?_
      refine ux_if_eq 215 (dg hd_Mo_twoOf 62 rfl) (by decide) (fun _ => ?_) (fun _ => ?_)
      · refine ux_iconst (0 : Int32) (dg hd_Mo_twoOf 65 rfl) (by decide) ?_
        exact ux_iret rfl (dg hd_Mo_twoOf 66 rfl)
      · refine ux_iconst (1 : Int32) (dg hd_Mo_twoOf 63 rfl) (by decide) ?_
        refine ux_goto 216 (dg hd_Mo_twoOf 64 rfl) (by decide) ?_
        exact ux_iret rfl (dg hd_Mo_twoOf 66 rfl)
    · refine ux_iconst (1 : Int32) (dg hd_Mo_twoOf 63 rfl) (by decide) ?_
      refine ux_goto 216 (dg hd_Mo_twoOf 64 rfl) (by decide) ?_
      exact ux_iret rfl (dg hd_Mo_twoOf 66 rfl)
  refine ux_case (42 : Int32) (fun _ => ?_) (fun c6 => ?_)
  · refine ux_tabIn 128 (dg hd_Mo_twoOf 1 rfl) (by decide) (by decide) rfl (by decide) ?_
    refine ux_iload_n (dg hd_Mo_twoOf 10 rfl) rfl ?_
    refine ux_iload_n (dg hd_Mo_twoOf 11 rfl) rfl ?_
    refine ux_imul (dg hd_Mo_twoOf 12 rfl) ?_
    exact ux_iret rfl (dg hd_Mo_twoOf 13 rfl)
  refine ux_case (43 : Int32) (fun _ => ?_) (fun c7 => ?_)
  · refine ux_tabIn 120 (dg hd_Mo_twoOf 1 rfl) (by decide) (by decide) rfl (by decide) ?_
    refine ux_iload_n (dg hd_Mo_twoOf 2 rfl) rfl ?_
    refine ux_iload_n (dg hd_Mo_twoOf 3 rfl) rfl ?_
    refine ux_iadd (dg hd_Mo_twoOf 4 rfl) ?_
    exact ux_iret rfl (dg hd_Mo_twoOf 5 rfl)
  refine ux_case (44 : Int32) (fun _ => ?_) (fun c8 => ?_)
  · refine ux_tabIn 203 (dg hd_Mo_twoOf 1 rfl) (by decide) (by decide) rfl (by decide) ?_
    refine ux_iload_n (dg hd_Mo_twoOf 59 rfl) rfl ?_
    refine ux_if_ne 211 (dg hd_Mo_twoOf 60 rfl) (by decide) (fun _ => ?_) (fun _ => ?_)
    · refine ux_iload_n (dg hd_Mo_twoOf 61 rfl) rfl ?_
      refine ux_if_eq 215 (dg hd_Mo_twoOf 62 rfl) (by decide) (fun _ => ?_) (fun _ => ?_)
      · refine ux_iconst (0 : Int32) (dg hd_Mo_twoOf 65 rfl) (by decide) ?_
        exact ux_iret rfl (dg hd_Mo_twoOf 66 rfl)
      · refine ux_iconst (1 : Int32) (dg hd_Mo_twoOf 63 rfl) (by decide) ?_
        refine ux_goto 216 (dg hd_Mo_twoOf 64 rfl) (by decide) ?_
        exact ux_iret rfl (dg hd_Mo_twoOf 66 rfl)
    · refine ux_iconst (1 : Int32) (dg hd_Mo_twoOf 63 rfl) (by decide) ?_
      refine ux_goto 216 (dg hd_Mo_twoOf 64 rfl) (by decide) ?_
      exact ux_iret rfl (dg hd_Mo_twoOf 66 rfl)
  refine ux_case (45 : Int32) (fun _ => ?_) (fun c9 => ?_)
  · refine ux_tabIn 124 (dg hd_Mo_twoOf 1 rfl) (by decide) (by decide) rfl (by decide) ?_
    refine ux_iload_n (dg hd_Mo_twoOf 6 rfl) rfl ?_
    refine ux_iload_n (dg hd_Mo_twoOf 7 rfl) rfl ?_
    refine ux_isub (dg hd_Mo_twoOf 8 rfl) ?_
    exact ux_iret rfl (dg hd_Mo_twoOf 9 rfl)
  refine ux_case (46 : Int32) (fun _ => ?_) (fun c10 => ?_)
  · refine ux_tabIn 203 (dg hd_Mo_twoOf 1 rfl) (by decide) (by decide) rfl (by decide) ?_
    refine ux_iload_n (dg hd_Mo_twoOf 59 rfl) rfl ?_
    refine ux_if_ne 211 (dg hd_Mo_twoOf 60 rfl) (by decide) (fun _ => ?_) (fun _ => ?_)
    · refine ux_iload_n (dg hd_Mo_twoOf 61 rfl) rfl ?_
      refine ux_if_eq 215 (dg hd_Mo_twoOf 62 rfl) (by decide) (fun _ => ?_) (fun _ => ?_)
      · refine ux_iconst (0 : Int32) (dg hd_Mo_twoOf 65 rfl) (by decide) ?_
        exact ux_iret rfl (dg hd_Mo_twoOf 66 rfl)
      · refine ux_iconst (1 : Int32) (dg hd_Mo_twoOf 63 rfl) (by decide) ?_
        refine ux_goto 216 (dg hd_Mo_twoOf 64 rfl) (by decide) ?_
        exact ux_iret rfl (dg hd_Mo_twoOf 66 rfl)
    · refine ux_iconst (1 : Int32) (dg hd_Mo_twoOf 63 rfl) (by decide) ?_
      refine ux_goto 216 (dg hd_Mo_twoOf 64 rfl) (by decide) ?_
      exact ux_iret rfl (dg hd_Mo_twoOf 66 rfl)
  refine ux_case (47 : Int32) (fun _ => ?_) (fun c11 => ?_)
  · refine ux_tabIn 132 (dg hd_Mo_twoOf 1 rfl) (by decide) (by decide) rfl (by decide) ?_
    refine ux_iload_n (dg hd_Mo_twoOf 14 rfl) rfl ?_
    refine ux_if_ne 140 (dg hd_Mo_twoOf 15 rfl) (by decide) (fun _ => ?_) (fun _ => ?_)
    · refine ux_iconst (0 : Int32) (dg hd_Mo_twoOf 16 rfl) (by decide) ?_
      refine ux_goto 143 (dg hd_Mo_twoOf 17 rfl) (by decide) ?_
      exact ux_iret rfl (dg hd_Mo_twoOf 21 rfl)
    · refine ux_iload_n (dg hd_Mo_twoOf 18 rfl) rfl ?_
      refine ux_iload_n (dg hd_Mo_twoOf 19 rfl) rfl ?_
      refine ux_idiv (dg hd_Mo_twoOf 20 rfl) ?_
      exact ux_iret rfl (dg hd_Mo_twoOf 21 rfl)
  refine ux_case (48 : Int32) (fun _ => ?_) (fun c12 => ?_)
  · refine ux_tabIn 203 (dg hd_Mo_twoOf 1 rfl) (by decide) (by decide) rfl (by decide) ?_
    refine ux_iload_n (dg hd_Mo_twoOf 59 rfl) rfl ?_
    refine ux_if_ne 211 (dg hd_Mo_twoOf 60 rfl) (by decide) (fun _ => ?_) (fun _ => ?_)
    · refine ux_iload_n (dg hd_Mo_twoOf 61 rfl) rfl ?_
      refine ux_if_eq 215 (dg hd_Mo_twoOf 62 rfl) (by decide) (fun _ => ?_) (fun _ => ?_)
      · refine ux_iconst (0 : Int32) (dg hd_Mo_twoOf 65 rfl) (by decide) ?_
        exact ux_iret rfl (dg hd_Mo_twoOf 66 rfl)
      · refine ux_iconst (1 : Int32) (dg hd_Mo_twoOf 63 rfl) (by decide) ?_
        refine ux_goto 216 (dg hd_Mo_twoOf 64 rfl) (by decide) ?_
        exact ux_iret rfl (dg hd_Mo_twoOf 66 rfl)
    · refine ux_iconst (1 : Int32) (dg hd_Mo_twoOf 63 rfl) (by decide) ?_
      refine ux_goto 216 (dg hd_Mo_twoOf 64 rfl) (by decide) ?_
      exact ux_iret rfl (dg hd_Mo_twoOf 66 rfl)
  refine ux_case (49 : Int32) (fun _ => ?_) (fun c13 => ?_)
  · refine ux_tabIn 203 (dg hd_Mo_twoOf 1 rfl) (by decide) (by decide) rfl (by decide) ?_
    refine ux_iload_n (dg hd_Mo_twoOf 59 rfl) rfl ?_
    refine ux_if_ne 211 (dg hd_Mo_twoOf 60 rfl) (by decide) (fun _ => ?_) (fun _ => ?_)
    · refine ux_iload_n (dg hd_Mo_twoOf 61 rfl) rfl ?_
      refine ux_if_eq 215 (dg hd_Mo_twoOf 62 rfl) (by decide) (fun _ => ?_) (fun _ => ?_)
      · refine ux_iconst (0 : Int32) (dg hd_Mo_twoOf 65 rfl) (by decide) ?_
        exact ux_iret rfl (dg hd_Mo_twoOf 66 rfl)
      · refine ux_iconst (1 : Int32) (dg hd_Mo_twoOf 63 rfl) (by decide) ?_
        refine ux_goto 216 (dg hd_Mo_twoOf 64 rfl) (by decide) ?_
        exact ux_iret rfl (dg hd_Mo_twoOf 66 rfl)
    · refine ux_iconst (1 : Int32) (dg hd_Mo_twoOf 63 rfl) (by decide) ?_
      refine ux_goto 216 (dg hd_Mo_twoOf 64 rfl) (by decide) ?_
      exact ux_iret rfl (dg hd_Mo_twoOf 66 rfl)
  refine ux_case (50 : Int32) (fun _ => ?_) (fun c14 => ?_)
  · refine ux_tabIn 203 (dg hd_Mo_twoOf 1 rfl) (by decide) (by decide) rfl (by decide) ?_
    refine ux_iload_n (dg hd_Mo_twoOf 59 rfl) rfl ?_
    refine ux_if_ne 211 (dg hd_Mo_twoOf 60 rfl) (by decide) (fun _ => ?_) (fun _ => ?_)
    · refine ux_iload_n (dg hd_Mo_twoOf 61 rfl) rfl ?_
      refine ux_if_eq 215 (dg hd_Mo_twoOf 62 rfl) (by decide) (fun _ => ?_) (fun _ => ?_)
      · refine ux_iconst (0 : Int32) (dg hd_Mo_twoOf 65 rfl) (by decide) ?_
        exact ux_iret rfl (dg hd_Mo_twoOf 66 rfl)
      · refine ux_iconst (1 : Int32) (dg hd_Mo_twoOf 63 rfl) (by decide) ?_
        refine ux_goto 216 (dg hd_Mo_twoOf 64 rfl) (by decide) ?_
        exact ux_iret rfl (dg hd_Mo_twoOf 66 rfl)
    · refine ux_iconst (1 : Int32) (dg hd_Mo_twoOf 63 rfl) (by decide) ?_
      refine ux_goto 216 (dg hd_Mo_twoOf 64 rfl) (by decide) ?_
      exact ux_iret rfl (dg hd_Mo_twoOf 66 rfl)
  refine ux_case (51 : Int32) (fun _ => ?_) (fun c15 => ?_)
  · refine ux_tabIn 203 (dg hd_Mo_twoOf 1 rfl) (by decide) (by decide) rfl (by decide) ?_
    refine ux_iload_n (dg hd_Mo_twoOf 59 rfl) rfl ?_
    refine ux_if_ne 211 (dg hd_Mo_twoOf 60 rfl) (by decide) (fun _ => ?_) (fun _ => ?_)
    · refine ux_iload_n (dg hd_Mo_twoOf 61 rfl) rfl ?_
      refine ux_if_eq 215 (dg hd_Mo_twoOf 62 rfl) (by decide) (fun _ => ?_) (fun _ => ?_)
      · refine ux_iconst (0 : Int32) (dg hd_Mo_twoOf 65 rfl) (by decide) ?_
        exact ux_iret rfl (dg hd_Mo_twoOf 66 rfl)
      · refine ux_iconst (1 : Int32) (dg hd_Mo_twoOf 63 rfl) (by decide) ?_
        refine ux_goto 216 (dg hd_Mo_twoOf 64 rfl) (by decide) ?_
        exact ux_iret rfl (dg hd_Mo_twoOf 66 rfl)
    · refine ux_iconst (1 : Int32) (dg hd_Mo_twoOf 63 rfl) (by decide) ?_
      refine ux_goto 216 (dg hd_Mo_twoOf 64 rfl) (by decide) ?_
      exact ux_iret rfl (dg hd_Mo_twoOf 66 rfl)
  refine ux_case (52 : Int32) (fun _ => ?_) (fun c16 => ?_)
  · refine ux_tabIn 203 (dg hd_Mo_twoOf 1 rfl) (by decide) (by decide) rfl (by decide) ?_
    refine ux_iload_n (dg hd_Mo_twoOf 59 rfl) rfl ?_
    refine ux_if_ne 211 (dg hd_Mo_twoOf 60 rfl) (by decide) (fun _ => ?_) (fun _ => ?_)
    · refine ux_iload_n (dg hd_Mo_twoOf 61 rfl) rfl ?_
      refine ux_if_eq 215 (dg hd_Mo_twoOf 62 rfl) (by decide) (fun _ => ?_) (fun _ => ?_)
      · refine ux_iconst (0 : Int32) (dg hd_Mo_twoOf 65 rfl) (by decide) ?_
        exact ux_iret rfl (dg hd_Mo_twoOf 66 rfl)
      · refine ux_iconst (1 : Int32) (dg hd_Mo_twoOf 63 rfl) (by decide) ?_
        refine ux_goto 216 (dg hd_Mo_twoOf 64 rfl) (by decide) ?_
        exact ux_iret rfl (dg hd_Mo_twoOf 66 rfl)
    · refine ux_iconst (1 : Int32) (dg hd_Mo_twoOf 63 rfl) (by decide) ?_
      refine ux_goto 216 (dg hd_Mo_twoOf 64 rfl) (by decide) ?_
      exact ux_iret rfl (dg hd_Mo_twoOf 66 rfl)
  refine ux_case (53 : Int32) (fun _ => ?_) (fun c17 => ?_)
  · refine ux_tabIn 203 (dg hd_Mo_twoOf 1 rfl) (by decide) (by decide) rfl (by decide) ?_
    refine ux_iload_n (dg hd_Mo_twoOf 59 rfl) rfl ?_
    refine ux_if_ne 211 (dg hd_Mo_twoOf 60 rfl) (by decide) (fun _ => ?_) (fun _ => ?_)
    · refine ux_iload_n (dg hd_Mo_twoOf 61 rfl) rfl ?_
      refine ux_if_eq 215 (dg hd_Mo_twoOf 62 rfl) (by decide) (fun _ => ?_) (fun _ => ?_)
      · refine ux_iconst (0 : Int32) (dg hd_Mo_twoOf 65 rfl) (by decide) ?_
        exact ux_iret rfl (dg hd_Mo_twoOf 66 rfl)
      · refine ux_iconst (1 : Int32) (dg hd_Mo_twoOf 63 rfl) (by decide) ?_
        refine ux_goto 216 (dg hd_Mo_twoOf 64 rfl) (by decide) ?_
        exact ux_iret rfl (dg hd_Mo_twoOf 66 rfl)
    · refine ux_iconst (1 : Int32) (dg hd_Mo_twoOf 63 rfl) (by decide) ?_
      refine ux_goto 216 (dg hd_Mo_twoOf 64 rfl) (by decide) ?_
      exact ux_iret rfl (dg hd_Mo_twoOf 66 rfl)
  refine ux_case (54 : Int32) (fun _ => ?_) (fun c18 => ?_)
  · refine ux_tabIn 203 (dg hd_Mo_twoOf 1 rfl) (by decide) (by decide) rfl (by decide) ?_
    refine ux_iload_n (dg hd_Mo_twoOf 59 rfl) rfl ?_
    refine ux_if_ne 211 (dg hd_Mo_twoOf 60 rfl) (by decide) (fun _ => ?_) (fun _ => ?_)
    · refine ux_iload_n (dg hd_Mo_twoOf 61 rfl) rfl ?_
      refine ux_if_eq 215 (dg hd_Mo_twoOf 62 rfl) (by decide) (fun _ => ?_) (fun _ => ?_)
      · refine ux_iconst (0 : Int32) (dg hd_Mo_twoOf 65 rfl) (by decide) ?_
        exact ux_iret rfl (dg hd_Mo_twoOf 66 rfl)
      · refine ux_iconst (1 : Int32) (dg hd_Mo_twoOf 63 rfl) (by decide) ?_
        refine ux_goto 216 (dg hd_Mo_twoOf 64 rfl) (by decide) ?_
        exact ux_iret rfl (dg hd_Mo_twoOf 66 rfl)
    · refine ux_iconst (1 : Int32) (dg hd_Mo_twoOf 63 rfl) (by decide) ?_
      refine ux_goto 216 (dg hd_Mo_twoOf 64 rfl) (by decide) ?_
      exact ux_iret rfl (dg hd_Mo_twoOf 66 rfl)
  refine ux_case (55 : Int32) (fun _ => ?_) (fun c19 => ?_)
  · refine ux_tabIn 203 (dg hd_Mo_twoOf 1 rfl) (by decide) (by decide) rfl (by decide) ?_
    refine ux_iload_n (dg hd_Mo_twoOf 59 rfl) rfl ?_
    refine ux_if_ne 211 (dg hd_Mo_twoOf 60 rfl) (by decide) (fun _ => ?_) (fun _ => ?_)
    · refine ux_iload_n (dg hd_Mo_twoOf 61 rfl) rfl ?_
      refine ux_if_eq 215 (dg hd_Mo_twoOf 62 rfl) (by decide) (fun _ => ?_) (fun _ => ?_)
      · refine ux_iconst (0 : Int32) (dg hd_Mo_twoOf 65 rfl) (by decide) ?_
        exact ux_iret rfl (dg hd_Mo_twoOf 66 rfl)
      · refine ux_iconst (1 : Int32) (dg hd_Mo_twoOf 63 rfl) (by decide) ?_
        refine ux_goto 216 (dg hd_Mo_twoOf 64 rfl) (by decide) ?_
        exact ux_iret rfl (dg hd_Mo_twoOf 66 rfl)
    · refine ux_iconst (1 : Int32) (dg hd_Mo_twoOf 63 rfl) (by decide) ?_
      refine ux_goto 216 (dg hd_Mo_twoOf 64 rfl) (by decide) ?_
      exact ux_iret rfl (dg hd_Mo_twoOf 66 rfl)
  refine ux_case (56 : Int32) (fun _ => ?_) (fun c20 => ?_)
  · refine ux_tabIn 203 (dg hd_Mo_twoOf 1 rfl) (by decide) (by decide) rfl (by decide) ?_
    refine ux_iload_n (dg hd_Mo_twoOf 59 rfl) rfl ?_
    refine ux_if_ne 211 (dg hd_Mo_twoOf 60 rfl) (by decide) (fun _ => ?_) (fun _ => ?_)
    · refine ux_iload_n (dg hd_Mo_twoOf 61 rfl) rfl ?_
      refine ux_if_eq 215 (dg hd_Mo_twoOf 62 rfl) (by decide) (fun _ => ?_) (fun _ => ?_)
      · refine ux_iconst (0 : Int32) (dg hd_Mo_twoOf 65 rfl) (by decide) ?_
        exact ux_iret rfl (dg hd_Mo_twoOf 66 rfl)
      · refine ux_iconst (1 : Int32) (dg hd_Mo_twoOf 63 rfl) (by decide) ?_
        refine ux_goto 216 (dg hd_Mo_twoOf 64 rfl) (by decide) ?_
        exact ux_iret rfl (dg hd_Mo_twoOf 66 rfl)
    · refine ux_iconst (1 : Int32) (dg hd_Mo_twoOf 63 rfl) (by decide) ?_
      refine ux_goto 216 (dg hd_Mo_twoOf 64 rfl) (by decide) ?_
      exact ux_iret rfl (dg hd_Mo_twoOf 66 rfl)
  refine ux_case (57 : Int32) (fun _ => ?_) (fun c21 => ?_)
  · refine ux_tabIn 203 (dg hd_Mo_twoOf 1 rfl) (by decide) (by decide) rfl (by decide) ?_
    refine ux_iload_n (dg hd_Mo_twoOf 59 rfl) rfl ?_
    refine ux_if_ne 211 (dg hd_Mo_twoOf 60 rfl) (by decide) (fun _ => ?_) (fun _ => ?_)
    · refine ux_iload_n (dg hd_Mo_twoOf 61 rfl) rfl ?_
      refine ux_if_eq 215 (dg hd_Mo_twoOf 62 rfl) (by decide) (fun _ => ?_) (fun _ => ?_)
      · refine ux_iconst (0 : Int32) (dg hd_Mo_twoOf 65 rfl) (by decide) ?_
        exact ux_iret rfl (dg hd_Mo_twoOf 66 rfl)
      · refine ux_iconst (1 : Int32) (dg hd_Mo_twoOf 63 rfl) (by decide) ?_
        refine ux_goto 216 (dg hd_Mo_twoOf 64 rfl) (by decide) ?_
        exact ux_iret rfl (dg hd_Mo_twoOf 66 rfl)
    · refine ux_iconst (1 : Int32) (dg hd_Mo_twoOf 63 rfl) (by decide) ?_
      refine ux_goto 216 (dg hd_Mo_twoOf 64 rfl) (by decide) ?_
      exact ux_iret rfl (dg hd_Mo_twoOf 66 rfl)
  refine ux_case (58 : Int32) (fun _ => ?_) (fun c22 => ?_)
  · refine ux_tabIn 203 (dg hd_Mo_twoOf 1 rfl) (by decide) (by decide) rfl (by decide) ?_
    refine ux_iload_n (dg hd_Mo_twoOf 59 rfl) rfl ?_
    refine ux_if_ne 211 (dg hd_Mo_twoOf 60 rfl) (by decide) (fun _ => ?_) (fun _ => ?_)
    · refine ux_iload_n (dg hd_Mo_twoOf 61 rfl) rfl ?_
      refine ux_if_eq 215 (dg hd_Mo_twoOf 62 rfl) (by decide) (fun _ => ?_) (fun _ => ?_)
      · refine ux_iconst (0 : Int32) (dg hd_Mo_twoOf 65 rfl) (by decide) ?_
        exact ux_iret rfl (dg hd_Mo_twoOf 66 rfl)
      · refine ux_iconst (1 : Int32) (dg hd_Mo_twoOf 63 rfl) (by decide) ?_
        refine ux_goto 216 (dg hd_Mo_twoOf 64 rfl) (by decide) ?_
        exact ux_iret rfl (dg hd_Mo_twoOf 66 rfl)
    · refine ux_iconst (1 : Int32) (dg hd_Mo_twoOf 63 rfl) (by decide) ?_
      refine ux_goto 216 (dg hd_Mo_twoOf 64 rfl) (by decide) ?_
      exact ux_iret rfl (dg hd_Mo_twoOf 66 rfl)
  refine ux_case (59 : Int32) (fun _ => ?_) (fun c23 => ?_)
  · refine ux_tabIn 203 (dg hd_Mo_twoOf 1 rfl) (by decide) (by decide) rfl (by decide) ?_
    refine ux_iload_n (dg hd_Mo_twoOf 59 rfl) rfl ?_
    refine ux_if_ne 211 (dg hd_Mo_twoOf 60 rfl) (by decide) (fun _ => ?_) (fun _ => ?_)
    · refine ux_iload_n (dg hd_Mo_twoOf 61 rfl) rfl ?_
      refine ux_if_eq 215 (dg hd_Mo_twoOf 62 rfl) (by decide) (fun _ => ?_) (fun _ => ?_)
      · refine ux_iconst (0 : Int32) (dg hd_Mo_twoOf 65 rfl) (by decide) ?_
        exact ux_iret rfl (dg hd_Mo_twoOf 66 rfl)
      · refine ux_iconst (1 : Int32) (dg hd_Mo_twoOf 63 rfl) (by decide) ?_
        refine ux_goto 216 (dg hd_Mo_twoOf 64 rfl) (by decide) ?_
        exact ux_iret rfl (dg hd_Mo_twoOf 66 rfl)
    · refine ux_iconst (1 : Int32) (dg hd_Mo_twoOf 63 rfl) (by decide) ?_
      refine ux_goto 216 (dg hd_Mo_twoOf 64 rfl) (by decide) ?_
      exact ux_iret rfl (dg hd_Mo_twoOf 66 rfl)
  refine ux_case (60 : Int32) (fun _ => ?_) (fun c24 => ?_)
  · refine ux_tabIn 156 (dg hd_Mo_twoOf 1 rfl) (by decide) (by decide) rfl (by decide) ?_
    refine ux_iload_n (dg hd_Mo_twoOf 30 rfl) rfl ?_
    refine ux_iload_n (dg hd_Mo_twoOf 31 rfl) rfl ?_
    refine ux_icmp_ge 165 (dg hd_Mo_twoOf 32 rfl) (by decide) (fun _ => ?_) (fun _ => ?_)
    · refine ux_iconst (0 : Int32) (dg hd_Mo_twoOf 35 rfl) (by decide) ?_
      exact ux_iret rfl (dg hd_Mo_twoOf 36 rfl)
    · refine ux_iconst (1 : Int32) (dg hd_Mo_twoOf 33 rfl) (by decide) ?_
      refine ux_goto 166 (dg hd_Mo_twoOf 34 rfl) (by decide) ?_
      exact ux_iret rfl (dg hd_Mo_twoOf 36 rfl)
  refine ux_case (61 : Int32) (fun _ => ?_) (fun c25 => ?_)
  · refine ux_tabIn 167 (dg hd_Mo_twoOf 1 rfl) (by decide) (by decide) rfl (by decide) ?_
    refine ux_iload_n (dg hd_Mo_twoOf 37 rfl) rfl ?_
    refine ux_iload_n (dg hd_Mo_twoOf 38 rfl) rfl ?_
    refine ux_icmp_ne 176 (dg hd_Mo_twoOf 39 rfl) (by decide) (fun _ => ?_) (fun _ => ?_)
    · refine ux_iconst (1 : Int32) (dg hd_Mo_twoOf 40 rfl) (by decide) ?_
      refine ux_goto 177 (dg hd_Mo_twoOf 41 rfl) (by decide) ?_
      exact ux_iret rfl (dg hd_Mo_twoOf 43 rfl)
    · refine ux_iconst (0 : Int32) (dg hd_Mo_twoOf 42 rfl) (by decide) ?_
      exact ux_iret rfl (dg hd_Mo_twoOf 43 rfl)
  refine ux_case (62 : Int32) (fun _ => ?_) (fun c26 => ?_)
  · refine ux_tabIn 178 (dg hd_Mo_twoOf 1 rfl) (by decide) (by decide) rfl (by decide) ?_
    refine ux_iload_n (dg hd_Mo_twoOf 44 rfl) rfl ?_
    refine ux_iload_n (dg hd_Mo_twoOf 45 rfl) rfl ?_
    refine ux_icmp_le 187 (dg hd_Mo_twoOf 46 rfl) (by decide) (fun _ => ?_) (fun _ => ?_)
    · refine ux_iconst (0 : Int32) (dg hd_Mo_twoOf 49 rfl) (by decide) ?_
      exact ux_iret rfl (dg hd_Mo_twoOf 50 rfl)
    · refine ux_iconst (1 : Int32) (dg hd_Mo_twoOf 47 rfl) (by decide) ?_
      refine ux_goto 188 (dg hd_Mo_twoOf 48 rfl) (by decide) ?_
      exact ux_iret rfl (dg hd_Mo_twoOf 50 rfl)
  refine ux_tabOut 203 (dg hd_Mo_twoOf 1 rfl) (by have hc1 := lv_neT (a := 37) c1 (by decide); have hc2 := lv_neT (a := 38) c2 (by decide); have hc3 := lv_neT (a := 39) c3 (by decide); have hc4 := lv_neT (a := 40) c4 (by decide); have hc5 := lv_neT (a := 41) c5 (by decide); have hc6 := lv_neT (a := 42) c6 (by decide); have hc7 := lv_neT (a := 43) c7 (by decide); have hc8 := lv_neT (a := 44) c8 (by decide); have hc9 := lv_neT (a := 45) c9 (by decide); have hc10 := lv_neT (a := 46) c10 (by decide); have hc11 := lv_neT (a := 47) c11 (by decide); have hc12 := lv_neT (a := 48) c12 (by decide); have hc13 := lv_neT (a := 49) c13 (by decide); have hc14 := lv_neT (a := 50) c14 (by decide); have hc15 := lv_neT (a := 51) c15 (by decide); have hc16 := lv_neT (a := 52) c16 (by decide); have hc17 := lv_neT (a := 53) c17 (by decide); have hc18 := lv_neT (a := 54) c18 (by decide); have hc19 := lv_neT (a := 55) c19 (by decide); have hc20 := lv_neT (a := 56) c20 (by decide); have hc21 := lv_neT (a := 57) c21 (by decide); have hc22 := lv_neT (a := 58) c22 (by decide); have hc23 := lv_neT (a := 59) c23 (by decide); have hc24 := lv_neT (a := 60) c24 (by decide); have hc25 := lv_neT (a := 61) c25 (by decide); have hc26 := lv_neT (a := 62) c26 (by decide); omega) (by decide) ?_
  refine ux_iload_n (dg hd_Mo_twoOf 59 rfl) rfl ?_
  refine ux_if_ne 211 (dg hd_Mo_twoOf 60 rfl) (by decide) (fun _ => ?_) (fun _ => ?_)
  · refine ux_iload_n (dg hd_Mo_twoOf 61 rfl) rfl ?_
    refine ux_if_eq 215 (dg hd_Mo_twoOf 62 rfl) (by decide) (fun _ => ?_) (fun _ => ?_)
    · refine ux_iconst (0 : Int32) (dg hd_Mo_twoOf 65 rfl) (by decide) ?_
      exact ux_iret rfl (dg hd_Mo_twoOf 66 rfl)
    · refine ux_iconst (1 : Int32) (dg hd_Mo_twoOf 63 rfl) (by decide) ?_
      refine ux_goto 216 (dg hd_Mo_twoOf 64 rfl) (by decide) ?_
      exact ux_iret rfl (dg hd_Mo_twoOf 66 rfl)
  · refine ux_iconst (1 : Int32) (dg hd_Mo_twoOf 63 rfl) (by decide) ?_
    refine ux_goto 216 (dg hd_Mo_twoOf 64 rfl) (by decide) ?_
    exact ux_iret rfl (dg hd_Mo_twoOf 66 rfl)
def Mo_works_L4 : Nat → Int32 → Int32 → Int32 → St → Option (Int32 × St)
  | 0, _, _, _, _ => none
  | n + 1, x1, x2, x3, σ =>
    grd (inb x1 366) (
    if (σ.2 1 x1.toNatClampNeg) ≤ x3 then (
    grd (inb (0 : Int32) 60) (
    some ((σ.2 11 (0 : Int32).toNatClampNeg), σ))) else (
    grd (inb ((x1 + (1 : Int32)) + x3) 366) (
    nam (σ.2 1 ((x1 + (1 : Int32)) + x3).toNatClampNeg) (fun y1 =>
    if y1 = (1 : Int32) then (
    if y1 = (1 : Int32) then (
    grd (inb ((x1 + (61 : Int32)) + x3) 366) (
    grd (inb x2 60) (
    nas (sA σ 11 x2.toNatClampNeg (σ.2 1 ((x1 + (61 : Int32)) + x3).toNatClampNeg)) (fun σ5 =>
    nam (x2 + (1 : Int32)) (fun y6 =>
    nam (x3 + (1 : Int32)) (fun y7 =>
    Mo_works_L4 n x1 y6 y7 σ5)))))) else (
    grd (inb ((x1 + (61 : Int32)) + x3) 366) (
    grd (inb (σ.2 1 ((x1 + (61 : Int32)) + x3).toNatClampNeg) 3) (
    grd (inb x2 60) (
    nas (sA σ 11 x2.toNatClampNeg (σ.2 10 (σ.2 1 ((x1 + (61 : Int32)) + x3).toNatClampNeg).toNatClampNeg)) (fun σ2 =>
    nam (x2 + (1 : Int32)) (fun y3 =>
    nam (x3 + (1 : Int32)) (fun y4 =>
    Mo_works_L4 n x1 y3 y4 σ2)))))))) else (
    if y1 = (2 : Int32) then (
    if y1 = (1 : Int32) then (
    grd (inb ((x1 + (61 : Int32)) + x3) 366) (
    grd (inb x2 60) (
    nas (sA σ 11 x2.toNatClampNeg (σ.2 1 ((x1 + (61 : Int32)) + x3).toNatClampNeg)) (fun σ20 =>
    nam (x2 + (1 : Int32)) (fun y21 =>
    nam (x3 + (1 : Int32)) (fun y22 =>
    Mo_works_L4 n x1 y21 y22 σ20)))))) else (
    grd (inb ((x1 + (61 : Int32)) + x3) 366) (
    grd (inb (σ.2 1 ((x1 + (61 : Int32)) + x3).toNatClampNeg) 3) (
    grd (inb x2 60) (
    nas (sA σ 11 x2.toNatClampNeg (σ.2 10 (σ.2 1 ((x1 + (61 : Int32)) + x3).toNatClampNeg).toNatClampNeg)) (fun σ17 =>
    nam (x2 + (1 : Int32)) (fun y18 =>
    nam (x3 + (1 : Int32)) (fun y19 =>
    Mo_works_L4 n x1 y18 y19 σ17)))))))) else (
    if y1 = (3 : Int32) then (
    grd (inb (x2 - (1 : Int32)) 60) (
    if (σ.2 11 (x2 - (1 : Int32)).toNatClampNeg) = (0 : Int32) then (
    grd (inb (x2 - (1 : Int32)) 60) (
    nas (sA σ 11 (x2 - (1 : Int32)).toNatClampNeg (1 : Int32)) (fun σ15 =>
    nam (x3 + (1 : Int32)) (fun y16 =>
    Mo_works_L4 n x1 x2 y16 σ15)))) else (
    grd (inb (x2 - (1 : Int32)) 60) (
    nas (sA σ 11 (x2 - (1 : Int32)).toNatClampNeg (0 : Int32)) (fun σ13 =>
    nam (x3 + (1 : Int32)) (fun y14 =>
    Mo_works_L4 n x1 x2 y14 σ13)))))) else (
    nam (x2 + (-1 : Int32)) (fun y8 =>
    grd (inb (y8 - (1 : Int32)) 60) (
    grd (inb y8 60) (
    bnd (Mo_twoOf y1 (σ.2 11 (y8 - (1 : Int32)).toNatClampNeg) (σ.2 11 y8.toNatClampNeg) σ) (fun r9 σ10 =>
    grd (inb (y8 - (1 : Int32)) 60) (
    nas (sA σ10 11 (y8 - (1 : Int32)).toNatClampNeg r9) (fun σ11 =>
    nam (x3 + (1 : Int32)) (fun y12 =>
    Mo_works_L4 n x1 y8 y12 σ11))))))))))))))
set_option maxRecDepth 100000 in
theorem wk_Mo_works_L4 (l : Launch) : ∀ (n : Nat) (x1 x2 x3 : Int32) (σ : St), Ux l shM 3 md_Mo_works 4 [(0, .ref 0), (1, .int x1), (2, .int x2), (3, .int x3)] [] σ (Mo_works_L4 n x1 x2 x3 σ) := by
  intro n
  induction n with
  | zero => intros; exact ux_none
  | succ n ih =>
    intro x1 x2 x3 σ
    unfold Mo_works_L4
    refine ux_iload_n (dg hd_Mo_works 4 rfl) rfl ?_
    refine ux_aload_n (dg hd_Mo_works 5 rfl) rfl ?_
    refine ux_getr (q := 1) fcX7 0 (by decide) wk_773 rfl rfl (dg hd_Mo_works 6 rfl) ?_
    refine ux_iload_n (dg hd_Mo_works 7 rfl) rfl ?_
    refine ux_iald rfl (dg hd_Mo_works 8 rfl) ?_
    refine ux_icmp_ge 155 (dg hd_Mo_works 9 rfl) (by decide) (fun _ => ?_) (fun _ => ?_)
    · refine ux_aload_n (dg hd_Mo_works 95 rfl) rfl ?_
      refine ux_getr (q := 11) fcX7 11 (by decide) wk_784 rfl rfl (dg hd_Mo_works 96 rfl) ?_
      refine ux_iconst (0 : Int32) (dg hd_Mo_works 97 rfl) (by decide) ?_
      refine ux_iald rfl (dg hd_Mo_works 98 rfl) ?_
      exact ux_iret rfl (dg hd_Mo_works 99 rfl)
    · refine ux_aload_n (dg hd_Mo_works 10 rfl) rfl ?_
      refine ux_getr (q := 1) fcX7 0 (by decide) wk_773 rfl rfl (dg hd_Mo_works 11 rfl) ?_
      refine ux_iload_n (dg hd_Mo_works 12 rfl) rfl ?_
      refine ux_iconst (1 : Int32) (dg hd_Mo_works 13 rfl) (by decide) ?_
      refine ux_iadd (dg hd_Mo_works 14 rfl) ?_
      refine ux_iload_n (dg hd_Mo_works 15 rfl) rfl ?_
      refine ux_iadd (dg hd_Mo_works 16 rfl) ?_
      refine ux_iald rfl (dg hd_Mo_works 17 rfl) ?_
      refine ux_nam (fun y1 => ?_)
      refine ux_istore [(4, .int y1), (0, .ref 0), (1, .int x1), (2, .int x2), (3, .int x3)] (dg hd_Mo_works 18 rfl) (by decide) rfl ?_
      refine ux_iload (dg hd_Mo_works 19 rfl) rfl ?_
      refine ux_iconst (1 : Int32) (dg hd_Mo_works 20 rfl) (by decide) ?_
      refine ux_icmp_eq 38 (dg hd_Mo_works 21 rfl) (by decide) (fun _ => ?_) (fun _ => ?_)
      · refine ux_aload_n (dg hd_Mo_works 25 rfl) rfl ?_
        refine ux_getr (q := 11) fcX7 11 (by decide) wk_784 rfl rfl (dg hd_Mo_works 26 rfl) ?_
        refine ux_iload_n (dg hd_Mo_works 27 rfl) rfl ?_
        refine ux_iload (dg hd_Mo_works 28 rfl) rfl ?_
        refine ux_iconst (1 : Int32) (dg hd_Mo_works 29 rfl) (by decide) ?_
        refine ux_icmp_ne 63 (dg hd_Mo_works 30 rfl) (by decide) (fun _ => ?_) (fun _ => ?_)
        · refine ux_aload_n (dg hd_Mo_works 31 rfl) rfl ?_
          refine ux_getr (q := 1) fcX7 0 (by decide) wk_773 rfl rfl (dg hd_Mo_works 32 rfl) ?_
          refine ux_iload_n (dg hd_Mo_works 33 rfl) rfl ?_
          refine ux_bipush (61 : Int32) (dg hd_Mo_works 34 rfl) (by decide) ?_
          refine ux_iadd (dg hd_Mo_works 35 rfl) ?_
          refine ux_iload_n (dg hd_Mo_works 36 rfl) rfl ?_
          refine ux_iadd (dg hd_Mo_works 37 rfl) ?_
          refine ux_iald rfl (dg hd_Mo_works 38 rfl) ?_
          refine ux_goto 79 (dg hd_Mo_works 39 rfl) (by decide) ?_
          refine ux_iast rfl (dg hd_Mo_works 51 rfl) ?_
          refine ux_nas (fun σ5 => ?_)
          refine ux_iincN (1 : Int32) (fun y6 => [(2, .int y6), (4, .int y1), (0, .ref 0), (1, .int x1), (3, .int x3)]) (dg hd_Mo_works 52 rfl) rfl (by decide) (by decide) (fun _ => rfl) (fun y6 => ?_)
          refine ux_goto 149 (dg hd_Mo_works 53 rfl) (by decide) ?_
          refine ux_iincN (1 : Int32) (fun y7 => [(3, .int y7), (2, .int y6), (4, .int y1), (0, .ref 0), (1, .int x1)]) (dg hd_Mo_works 93 rfl) rfl (by decide) (by decide) (fun _ => rfl) (fun y7 => ?_)
          refine ux_goto 4 (dg hd_Mo_works 94 rfl) (by decide) ?_
          refine ux_wk [(0, .ref 0), (1, .int x1), (2, .int y6), (3, .int y7)] [3, 4, 1, 0] rfl ?_
          exact ih x1 y6 y7 σ5
        · refine ux_aload_n (dg hd_Mo_works 40 rfl) rfl ?_
          refine ux_getr (q := 10) fcX7 10 (by decide) wk_783 rfl rfl (dg hd_Mo_works 41 rfl) ?_
          refine ux_aload_n (dg hd_Mo_works 42 rfl) rfl ?_
          refine ux_getr (q := 1) fcX7 0 (by decide) wk_773 rfl rfl (dg hd_Mo_works 43 rfl) ?_
          refine ux_iload_n (dg hd_Mo_works 44 rfl) rfl ?_
          refine ux_bipush (61 : Int32) (dg hd_Mo_works 45 rfl) (by decide) ?_
          refine ux_iadd (dg hd_Mo_works 46 rfl) ?_
          refine ux_iload_n (dg hd_Mo_works 47 rfl) rfl ?_
          refine ux_iadd (dg hd_Mo_works 48 rfl) ?_
          refine ux_iald rfl (dg hd_Mo_works 49 rfl) ?_
          refine ux_iald rfl (dg hd_Mo_works 50 rfl) ?_
          refine ux_iast rfl (dg hd_Mo_works 51 rfl) ?_
          refine ux_nas (fun σ2 => ?_)
          refine ux_iincN (1 : Int32) (fun y3 => [(2, .int y3), (4, .int y1), (0, .ref 0), (1, .int x1), (3, .int x3)]) (dg hd_Mo_works 52 rfl) rfl (by decide) (by decide) (fun _ => rfl) (fun y3 => ?_)
          refine ux_goto 149 (dg hd_Mo_works 53 rfl) (by decide) ?_
          refine ux_iincN (1 : Int32) (fun y4 => [(3, .int y4), (2, .int y3), (4, .int y1), (0, .ref 0), (1, .int x1)]) (dg hd_Mo_works 93 rfl) rfl (by decide) (by decide) (fun _ => rfl) (fun y4 => ?_)
          refine ux_goto 4 (dg hd_Mo_works 94 rfl) (by decide) ?_
          refine ux_wk [(0, .ref 0), (1, .int x1), (2, .int y3), (3, .int y4)] [3, 4, 1, 0] rfl ?_
          exact ih x1 y3 y4 σ2
      · refine ux_iload (dg hd_Mo_works 22 rfl) rfl ?_
        refine ux_iconst (2 : Int32) (dg hd_Mo_works 23 rfl) (by decide) ?_
        refine ux_icmp_ne 86 (dg hd_Mo_works 24 rfl) (by decide) (fun _ => ?_) (fun _ => ?_)
        · refine ux_aload_n (dg hd_Mo_works 25 rfl) rfl ?_
          refine ux_getr (q := 11) fcX7 11 (by decide) wk_784 rfl rfl (dg hd_Mo_works 26 rfl) ?_
          refine ux_iload_n (dg hd_Mo_works 27 rfl) rfl ?_
          refine ux_iload (dg hd_Mo_works 28 rfl) rfl ?_
          refine ux_iconst (1 : Int32) (dg hd_Mo_works 29 rfl) (by decide) ?_
          refine ux_icmp_ne 63 (dg hd_Mo_works 30 rfl) (by decide) (fun _ => ?_) (fun _ => ?_)
          · refine ux_aload_n (dg hd_Mo_works 31 rfl) rfl ?_
            refine ux_getr (q := 1) fcX7 0 (by decide) wk_773 rfl rfl (dg hd_Mo_works 32 rfl) ?_
            refine ux_iload_n (dg hd_Mo_works 33 rfl) rfl ?_
            refine ux_bipush (61 : Int32) (dg hd_Mo_works 34 rfl) (by decide) ?_
            refine ux_iadd (dg hd_Mo_works 35 rfl) ?_
            refine ux_iload_n (dg hd_Mo_works 36 rfl) rfl ?_
            refine ux_iadd (dg hd_Mo_works 37 rfl) ?_
            refine ux_iald rfl (dg hd_Mo_works 38 rfl) ?_
            refine ux_goto 79 (dg hd_Mo_works 39 rfl) (by decide) ?_
            refine ux_iast rfl (dg hd_Mo_works 51 rfl) ?_
            refine ux_nas (fun σ20 => ?_)
            refine ux_iincN (1 : Int32) (fun y21 => [(2, .int y21), (4, .int y1), (0, .ref 0), (1, .int x1), (3, .int x3)]) (dg hd_Mo_works 52 rfl) rfl (by decide) (by decide) (fun _ => rfl) (fun y21 => ?_)
            refine ux_goto 149 (dg hd_Mo_works 53 rfl) (by decide) ?_
            refine ux_iincN (1 : Int32) (fun y22 => [(3, .int y22), (2, .int y21), (4, .int y1), (0, .ref 0), (1, .int x1)]) (dg hd_Mo_works 93 rfl) rfl (by decide) (by decide) (fun _ => rfl) (fun y22 => ?_)
            refine ux_goto 4 (dg hd_Mo_works 94 rfl) (by decide) ?_
            refine ux_wk [(0, .ref 0), (1, .int x1), (2, .int y21), (3, .int y22)] [3, 4, 1, 0] rfl ?_
            exact ih x1 y21 y22 σ20
          · refine ux_aload_n (dg hd_Mo_works 40 rfl) rfl ?_
            refine ux_getr (q := 10) fcX7 10 (by decide) wk_783 rfl rfl (dg hd_Mo_works 41 rfl) ?_
            refine ux_aload_n (dg hd_Mo_works 42 rfl) rfl ?_
            refine ux_getr (q := 1) fcX7 0 (by decide) wk_773 rfl rfl (dg hd_Mo_works 43 rfl) ?_
            refine ux_iload_n (dg hd_Mo_works 44 rfl) rfl ?_
            refine ux_bipush (61 : Int32) (dg hd_Mo_works 45 rfl) (by decide) ?_
            refine ux_iadd (dg hd_Mo_works 46 rfl) ?_
            refine ux_iload_n (dg hd_Mo_works 47 rfl) rfl ?_
            refine ux_iadd (dg hd_Mo_works 48 rfl) ?_
            refine ux_iald rfl (dg hd_Mo_works 49 rfl) ?_
            refine ux_iald rfl (dg hd_Mo_works 50 rfl) ?_
            refine ux_iast rfl (dg hd_Mo_works 51 rfl) ?_
            refine ux_nas (fun σ17 => ?_)
            refine ux_iincN (1 : Int32) (fun y18 => [(2, .int y18), (4, .int y1), (0, .ref 0), (1, .int x1), (3, .int x3)]) (dg hd_Mo_works 52 rfl) rfl (by decide) (by decide) (fun _ => rfl) (fun y18 => ?_)
            refine ux_goto 149 (dg hd_Mo_works 53 rfl) (by decide) ?_
            refine ux_iincN (1 : Int32) (fun y19 => [(3, .int y19), (2, .int y18), (4, .int y1), (0, .ref 0), (1, .int x1)]) (dg hd_Mo_works 93 rfl) rfl (by decide) (by decide) (fun _ => rfl) (fun y19 => ?_)
            refine ux_goto 4 (dg hd_Mo_works 94 rfl) (by decide) ?_
            refine ux_wk [(0, .ref 0), (1, .int x1), (2, .int y18), (3, .int y19)] [3, 4, 1, 0] rfl ?_
            exact ih x1 y18 y19 σ17
        · refine ux_iload (dg hd_Mo_works 54 rfl) rfl ?_
          refine ux_iconst (3 : Int32) (dg hd_Mo_works 55 rfl) (by decide) ?_
          refine ux_icmp_ne 119 (dg hd_Mo_works 56 rfl) (by decide) (fun _ => ?_) (fun _ => ?_)
          · refine ux_aload_n (dg hd_Mo_works 57 rfl) rfl ?_
            refine ux_getr (q := 11) fcX7 11 (by decide) wk_784 rfl rfl (dg hd_Mo_works 58 rfl) ?_
            refine ux_iload_n (dg hd_Mo_works 59 rfl) rfl ?_
            refine ux_iconst (1 : Int32) (dg hd_Mo_works 60 rfl) (by decide) ?_
            refine ux_isub (dg hd_Mo_works 61 rfl) ?_
            refine ux_aload_n (dg hd_Mo_works 62 rfl) rfl ?_
            refine ux_getr (q := 11) fcX7 11 (by decide) wk_784 rfl rfl (dg hd_Mo_works 63 rfl) ?_
            refine ux_iload_n (dg hd_Mo_works 64 rfl) rfl ?_
            refine ux_iconst (1 : Int32) (dg hd_Mo_works 65 rfl) (by decide) ?_
            refine ux_isub (dg hd_Mo_works 66 rfl) ?_
            refine ux_iald rfl (dg hd_Mo_works 67 rfl) ?_
            refine ux_if_ne 114 (dg hd_Mo_works 68 rfl) (by decide) (fun _ => ?_) (fun _ => ?_)
            · refine ux_iconst (1 : Int32) (dg hd_Mo_works 69 rfl) (by decide) ?_
              refine ux_goto 115 (dg hd_Mo_works 70 rfl) (by decide) ?_
              refine ux_iast rfl (dg hd_Mo_works 72 rfl) ?_
              refine ux_nas (fun σ15 => ?_)
              refine ux_goto 149 (dg hd_Mo_works 73 rfl) (by decide) ?_
              refine ux_iincN (1 : Int32) (fun y16 => [(3, .int y16), (4, .int y1), (0, .ref 0), (1, .int x1), (2, .int x2)]) (dg hd_Mo_works 93 rfl) rfl (by decide) (by decide) (fun _ => rfl) (fun y16 => ?_)
              refine ux_goto 4 (dg hd_Mo_works 94 rfl) (by decide) ?_
              refine ux_wk [(0, .ref 0), (1, .int x1), (2, .int x2), (3, .int y16)] [2, 3, 4, 0] rfl ?_
              exact ih x1 x2 y16 σ15
            · refine ux_iconst (0 : Int32) (dg hd_Mo_works 71 rfl) (by decide) ?_
              refine ux_iast rfl (dg hd_Mo_works 72 rfl) ?_
              refine ux_nas (fun σ13 => ?_)
              refine ux_goto 149 (dg hd_Mo_works 73 rfl) (by decide) ?_
              refine ux_iincN (1 : Int32) (fun y14 => [(3, .int y14), (4, .int y1), (0, .ref 0), (1, .int x1), (2, .int x2)]) (dg hd_Mo_works 93 rfl) rfl (by decide) (by decide) (fun _ => rfl) (fun y14 => ?_)
              refine ux_goto 4 (dg hd_Mo_works 94 rfl) (by decide) ?_
              refine ux_wk [(0, .ref 0), (1, .int x1), (2, .int x2), (3, .int y14)] [2, 3, 4, 0] rfl ?_
              exact ih x1 x2 y14 σ13
          · refine ux_iincN (-1 : Int32) (fun y8 => [(2, .int y8), (4, .int y1), (0, .ref 0), (1, .int x1), (3, .int x3)]) (dg hd_Mo_works 74 rfl) rfl (by decide) (by decide) (fun _ => rfl) (fun y8 => ?_)
            refine ux_aload_n (dg hd_Mo_works 75 rfl) rfl ?_
            refine ux_getr (q := 11) fcX7 11 (by decide) wk_784 rfl rfl (dg hd_Mo_works 76 rfl) ?_
            refine ux_iload_n (dg hd_Mo_works 77 rfl) rfl ?_
            refine ux_iconst (1 : Int32) (dg hd_Mo_works 78 rfl) (by decide) ?_
            refine ux_isub (dg hd_Mo_works 79 rfl) ?_
            refine ux_iload (dg hd_Mo_works 80 rfl) rfl ?_
            refine ux_aload_n (dg hd_Mo_works 81 rfl) rfl ?_
            refine ux_getr (q := 11) fcX7 11 (by decide) wk_784 rfl rfl (dg hd_Mo_works 82 rfl) ?_
            refine ux_iload_n (dg hd_Mo_works 83 rfl) rfl ?_
            refine ux_iconst (1 : Int32) (dg hd_Mo_works 84 rfl) (by decide) ?_
            refine ux_isub (dg hd_Mo_works 85 rfl) ?_
            refine ux_iald rfl (dg hd_Mo_works 86 rfl) ?_
            refine ux_aload_n (dg hd_Mo_works 87 rfl) rfl ?_
            refine ux_getr (q := 11) fcX7 11 (by decide) wk_784 rfl rfl (dg hd_Mo_works 88 rfl) ?_
            refine ux_iload_n (dg hd_Mo_works 89 rfl) rfl ?_
            refine ux_iald rfl (dg hd_Mo_works 90 rfl) ?_
            refine ux_callSi (As := [.int y1, .int (σ.2 11 (y8 - (1 : Int32)).toNatClampNeg), .int (σ.2 11 y8.toNatClampNeg)]) (sp_Mo_twoOf l y1 (σ.2 11 (y8 - (1 : Int32)).toNatClampNeg) (σ.2 11 y8.toNatClampNeg) _) (by omega) cs_Mo_twoOf wk_901 rfl rfl (Nat.le_of_ble_eq_true rfl) (dg hd_Mo_works 91 rfl) (fun r9 σ10 _ => ?_)
            refine ux_iast rfl (dg hd_Mo_works 92 rfl) ?_
            refine ux_nas (fun σ11 => ?_)
            refine ux_iincN (1 : Int32) (fun y12 => [(3, .int y12), (2, .int y8), (4, .int y1), (0, .ref 0), (1, .int x1)]) (dg hd_Mo_works 93 rfl) rfl (by decide) (by decide) (fun _ => rfl) (fun y12 => ?_)
            refine ux_goto 4 (dg hd_Mo_works 94 rfl) (by decide) ?_
            refine ux_wk [(0, .ref 0), (1, .int x1), (2, .int y8), (3, .int y12)] [3, 4, 1, 0] rfl ?_
            exact ih x1 y8 y12 σ11
def Mo_works (p1 : Int32) (σ : St) : Option (Int32 × St) :=
  Mo_works_L4 1000 p1 (0 : Int32) (0 : Int32) σ
set_option maxRecDepth 100000 in
theorem sp_Mo_works (l : Launch) (p1 : Int32) (σ : St) : Spc l shM 3 md_Mo_works [.ref 0, .int p1] σ (Mo_works p1 σ) := by
  refine Spc_of_Ux [(0, .ref 0), (1, .int p1)] (by decide) rfl (Nat.le_of_ble_eq_true rfl) ?_
  unfold Mo_works
  refine ux_iconst (0 : Int32) (dg hd_Mo_works 0 rfl) (by decide) ?_
  refine ux_istore_n [(2, .int (0 : Int32)), (0, .ref 0), (1, .int p1)] (dg hd_Mo_works 1 rfl) (by decide) rfl ?_
  refine ux_iconst (0 : Int32) (dg hd_Mo_works 2 rfl) (by decide) ?_
  refine ux_istore_n [(3, .int (0 : Int32)), (2, .int (0 : Int32)), (0, .ref 0), (1, .int p1)] (dg hd_Mo_works 3 rfl) (by decide) rfl ?_
  refine ux_wk [(0, .ref 0), (1, .int p1), (2, .int (0 : Int32)), (3, .int (0 : Int32))] [2, 3, 1, 0] rfl ?_
  exact wk_Mo_works_L4 l 1000 p1 (0 : Int32) (0 : Int32) σ
def Mo_gives (p1 : Int32) (p2 : Int32) (p3 : Int32) (p4 : Int32) (σ : St) : Option (Int32 × St) :=
  nam ((124 : Int32) + ((121 : Int32) * p1)) (fun y1 =>
  grd (inb (0 : Int32) 3) (
  nas (sA σ 10 (0 : Int32).toNatClampNeg p2) (fun σ2 =>
  grd (inb (1 : Int32) 3) (
  nas (sA σ2 10 (1 : Int32).toNatClampNeg p3) (fun σ3 =>
  grd (inb (2 : Int32) 3) (
  nas (sA σ3 10 (2 : Int32).toNatClampNeg p4) (fun σ4 =>
  grd (inb y1 366) (
  if (σ4.2 1 y1.toNatClampNeg) ≤ (0 : Int32) then (
  if p1 = (0 : Int32) then (
  bnd (Mo_held p2 (0 : Int32) (20 : Int32) σ4) (fun r7 σ8 =>
  some (r7, σ8))) else (
  bnd (Mo_held p2 (0 : Int32) (99 : Int32) σ4) (fun r5 σ6 =>
  some (r5, σ6)))) else (
  bnd (Mo_works y1 σ4) (fun r9 σ10 =>
  if p1 = (0 : Int32) then (
  bnd (Mo_held r9 (0 : Int32) (20 : Int32) σ10) (fun r13 σ14 =>
  some (r13, σ14))) else (
  bnd (Mo_held r9 (0 : Int32) (99 : Int32) σ10) (fun r11 σ12 =>
  some (r11, σ12)))))))))))))
set_option maxRecDepth 100000 in
theorem sp_Mo_gives (l : Launch) (p1 : Int32) (p2 : Int32) (p3 : Int32) (p4 : Int32) (σ : St) : Spc l shM 4 md_Mo_gives [.ref 0, .int p1, .int p2, .int p3, .int p4] σ (Mo_gives p1 p2 p3 p4 σ) := by
  refine Spc_of_Ux [(0, .ref 0), (1, .int p1), (2, .int p2), (3, .int p3), (4, .int p4)] (by decide) rfl (Nat.le_of_ble_eq_true rfl) ?_
  unfold Mo_gives
  refine ux_bipush (124 : Int32) (dg hd_Mo_gives 0 rfl) (by decide) ?_
  refine ux_bipush (121 : Int32) (dg hd_Mo_gives 1 rfl) (by decide) ?_
  refine ux_iload_n (dg hd_Mo_gives 2 rfl) rfl ?_
  refine ux_imul (dg hd_Mo_gives 3 rfl) ?_
  refine ux_iadd (dg hd_Mo_gives 4 rfl) ?_
  refine ux_nam (fun y1 => ?_)
  refine ux_istore [(5, .int y1), (0, .ref 0), (1, .int p1), (2, .int p2), (3, .int p3), (4, .int p4)] (dg hd_Mo_gives 5 rfl) (by decide) rfl ?_
  refine ux_aload_n (dg hd_Mo_gives 6 rfl) rfl ?_
  refine ux_getr (q := 10) fcX7 10 (by decide) wk_783 rfl rfl (dg hd_Mo_gives 7 rfl) ?_
  refine ux_iconst (0 : Int32) (dg hd_Mo_gives 8 rfl) (by decide) ?_
  refine ux_iload_n (dg hd_Mo_gives 9 rfl) rfl ?_
  refine ux_iast rfl (dg hd_Mo_gives 10 rfl) ?_
  refine ux_nas (fun σ2 => ?_)
  refine ux_aload_n (dg hd_Mo_gives 11 rfl) rfl ?_
  refine ux_getr (q := 10) fcX7 10 (by decide) wk_783 rfl rfl (dg hd_Mo_gives 12 rfl) ?_
  refine ux_iconst (1 : Int32) (dg hd_Mo_gives 13 rfl) (by decide) ?_
  refine ux_iload_n (dg hd_Mo_gives 14 rfl) rfl ?_
  refine ux_iast rfl (dg hd_Mo_gives 15 rfl) ?_
  refine ux_nas (fun σ3 => ?_)
  refine ux_aload_n (dg hd_Mo_gives 16 rfl) rfl ?_
  refine ux_getr (q := 10) fcX7 10 (by decide) wk_783 rfl rfl (dg hd_Mo_gives 17 rfl) ?_
  refine ux_iconst (2 : Int32) (dg hd_Mo_gives 18 rfl) (by decide) ?_
  refine ux_iload (dg hd_Mo_gives 19 rfl) rfl ?_
  refine ux_iast rfl (dg hd_Mo_gives 20 rfl) ?_
  refine ux_nas (fun σ4 => ?_)
  refine ux_aload_n (dg hd_Mo_gives 21 rfl) rfl ?_
  refine ux_getr (q := 1) fcX7 0 (by decide) wk_773 rfl rfl (dg hd_Mo_gives 22 rfl) ?_
  refine ux_iload (dg hd_Mo_gives 23 rfl) rfl ?_
  refine ux_iald rfl (dg hd_Mo_gives 24 rfl) ?_
  refine ux_if_le 50 (dg hd_Mo_gives 25 rfl) (by decide) (fun _ => ?_) (fun _ => ?_)
  · refine ux_iload_n (dg hd_Mo_gives 30 rfl) rfl ?_
    refine ux_istore [(6, .int p2), (5, .int y1), (0, .ref 0), (1, .int p1), (2, .int p2), (3, .int p3), (4, .int p4)] (dg hd_Mo_gives 31 rfl) (by decide) rfl ?_
    refine ux_iload_n (dg hd_Mo_gives 32 rfl) rfl ?_
    refine ux_if_ne 68 (dg hd_Mo_gives 33 rfl) (by decide) (fun _ => ?_) (fun _ => ?_)
    · refine ux_iload (dg hd_Mo_gives 34 rfl) rfl ?_
      refine ux_iconst (0 : Int32) (dg hd_Mo_gives 35 rfl) (by decide) ?_
      refine ux_bipush (20 : Int32) (dg hd_Mo_gives 36 rfl) (by decide) ?_
      refine ux_callSi (As := [.int p2, .int (0 : Int32), .int (20 : Int32)]) (sp_Mo_held l p2 (0 : Int32) (20 : Int32) _) (by omega) cs_Mo_held wk_904 rfl rfl (Nat.le_of_ble_eq_true rfl) (dg hd_Mo_gives 37 rfl) (fun r7 σ8 _ => ?_)
      refine ux_goto 76 (dg hd_Mo_gives 38 rfl) (by decide) ?_
      exact ux_iret rfl (dg hd_Mo_gives 43 rfl)
    · refine ux_iload (dg hd_Mo_gives 39 rfl) rfl ?_
      refine ux_iconst (0 : Int32) (dg hd_Mo_gives 40 rfl) (by decide) ?_
      refine ux_bipush (99 : Int32) (dg hd_Mo_gives 41 rfl) (by decide) ?_
      refine ux_callSi (As := [.int p2, .int (0 : Int32), .int (99 : Int32)]) (sp_Mo_held l p2 (0 : Int32) (99 : Int32) _) (by omega) cs_Mo_held wk_904 rfl rfl (Nat.le_of_ble_eq_true rfl) (dg hd_Mo_gives 42 rfl) (fun r5 σ6 _ => ?_)
      exact ux_iret rfl (dg hd_Mo_gives 43 rfl)
  · refine ux_aload_n (dg hd_Mo_gives 26 rfl) rfl ?_
    refine ux_iload (dg hd_Mo_gives 27 rfl) rfl ?_
    refine ux_callVi (As := [.int y1]) (sp_Mo_works l y1 _) (by omega) cv_Mo_works wk_897 rfl rfl rfl rfl rfl (Nat.le_of_ble_eq_true rfl) (dg hd_Mo_gives 28 rfl) (fun r9 σ10 _ => ?_)
    refine ux_goto 51 (dg hd_Mo_gives 29 rfl) (by decide) ?_
    refine ux_istore [(6, .int r9), (5, .int y1), (0, .ref 0), (1, .int p1), (2, .int p2), (3, .int p3), (4, .int p4)] (dg hd_Mo_gives 31 rfl) (by decide) rfl ?_
    refine ux_iload_n (dg hd_Mo_gives 32 rfl) rfl ?_
    refine ux_if_ne 68 (dg hd_Mo_gives 33 rfl) (by decide) (fun _ => ?_) (fun _ => ?_)
    · refine ux_iload (dg hd_Mo_gives 34 rfl) rfl ?_
      refine ux_iconst (0 : Int32) (dg hd_Mo_gives 35 rfl) (by decide) ?_
      refine ux_bipush (20 : Int32) (dg hd_Mo_gives 36 rfl) (by decide) ?_
      refine ux_callSi (As := [.int r9, .int (0 : Int32), .int (20 : Int32)]) (sp_Mo_held l r9 (0 : Int32) (20 : Int32) _) (by omega) cs_Mo_held wk_904 rfl rfl (Nat.le_of_ble_eq_true rfl) (dg hd_Mo_gives 37 rfl) (fun r13 σ14 _ => ?_)
      refine ux_goto 76 (dg hd_Mo_gives 38 rfl) (by decide) ?_
      exact ux_iret rfl (dg hd_Mo_gives 43 rfl)
    · refine ux_iload (dg hd_Mo_gives 39 rfl) rfl ?_
      refine ux_iconst (0 : Int32) (dg hd_Mo_gives 40 rfl) (by decide) ?_
      refine ux_bipush (99 : Int32) (dg hd_Mo_gives 41 rfl) (by decide) ?_
      refine ux_callSi (As := [.int r9, .int (0 : Int32), .int (99 : Int32)]) (sp_Mo_held l r9 (0 : Int32) (99 : Int32) _) (by omega) cs_Mo_held wk_904 rfl rfl (Nat.le_of_ble_eq_true rfl) (dg hd_Mo_gives 42 rfl) (fun r11 σ12 _ => ?_)
      exact ux_iret rfl (dg hd_Mo_gives 43 rfl)
def Mo_costsOf (p1 : Int32) (σ : St) : Option (Int32 × St) :=
  bnd (Mo_takesOf p1 σ) (fun r1 σ2 =>
  bnd (Mo_word  σ2) (fun r3 σ4 =>
  bnd (Mo_allIn  σ4) (fun r5 σ6 =>
  bnd (Mo_bits r5 σ6) (fun r7 σ8 =>
  bnd (Mo_gives (0 : Int32) r1 r3 r7 σ8) (fun r9 σ10 =>
  some (r9, σ10))))))
set_option maxRecDepth 100000 in
theorem sp_Mo_costsOf (l : Launch) (p1 : Int32) (σ : St) : Spc l shM 6 md_Mo_costsOf [.ref 0, .int p1] σ (Mo_costsOf p1 σ) := by
  refine Spc_of_Ux [(0, .ref 0), (1, .int p1)] (by decide) rfl (Nat.le_of_ble_eq_true rfl) ?_
  unfold Mo_costsOf
  refine ux_aload_n (dg hd_Mo_costsOf 0 rfl) rfl ?_
  refine ux_iconst (0 : Int32) (dg hd_Mo_costsOf 1 rfl) (by decide) ?_
  refine ux_aload_n (dg hd_Mo_costsOf 2 rfl) rfl ?_
  refine ux_iload_n (dg hd_Mo_costsOf 3 rfl) rfl ?_
  refine ux_callVi (As := [.int p1]) (sp_Mo_takesOf l p1 _) (by omega) cv_Mo_takesOf wk_874 rfl rfl rfl rfl rfl (Nat.le_of_ble_eq_true rfl) (dg hd_Mo_costsOf 4 rfl) (fun r1 σ2 _ => ?_)
  refine ux_aload_n (dg hd_Mo_costsOf 5 rfl) rfl ?_
  refine ux_callVi (As := []) (sp_Mo_word l  _) (by omega) cv_Mo_word wk_878 rfl rfl rfl rfl rfl (Nat.le_of_ble_eq_true rfl) (dg hd_Mo_costsOf 6 rfl) (fun r3 σ4 _ => ?_)
  refine ux_aload_n (dg hd_Mo_costsOf 7 rfl) rfl ?_
  refine ux_callVi (As := []) (sp_Mo_allIn l  _) (by omega) cv_Mo_allIn wk_882 rfl rfl rfl rfl rfl (Nat.le_of_ble_eq_true rfl) (dg hd_Mo_costsOf 8 rfl) (fun r5 σ6 _ => ?_)
  refine ux_callSi (As := [.int r5]) (sp_Mo_bits l r5 _) (by omega) cs_Mo_bits wk_890 rfl rfl (Nat.le_of_ble_eq_true rfl) (dg hd_Mo_costsOf 9 rfl) (fun r7 σ8 _ => ?_)
  refine ux_callVi (As := [.int (0 : Int32), .int r1, .int r3, .int r7]) (sp_Mo_gives l (0 : Int32) r1 r3 r7 _) (by omega) cv_Mo_gives wk_893 rfl rfl rfl rfl rfl (Nat.le_of_ble_eq_true rfl) (dg hd_Mo_costsOf 10 rfl) (fun r9 σ10 _ => ?_)
  exact ux_iret rfl (dg hd_Mo_costsOf 11 rfl)
def Mo_leansOf (p1 : Int32) (p2 : Int32) (σ : St) : Option (Int32 × St) :=
  bnd (Mo_of p1 (1 : Int32) σ) (fun r1 σ2 =>
  bnd (Mo_bits (p2 &&& (((7 : Int32) * r1) + (9 : Int32))) σ2) (fun r3 σ4 =>
  nam ((10 : Int32) * r3) (fun y5 =>
  bnd (Mo_of p1 (3 : Int32) σ4) (fun r6 σ7 =>
  nam (y5 + ((5 : Int32) * r6)) (fun y8 =>
  bnd (Mo_of p1 (0 : Int32) σ7) (fun r9 σ10 =>
  if r9 = (1 : Int32) then (
  some (((60 : Int32) - y5), σ10)) else if r9 = (2 : Int32) then (
  some (y8, σ10)) else if r9 = (3 : Int32) then (
  grd (nz (5 : Int32)) (
  some (((40 : Int32) + (irm p2 (5 : Int32))), σ10))) else if r9 = (4 : Int32) then (
  some (((50 : Int32) - y5), σ10)) else if r9 = (5 : Int32) then (
  grd (inb (0 : Int32) 366) (
  grd (nz (7 : Int32)) (
  some ((y8 + (irm (σ10.2 1 (0 : Int32).toNatClampNeg) (7 : Int32))), σ10)))) else if r9 = (6 : Int32) then (
  grd (nz (2 : Int32)) (
  some (((y5 / (2 : Int32)) + r1), σ10))) else (
  some (y5, σ10))))))))
set_option maxRecDepth 100000 in
theorem sp_Mo_leansOf (l : Launch) (p1 : Int32) (p2 : Int32) (σ : St) : Spc l shM 3 md_Mo_leansOf [.ref 0, .int p1, .int p2] σ (Mo_leansOf p1 p2 σ) := by
  refine Spc_of_Ux [(0, .ref 0), (1, .int p1), (2, .int p2)] (by decide) rfl (Nat.le_of_ble_eq_true rfl) ?_
  unfold Mo_leansOf
  refine ux_aload_n (dg hd_Mo_leansOf 0 rfl) rfl ?_
  refine ux_iload_n (dg hd_Mo_leansOf 1 rfl) rfl ?_
  refine ux_iconst (1 : Int32) (dg hd_Mo_leansOf 2 rfl) (by decide) ?_
  refine ux_callVi (As := [.int p1, .int (1 : Int32)]) (sp_Mo_of l p1 (1 : Int32) _) (by omega) cv_Mo_of wk_866 rfl rfl rfl rfl rfl (Nat.le_of_ble_eq_true rfl) (dg hd_Mo_leansOf 3 rfl) (fun r1 σ2 _ => ?_)
  refine ux_istore_n [(3, .int r1), (0, .ref 0), (1, .int p1), (2, .int p2)] (dg hd_Mo_leansOf 4 rfl) (by decide) rfl ?_
  refine ux_bipush (10 : Int32) (dg hd_Mo_leansOf 5 rfl) (by decide) ?_
  refine ux_iload_n (dg hd_Mo_leansOf 6 rfl) rfl ?_
  refine ux_bipush (7 : Int32) (dg hd_Mo_leansOf 7 rfl) (by decide) ?_
  refine ux_iload_n (dg hd_Mo_leansOf 8 rfl) rfl ?_
  refine ux_imul (dg hd_Mo_leansOf 9 rfl) ?_
  refine ux_bipush (9 : Int32) (dg hd_Mo_leansOf 10 rfl) (by decide) ?_
  refine ux_iadd (dg hd_Mo_leansOf 11 rfl) ?_
  refine ux_iand (dg hd_Mo_leansOf 12 rfl) ?_
  refine ux_callSi (As := [.int (p2 &&& (((7 : Int32) * r1) + (9 : Int32)))]) (sp_Mo_bits l (p2 &&& (((7 : Int32) * r1) + (9 : Int32))) _) (by omega) cs_Mo_bits wk_890 rfl rfl (Nat.le_of_ble_eq_true rfl) (dg hd_Mo_leansOf 13 rfl) (fun r3 σ4 _ => ?_)
  refine ux_imul (dg hd_Mo_leansOf 14 rfl) ?_
  refine ux_nam (fun y5 => ?_)
  refine ux_istore [(4, .int y5), (3, .int r1), (0, .ref 0), (1, .int p1), (2, .int p2)] (dg hd_Mo_leansOf 15 rfl) (by decide) rfl ?_
  refine ux_iload (dg hd_Mo_leansOf 16 rfl) rfl ?_
  refine ux_iconst (5 : Int32) (dg hd_Mo_leansOf 17 rfl) (by decide) ?_
  refine ux_aload_n (dg hd_Mo_leansOf 18 rfl) rfl ?_
  refine ux_iload_n (dg hd_Mo_leansOf 19 rfl) rfl ?_
  refine ux_iconst (3 : Int32) (dg hd_Mo_leansOf 20 rfl) (by decide) ?_
  refine ux_callVi (As := [.int p1, .int (3 : Int32)]) (sp_Mo_of l p1 (3 : Int32) _) (by omega) cv_Mo_of wk_866 rfl rfl rfl rfl rfl (Nat.le_of_ble_eq_true rfl) (dg hd_Mo_leansOf 21 rfl) (fun r6 σ7 _ => ?_)
  refine ux_imul (dg hd_Mo_leansOf 22 rfl) ?_
  refine ux_iadd (dg hd_Mo_leansOf 23 rfl) ?_
  refine ux_nam (fun y8 => ?_)
  refine ux_istore [(5, .int y8), (4, .int y5), (3, .int r1), (0, .ref 0), (1, .int p1), (2, .int p2)] (dg hd_Mo_leansOf 24 rfl) (by decide) rfl ?_
  refine ux_aload_n (dg hd_Mo_leansOf 25 rfl) rfl ?_
  refine ux_iload_n (dg hd_Mo_leansOf 26 rfl) rfl ?_
  refine ux_iconst (0 : Int32) (dg hd_Mo_leansOf 27 rfl) (by decide) ?_
  refine ux_callVi (As := [.int p1, .int (0 : Int32)]) (sp_Mo_of l p1 (0 : Int32) _) (by omega) cv_Mo_of wk_866 rfl rfl rfl rfl rfl (Nat.le_of_ble_eq_true rfl) (dg hd_Mo_leansOf 28 rfl) (fun r9 σ10 _ => ?_)
  refine ux_case (1 : Int32) (fun _ => ?_) (fun c11 => ?_)
  · refine ux_tabIn 80 (dg hd_Mo_leansOf 29 rfl) (by decide) (by decide) rfl (by decide) ?_
    refine ux_bipush (60 : Int32) (dg hd_Mo_leansOf 30 rfl) (by decide) ?_
    refine ux_iload (dg hd_Mo_leansOf 31 rfl) rfl ?_
    refine ux_isub (dg hd_Mo_leansOf 32 rfl) ?_
    exact ux_iret rfl (dg hd_Mo_leansOf 33 rfl)
  refine ux_case (2 : Int32) (fun _ => ?_) (fun c12 => ?_)
  · refine ux_tabIn 86 (dg hd_Mo_leansOf 29 rfl) (by decide) (by decide) rfl (by decide) ?_
    refine ux_iload (dg hd_Mo_leansOf 34 rfl) rfl ?_
    exact ux_iret rfl (dg hd_Mo_leansOf 35 rfl)
  refine ux_case (3 : Int32) (fun _ => ?_) (fun c13 => ?_)
  · refine ux_tabIn 89 (dg hd_Mo_leansOf 29 rfl) (by decide) (by decide) rfl (by decide) ?_
    refine ux_bipush (40 : Int32) (dg hd_Mo_leansOf 36 rfl) (by decide) ?_
    refine ux_iload_n (dg hd_Mo_leansOf 37 rfl) rfl ?_
    refine ux_iconst (5 : Int32) (dg hd_Mo_leansOf 38 rfl) (by decide) ?_
    refine ux_irem (dg hd_Mo_leansOf 39 rfl) ?_
    refine ux_iadd (dg hd_Mo_leansOf 40 rfl) ?_
    exact ux_iret rfl (dg hd_Mo_leansOf 41 rfl)
  refine ux_case (4 : Int32) (fun _ => ?_) (fun c14 => ?_)
  · refine ux_tabIn 96 (dg hd_Mo_leansOf 29 rfl) (by decide) (by decide) rfl (by decide) ?_
    refine ux_bipush (50 : Int32) (dg hd_Mo_leansOf 42 rfl) (by decide) ?_
    refine ux_iload (dg hd_Mo_leansOf 43 rfl) rfl ?_
    refine ux_isub (dg hd_Mo_leansOf 44 rfl) ?_
    exact ux_iret rfl (dg hd_Mo_leansOf 45 rfl)
  refine ux_case (5 : Int32) (fun _ => ?_) (fun c15 => ?_)
  · refine ux_tabIn 102 (dg hd_Mo_leansOf 29 rfl) (by decide) (by decide) rfl (by decide) ?_
    refine ux_iload (dg hd_Mo_leansOf 46 rfl) rfl ?_
    refine ux_aload_n (dg hd_Mo_leansOf 47 rfl) rfl ?_
    refine ux_getr (q := 1) fcX7 0 (by decide) wk_773 rfl rfl (dg hd_Mo_leansOf 48 rfl) ?_
    refine ux_iconst (0 : Int32) (dg hd_Mo_leansOf 49 rfl) (by decide) ?_
    refine ux_iald rfl (dg hd_Mo_leansOf 50 rfl) ?_
    refine ux_bipush (7 : Int32) (dg hd_Mo_leansOf 51 rfl) (by decide) ?_
    refine ux_irem (dg hd_Mo_leansOf 52 rfl) ?_
    refine ux_iadd (dg hd_Mo_leansOf 53 rfl) ?_
    exact ux_iret rfl (dg hd_Mo_leansOf 54 rfl)
  refine ux_case (6 : Int32) (fun _ => ?_) (fun c16 => ?_)
  · refine ux_tabIn 115 (dg hd_Mo_leansOf 29 rfl) (by decide) (by decide) rfl (by decide) ?_
    refine ux_iload (dg hd_Mo_leansOf 55 rfl) rfl ?_
    refine ux_iconst (2 : Int32) (dg hd_Mo_leansOf 56 rfl) (by decide) ?_
    refine ux_idiv (dg hd_Mo_leansOf 57 rfl) ?_
    refine ux_iload_n (dg hd_Mo_leansOf 58 rfl) rfl ?_
    refine ux_iadd (dg hd_Mo_leansOf 59 rfl) ?_
    exact ux_iret rfl (dg hd_Mo_leansOf 60 rfl)
  refine ux_tabOut 122 (dg hd_Mo_leansOf 29 rfl) (by have hc11 := lv_neT (a := 1) c11 (by decide); have hc12 := lv_neT (a := 2) c12 (by decide); have hc13 := lv_neT (a := 3) c13 (by decide); have hc14 := lv_neT (a := 4) c14 (by decide); have hc15 := lv_neT (a := 5) c15 (by decide); have hc16 := lv_neT (a := 6) c16 (by decide); omega) (by decide) ?_
  refine ux_iload (dg hd_Mo_leansOf 61 rfl) rfl ?_
  exact ux_iret rfl (dg hd_Mo_leansOf 62 rfl)
