def Mo_number_L4 : Nat → Int32 → Int32 → St → Option (Int32 × St)
  | 0, _, _, _ => none
  | n + 1, x1, x2, σ =>
    if (4 : Int32) ≤ x2 then (
    if x2 = (0 : Int32) then (
    nas (sF σ 0 15 (1 : Int32)) (fun σ4 =>
    bnd (Mo_lays (1 : Int32) x1 σ4) (fun r5 σ6 =>
    some (0, σ6)))) else (
    nas (sF σ 0 15 (0 : Int32)) (fun σ1 =>
    bnd (Mo_lays (1 : Int32) x1 σ1) (fun r2 σ3 =>
    some (0, σ3))))) else (
    bnd (Mo_look  σ) (fun r7 σ8 =>
    bnd (Mo_in r7 (48 : Int32) (57 : Int32) σ8) (fun r9 σ10 =>
    if r9 = (0 : Int32) then (
    if x2 = (0 : Int32) then (
    nas (sF σ10 0 15 (1 : Int32)) (fun σ14 =>
    bnd (Mo_lays (1 : Int32) x1 σ14) (fun r15 σ16 =>
    some (0, σ16)))) else (
    nas (sF σ10 0 15 (0 : Int32)) (fun σ11 =>
    bnd (Mo_lays (1 : Int32) x1 σ11) (fun r12 σ13 =>
    some (0, σ13))))) else (
    bnd (Mo_look  σ10) (fun r17 σ18 =>
    nam ((((10 : Int32) * x1) + r17) - (48 : Int32)) (fun y19 =>
    nas (sF σ18 0 13 ((σ18.1 0 13) + (1 : Int32))) (fun σ20 =>
    nam (x2 + (1 : Int32)) (fun y21 =>
    Mo_number_L4 n y19 y21 σ20))))))))
set_option maxRecDepth 100000 in
theorem wk_Mo_number_L4 (l : Launch) : ∀ (n : Nat) (x1 x2 : Int32) (σ : St), Ux l shM 3 md_Mo_number 4 [(0, .ref 0), (1, .int x1), (2, .int x2)] [] σ (Mo_number_L4 n x1 x2 σ) := by
  intro n
  induction n with
  | zero => intros; exact ux_none
  | succ n ih =>
    intro x1 x2 σ
    unfold Mo_number_L4
    refine ux_iload_n (dg hd_Mo_number 4 rfl) rfl ?_
    refine ux_iconst (4 : Int32) (dg hd_Mo_number 5 rfl) (by decide) ?_
    refine ux_icmp_ge 52 (dg hd_Mo_number 6 rfl) (by decide) (fun _ => ?_) (fun _ => ?_)
    · refine ux_aload_n (dg hd_Mo_number 30 rfl) rfl ?_
      refine ux_iload_n (dg hd_Mo_number 31 rfl) rfl ?_
      refine ux_if_ne 61 (dg hd_Mo_number 32 rfl) (by decide) (fun _ => ?_) (fun _ => ?_)
      · refine ux_iconst (1 : Int32) (dg hd_Mo_number 33 rfl) (by decide) ?_
        refine ux_goto 62 (dg hd_Mo_number 34 rfl) (by decide) ?_
        refine ux_put fcX7 15 (by decide) wk_788 rfl rfl (isB_n (by decide)) rfl rfl (dg hd_Mo_number 36 rfl) ?_
        refine ux_nas (fun σ4 => ?_)
        refine ux_aload_n (dg hd_Mo_number 37 rfl) rfl ?_
        refine ux_iconst (1 : Int32) (dg hd_Mo_number 38 rfl) (by decide) ?_
        refine ux_iload_n (dg hd_Mo_number 39 rfl) rfl ?_
        refine ux_callVv (As := [.int (1 : Int32), .int x1]) (sp_Mo_lays l (1 : Int32) x1 _) (by omega) cv_Mo_lays wk_1017 rfl rfl rfl rfl rfl (Nat.le_of_ble_eq_true rfl) (dg hd_Mo_number 40 rfl) (fun r5 σ6 _ => ?_)
        exact ux_vret rfl (dg hd_Mo_number 41 rfl)
      · refine ux_iconst (0 : Int32) (dg hd_Mo_number 35 rfl) (by decide) ?_
        refine ux_put fcX7 15 (by decide) wk_788 rfl rfl (isB_n (by decide)) rfl rfl (dg hd_Mo_number 36 rfl) ?_
        refine ux_nas (fun σ1 => ?_)
        refine ux_aload_n (dg hd_Mo_number 37 rfl) rfl ?_
        refine ux_iconst (1 : Int32) (dg hd_Mo_number 38 rfl) (by decide) ?_
        refine ux_iload_n (dg hd_Mo_number 39 rfl) rfl ?_
        refine ux_callVv (As := [.int (1 : Int32), .int x1]) (sp_Mo_lays l (1 : Int32) x1 _) (by omega) cv_Mo_lays wk_1017 rfl rfl rfl rfl rfl (Nat.le_of_ble_eq_true rfl) (dg hd_Mo_number 40 rfl) (fun r2 σ3 _ => ?_)
        exact ux_vret rfl (dg hd_Mo_number 41 rfl)
    · refine ux_aload_n (dg hd_Mo_number 7 rfl) rfl ?_
      refine ux_callVi (As := []) (sp_Mo_look l  _) (by omega) cv_Mo_look wk_1009 rfl rfl rfl rfl rfl (Nat.le_of_ble_eq_true rfl) (dg hd_Mo_number 8 rfl) (fun r7 σ8 _ => ?_)
      refine ux_bipush (48 : Int32) (dg hd_Mo_number 9 rfl) (by decide) ?_
      refine ux_bipush (57 : Int32) (dg hd_Mo_number 10 rfl) (by decide) ?_
      refine ux_callSi (As := [.int r7, .int (48 : Int32), .int (57 : Int32)]) (sp_Mo_in l r7 (48 : Int32) (57 : Int32) _) (by omega) cs_Mo_in wk_844 rfl rfl (Nat.le_of_ble_eq_true rfl) (dg hd_Mo_number 11 rfl) (fun r9 σ10 _ => ?_)
      refine ux_if_eq 52 (dg hd_Mo_number 12 rfl) (by decide) (fun _ => ?_) (fun _ => ?_)
      · refine ux_aload_n (dg hd_Mo_number 30 rfl) rfl ?_
        refine ux_iload_n (dg hd_Mo_number 31 rfl) rfl ?_
        refine ux_if_ne 61 (dg hd_Mo_number 32 rfl) (by decide) (fun _ => ?_) (fun _ => ?_)
        · refine ux_iconst (1 : Int32) (dg hd_Mo_number 33 rfl) (by decide) ?_
          refine ux_goto 62 (dg hd_Mo_number 34 rfl) (by decide) ?_
          refine ux_put fcX7 15 (by decide) wk_788 rfl rfl (isB_n (by decide)) rfl rfl (dg hd_Mo_number 36 rfl) ?_
          refine ux_nas (fun σ14 => ?_)
          refine ux_aload_n (dg hd_Mo_number 37 rfl) rfl ?_
          refine ux_iconst (1 : Int32) (dg hd_Mo_number 38 rfl) (by decide) ?_
          refine ux_iload_n (dg hd_Mo_number 39 rfl) rfl ?_
          refine ux_callVv (As := [.int (1 : Int32), .int x1]) (sp_Mo_lays l (1 : Int32) x1 _) (by omega) cv_Mo_lays wk_1017 rfl rfl rfl rfl rfl (Nat.le_of_ble_eq_true rfl) (dg hd_Mo_number 40 rfl) (fun r15 σ16 _ => ?_)
          exact ux_vret rfl (dg hd_Mo_number 41 rfl)
        · refine ux_iconst (0 : Int32) (dg hd_Mo_number 35 rfl) (by decide) ?_
          refine ux_put fcX7 15 (by decide) wk_788 rfl rfl (isB_n (by decide)) rfl rfl (dg hd_Mo_number 36 rfl) ?_
          refine ux_nas (fun σ11 => ?_)
          refine ux_aload_n (dg hd_Mo_number 37 rfl) rfl ?_
          refine ux_iconst (1 : Int32) (dg hd_Mo_number 38 rfl) (by decide) ?_
          refine ux_iload_n (dg hd_Mo_number 39 rfl) rfl ?_
          refine ux_callVv (As := [.int (1 : Int32), .int x1]) (sp_Mo_lays l (1 : Int32) x1 _) (by omega) cv_Mo_lays wk_1017 rfl rfl rfl rfl rfl (Nat.le_of_ble_eq_true rfl) (dg hd_Mo_number 40 rfl) (fun r12 σ13 _ => ?_)
          exact ux_vret rfl (dg hd_Mo_number 41 rfl)
      · refine ux_bipush (10 : Int32) (dg hd_Mo_number 13 rfl) (by decide) ?_
        refine ux_iload_n (dg hd_Mo_number 14 rfl) rfl ?_
        refine ux_imul (dg hd_Mo_number 15 rfl) ?_
        refine ux_aload_n (dg hd_Mo_number 16 rfl) rfl ?_
        refine ux_callVi (As := []) (sp_Mo_look l  _) (by omega) cv_Mo_look wk_1009 rfl rfl rfl rfl rfl (Nat.le_of_ble_eq_true rfl) (dg hd_Mo_number 17 rfl) (fun r17 σ18 _ => ?_)
        refine ux_iadd (dg hd_Mo_number 18 rfl) ?_
        refine ux_bipush (48 : Int32) (dg hd_Mo_number 19 rfl) (by decide) ?_
        refine ux_isub (dg hd_Mo_number 20 rfl) ?_
        refine ux_nam (fun y19 => ?_)
        refine ux_istore_n [(1, .int y19), (0, .ref 0), (2, .int x2)] (dg hd_Mo_number 21 rfl) (by decide) rfl ?_
        refine ux_aload_n (dg hd_Mo_number 22 rfl) rfl ?_
        refine ux_dupr (dg hd_Mo_number 23 rfl) ?_
        refine ux_get fcX7 13 (by decide) wk_786 rfl rfl (dg hd_Mo_number 24 rfl) ?_
        refine ux_iconst (1 : Int32) (dg hd_Mo_number 25 rfl) (by decide) ?_
        refine ux_iadd (dg hd_Mo_number 26 rfl) ?_
        refine ux_put fcX7 13 (by decide) wk_786 rfl rfl ⟨rfl, rfl⟩ rfl rfl (dg hd_Mo_number 27 rfl) ?_
        refine ux_nas (fun σ20 => ?_)
        refine ux_iincN (1 : Int32) (fun y21 => [(2, .int y21), (1, .int y19), (0, .ref 0)]) (dg hd_Mo_number 28 rfl) rfl (by decide) (by decide) (fun _ => rfl) (fun y21 => ?_)
        refine ux_goto 4 (dg hd_Mo_number 29 rfl) (by decide) ?_
        refine ux_wk [(0, .ref 0), (1, .int y19), (2, .int y21)] [2, 1, 0] rfl ?_
        exact ih y19 y21 σ20
def Mo_number  (σ : St) : Option (Int32 × St) :=
  Mo_number_L4 1000 (0 : Int32) (0 : Int32) σ
set_option maxRecDepth 100000 in
theorem sp_Mo_number (l : Launch) (σ : St) : Spc l shM 3 md_Mo_number [.ref 0] σ (Mo_number  σ) := by
  refine Spc_of_Ux [(0, .ref 0)] (by decide) rfl (Nat.le_of_ble_eq_true rfl) ?_
  unfold Mo_number
  refine ux_iconst (0 : Int32) (dg hd_Mo_number 0 rfl) (by decide) ?_
  refine ux_istore_n [(1, .int (0 : Int32)), (0, .ref 0)] (dg hd_Mo_number 1 rfl) (by decide) rfl ?_
  refine ux_iconst (0 : Int32) (dg hd_Mo_number 2 rfl) (by decide) ?_
  refine ux_istore_n [(2, .int (0 : Int32)), (1, .int (0 : Int32)), (0, .ref 0)] (dg hd_Mo_number 3 rfl) (by decide) rfl ?_
  refine ux_wk [(0, .ref 0), (1, .int (0 : Int32)), (2, .int (0 : Int32))] [2, 1, 0] rfl ?_
  exact wk_Mo_number_L4 l 1000 (0 : Int32) (0 : Int32) σ
def Mo_any_L4 (rec : Nat → Int32 → St → Option (Int32 × St)) : Nat → St → Option (Int32 × St)
  | 0, _ => none
  | n + 1, σ =>
    if (σ.1 0 15) = (0 : Int32) then (
    bnd (Mo_look  σ) (fun r3 σ4 =>
    if r3 = (124 : Int32) then (
    nas (sF σ4 0 13 ((σ4.1 0 13) + (1 : Int32))) (fun σ5 =>
    bnd (rec 1 0 σ5) (fun r6 σ7 =>
    bnd (Mo_lays (124 : Int32) (0 : Int32) σ7) (fun r8 σ9 =>
    Mo_any_L4 rec n  σ9)))) else (
    some (0, σ4)))) else (
    some (0, σ))
set_option maxRecDepth 100000 in
theorem wk_Mo_any_L4 (l : Launch) (rec : Nat → Int32 → St → Option (Int32 × St)) (dd : Nat) (hdd : 4 ≤ dd) (hr0 : ∀ (σ : St), Spc l shM dd md_Mo_any [.ref 0] σ (rec 0 0 σ)) (hr1 : ∀ (σ : St), Spc l shM dd md_Mo_all [.ref 0] σ (rec 1 0 σ)) (hr2 : ∀ (σ : St), Spc l shM dd md_Mo_compares [.ref 0] σ (rec 2 0 σ)) (hr3 : ∀ (σ : St), Spc l shM dd md_Mo_sum [.ref 0] σ (rec 3 0 σ)) (hr4 : ∀ (σ : St), Spc l shM dd md_Mo_times [.ref 0] σ (rec 4 0 σ)) (hr5 : ∀ (σ : St), Spc l shM dd md_Mo_one [.ref 0] σ (rec 5 0 σ)) (hr6 : ∀ (a0 : Int32) (σ : St), Spc l shM dd md_Mo_opens [.ref 0, .int a0] σ (rec 6 a0 σ)) : ∀ (n : Nat) (σ : St), Ux l shM (dd + 1) md_Mo_any 4 [(0, .ref 0)] [] σ (Mo_any_L4 rec n  σ) := by
  intro n
  induction n with
  | zero => intros; exact ux_none
  | succ n ih =>
    intro  σ
    unfold Mo_any_L4
    refine ux_aload_n (dg hd_Mo_any 2 rfl) rfl ?_
    refine ux_get fcX7 15 (by decide) wk_788 rfl rfl (dg hd_Mo_any 3 rfl) ?_
    refine ux_if_ne 44 (dg hd_Mo_any 4 rfl) (by decide) (fun _ => ?_) (fun _ => ?_)
    · refine ux_aload_n (dg hd_Mo_any 5 rfl) rfl ?_
      refine ux_callVi (As := []) (sp_Mo_look l  _) (by omega) cv_Mo_look wk_1009 rfl rfl rfl rfl rfl (Nat.le_of_ble_eq_true rfl) (dg hd_Mo_any 6 rfl) (fun r3 σ4 _ => ?_)
      refine ux_bipush (124 : Int32) (dg hd_Mo_any 7 rfl) (by decide) ?_
      refine ux_icmp_ne 44 (dg hd_Mo_any 8 rfl) (by decide) (fun _ => ?_) (fun _ => ?_)
      · refine ux_aload_n (dg hd_Mo_any 9 rfl) rfl ?_
        refine ux_dupr (dg hd_Mo_any 10 rfl) ?_
        refine ux_get fcX7 13 (by decide) wk_786 rfl rfl (dg hd_Mo_any 11 rfl) ?_
        refine ux_iconst (1 : Int32) (dg hd_Mo_any 12 rfl) (by decide) ?_
        refine ux_iadd (dg hd_Mo_any 13 rfl) ?_
        refine ux_put fcX7 13 (by decide) wk_786 rfl rfl ⟨rfl, rfl⟩ rfl rfl (dg hd_Mo_any 14 rfl) ?_
        refine ux_nas (fun σ5 => ?_)
        refine ux_aload_n (dg hd_Mo_any 15 rfl) rfl ?_
        refine ux_callVv (As := []) (hr1  _) (by omega) cv_Mo_all wk_989 rfl rfl rfl rfl rfl (Nat.le_of_ble_eq_true rfl) (dg hd_Mo_any 16 rfl) (fun r6 σ7 _ => ?_)
        refine ux_aload_n (dg hd_Mo_any 17 rfl) rfl ?_
        refine ux_bipush (124 : Int32) (dg hd_Mo_any 18 rfl) (by decide) ?_
        refine ux_iconst (0 : Int32) (dg hd_Mo_any 19 rfl) (by decide) ?_
        refine ux_callVv (As := [.int (124 : Int32), .int (0 : Int32)]) (sp_Mo_lays l (124 : Int32) (0 : Int32) _) (by omega) cv_Mo_lays wk_1017 rfl rfl rfl rfl rfl (Nat.le_of_ble_eq_true rfl) (dg hd_Mo_any 20 rfl) (fun r8 σ9 _ => ?_)
        refine ux_goto 4 (dg hd_Mo_any 21 rfl) (by decide) ?_
        refine ux_wk [(0, .ref 0)] [0] rfl ?_
        exact ih  σ9
      · exact ux_vret rfl (dg hd_Mo_any 22 rfl)
    · exact ux_vret rfl (dg hd_Mo_any 22 rfl)
def Mo_any (rec : Nat → Int32 → St → Option (Int32 × St))  (σ : St) : Option (Int32 × St) :=
  bnd (rec 1 0 σ) (fun r1 σ2 =>
  Mo_any_L4 rec 1000  σ2)
set_option maxRecDepth 100000 in
theorem wg_Mo_any (l : Launch) (rec : Nat → Int32 → St → Option (Int32 × St)) (dd : Nat) (hdd : 4 ≤ dd) (hr0 : ∀ (σ : St), Spc l shM dd md_Mo_any [.ref 0] σ (rec 0 0 σ)) (hr1 : ∀ (σ : St), Spc l shM dd md_Mo_all [.ref 0] σ (rec 1 0 σ)) (hr2 : ∀ (σ : St), Spc l shM dd md_Mo_compares [.ref 0] σ (rec 2 0 σ)) (hr3 : ∀ (σ : St), Spc l shM dd md_Mo_sum [.ref 0] σ (rec 3 0 σ)) (hr4 : ∀ (σ : St), Spc l shM dd md_Mo_times [.ref 0] σ (rec 4 0 σ)) (hr5 : ∀ (σ : St), Spc l shM dd md_Mo_one [.ref 0] σ (rec 5 0 σ)) (hr6 : ∀ (a0 : Int32) (σ : St), Spc l shM dd md_Mo_opens [.ref 0, .int a0] σ (rec 6 a0 σ)) (σ : St) : Spc l shM (dd + 1) md_Mo_any [.ref 0] σ (Mo_any rec  σ) := by
  refine Spc_of_Ux [(0, .ref 0)] (by decide) rfl (Nat.le_of_ble_eq_true rfl) ?_
  unfold Mo_any
  refine ux_aload_n (dg hd_Mo_any 0 rfl) rfl ?_
  refine ux_callVv (As := []) (hr1  _) (by omega) cv_Mo_all wk_989 rfl rfl rfl rfl rfl (Nat.le_of_ble_eq_true rfl) (dg hd_Mo_any 1 rfl) (fun r1 σ2 _ => ?_)
  refine ux_wk [(0, .ref 0)] [0] rfl ?_
  exact wk_Mo_any_L4 l rec dd hdd hr0 hr1 hr2 hr3 hr4 hr5 hr6 1000  σ2
def Mo_all_L4 (rec : Nat → Int32 → St → Option (Int32 × St)) : Nat → St → Option (Int32 × St)
  | 0, _ => none
  | n + 1, σ =>
    if (σ.1 0 15) = (0 : Int32) then (
    bnd (Mo_look  σ) (fun r3 σ4 =>
    if r3 = (38 : Int32) then (
    nas (sF σ4 0 13 ((σ4.1 0 13) + (1 : Int32))) (fun σ5 =>
    bnd (rec 2 0 σ5) (fun r6 σ7 =>
    bnd (Mo_lays (38 : Int32) (0 : Int32) σ7) (fun r8 σ9 =>
    Mo_all_L4 rec n  σ9)))) else (
    some (0, σ4)))) else (
    some (0, σ))
set_option maxRecDepth 100000 in
theorem wk_Mo_all_L4 (l : Launch) (rec : Nat → Int32 → St → Option (Int32 × St)) (dd : Nat) (hdd : 4 ≤ dd) (hr0 : ∀ (σ : St), Spc l shM dd md_Mo_any [.ref 0] σ (rec 0 0 σ)) (hr1 : ∀ (σ : St), Spc l shM dd md_Mo_all [.ref 0] σ (rec 1 0 σ)) (hr2 : ∀ (σ : St), Spc l shM dd md_Mo_compares [.ref 0] σ (rec 2 0 σ)) (hr3 : ∀ (σ : St), Spc l shM dd md_Mo_sum [.ref 0] σ (rec 3 0 σ)) (hr4 : ∀ (σ : St), Spc l shM dd md_Mo_times [.ref 0] σ (rec 4 0 σ)) (hr5 : ∀ (σ : St), Spc l shM dd md_Mo_one [.ref 0] σ (rec 5 0 σ)) (hr6 : ∀ (a0 : Int32) (σ : St), Spc l shM dd md_Mo_opens [.ref 0, .int a0] σ (rec 6 a0 σ)) : ∀ (n : Nat) (σ : St), Ux l shM (dd + 1) md_Mo_all 4 [(0, .ref 0)] [] σ (Mo_all_L4 rec n  σ) := by
  intro n
  induction n with
  | zero => intros; exact ux_none
  | succ n ih =>
    intro  σ
    unfold Mo_all_L4
    refine ux_aload_n (dg hd_Mo_all 2 rfl) rfl ?_
    refine ux_get fcX7 15 (by decide) wk_788 rfl rfl (dg hd_Mo_all 3 rfl) ?_
    refine ux_if_ne 44 (dg hd_Mo_all 4 rfl) (by decide) (fun _ => ?_) (fun _ => ?_)
    · refine ux_aload_n (dg hd_Mo_all 5 rfl) rfl ?_
      refine ux_callVi (As := []) (sp_Mo_look l  _) (by omega) cv_Mo_look wk_1009 rfl rfl rfl rfl rfl (Nat.le_of_ble_eq_true rfl) (dg hd_Mo_all 6 rfl) (fun r3 σ4 _ => ?_)
      refine ux_bipush (38 : Int32) (dg hd_Mo_all 7 rfl) (by decide) ?_
      refine ux_icmp_ne 44 (dg hd_Mo_all 8 rfl) (by decide) (fun _ => ?_) (fun _ => ?_)
      · refine ux_aload_n (dg hd_Mo_all 9 rfl) rfl ?_
        refine ux_dupr (dg hd_Mo_all 10 rfl) ?_
        refine ux_get fcX7 13 (by decide) wk_786 rfl rfl (dg hd_Mo_all 11 rfl) ?_
        refine ux_iconst (1 : Int32) (dg hd_Mo_all 12 rfl) (by decide) ?_
        refine ux_iadd (dg hd_Mo_all 13 rfl) ?_
        refine ux_put fcX7 13 (by decide) wk_786 rfl rfl ⟨rfl, rfl⟩ rfl rfl (dg hd_Mo_all 14 rfl) ?_
        refine ux_nas (fun σ5 => ?_)
        refine ux_aload_n (dg hd_Mo_all 15 rfl) rfl ?_
        refine ux_callVv (As := []) (hr2  _) (by omega) cv_Mo_compares wk_993 rfl rfl rfl rfl rfl (Nat.le_of_ble_eq_true rfl) (dg hd_Mo_all 16 rfl) (fun r6 σ7 _ => ?_)
        refine ux_aload_n (dg hd_Mo_all 17 rfl) rfl ?_
        refine ux_bipush (38 : Int32) (dg hd_Mo_all 18 rfl) (by decide) ?_
        refine ux_iconst (0 : Int32) (dg hd_Mo_all 19 rfl) (by decide) ?_
        refine ux_callVv (As := [.int (38 : Int32), .int (0 : Int32)]) (sp_Mo_lays l (38 : Int32) (0 : Int32) _) (by omega) cv_Mo_lays wk_1017 rfl rfl rfl rfl rfl (Nat.le_of_ble_eq_true rfl) (dg hd_Mo_all 20 rfl) (fun r8 σ9 _ => ?_)
        refine ux_goto 4 (dg hd_Mo_all 21 rfl) (by decide) ?_
        refine ux_wk [(0, .ref 0)] [0] rfl ?_
        exact ih  σ9
      · exact ux_vret rfl (dg hd_Mo_all 22 rfl)
    · exact ux_vret rfl (dg hd_Mo_all 22 rfl)
def Mo_all (rec : Nat → Int32 → St → Option (Int32 × St))  (σ : St) : Option (Int32 × St) :=
  bnd (rec 2 0 σ) (fun r1 σ2 =>
  Mo_all_L4 rec 1000  σ2)
set_option maxRecDepth 100000 in
theorem wg_Mo_all (l : Launch) (rec : Nat → Int32 → St → Option (Int32 × St)) (dd : Nat) (hdd : 4 ≤ dd) (hr0 : ∀ (σ : St), Spc l shM dd md_Mo_any [.ref 0] σ (rec 0 0 σ)) (hr1 : ∀ (σ : St), Spc l shM dd md_Mo_all [.ref 0] σ (rec 1 0 σ)) (hr2 : ∀ (σ : St), Spc l shM dd md_Mo_compares [.ref 0] σ (rec 2 0 σ)) (hr3 : ∀ (σ : St), Spc l shM dd md_Mo_sum [.ref 0] σ (rec 3 0 σ)) (hr4 : ∀ (σ : St), Spc l shM dd md_Mo_times [.ref 0] σ (rec 4 0 σ)) (hr5 : ∀ (σ : St), Spc l shM dd md_Mo_one [.ref 0] σ (rec 5 0 σ)) (hr6 : ∀ (a0 : Int32) (σ : St), Spc l shM dd md_Mo_opens [.ref 0, .int a0] σ (rec 6 a0 σ)) (σ : St) : Spc l shM (dd + 1) md_Mo_all [.ref 0] σ (Mo_all rec  σ) := by
  refine Spc_of_Ux [(0, .ref 0)] (by decide) rfl (Nat.le_of_ble_eq_true rfl) ?_
  unfold Mo_all
  refine ux_aload_n (dg hd_Mo_all 0 rfl) rfl ?_
  refine ux_callVv (As := []) (hr2  _) (by omega) cv_Mo_compares wk_993 rfl rfl rfl rfl rfl (Nat.le_of_ble_eq_true rfl) (dg hd_Mo_all 1 rfl) (fun r1 σ2 _ => ?_)
  refine ux_wk [(0, .ref 0)] [0] rfl ?_
  exact wk_Mo_all_L4 l rec dd hdd hr0 hr1 hr2 hr3 hr4 hr5 hr6 1000  σ2
def Mo_compares (rec : Nat → Int32 → St → Option (Int32 × St))  (σ : St) : Option (Int32 × St) :=
  bnd (rec 3 0 σ) (fun r1 σ2 =>
  bnd (Mo_look  σ2) (fun r3 σ4 =>
  if (σ4.1 0 15) = (0 : Int32) then (
  if r3 = (60 : Int32) then (
  nas (sF σ4 0 13 ((σ4.1 0 13) + (1 : Int32))) (fun σ5 =>
  bnd (rec 3 0 σ5) (fun r6 σ7 =>
  bnd (Mo_lays r3 (0 : Int32) σ7) (fun r8 σ9 =>
  some (0, σ9))))) else (
  if r3 = (61 : Int32) then (
  nas (sF σ4 0 13 ((σ4.1 0 13) + (1 : Int32))) (fun σ10 =>
  bnd (rec 3 0 σ10) (fun r11 σ12 =>
  bnd (Mo_lays r3 (0 : Int32) σ12) (fun r13 σ14 =>
  some (0, σ14))))) else (
  if r3 = (62 : Int32) then (
  nas (sF σ4 0 13 ((σ4.1 0 13) + (1 : Int32))) (fun σ15 =>
  bnd (rec 3 0 σ15) (fun r16 σ17 =>
  bnd (Mo_lays r3 (0 : Int32) σ17) (fun r18 σ19 =>
  some (0, σ19))))) else (
  some (0, σ4))))) else (
  some (0, σ4))))
set_option maxRecDepth 100000 in
theorem wg_Mo_compares (l : Launch) (rec : Nat → Int32 → St → Option (Int32 × St)) (dd : Nat) (hdd : 4 ≤ dd) (hr0 : ∀ (σ : St), Spc l shM dd md_Mo_any [.ref 0] σ (rec 0 0 σ)) (hr1 : ∀ (σ : St), Spc l shM dd md_Mo_all [.ref 0] σ (rec 1 0 σ)) (hr2 : ∀ (σ : St), Spc l shM dd md_Mo_compares [.ref 0] σ (rec 2 0 σ)) (hr3 : ∀ (σ : St), Spc l shM dd md_Mo_sum [.ref 0] σ (rec 3 0 σ)) (hr4 : ∀ (σ : St), Spc l shM dd md_Mo_times [.ref 0] σ (rec 4 0 σ)) (hr5 : ∀ (σ : St), Spc l shM dd md_Mo_one [.ref 0] σ (rec 5 0 σ)) (hr6 : ∀ (a0 : Int32) (σ : St), Spc l shM dd md_Mo_opens [.ref 0, .int a0] σ (rec 6 a0 σ)) (σ : St) : Spc l shM (dd + 1) md_Mo_compares [.ref 0] σ (Mo_compares rec  σ) := by
  refine Spc_of_Ux [(0, .ref 0)] (by decide) rfl (Nat.le_of_ble_eq_true rfl) ?_
  unfold Mo_compares
  refine ux_aload_n (dg hd_Mo_compares 0 rfl) rfl ?_
  refine ux_callVv (As := []) (hr3  _) (by omega) cv_Mo_sum wk_997 rfl rfl rfl rfl rfl (Nat.le_of_ble_eq_true rfl) (dg hd_Mo_compares 1 rfl) (fun r1 σ2 _ => ?_)
  refine ux_aload_n (dg hd_Mo_compares 2 rfl) rfl ?_
  refine ux_callVi (As := []) (sp_Mo_look l  _) (by omega) cv_Mo_look wk_1009 rfl rfl rfl rfl rfl (Nat.le_of_ble_eq_true rfl) (dg hd_Mo_compares 3 rfl) (fun r3 σ4 _ => ?_)
  refine ux_istore_n [(1, .int r3), (0, .ref 0)] (dg hd_Mo_compares 4 rfl) (by decide) rfl ?_
  refine ux_aload_n (dg hd_Mo_compares 5 rfl) rfl ?_
  refine ux_get fcX7 15 (by decide) wk_788 rfl rfl (dg hd_Mo_compares 6 rfl) ?_
  refine ux_if_ne 54 (dg hd_Mo_compares 7 rfl) (by decide) (fun _ => ?_) (fun _ => ?_)
  · refine ux_iload_n (dg hd_Mo_compares 8 rfl) rfl ?_
    refine ux_bipush (60 : Int32) (dg hd_Mo_compares 9 rfl) (by decide) ?_
    refine ux_icmp_eq 34 (dg hd_Mo_compares 10 rfl) (by decide) (fun _ => ?_) (fun _ => ?_)
    · refine ux_aload_n (dg hd_Mo_compares 17 rfl) rfl ?_
      refine ux_dupr (dg hd_Mo_compares 18 rfl) ?_
      refine ux_get fcX7 13 (by decide) wk_786 rfl rfl (dg hd_Mo_compares 19 rfl) ?_
      refine ux_iconst (1 : Int32) (dg hd_Mo_compares 20 rfl) (by decide) ?_
      refine ux_iadd (dg hd_Mo_compares 21 rfl) ?_
      refine ux_put fcX7 13 (by decide) wk_786 rfl rfl ⟨rfl, rfl⟩ rfl rfl (dg hd_Mo_compares 22 rfl) ?_
      refine ux_nas (fun σ5 => ?_)
      refine ux_aload_n (dg hd_Mo_compares 23 rfl) rfl ?_
      refine ux_callVv (As := []) (hr3  _) (by omega) cv_Mo_sum wk_997 rfl rfl rfl rfl rfl (Nat.le_of_ble_eq_true rfl) (dg hd_Mo_compares 24 rfl) (fun r6 σ7 _ => ?_)
      refine ux_aload_n (dg hd_Mo_compares 25 rfl) rfl ?_
      refine ux_iload_n (dg hd_Mo_compares 26 rfl) rfl ?_
      refine ux_iconst (0 : Int32) (dg hd_Mo_compares 27 rfl) (by decide) ?_
      refine ux_callVv (As := [.int r3, .int (0 : Int32)]) (sp_Mo_lays l r3 (0 : Int32) _) (by omega) cv_Mo_lays wk_1017 rfl rfl rfl rfl rfl (Nat.le_of_ble_eq_true rfl) (dg hd_Mo_compares 28 rfl) (fun r8 σ9 _ => ?_)
      exact ux_vret rfl (dg hd_Mo_compares 29 rfl)
    · refine ux_iload_n (dg hd_Mo_compares 11 rfl) rfl ?_
      refine ux_bipush (61 : Int32) (dg hd_Mo_compares 12 rfl) (by decide) ?_
      refine ux_icmp_eq 34 (dg hd_Mo_compares 13 rfl) (by decide) (fun _ => ?_) (fun _ => ?_)
      · refine ux_aload_n (dg hd_Mo_compares 17 rfl) rfl ?_
        refine ux_dupr (dg hd_Mo_compares 18 rfl) ?_
        refine ux_get fcX7 13 (by decide) wk_786 rfl rfl (dg hd_Mo_compares 19 rfl) ?_
        refine ux_iconst (1 : Int32) (dg hd_Mo_compares 20 rfl) (by decide) ?_
        refine ux_iadd (dg hd_Mo_compares 21 rfl) ?_
        refine ux_put fcX7 13 (by decide) wk_786 rfl rfl ⟨rfl, rfl⟩ rfl rfl (dg hd_Mo_compares 22 rfl) ?_
        refine ux_nas (fun σ10 => ?_)
        refine ux_aload_n (dg hd_Mo_compares 23 rfl) rfl ?_
        refine ux_callVv (As := []) (hr3  _) (by omega) cv_Mo_sum wk_997 rfl rfl rfl rfl rfl (Nat.le_of_ble_eq_true rfl) (dg hd_Mo_compares 24 rfl) (fun r11 σ12 _ => ?_)
        refine ux_aload_n (dg hd_Mo_compares 25 rfl) rfl ?_
        refine ux_iload_n (dg hd_Mo_compares 26 rfl) rfl ?_
        refine ux_iconst (0 : Int32) (dg hd_Mo_compares 27 rfl) (by decide) ?_
        refine ux_callVv (As := [.int r3, .int (0 : Int32)]) (sp_Mo_lays l r3 (0 : Int32) _) (by omega) cv_Mo_lays wk_1017 rfl rfl rfl rfl rfl (Nat.le_of_ble_eq_true rfl) (dg hd_Mo_compares 28 rfl) (fun r13 σ14 _ => ?_)
        exact ux_vret rfl (dg hd_Mo_compares 29 rfl)
      · refine ux_iload_n (dg hd_Mo_compares 14 rfl) rfl ?_
        refine ux_bipush (62 : Int32) (dg hd_Mo_compares 15 rfl) (by decide) ?_
        refine ux_icmp_ne 54 (dg hd_Mo_compares 16 rfl) (by decide) (fun _ => ?_) (fun _ => ?_)
        · refine ux_aload_n (dg hd_Mo_compares 17 rfl) rfl ?_
          refine ux_dupr (dg hd_Mo_compares 18 rfl) ?_
          refine ux_get fcX7 13 (by decide) wk_786 rfl rfl (dg hd_Mo_compares 19 rfl) ?_
          refine ux_iconst (1 : Int32) (dg hd_Mo_compares 20 rfl) (by decide) ?_
          refine ux_iadd (dg hd_Mo_compares 21 rfl) ?_
          refine ux_put fcX7 13 (by decide) wk_786 rfl rfl ⟨rfl, rfl⟩ rfl rfl (dg hd_Mo_compares 22 rfl) ?_
          refine ux_nas (fun σ15 => ?_)
          refine ux_aload_n (dg hd_Mo_compares 23 rfl) rfl ?_
          refine ux_callVv (As := []) (hr3  _) (by omega) cv_Mo_sum wk_997 rfl rfl rfl rfl rfl (Nat.le_of_ble_eq_true rfl) (dg hd_Mo_compares 24 rfl) (fun r16 σ17 _ => ?_)
          refine ux_aload_n (dg hd_Mo_compares 25 rfl) rfl ?_
          refine ux_iload_n (dg hd_Mo_compares 26 rfl) rfl ?_
          refine ux_iconst (0 : Int32) (dg hd_Mo_compares 27 rfl) (by decide) ?_
          refine ux_callVv (As := [.int r3, .int (0 : Int32)]) (sp_Mo_lays l r3 (0 : Int32) _) (by omega) cv_Mo_lays wk_1017 rfl rfl rfl rfl rfl (Nat.le_of_ble_eq_true rfl) (dg hd_Mo_compares 28 rfl) (fun r18 σ19 _ => ?_)
          exact ux_vret rfl (dg hd_Mo_compares 29 rfl)
        · exact ux_vret rfl (dg hd_Mo_compares 29 rfl)
  · exact ux_vret rfl (dg hd_Mo_compares 29 rfl)
def Mo_sum_L4 (rec : Nat → Int32 → St → Option (Int32 × St)) : Nat → St → Option (Int32 × St)
  | 0, _ => none
  | n + 1, σ =>
    if (σ.1 0 15) = (0 : Int32) then (
    bnd (Mo_look  σ) (fun r3 σ4 =>
    if r3 = (43 : Int32) then (
    bnd (Mo_look  σ4) (fun r5 σ6 =>
    nas (sF σ6 0 13 ((σ6.1 0 13) + (1 : Int32))) (fun σ7 =>
    bnd (rec 4 0 σ7) (fun r8 σ9 =>
    bnd (Mo_lays r5 (0 : Int32) σ9) (fun r10 σ11 =>
    Mo_sum_L4 rec n  σ11))))) else (
    bnd (Mo_look  σ4) (fun r12 σ13 =>
    if r12 = (45 : Int32) then (
    bnd (Mo_look  σ13) (fun r14 σ15 =>
    nas (sF σ15 0 13 ((σ15.1 0 13) + (1 : Int32))) (fun σ16 =>
    bnd (rec 4 0 σ16) (fun r17 σ18 =>
    bnd (Mo_lays r14 (0 : Int32) σ18) (fun r19 σ20 =>
    Mo_sum_L4 rec n  σ20))))) else (
    some (0, σ13)))))) else (
    some (0, σ))
set_option maxRecDepth 100000 in
theorem wk_Mo_sum_L4 (l : Launch) (rec : Nat → Int32 → St → Option (Int32 × St)) (dd : Nat) (hdd : 4 ≤ dd) (hr0 : ∀ (σ : St), Spc l shM dd md_Mo_any [.ref 0] σ (rec 0 0 σ)) (hr1 : ∀ (σ : St), Spc l shM dd md_Mo_all [.ref 0] σ (rec 1 0 σ)) (hr2 : ∀ (σ : St), Spc l shM dd md_Mo_compares [.ref 0] σ (rec 2 0 σ)) (hr3 : ∀ (σ : St), Spc l shM dd md_Mo_sum [.ref 0] σ (rec 3 0 σ)) (hr4 : ∀ (σ : St), Spc l shM dd md_Mo_times [.ref 0] σ (rec 4 0 σ)) (hr5 : ∀ (σ : St), Spc l shM dd md_Mo_one [.ref 0] σ (rec 5 0 σ)) (hr6 : ∀ (a0 : Int32) (σ : St), Spc l shM dd md_Mo_opens [.ref 0, .int a0] σ (rec 6 a0 σ)) : ∀ (n : Nat) (σ : St), Ux l shM (dd + 1) md_Mo_sum 4 [(0, .ref 0)] [] σ (Mo_sum_L4 rec n  σ) := by
  intro n
  induction n with
  | zero => intros; exact ux_none
  | succ n ih =>
    intro  σ
    unfold Mo_sum_L4
    refine ux_aload_n (dg hd_Mo_sum 2 rfl) rfl ?_
    refine ux_get fcX7 15 (by decide) wk_788 rfl rfl (dg hd_Mo_sum 3 rfl) ?_
    refine ux_if_ne 57 (dg hd_Mo_sum 4 rfl) (by decide) (fun _ => ?_) (fun _ => ?_)
    · refine ux_aload_n (dg hd_Mo_sum 5 rfl) rfl ?_
      refine ux_callVi (As := []) (sp_Mo_look l  _) (by omega) cv_Mo_look wk_1009 rfl rfl rfl rfl rfl (Nat.le_of_ble_eq_true rfl) (dg hd_Mo_sum 6 rfl) (fun r3 σ4 _ => ?_)
      refine ux_bipush (43 : Int32) (dg hd_Mo_sum 7 rfl) (by decide) ?_
      refine ux_icmp_eq 29 (dg hd_Mo_sum 8 rfl) (by decide) (fun _ => ?_) (fun _ => ?_)
      · refine ux_aload_n (dg hd_Mo_sum 13 rfl) rfl ?_
        refine ux_callVi (As := []) (sp_Mo_look l  _) (by omega) cv_Mo_look wk_1009 rfl rfl rfl rfl rfl (Nat.le_of_ble_eq_true rfl) (dg hd_Mo_sum 14 rfl) (fun r5 σ6 _ => ?_)
        refine ux_istore_n [(1, .int r5), (0, .ref 0)] (dg hd_Mo_sum 15 rfl) (by decide) rfl ?_
        refine ux_aload_n (dg hd_Mo_sum 16 rfl) rfl ?_
        refine ux_dupr (dg hd_Mo_sum 17 rfl) ?_
        refine ux_get fcX7 13 (by decide) wk_786 rfl rfl (dg hd_Mo_sum 18 rfl) ?_
        refine ux_iconst (1 : Int32) (dg hd_Mo_sum 19 rfl) (by decide) ?_
        refine ux_iadd (dg hd_Mo_sum 20 rfl) ?_
        refine ux_put fcX7 13 (by decide) wk_786 rfl rfl ⟨rfl, rfl⟩ rfl rfl (dg hd_Mo_sum 21 rfl) ?_
        refine ux_nas (fun σ7 => ?_)
        refine ux_aload_n (dg hd_Mo_sum 22 rfl) rfl ?_
        refine ux_callVv (As := []) (hr4  _) (by omega) cv_Mo_times wk_1001 rfl rfl rfl rfl rfl (Nat.le_of_ble_eq_true rfl) (dg hd_Mo_sum 23 rfl) (fun r8 σ9 _ => ?_)
        refine ux_aload_n (dg hd_Mo_sum 24 rfl) rfl ?_
        refine ux_iload_n (dg hd_Mo_sum 25 rfl) rfl ?_
        refine ux_iconst (0 : Int32) (dg hd_Mo_sum 26 rfl) (by decide) ?_
        refine ux_callVv (As := [.int r5, .int (0 : Int32)]) (sp_Mo_lays l r5 (0 : Int32) _) (by omega) cv_Mo_lays wk_1017 rfl rfl rfl rfl rfl (Nat.le_of_ble_eq_true rfl) (dg hd_Mo_sum 27 rfl) (fun r10 σ11 _ => ?_)
        refine ux_goto 4 (dg hd_Mo_sum 28 rfl) (by decide) ?_
        refine ux_wk [(0, .ref 0)] [1] rfl ?_
        exact ih  σ11
      · refine ux_aload_n (dg hd_Mo_sum 9 rfl) rfl ?_
        refine ux_callVi (As := []) (sp_Mo_look l  _) (by omega) cv_Mo_look wk_1009 rfl rfl rfl rfl rfl (Nat.le_of_ble_eq_true rfl) (dg hd_Mo_sum 10 rfl) (fun r12 σ13 _ => ?_)
        refine ux_bipush (45 : Int32) (dg hd_Mo_sum 11 rfl) (by decide) ?_
        refine ux_icmp_ne 57 (dg hd_Mo_sum 12 rfl) (by decide) (fun _ => ?_) (fun _ => ?_)
        · refine ux_aload_n (dg hd_Mo_sum 13 rfl) rfl ?_
          refine ux_callVi (As := []) (sp_Mo_look l  _) (by omega) cv_Mo_look wk_1009 rfl rfl rfl rfl rfl (Nat.le_of_ble_eq_true rfl) (dg hd_Mo_sum 14 rfl) (fun r14 σ15 _ => ?_)
          refine ux_istore_n [(1, .int r14), (0, .ref 0)] (dg hd_Mo_sum 15 rfl) (by decide) rfl ?_
          refine ux_aload_n (dg hd_Mo_sum 16 rfl) rfl ?_
          refine ux_dupr (dg hd_Mo_sum 17 rfl) ?_
          refine ux_get fcX7 13 (by decide) wk_786 rfl rfl (dg hd_Mo_sum 18 rfl) ?_
          refine ux_iconst (1 : Int32) (dg hd_Mo_sum 19 rfl) (by decide) ?_
          refine ux_iadd (dg hd_Mo_sum 20 rfl) ?_
          refine ux_put fcX7 13 (by decide) wk_786 rfl rfl ⟨rfl, rfl⟩ rfl rfl (dg hd_Mo_sum 21 rfl) ?_
          refine ux_nas (fun σ16 => ?_)
          refine ux_aload_n (dg hd_Mo_sum 22 rfl) rfl ?_
          refine ux_callVv (As := []) (hr4  _) (by omega) cv_Mo_times wk_1001 rfl rfl rfl rfl rfl (Nat.le_of_ble_eq_true rfl) (dg hd_Mo_sum 23 rfl) (fun r17 σ18 _ => ?_)
          refine ux_aload_n (dg hd_Mo_sum 24 rfl) rfl ?_
          refine ux_iload_n (dg hd_Mo_sum 25 rfl) rfl ?_
          refine ux_iconst (0 : Int32) (dg hd_Mo_sum 26 rfl) (by decide) ?_
          refine ux_callVv (As := [.int r14, .int (0 : Int32)]) (sp_Mo_lays l r14 (0 : Int32) _) (by omega) cv_Mo_lays wk_1017 rfl rfl rfl rfl rfl (Nat.le_of_ble_eq_true rfl) (dg hd_Mo_sum 27 rfl) (fun r19 σ20 _ => ?_)
          refine ux_goto 4 (dg hd_Mo_sum 28 rfl) (by decide) ?_
          refine ux_wk [(0, .ref 0)] [1] rfl ?_
          exact ih  σ20
        · exact ux_vret rfl (dg hd_Mo_sum 29 rfl)
    · exact ux_vret rfl (dg hd_Mo_sum 29 rfl)
def Mo_sum (rec : Nat → Int32 → St → Option (Int32 × St))  (σ : St) : Option (Int32 × St) :=
  bnd (rec 4 0 σ) (fun r1 σ2 =>
  Mo_sum_L4 rec 1000  σ2)
set_option maxRecDepth 100000 in
theorem wg_Mo_sum (l : Launch) (rec : Nat → Int32 → St → Option (Int32 × St)) (dd : Nat) (hdd : 4 ≤ dd) (hr0 : ∀ (σ : St), Spc l shM dd md_Mo_any [.ref 0] σ (rec 0 0 σ)) (hr1 : ∀ (σ : St), Spc l shM dd md_Mo_all [.ref 0] σ (rec 1 0 σ)) (hr2 : ∀ (σ : St), Spc l shM dd md_Mo_compares [.ref 0] σ (rec 2 0 σ)) (hr3 : ∀ (σ : St), Spc l shM dd md_Mo_sum [.ref 0] σ (rec 3 0 σ)) (hr4 : ∀ (σ : St), Spc l shM dd md_Mo_times [.ref 0] σ (rec 4 0 σ)) (hr5 : ∀ (σ : St), Spc l shM dd md_Mo_one [.ref 0] σ (rec 5 0 σ)) (hr6 : ∀ (a0 : Int32) (σ : St), Spc l shM dd md_Mo_opens [.ref 0, .int a0] σ (rec 6 a0 σ)) (σ : St) : Spc l shM (dd + 1) md_Mo_sum [.ref 0] σ (Mo_sum rec  σ) := by
  refine Spc_of_Ux [(0, .ref 0)] (by decide) rfl (Nat.le_of_ble_eq_true rfl) ?_
  unfold Mo_sum
  refine ux_aload_n (dg hd_Mo_sum 0 rfl) rfl ?_
  refine ux_callVv (As := []) (hr4  _) (by omega) cv_Mo_times wk_1001 rfl rfl rfl rfl rfl (Nat.le_of_ble_eq_true rfl) (dg hd_Mo_sum 1 rfl) (fun r1 σ2 _ => ?_)
  refine ux_wk [(0, .ref 0)] [0] rfl ?_
  exact wk_Mo_sum_L4 l rec dd hdd hr0 hr1 hr2 hr3 hr4 hr5 hr6 1000  σ2
def Mo_times_L4 (rec : Nat → Int32 → St → Option (Int32 × St)) : Nat → St → Option (Int32 × St)
  | 0, _ => none
  | n + 1, σ =>
    if (σ.1 0 15) = (0 : Int32) then (
    bnd (Mo_look  σ) (fun r3 σ4 =>
    if r3 = (42 : Int32) then (
    bnd (Mo_look  σ4) (fun r5 σ6 =>
    nas (sF σ6 0 13 ((σ6.1 0 13) + (1 : Int32))) (fun σ7 =>
    bnd (rec 5 0 σ7) (fun r8 σ9 =>
    bnd (Mo_lays r5 (0 : Int32) σ9) (fun r10 σ11 =>
    Mo_times_L4 rec n  σ11))))) else (
    bnd (Mo_look  σ4) (fun r12 σ13 =>
    if r12 = (47 : Int32) then (
    bnd (Mo_look  σ13) (fun r14 σ15 =>
    nas (sF σ15 0 13 ((σ15.1 0 13) + (1 : Int32))) (fun σ16 =>
    bnd (rec 5 0 σ16) (fun r17 σ18 =>
    bnd (Mo_lays r14 (0 : Int32) σ18) (fun r19 σ20 =>
    Mo_times_L4 rec n  σ20))))) else (
    bnd (Mo_look  σ13) (fun r21 σ22 =>
    if r21 = (37 : Int32) then (
    bnd (Mo_look  σ22) (fun r23 σ24 =>
    nas (sF σ24 0 13 ((σ24.1 0 13) + (1 : Int32))) (fun σ25 =>
    bnd (rec 5 0 σ25) (fun r26 σ27 =>
    bnd (Mo_lays r23 (0 : Int32) σ27) (fun r28 σ29 =>
    Mo_times_L4 rec n  σ29))))) else (
    some (0, σ22)))))))) else (
    some (0, σ))
set_option maxRecDepth 100000 in
theorem wk_Mo_times_L4 (l : Launch) (rec : Nat → Int32 → St → Option (Int32 × St)) (dd : Nat) (hdd : 4 ≤ dd) (hr0 : ∀ (σ : St), Spc l shM dd md_Mo_any [.ref 0] σ (rec 0 0 σ)) (hr1 : ∀ (σ : St), Spc l shM dd md_Mo_all [.ref 0] σ (rec 1 0 σ)) (hr2 : ∀ (σ : St), Spc l shM dd md_Mo_compares [.ref 0] σ (rec 2 0 σ)) (hr3 : ∀ (σ : St), Spc l shM dd md_Mo_sum [.ref 0] σ (rec 3 0 σ)) (hr4 : ∀ (σ : St), Spc l shM dd md_Mo_times [.ref 0] σ (rec 4 0 σ)) (hr5 : ∀ (σ : St), Spc l shM dd md_Mo_one [.ref 0] σ (rec 5 0 σ)) (hr6 : ∀ (a0 : Int32) (σ : St), Spc l shM dd md_Mo_opens [.ref 0, .int a0] σ (rec 6 a0 σ)) : ∀ (n : Nat) (σ : St), Ux l shM (dd + 1) md_Mo_times 4 [(0, .ref 0)] [] σ (Mo_times_L4 rec n  σ) := by
  intro n
  induction n with
  | zero => intros; exact ux_none
  | succ n ih =>
    intro  σ
    unfold Mo_times_L4
    refine ux_aload_n (dg hd_Mo_times 2 rfl) rfl ?_
    refine ux_get fcX7 15 (by decide) wk_788 rfl rfl (dg hd_Mo_times 3 rfl) ?_
    refine ux_if_ne 66 (dg hd_Mo_times 4 rfl) (by decide) (fun _ => ?_) (fun _ => ?_)
    · refine ux_aload_n (dg hd_Mo_times 5 rfl) rfl ?_
      refine ux_callVi (As := []) (sp_Mo_look l  _) (by omega) cv_Mo_look wk_1009 rfl rfl rfl rfl rfl (Nat.le_of_ble_eq_true rfl) (dg hd_Mo_times 6 rfl) (fun r3 σ4 _ => ?_)
      refine ux_bipush (42 : Int32) (dg hd_Mo_times 7 rfl) (by decide) ?_
      refine ux_icmp_eq 38 (dg hd_Mo_times 8 rfl) (by decide) (fun _ => ?_) (fun _ => ?_)
      · refine ux_aload_n (dg hd_Mo_times 17 rfl) rfl ?_
        refine ux_callVi (As := []) (sp_Mo_look l  _) (by omega) cv_Mo_look wk_1009 rfl rfl rfl rfl rfl (Nat.le_of_ble_eq_true rfl) (dg hd_Mo_times 18 rfl) (fun r5 σ6 _ => ?_)
        refine ux_istore_n [(1, .int r5), (0, .ref 0)] (dg hd_Mo_times 19 rfl) (by decide) rfl ?_
        refine ux_aload_n (dg hd_Mo_times 20 rfl) rfl ?_
        refine ux_dupr (dg hd_Mo_times 21 rfl) ?_
        refine ux_get fcX7 13 (by decide) wk_786 rfl rfl (dg hd_Mo_times 22 rfl) ?_
        refine ux_iconst (1 : Int32) (dg hd_Mo_times 23 rfl) (by decide) ?_
        refine ux_iadd (dg hd_Mo_times 24 rfl) ?_
        refine ux_put fcX7 13 (by decide) wk_786 rfl rfl ⟨rfl, rfl⟩ rfl rfl (dg hd_Mo_times 25 rfl) ?_
        refine ux_nas (fun σ7 => ?_)
        refine ux_aload_n (dg hd_Mo_times 26 rfl) rfl ?_
        refine ux_callVv (As := []) (hr5  _) (by omega) cv_Mo_one wk_1005 rfl rfl rfl rfl rfl (Nat.le_of_ble_eq_true rfl) (dg hd_Mo_times 27 rfl) (fun r8 σ9 _ => ?_)
        refine ux_aload_n (dg hd_Mo_times 28 rfl) rfl ?_
        refine ux_iload_n (dg hd_Mo_times 29 rfl) rfl ?_
        refine ux_iconst (0 : Int32) (dg hd_Mo_times 30 rfl) (by decide) ?_
        refine ux_callVv (As := [.int r5, .int (0 : Int32)]) (sp_Mo_lays l r5 (0 : Int32) _) (by omega) cv_Mo_lays wk_1017 rfl rfl rfl rfl rfl (Nat.le_of_ble_eq_true rfl) (dg hd_Mo_times 31 rfl) (fun r10 σ11 _ => ?_)
        refine ux_goto 4 (dg hd_Mo_times 32 rfl) (by decide) ?_
        refine ux_wk [(0, .ref 0)] [1] rfl ?_
        exact ih  σ11
      · refine ux_aload_n (dg hd_Mo_times 9 rfl) rfl ?_
        refine ux_callVi (As := []) (sp_Mo_look l  _) (by omega) cv_Mo_look wk_1009 rfl rfl rfl rfl rfl (Nat.le_of_ble_eq_true rfl) (dg hd_Mo_times 10 rfl) (fun r12 σ13 _ => ?_)
        refine ux_bipush (47 : Int32) (dg hd_Mo_times 11 rfl) (by decide) ?_
        refine ux_icmp_eq 38 (dg hd_Mo_times 12 rfl) (by decide) (fun _ => ?_) (fun _ => ?_)
        · refine ux_aload_n (dg hd_Mo_times 17 rfl) rfl ?_
          refine ux_callVi (As := []) (sp_Mo_look l  _) (by omega) cv_Mo_look wk_1009 rfl rfl rfl rfl rfl (Nat.le_of_ble_eq_true rfl) (dg hd_Mo_times 18 rfl) (fun r14 σ15 _ => ?_)
          refine ux_istore_n [(1, .int r14), (0, .ref 0)] (dg hd_Mo_times 19 rfl) (by decide) rfl ?_
          refine ux_aload_n (dg hd_Mo_times 20 rfl) rfl ?_
          refine ux_dupr (dg hd_Mo_times 21 rfl) ?_
          refine ux_get fcX7 13 (by decide) wk_786 rfl rfl (dg hd_Mo_times 22 rfl) ?_
          refine ux_iconst (1 : Int32) (dg hd_Mo_times 23 rfl) (by decide) ?_
          refine ux_iadd (dg hd_Mo_times 24 rfl) ?_
          refine ux_put fcX7 13 (by decide) wk_786 rfl rfl ⟨rfl, rfl⟩ rfl rfl (dg hd_Mo_times 25 rfl) ?_
          refine ux_nas (fun σ16 => ?_)
          refine ux_aload_n (dg hd_Mo_times 26 rfl) rfl ?_
          refine ux_callVv (As := []) (hr5  _) (by omega) cv_Mo_one wk_1005 rfl rfl rfl rfl rfl (Nat.le_of_ble_eq_true rfl) (dg hd_Mo_times 27 rfl) (fun r17 σ18 _ => ?_)
          refine ux_aload_n (dg hd_Mo_times 28 rfl) rfl ?_
          refine ux_iload_n (dg hd_Mo_times 29 rfl) rfl ?_
          refine ux_iconst (0 : Int32) (dg hd_Mo_times 30 rfl) (by decide) ?_
          refine ux_callVv (As := [.int r14, .int (0 : Int32)]) (sp_Mo_lays l r14 (0 : Int32) _) (by omega) cv_Mo_lays wk_1017 rfl rfl rfl rfl rfl (Nat.le_of_ble_eq_true rfl) (dg hd_Mo_times 31 rfl) (fun r19 σ20 _ => ?_)
          refine ux_goto 4 (dg hd_Mo_times 32 rfl) (by decide) ?_
          refine ux_wk [(0, .ref 0)] [1] rfl ?_
          exact ih  σ20
        · refine ux_aload_n (dg hd_Mo_times 13 rfl) rfl ?_
          refine ux_callVi (As := []) (sp_Mo_look l  _) (by omega) cv_Mo_look wk_1009 rfl rfl rfl rfl rfl (Nat.le_of_ble_eq_true rfl) (dg hd_Mo_times 14 rfl) (fun r21 σ22 _ => ?_)
          refine ux_bipush (37 : Int32) (dg hd_Mo_times 15 rfl) (by decide) ?_
          refine ux_icmp_ne 66 (dg hd_Mo_times 16 rfl) (by decide) (fun _ => ?_) (fun _ => ?_)
          · refine ux_aload_n (dg hd_Mo_times 17 rfl) rfl ?_
            refine ux_callVi (As := []) (sp_Mo_look l  _) (by omega) cv_Mo_look wk_1009 rfl rfl rfl rfl rfl (Nat.le_of_ble_eq_true rfl) (dg hd_Mo_times 18 rfl) (fun r23 σ24 _ => ?_)
            refine ux_istore_n [(1, .int r23), (0, .ref 0)] (dg hd_Mo_times 19 rfl) (by decide) rfl ?_
            refine ux_aload_n (dg hd_Mo_times 20 rfl) rfl ?_
            refine ux_dupr (dg hd_Mo_times 21 rfl) ?_
            refine ux_get fcX7 13 (by decide) wk_786 rfl rfl (dg hd_Mo_times 22 rfl) ?_
            refine ux_iconst (1 : Int32) (dg hd_Mo_times 23 rfl) (by decide) ?_
            refine ux_iadd (dg hd_Mo_times 24 rfl) ?_
            refine ux_put fcX7 13 (by decide) wk_786 rfl rfl ⟨rfl, rfl⟩ rfl rfl (dg hd_Mo_times 25 rfl) ?_
            refine ux_nas (fun σ25 => ?_)
            refine ux_aload_n (dg hd_Mo_times 26 rfl) rfl ?_
            refine ux_callVv (As := []) (hr5  _) (by omega) cv_Mo_one wk_1005 rfl rfl rfl rfl rfl (Nat.le_of_ble_eq_true rfl) (dg hd_Mo_times 27 rfl) (fun r26 σ27 _ => ?_)
            refine ux_aload_n (dg hd_Mo_times 28 rfl) rfl ?_
            refine ux_iload_n (dg hd_Mo_times 29 rfl) rfl ?_
            refine ux_iconst (0 : Int32) (dg hd_Mo_times 30 rfl) (by decide) ?_
            refine ux_callVv (As := [.int r23, .int (0 : Int32)]) (sp_Mo_lays l r23 (0 : Int32) _) (by omega) cv_Mo_lays wk_1017 rfl rfl rfl rfl rfl (Nat.le_of_ble_eq_true rfl) (dg hd_Mo_times 31 rfl) (fun r28 σ29 _ => ?_)
            refine ux_goto 4 (dg hd_Mo_times 32 rfl) (by decide) ?_
            refine ux_wk [(0, .ref 0)] [1] rfl ?_
            exact ih  σ29
          · exact ux_vret rfl (dg hd_Mo_times 33 rfl)
    · exact ux_vret rfl (dg hd_Mo_times 33 rfl)
def Mo_times (rec : Nat → Int32 → St → Option (Int32 × St))  (σ : St) : Option (Int32 × St) :=
  bnd (rec 5 0 σ) (fun r1 σ2 =>
  Mo_times_L4 rec 1000  σ2)
set_option maxRecDepth 100000 in
theorem wg_Mo_times (l : Launch) (rec : Nat → Int32 → St → Option (Int32 × St)) (dd : Nat) (hdd : 4 ≤ dd) (hr0 : ∀ (σ : St), Spc l shM dd md_Mo_any [.ref 0] σ (rec 0 0 σ)) (hr1 : ∀ (σ : St), Spc l shM dd md_Mo_all [.ref 0] σ (rec 1 0 σ)) (hr2 : ∀ (σ : St), Spc l shM dd md_Mo_compares [.ref 0] σ (rec 2 0 σ)) (hr3 : ∀ (σ : St), Spc l shM dd md_Mo_sum [.ref 0] σ (rec 3 0 σ)) (hr4 : ∀ (σ : St), Spc l shM dd md_Mo_times [.ref 0] σ (rec 4 0 σ)) (hr5 : ∀ (σ : St), Spc l shM dd md_Mo_one [.ref 0] σ (rec 5 0 σ)) (hr6 : ∀ (a0 : Int32) (σ : St), Spc l shM dd md_Mo_opens [.ref 0, .int a0] σ (rec 6 a0 σ)) (σ : St) : Spc l shM (dd + 1) md_Mo_times [.ref 0] σ (Mo_times rec  σ) := by
  refine Spc_of_Ux [(0, .ref 0)] (by decide) rfl (Nat.le_of_ble_eq_true rfl) ?_
  unfold Mo_times
  refine ux_aload_n (dg hd_Mo_times 0 rfl) rfl ?_
  refine ux_callVv (As := []) (hr5  _) (by omega) cv_Mo_one wk_1005 rfl rfl rfl rfl rfl (Nat.le_of_ble_eq_true rfl) (dg hd_Mo_times 1 rfl) (fun r1 σ2 _ => ?_)
  refine ux_wk [(0, .ref 0)] [0] rfl ?_
  exact wk_Mo_times_L4 l rec dd hdd hr0 hr1 hr2 hr3 hr4 hr5 hr6 1000  σ2
def Mo_one (rec : Nat → Int32 → St → Option (Int32 × St))  (σ : St) : Option (Int32 × St) :=
  bnd (Mo_look  σ) (fun r1 σ2 =>
  bnd (Mo_nameOf r1 σ2) (fun r3 σ4 =>
  if r3 < (0 : Int32) then (
  if r1 = (33 : Int32) then (
  bnd (rec 6 r1 σ4) (fun r5 σ6 =>
  some (0, σ6))) else (
  if r1 = (40 : Int32) then (
  bnd (rec 6 r1 σ4) (fun r9 σ10 =>
  some (0, σ10))) else (
  bnd (Mo_number  σ4) (fun r7 σ8 =>
  some (0, σ8))))) else (
  nas (sF σ4 0 13 ((σ4.1 0 13) + (1 : Int32))) (fun σ11 =>
  bnd (Mo_lays (2 : Int32) r3 σ11) (fun r12 σ13 =>
  some (0, σ13))))))
set_option maxRecDepth 100000 in
theorem wg_Mo_one (l : Launch) (rec : Nat → Int32 → St → Option (Int32 × St)) (dd : Nat) (hdd : 4 ≤ dd) (hr0 : ∀ (σ : St), Spc l shM dd md_Mo_any [.ref 0] σ (rec 0 0 σ)) (hr1 : ∀ (σ : St), Spc l shM dd md_Mo_all [.ref 0] σ (rec 1 0 σ)) (hr2 : ∀ (σ : St), Spc l shM dd md_Mo_compares [.ref 0] σ (rec 2 0 σ)) (hr3 : ∀ (σ : St), Spc l shM dd md_Mo_sum [.ref 0] σ (rec 3 0 σ)) (hr4 : ∀ (σ : St), Spc l shM dd md_Mo_times [.ref 0] σ (rec 4 0 σ)) (hr5 : ∀ (σ : St), Spc l shM dd md_Mo_one [.ref 0] σ (rec 5 0 σ)) (hr6 : ∀ (a0 : Int32) (σ : St), Spc l shM dd md_Mo_opens [.ref 0, .int a0] σ (rec 6 a0 σ)) (σ : St) : Spc l shM (dd + 1) md_Mo_one [.ref 0] σ (Mo_one rec  σ) := by
  refine Spc_of_Ux [(0, .ref 0)] (by decide) rfl (Nat.le_of_ble_eq_true rfl) ?_
  unfold Mo_one
  refine ux_aload_n (dg hd_Mo_one 0 rfl) rfl ?_
  refine ux_callVi (As := []) (sp_Mo_look l  _) (by omega) cv_Mo_look wk_1009 rfl rfl rfl rfl rfl (Nat.le_of_ble_eq_true rfl) (dg hd_Mo_one 1 rfl) (fun r1 σ2 _ => ?_)
  refine ux_istore_n [(1, .int r1), (0, .ref 0)] (dg hd_Mo_one 2 rfl) (by decide) rfl ?_
  refine ux_aload_n (dg hd_Mo_one 3 rfl) rfl ?_
  refine ux_iload_n (dg hd_Mo_one 4 rfl) rfl ?_
  refine ux_callVi (As := [.int r1]) (sp_Mo_nameOf l r1 _) (by omega) cv_Mo_nameOf wk_1013 rfl rfl rfl rfl rfl (Nat.le_of_ble_eq_true rfl) (dg hd_Mo_one 5 rfl) (fun r3 σ4 _ => ?_)
  refine ux_istore_n [(2, .int r3), (1, .int r1), (0, .ref 0)] (dg hd_Mo_one 6 rfl) (by decide) rfl ?_
  refine ux_iload_n (dg hd_Mo_one 7 rfl) rfl ?_
  refine ux_if_lt 34 (dg hd_Mo_one 8 rfl) (by decide) (fun _ => ?_) (fun _ => ?_)
  · refine ux_iload_n (dg hd_Mo_one 20 rfl) rfl ?_
    refine ux_bipush (33 : Int32) (dg hd_Mo_one 21 rfl) (by decide) ?_
    refine ux_icmp_eq 46 (dg hd_Mo_one 22 rfl) (by decide) (fun _ => ?_) (fun _ => ?_)
    · refine ux_aload_n (dg hd_Mo_one 26 rfl) rfl ?_
      refine ux_iload_n (dg hd_Mo_one 27 rfl) rfl ?_
      refine ux_callVv (As := [.int r1]) (hr6 r1 _) (by omega) cv_Mo_opens wk_1021 rfl rfl rfl rfl rfl (Nat.le_of_ble_eq_true rfl) (dg hd_Mo_one 28 rfl) (fun r5 σ6 _ => ?_)
      refine ux_goto 58 (dg hd_Mo_one 29 rfl) (by decide) ?_
      exact ux_vret rfl (dg hd_Mo_one 32 rfl)
    · refine ux_iload_n (dg hd_Mo_one 23 rfl) rfl ?_
      refine ux_bipush (40 : Int32) (dg hd_Mo_one 24 rfl) (by decide) ?_
      refine ux_icmp_ne 54 (dg hd_Mo_one 25 rfl) (by decide) (fun _ => ?_) (fun _ => ?_)
      · refine ux_aload_n (dg hd_Mo_one 26 rfl) rfl ?_
        refine ux_iload_n (dg hd_Mo_one 27 rfl) rfl ?_
        refine ux_callVv (As := [.int r1]) (hr6 r1 _) (by omega) cv_Mo_opens wk_1021 rfl rfl rfl rfl rfl (Nat.le_of_ble_eq_true rfl) (dg hd_Mo_one 28 rfl) (fun r9 σ10 _ => ?_)
        refine ux_goto 58 (dg hd_Mo_one 29 rfl) (by decide) ?_
        exact ux_vret rfl (dg hd_Mo_one 32 rfl)
      · refine ux_aload_n (dg hd_Mo_one 30 rfl) rfl ?_
        refine ux_callVv (As := []) (sp_Mo_number l  _) (by omega) cv_Mo_number wk_1025 rfl rfl rfl rfl rfl (Nat.le_of_ble_eq_true rfl) (dg hd_Mo_one 31 rfl) (fun r7 σ8 _ => ?_)
        exact ux_vret rfl (dg hd_Mo_one 32 rfl)
  · refine ux_aload_n (dg hd_Mo_one 9 rfl) rfl ?_
    refine ux_dupr (dg hd_Mo_one 10 rfl) ?_
    refine ux_get fcX7 13 (by decide) wk_786 rfl rfl (dg hd_Mo_one 11 rfl) ?_
    refine ux_iconst (1 : Int32) (dg hd_Mo_one 12 rfl) (by decide) ?_
    refine ux_iadd (dg hd_Mo_one 13 rfl) ?_
    refine ux_put fcX7 13 (by decide) wk_786 rfl rfl ⟨rfl, rfl⟩ rfl rfl (dg hd_Mo_one 14 rfl) ?_
    refine ux_nas (fun σ11 => ?_)
    refine ux_aload_n (dg hd_Mo_one 15 rfl) rfl ?_
    refine ux_iconst (2 : Int32) (dg hd_Mo_one 16 rfl) (by decide) ?_
    refine ux_iload_n (dg hd_Mo_one 17 rfl) rfl ?_
    refine ux_callVv (As := [.int (2 : Int32), .int r3]) (sp_Mo_lays l (2 : Int32) r3 _) (by omega) cv_Mo_lays wk_1017 rfl rfl rfl rfl rfl (Nat.le_of_ble_eq_true rfl) (dg hd_Mo_one 18 rfl) (fun r12 σ13 _ => ?_)
    refine ux_goto 58 (dg hd_Mo_one 19 rfl) (by decide) ?_
    exact ux_vret rfl (dg hd_Mo_one 32 rfl)
def Mo_opens (rec : Nat → Int32 → St → Option (Int32 × St)) (p1 : Int32) (σ : St) : Option (Int32 × St) :=
  if (σ.1 0 14) = (5 : Int32) then (
  nas (sF σ 0 15 (1 : Int32)) (fun σ27 =>
  some (0, σ27))) else (
  nas (sF σ 0 14 ((σ.1 0 14) + (1 : Int32))) (fun σ1 =>
  nas (sF σ1 0 13 ((σ1.1 0 13) + (1 : Int32))) (fun σ2 =>
  if p1 = (33 : Int32) then (
  bnd (rec 5 0 σ2) (fun r22 σ23 =>
  bnd (Mo_lays (3 : Int32) (0 : Int32) σ23) (fun r24 σ25 =>
  nas (sF σ25 0 14 ((σ25.1 0 14) - (1 : Int32))) (fun σ26 =>
  some (0, σ26))))) else (
  bnd (rec 0 0 σ2) (fun r3 σ4 =>
  if (σ4.1 0 15) = (0 : Int32) then (
  bnd (Mo_look  σ4) (fun r10 σ11 =>
  if r10 = (41 : Int32) then (
  nas (sF σ11 0 15 (0 : Int32)) (fun σ12 =>
  if (σ12.1 0 15) = (0 : Int32) then (
  nas (sF σ12 0 13 ((σ12.1 0 13) + (1 : Int32))) (fun σ13 =>
  nas (sF σ13 0 14 ((σ13.1 0 14) - (1 : Int32))) (fun σ14 =>
  some (0, σ14)))) else (
  nas (sF σ12 0 13 ((σ12.1 0 13) + (0 : Int32))) (fun σ15 =>
  nas (sF σ15 0 14 ((σ15.1 0 14) - (1 : Int32))) (fun σ16 =>
  some (0, σ16)))))) else (
  nas (sF σ11 0 15 (1 : Int32)) (fun σ17 =>
  if (σ17.1 0 15) = (0 : Int32) then (
  nas (sF σ17 0 13 ((σ17.1 0 13) + (1 : Int32))) (fun σ18 =>
  nas (sF σ18 0 14 ((σ18.1 0 14) - (1 : Int32))) (fun σ19 =>
  some (0, σ19)))) else (
  nas (sF σ17 0 13 ((σ17.1 0 13) + (0 : Int32))) (fun σ20 =>
  nas (sF σ20 0 14 ((σ20.1 0 14) - (1 : Int32))) (fun σ21 =>
  some (0, σ21)))))))) else (
  nas (sF σ4 0 15 (1 : Int32)) (fun σ5 =>
  if (σ5.1 0 15) = (0 : Int32) then (
  nas (sF σ5 0 13 ((σ5.1 0 13) + (1 : Int32))) (fun σ6 =>
  nas (sF σ6 0 14 ((σ6.1 0 14) - (1 : Int32))) (fun σ7 =>
  some (0, σ7)))) else (
  nas (sF σ5 0 13 ((σ5.1 0 13) + (0 : Int32))) (fun σ8 =>
  nas (sF σ8 0 14 ((σ8.1 0 14) - (1 : Int32))) (fun σ9 =>
  some (0, σ9)))))))))))
set_option maxRecDepth 100000 in
theorem wg_Mo_opens (l : Launch) (rec : Nat → Int32 → St → Option (Int32 × St)) (dd : Nat) (hdd : 4 ≤ dd) (hr0 : ∀ (σ : St), Spc l shM dd md_Mo_any [.ref 0] σ (rec 0 0 σ)) (hr1 : ∀ (σ : St), Spc l shM dd md_Mo_all [.ref 0] σ (rec 1 0 σ)) (hr2 : ∀ (σ : St), Spc l shM dd md_Mo_compares [.ref 0] σ (rec 2 0 σ)) (hr3 : ∀ (σ : St), Spc l shM dd md_Mo_sum [.ref 0] σ (rec 3 0 σ)) (hr4 : ∀ (σ : St), Spc l shM dd md_Mo_times [.ref 0] σ (rec 4 0 σ)) (hr5 : ∀ (σ : St), Spc l shM dd md_Mo_one [.ref 0] σ (rec 5 0 σ)) (hr6 : ∀ (a0 : Int32) (σ : St), Spc l shM dd md_Mo_opens [.ref 0, .int a0] σ (rec 6 a0 σ)) (p1 : Int32) (σ : St) : Spc l shM (dd + 1) md_Mo_opens [.ref 0, .int p1] σ (Mo_opens rec p1 σ) := by
  refine Spc_of_Ux [(0, .ref 0), (1, .int p1)] (by decide) rfl (Nat.le_of_ble_eq_true rfl) ?_
  unfold Mo_opens
  refine ux_aload_n (dg hd_Mo_opens 0 rfl) rfl ?_
  refine ux_get fcX7 14 (by decide) wk_787 rfl rfl (dg hd_Mo_opens 1 rfl) ?_
  refine ux_iconst (5 : Int32) (dg hd_Mo_opens 2 rfl) (by decide) ?_
  refine ux_icmp_ne 14 (dg hd_Mo_opens 3 rfl) (by decide) (fun _ => ?_) (fun _ => ?_)
  · refine ux_aload_n (dg hd_Mo_opens 4 rfl) rfl ?_
    refine ux_iconst (1 : Int32) (dg hd_Mo_opens 5 rfl) (by decide) ?_
    refine ux_put fcX7 15 (by decide) wk_788 rfl rfl (isB_n (by decide)) rfl rfl (dg hd_Mo_opens 6 rfl) ?_
    refine ux_nas (fun σ27 => ?_)
    exact ux_vret rfl (dg hd_Mo_opens 7 rfl)
  · refine ux_aload_n (dg hd_Mo_opens 8 rfl) rfl ?_
    refine ux_dupr (dg hd_Mo_opens 9 rfl) ?_
    refine ux_get fcX7 14 (by decide) wk_787 rfl rfl (dg hd_Mo_opens 10 rfl) ?_
    refine ux_iconst (1 : Int32) (dg hd_Mo_opens 11 rfl) (by decide) ?_
    refine ux_iadd (dg hd_Mo_opens 12 rfl) ?_
    refine ux_put fcX7 14 (by decide) wk_787 rfl rfl ⟨rfl, rfl⟩ rfl rfl (dg hd_Mo_opens 13 rfl) ?_
    refine ux_nas (fun σ1 => ?_)
    refine ux_aload_n (dg hd_Mo_opens 14 rfl) rfl ?_
    refine ux_dupr (dg hd_Mo_opens 15 rfl) ?_
    refine ux_get fcX7 13 (by decide) wk_786 rfl rfl (dg hd_Mo_opens 16 rfl) ?_
    refine ux_iconst (1 : Int32) (dg hd_Mo_opens 17 rfl) (by decide) ?_
    refine ux_iadd (dg hd_Mo_opens 18 rfl) ?_
    refine ux_put fcX7 13 (by decide) wk_786 rfl rfl ⟨rfl, rfl⟩ rfl rfl (dg hd_Mo_opens 19 rfl) ?_
    refine ux_nas (fun σ2 => ?_)
    refine ux_iload_n (dg hd_Mo_opens 20 rfl) rfl ?_
    refine ux_bipush (33 : Int32) (dg hd_Mo_opens 21 rfl) (by decide) ?_
    refine ux_icmp_ne 53 (dg hd_Mo_opens 22 rfl) (by decide) (fun _ => ?_) (fun _ => ?_)
    · refine ux_aload_n (dg hd_Mo_opens 23 rfl) rfl ?_
      refine ux_callVv (As := []) (hr5  _) (by omega) cv_Mo_one wk_1005 rfl rfl rfl rfl rfl (Nat.le_of_ble_eq_true rfl) (dg hd_Mo_opens 24 rfl) (fun r22 σ23 _ => ?_)
      refine ux_aload_n (dg hd_Mo_opens 25 rfl) rfl ?_
      refine ux_iconst (3 : Int32) (dg hd_Mo_opens 26 rfl) (by decide) ?_
      refine ux_iconst (0 : Int32) (dg hd_Mo_opens 27 rfl) (by decide) ?_
      refine ux_callVv (As := [.int (3 : Int32), .int (0 : Int32)]) (sp_Mo_lays l (3 : Int32) (0 : Int32) _) (by omega) cv_Mo_lays wk_1017 rfl rfl rfl rfl rfl (Nat.le_of_ble_eq_true rfl) (dg hd_Mo_opens 28 rfl) (fun r24 σ25 _ => ?_)
      refine ux_goto 103 (dg hd_Mo_opens 29 rfl) (by decide) ?_
      refine ux_aload_n (dg hd_Mo_opens 55 rfl) rfl ?_
      refine ux_dupr (dg hd_Mo_opens 56 rfl) ?_
      refine ux_get fcX7 14 (by decide) wk_787 rfl rfl (dg hd_Mo_opens 57 rfl) ?_
      refine ux_iconst (1 : Int32) (dg hd_Mo_opens 58 rfl) (by decide) ?_
      refine ux_isub (dg hd_Mo_opens 59 rfl) ?_
      refine ux_put fcX7 14 (by decide) wk_787 rfl rfl ⟨rfl, rfl⟩ rfl rfl (dg hd_Mo_opens 60 rfl) ?_
      refine ux_nas (fun σ26 => ?_)
      exact ux_vret rfl (dg hd_Mo_opens 61 rfl)
    · refine ux_aload_n (dg hd_Mo_opens 30 rfl) rfl ?_
      refine ux_callVv (As := []) (hr0  _) (by omega) cv_Mo_any wk_985 rfl rfl rfl rfl rfl (Nat.le_of_ble_eq_true rfl) (dg hd_Mo_opens 31 rfl) (fun r3 σ4 _ => ?_)
      refine ux_aload_n (dg hd_Mo_opens 32 rfl) rfl ?_
      refine ux_aload_n (dg hd_Mo_opens 33 rfl) rfl ?_
      refine ux_get fcX7 15 (by decide) wk_788 rfl rfl (dg hd_Mo_opens 34 rfl) ?_
      refine ux_if_ne 74 (dg hd_Mo_opens 35 rfl) (by decide) (fun _ => ?_) (fun _ => ?_)
      · refine ux_aload_n (dg hd_Mo_opens 36 rfl) rfl ?_
        refine ux_callVi (As := []) (sp_Mo_look l  _) (by omega) cv_Mo_look wk_1009 rfl rfl rfl rfl rfl (Nat.le_of_ble_eq_true rfl) (dg hd_Mo_opens 37 rfl) (fun r10 σ11 _ => ?_)
        refine ux_bipush (41 : Int32) (dg hd_Mo_opens 38 rfl) (by decide) ?_
        refine ux_icmp_eq 78 (dg hd_Mo_opens 39 rfl) (by decide) (fun _ => ?_) (fun _ => ?_)
        · refine ux_iconst (0 : Int32) (dg hd_Mo_opens 42 rfl) (by decide) ?_
          refine ux_put fcX7 15 (by decide) wk_788 rfl rfl (isB_n (by decide)) rfl rfl (dg hd_Mo_opens 43 rfl) ?_
          refine ux_nas (fun σ12 => ?_)
          refine ux_aload_n (dg hd_Mo_opens 44 rfl) rfl ?_
          refine ux_dupr (dg hd_Mo_opens 45 rfl) ?_
          refine ux_get fcX7 13 (by decide) wk_786 rfl rfl (dg hd_Mo_opens 46 rfl) ?_
          refine ux_aload_n (dg hd_Mo_opens 47 rfl) rfl ?_
          refine ux_get fcX7 15 (by decide) wk_788 rfl rfl (dg hd_Mo_opens 48 rfl) ?_
          refine ux_if_eq 98 (dg hd_Mo_opens 49 rfl) (by decide) (fun _ => ?_) (fun _ => ?_)
          · refine ux_iconst (1 : Int32) (dg hd_Mo_opens 52 rfl) (by decide) ?_
            refine ux_iadd (dg hd_Mo_opens 53 rfl) ?_
            refine ux_put fcX7 13 (by decide) wk_786 rfl rfl ⟨rfl, rfl⟩ rfl rfl (dg hd_Mo_opens 54 rfl) ?_
            refine ux_nas (fun σ13 => ?_)
            refine ux_aload_n (dg hd_Mo_opens 55 rfl) rfl ?_
            refine ux_dupr (dg hd_Mo_opens 56 rfl) ?_
            refine ux_get fcX7 14 (by decide) wk_787 rfl rfl (dg hd_Mo_opens 57 rfl) ?_
            refine ux_iconst (1 : Int32) (dg hd_Mo_opens 58 rfl) (by decide) ?_
            refine ux_isub (dg hd_Mo_opens 59 rfl) ?_
            refine ux_put fcX7 14 (by decide) wk_787 rfl rfl ⟨rfl, rfl⟩ rfl rfl (dg hd_Mo_opens 60 rfl) ?_
            refine ux_nas (fun σ14 => ?_)
            exact ux_vret rfl (dg hd_Mo_opens 61 rfl)
          · refine ux_iconst (0 : Int32) (dg hd_Mo_opens 50 rfl) (by decide) ?_
            refine ux_goto 99 (dg hd_Mo_opens 51 rfl) (by decide) ?_
            refine ux_iadd (dg hd_Mo_opens 53 rfl) ?_
            refine ux_put fcX7 13 (by decide) wk_786 rfl rfl ⟨rfl, rfl⟩ rfl rfl (dg hd_Mo_opens 54 rfl) ?_
            refine ux_nas (fun σ15 => ?_)
            refine ux_aload_n (dg hd_Mo_opens 55 rfl) rfl ?_
            refine ux_dupr (dg hd_Mo_opens 56 rfl) ?_
            refine ux_get fcX7 14 (by decide) wk_787 rfl rfl (dg hd_Mo_opens 57 rfl) ?_
            refine ux_iconst (1 : Int32) (dg hd_Mo_opens 58 rfl) (by decide) ?_
            refine ux_isub (dg hd_Mo_opens 59 rfl) ?_
            refine ux_put fcX7 14 (by decide) wk_787 rfl rfl ⟨rfl, rfl⟩ rfl rfl (dg hd_Mo_opens 60 rfl) ?_
            refine ux_nas (fun σ16 => ?_)
            exact ux_vret rfl (dg hd_Mo_opens 61 rfl)
        · refine ux_iconst (1 : Int32) (dg hd_Mo_opens 40 rfl) (by decide) ?_
          refine ux_goto 79 (dg hd_Mo_opens 41 rfl) (by decide) ?_
          refine ux_put fcX7 15 (by decide) wk_788 rfl rfl (isB_n (by decide)) rfl rfl (dg hd_Mo_opens 43 rfl) ?_
          refine ux_nas (fun σ17 => ?_)
          refine ux_aload_n (dg hd_Mo_opens 44 rfl) rfl ?_
          refine ux_dupr (dg hd_Mo_opens 45 rfl) ?_
          refine ux_get fcX7 13 (by decide) wk_786 rfl rfl (dg hd_Mo_opens 46 rfl) ?_
          refine ux_aload_n (dg hd_Mo_opens 47 rfl) rfl ?_
          refine ux_get fcX7 15 (by decide) wk_788 rfl rfl (dg hd_Mo_opens 48 rfl) ?_
          refine ux_if_eq 98 (dg hd_Mo_opens 49 rfl) (by decide) (fun _ => ?_) (fun _ => ?_)
          · refine ux_iconst (1 : Int32) (dg hd_Mo_opens 52 rfl) (by decide) ?_
            refine ux_iadd (dg hd_Mo_opens 53 rfl) ?_
            refine ux_put fcX7 13 (by decide) wk_786 rfl rfl ⟨rfl, rfl⟩ rfl rfl (dg hd_Mo_opens 54 rfl) ?_
            refine ux_nas (fun σ18 => ?_)
            refine ux_aload_n (dg hd_Mo_opens 55 rfl) rfl ?_
            refine ux_dupr (dg hd_Mo_opens 56 rfl) ?_
            refine ux_get fcX7 14 (by decide) wk_787 rfl rfl (dg hd_Mo_opens 57 rfl) ?_
            refine ux_iconst (1 : Int32) (dg hd_Mo_opens 58 rfl) (by decide) ?_
            refine ux_isub (dg hd_Mo_opens 59 rfl) ?_
            refine ux_put fcX7 14 (by decide) wk_787 rfl rfl ⟨rfl, rfl⟩ rfl rfl (dg hd_Mo_opens 60 rfl) ?_
            refine ux_nas (fun σ19 => ?_)
            exact ux_vret rfl (dg hd_Mo_opens 61 rfl)
          · refine ux_iconst (0 : Int32) (dg hd_Mo_opens 50 rfl) (by decide) ?_
            refine ux_goto 99 (dg hd_Mo_opens 51 rfl) (by decide) ?_
            refine ux_iadd (dg hd_Mo_opens 53 rfl) ?_
            refine ux_put fcX7 13 (by decide) wk_786 rfl rfl ⟨rfl, rfl⟩ rfl rfl (dg hd_Mo_opens 54 rfl) ?_
            refine ux_nas (fun σ20 => ?_)
            refine ux_aload_n (dg hd_Mo_opens 55 rfl) rfl ?_
            refine ux_dupr (dg hd_Mo_opens 56 rfl) ?_
            refine ux_get fcX7 14 (by decide) wk_787 rfl rfl (dg hd_Mo_opens 57 rfl) ?_
            refine ux_iconst (1 : Int32) (dg hd_Mo_opens 58 rfl) (by decide) ?_
            refine ux_isub (dg hd_Mo_opens 59 rfl) ?_
            refine ux_put fcX7 14 (by decide) wk_787 rfl rfl ⟨rfl, rfl⟩ rfl rfl (dg hd_Mo_opens 60 rfl) ?_
            refine ux_nas (fun σ21 => ?_)
            exact ux_vret rfl (dg hd_Mo_opens 61 rfl)
      · refine ux_iconst (1 : Int32) (dg hd_Mo_opens 40 rfl) (by decide) ?_
        refine ux_goto 79 (dg hd_Mo_opens 41 rfl) (by decide) ?_
        refine ux_put fcX7 15 (by decide) wk_788 rfl rfl (isB_n (by decide)) rfl rfl (dg hd_Mo_opens 43 rfl) ?_
        refine ux_nas (fun σ5 => ?_)
        refine ux_aload_n (dg hd_Mo_opens 44 rfl) rfl ?_
        refine ux_dupr (dg hd_Mo_opens 45 rfl) ?_
        refine ux_get fcX7 13 (by decide) wk_786 rfl rfl (dg hd_Mo_opens 46 rfl) ?_
        refine ux_aload_n (dg hd_Mo_opens 47 rfl) rfl ?_
        refine ux_get fcX7 15 (by decide) wk_788 rfl rfl (dg hd_Mo_opens 48 rfl) ?_
        refine ux_if_eq 98 (dg hd_Mo_opens 49 rfl) (by decide) (fun _ => ?_) (fun _ => ?_)
        · refine ux_iconst (1 : Int32) (dg hd_Mo_opens 52 rfl) (by decide) ?_
          refine ux_iadd (dg hd_Mo_opens 53 rfl) ?_
          refine ux_put fcX7 13 (by decide) wk_786 rfl rfl ⟨rfl, rfl⟩ rfl rfl (dg hd_Mo_opens 54 rfl) ?_
          refine ux_nas (fun σ6 => ?_)
          refine ux_aload_n (dg hd_Mo_opens 55 rfl) rfl ?_
          refine ux_dupr (dg hd_Mo_opens 56 rfl) ?_
          refine ux_get fcX7 14 (by decide) wk_787 rfl rfl (dg hd_Mo_opens 57 rfl) ?_
          refine ux_iconst (1 : Int32) (dg hd_Mo_opens 58 rfl) (by decide) ?_
          refine ux_isub (dg hd_Mo_opens 59 rfl) ?_
          refine ux_put fcX7 14 (by decide) wk_787 rfl rfl ⟨rfl, rfl⟩ rfl rfl (dg hd_Mo_opens 60 rfl) ?_
          refine ux_nas (fun σ7 => ?_)
          exact ux_vret rfl (dg hd_Mo_opens 61 rfl)
        · refine ux_iconst (0 : Int32) (dg hd_Mo_opens 50 rfl) (by decide) ?_
          refine ux_goto 99 (dg hd_Mo_opens 51 rfl) (by decide) ?_
          refine ux_iadd (dg hd_Mo_opens 53 rfl) ?_
          refine ux_put fcX7 13 (by decide) wk_786 rfl rfl ⟨rfl, rfl⟩ rfl rfl (dg hd_Mo_opens 54 rfl) ?_
          refine ux_nas (fun σ8 => ?_)
          refine ux_aload_n (dg hd_Mo_opens 55 rfl) rfl ?_
          refine ux_dupr (dg hd_Mo_opens 56 rfl) ?_
          refine ux_get fcX7 14 (by decide) wk_787 rfl rfl (dg hd_Mo_opens 57 rfl) ?_
          refine ux_iconst (1 : Int32) (dg hd_Mo_opens 58 rfl) (by decide) ?_
          refine ux_isub (dg hd_Mo_opens 59 rfl) ?_
          refine ux_put fcX7 14 (by decide) wk_787 rfl rfl ⟨rfl, rfl⟩ rfl rfl (dg hd_Mo_opens 60 rfl) ?_
          refine ux_nas (fun σ9 => ?_)
          exact ux_vret rfl (dg hd_Mo_opens 61 rfl)
def Mo_grp (dd : Nat) : Nat → Int32 → St → Option (Int32 × St) := match dd with
  | 0 => fun _ _ _ => none
  | dd + 1 => fun k a0 σ => match k with
    | 0 => Mo_any (fun k a0 σ => Mo_grp dd k a0 σ) σ
    | 1 => Mo_all (fun k a0 σ => Mo_grp dd k a0 σ) σ
    | 2 => Mo_compares (fun k a0 σ => Mo_grp dd k a0 σ) σ
    | 3 => Mo_sum (fun k a0 σ => Mo_grp dd k a0 σ) σ
    | 4 => Mo_times (fun k a0 σ => Mo_grp dd k a0 σ) σ
    | 5 => Mo_one (fun k a0 σ => Mo_grp dd k a0 σ) σ
    | 6 => Mo_opens (fun k a0 σ => Mo_grp dd k a0 σ) a0 σ
    | _ => none
set_option maxHeartbeats 4000000 in
theorem sg_Mo_grp (l : Launch) : ∀ n : Nat, (∀ (σ : St), Spc l shM (4 + n) md_Mo_any [.ref 0] σ (Mo_grp n 0 0 σ)) ∧ (∀ (σ : St), Spc l shM (4 + n) md_Mo_all [.ref 0] σ (Mo_grp n 1 0 σ)) ∧ (∀ (σ : St), Spc l shM (4 + n) md_Mo_compares [.ref 0] σ (Mo_grp n 2 0 σ)) ∧ (∀ (σ : St), Spc l shM (4 + n) md_Mo_sum [.ref 0] σ (Mo_grp n 3 0 σ)) ∧ (∀ (σ : St), Spc l shM (4 + n) md_Mo_times [.ref 0] σ (Mo_grp n 4 0 σ)) ∧ (∀ (σ : St), Spc l shM (4 + n) md_Mo_one [.ref 0] σ (Mo_grp n 5 0 σ)) ∧ (∀ (a0 : Int32) (σ : St), Spc l shM (4 + n) md_Mo_opens [.ref 0, .int a0] σ (Mo_grp n 6 a0 σ)) := by
  intro n
  induction n with
  | zero => exact ⟨fun  _ r σ1 h => (by cases h), fun  _ r σ1 h => (by cases h), fun  _ r σ1 h => (by cases h), fun  _ r σ1 h => (by cases h), fun  _ r σ1 h => (by cases h), fun  _ r σ1 h => (by cases h), fun _ _ r σ1 h => (by cases h)⟩
  | succ n ih =>
    obtain ⟨h0, h1, h2, h3, h4, h5, h6⟩ := ih
    exact ⟨fun σ => wg_Mo_any l (Mo_grp n) (4 + n) (Nat.le_add_right _ _) h0 h1 h2 h3 h4 h5 h6 σ, fun σ => wg_Mo_all l (Mo_grp n) (4 + n) (Nat.le_add_right _ _) h0 h1 h2 h3 h4 h5 h6 σ, fun σ => wg_Mo_compares l (Mo_grp n) (4 + n) (Nat.le_add_right _ _) h0 h1 h2 h3 h4 h5 h6 σ, fun σ => wg_Mo_sum l (Mo_grp n) (4 + n) (Nat.le_add_right _ _) h0 h1 h2 h3 h4 h5 h6 σ, fun σ => wg_Mo_times l (Mo_grp n) (4 + n) (Nat.le_add_right _ _) h0 h1 h2 h3 h4 h5 h6 σ, fun σ => wg_Mo_one l (Mo_grp n) (4 + n) (Nat.le_add_right _ _) h0 h1 h2 h3 h4 h5 h6 σ, fun a0 σ => wg_Mo_opens l (Mo_grp n) (4 + n) (Nat.le_add_right _ _) h0 h1 h2 h3 h4 h5 h6 a0 σ⟩
theorem sp_Mo_any (l : Launch) (n : Nat) (σ : St) : Spc l shM (4 + n) md_Mo_any [.ref 0] σ (Mo_grp n 0 0 σ) := (sg_Mo_grp l n).1  σ
theorem sp_Mo_all (l : Launch) (n : Nat) (σ : St) : Spc l shM (4 + n) md_Mo_all [.ref 0] σ (Mo_grp n 1 0 σ) := (sg_Mo_grp l n).2.1  σ
theorem sp_Mo_compares (l : Launch) (n : Nat) (σ : St) : Spc l shM (4 + n) md_Mo_compares [.ref 0] σ (Mo_grp n 2 0 σ) := (sg_Mo_grp l n).2.2.1  σ
theorem sp_Mo_sum (l : Launch) (n : Nat) (σ : St) : Spc l shM (4 + n) md_Mo_sum [.ref 0] σ (Mo_grp n 3 0 σ) := (sg_Mo_grp l n).2.2.2.1  σ
theorem sp_Mo_times (l : Launch) (n : Nat) (σ : St) : Spc l shM (4 + n) md_Mo_times [.ref 0] σ (Mo_grp n 4 0 σ) := (sg_Mo_grp l n).2.2.2.2.1  σ
theorem sp_Mo_one (l : Launch) (n : Nat) (σ : St) : Spc l shM (4 + n) md_Mo_one [.ref 0] σ (Mo_grp n 5 0 σ) := (sg_Mo_grp l n).2.2.2.2.2.1  σ
theorem sp_Mo_opens (l : Launch) (n : Nat) (a0 : Int32) (σ : St) : Spc l shM (4 + n) md_Mo_opens [.ref 0, .int a0] σ (Mo_grp n 6 a0 σ) := (sg_Mo_grp l n).2.2.2.2.2.2 a0 σ
def Mo_text_L118 : Nat → Int32 → Int32 → Int32 → St → Option (Int32 × St)
  | 0, _, _, _, _ => none
  | n + 1, x1, x2, x3, σ =>
    if (σ.1 0 12) ≤ x3 then (
    some ((1 : Int32), σ)) else (
    grd (inb x3 60) (
    grd (inb ((x2 + (1 : Int32)) + x3) 366) (
    nas (sA σ 1 ((x2 + (1 : Int32)) + x3).toNatClampNeg (σ.2 8 x3.toNatClampNeg)) (fun σ14 =>
    grd (inb x3 60) (
    grd (inb ((x2 + (61 : Int32)) + x3) 366) (
    nas (sA σ14 1 ((x2 + (61 : Int32)) + x3).toNatClampNeg (σ14.2 9 x3.toNatClampNeg)) (fun σ15 =>
    nam (x3 + (1 : Int32)) (fun y16 =>
    Mo_text_L118 n x1 x2 y16 σ15))))))))
set_option maxRecDepth 100000 in
theorem wk_Mo_text_L118 (l : Launch) : ∀ (n : Nat) (x1 x2 x3 : Int32) (σ : St), Ux l shM 65 md_Mo_text 118 [(0, .ref 0), (1, .int x1), (2, .int x2), (3, .int x3)] [] σ (Mo_text_L118 n x1 x2 x3 σ) := by
  intro n
  induction n with
  | zero => intros; exact ux_none
  | succ n ih =>
    intro x1 x2 x3 σ
    unfold Mo_text_L118
    refine ux_iload_n (dg hd_Mo_text 68 rfl) rfl ?_
    refine ux_aload_n (dg hd_Mo_text 69 rfl) rfl ?_
    refine ux_get fcX7 12 (by decide) wk_785 rfl rfl (dg hd_Mo_text 70 rfl) ?_
    refine ux_icmp_ge 165 (dg hd_Mo_text 71 rfl) (by decide) (fun _ => ?_) (fun _ => ?_)
    · refine ux_iconst (1 : Int32) (dg hd_Mo_text 98 rfl) (by decide) ?_
      exact ux_iret rfl (dg hd_Mo_text 99 rfl)
    · refine ux_aload_n (dg hd_Mo_text 72 rfl) rfl ?_
      refine ux_getr (q := 1) fcX7 0 (by decide) wk_773 rfl rfl (dg hd_Mo_text 73 rfl) ?_
      refine ux_iload_n (dg hd_Mo_text 74 rfl) rfl ?_
      refine ux_iconst (1 : Int32) (dg hd_Mo_text 75 rfl) (by decide) ?_
      refine ux_iadd (dg hd_Mo_text 76 rfl) ?_
      refine ux_iload_n (dg hd_Mo_text 77 rfl) rfl ?_
      refine ux_iadd (dg hd_Mo_text 78 rfl) ?_
      refine ux_aload_n (dg hd_Mo_text 79 rfl) rfl ?_
      refine ux_getr (q := 8) fcX7 8 (by decide) wk_781 rfl rfl (dg hd_Mo_text 80 rfl) ?_
      refine ux_iload_n (dg hd_Mo_text 81 rfl) rfl ?_
      refine ux_iald rfl (dg hd_Mo_text 82 rfl) ?_
      refine ux_iast rfl (dg hd_Mo_text 83 rfl) ?_
      refine ux_nas (fun σ14 => ?_)
      refine ux_aload_n (dg hd_Mo_text 84 rfl) rfl ?_
      refine ux_getr (q := 1) fcX7 0 (by decide) wk_773 rfl rfl (dg hd_Mo_text 85 rfl) ?_
      refine ux_iload_n (dg hd_Mo_text 86 rfl) rfl ?_
      refine ux_bipush (61 : Int32) (dg hd_Mo_text 87 rfl) (by decide) ?_
      refine ux_iadd (dg hd_Mo_text 88 rfl) ?_
      refine ux_iload_n (dg hd_Mo_text 89 rfl) rfl ?_
      refine ux_iadd (dg hd_Mo_text 90 rfl) ?_
      refine ux_aload_n (dg hd_Mo_text 91 rfl) rfl ?_
      refine ux_getr (q := 9) fcX7 9 (by decide) wk_782 rfl rfl (dg hd_Mo_text 92 rfl) ?_
      refine ux_iload_n (dg hd_Mo_text 93 rfl) rfl ?_
      refine ux_iald rfl (dg hd_Mo_text 94 rfl) ?_
      refine ux_iast rfl (dg hd_Mo_text 95 rfl) ?_
      refine ux_nas (fun σ15 => ?_)
      refine ux_iincN (1 : Int32) (fun y16 => [(3, .int y16), (0, .ref 0), (1, .int x1), (2, .int x2)]) (dg hd_Mo_text 96 rfl) rfl (by decide) (by decide) (fun _ => rfl) (fun y16 => ?_)
      refine ux_goto 118 (dg hd_Mo_text 97 rfl) (by decide) ?_
      refine ux_wk [(0, .ref 0), (1, .int x1), (2, .int x2), (3, .int y16)] [1, 2, 3, 0] rfl ?_
      exact ih x1 x2 y16 σ15
def Mo_text (p1 : Int32) (σ : St) : Option (Int32 × St) :=
  bnd (Mo_in p1 (0 : Int32) (1 : Int32) σ) (fun r1 σ2 =>
  if r1 = (0 : Int32) then (
  bnd (Mo_error (-1000000001 : Int32) σ2) (fun r25 σ26 =>
  some (r25, σ26))) else (
  nas (sF σ2 0 16 p1) (fun σ3 =>
  nas (sF σ3 0 12 (0 : Int32)) (fun σ4 =>
  nas (sF σ4 0 13 (0 : Int32)) (fun σ5 =>
  nas (sF σ5 0 14 (0 : Int32)) (fun σ6 =>
  nas (sF σ6 0 15 (0 : Int32)) (fun σ7 =>
  bnd (Mo_grp 60 0 0 σ7) (fun r8 σ9 =>
  if (σ9.1 0 15) = (0 : Int32) then (
  grd (inb (8 : Int32) 366) (
  if (σ9.2 1 (8 : Int32).toNatClampNeg) ≤ (σ9.1 0 13) then (
  nas (sF σ9 0 15 (0 : Int32)) (fun σ17 =>
  grd (inb (8 : Int32) 366) (
  nas (sA σ17 1 (8 : Int32).toNatClampNeg (0 : Int32)) (fun σ18 =>
  if (σ18.1 0 15) = (0 : Int32) then (
  nam ((124 : Int32) + ((121 : Int32) * p1)) (fun y19 =>
  grd (inb y19 366) (
  nas (sA σ18 1 y19.toNatClampNeg (σ18.1 0 12)) (fun σ20 =>
  Mo_text_L118 1000 p1 y19 (0 : Int32) σ20)))) else (
  some (((-10 : Int32) - (σ18.1 0 13)), σ18)))))) else (
  nas (sF σ9 0 15 (1 : Int32)) (fun σ21 =>
  grd (inb (8 : Int32) 366) (
  nas (sA σ21 1 (8 : Int32).toNatClampNeg (0 : Int32)) (fun σ22 =>
  if (σ22.1 0 15) = (0 : Int32) then (
  nam ((124 : Int32) + ((121 : Int32) * p1)) (fun y23 =>
  grd (inb y23 366) (
  nas (sA σ22 1 y23.toNatClampNeg (σ22.1 0 12)) (fun σ24 =>
  Mo_text_L118 1000 p1 y23 (0 : Int32) σ24)))) else (
  some (((-10 : Int32) - (σ22.1 0 13)), σ22)))))))) else (
  nas (sF σ9 0 15 (1 : Int32)) (fun σ10 =>
  grd (inb (8 : Int32) 366) (
  nas (sA σ10 1 (8 : Int32).toNatClampNeg (0 : Int32)) (fun σ11 =>
  if (σ11.1 0 15) = (0 : Int32) then (
  nam ((124 : Int32) + ((121 : Int32) * p1)) (fun y12 =>
  grd (inb y12 366) (
  nas (sA σ11 1 y12.toNatClampNeg (σ11.1 0 12)) (fun σ13 =>
  Mo_text_L118 1000 p1 y12 (0 : Int32) σ13)))) else (
  some (((-10 : Int32) - (σ11.1 0 13)), σ11))))))))))))))
set_option maxRecDepth 100000 in
theorem sp_Mo_text (l : Launch) (p1 : Int32) (σ : St) : Spc l shM 65 md_Mo_text [.ref 0, .int p1] σ (Mo_text p1 σ) := by
  refine Spc_of_Ux [(0, .ref 0), (1, .int p1)] (by decide) rfl (Nat.le_of_ble_eq_true rfl) ?_
  unfold Mo_text
  refine ux_iload_n (dg hd_Mo_text 0 rfl) rfl ?_
  refine ux_iconst (0 : Int32) (dg hd_Mo_text 1 rfl) (by decide) ?_
  refine ux_iconst (1 : Int32) (dg hd_Mo_text 2 rfl) (by decide) ?_
  refine ux_callSi (As := [.int p1, .int (0 : Int32), .int (1 : Int32)]) (sp_Mo_in l p1 (0 : Int32) (1 : Int32) _) (by omega) cs_Mo_in wk_844 rfl rfl (Nat.le_of_ble_eq_true rfl) (dg hd_Mo_text 3 rfl) (fun r1 σ2 _ => ?_)
  refine ux_if_ne 16 (dg hd_Mo_text 4 rfl) (by decide) (fun _ => ?_) (fun _ => ?_)
  · refine ux_aload_n (dg hd_Mo_text 5 rfl) rfl ?_
    refine ux_ldc (-1000000001 : Int32) wk_847 (dg hd_Mo_text 6 rfl) ?_
    refine ux_callVi (As := [.int (-1000000001 : Int32)]) (sp_Mo_error l (-1000000001 : Int32) _) (by omega) cv_Mo_error wk_848 rfl rfl rfl rfl rfl (Nat.le_of_ble_eq_true rfl) (dg hd_Mo_text 7 rfl) (fun r25 σ26 _ => ?_)
    exact ux_iret rfl (dg hd_Mo_text 8 rfl)
  · refine ux_aload_n (dg hd_Mo_text 9 rfl) rfl ?_
    refine ux_iload_n (dg hd_Mo_text 10 rfl) rfl ?_
    refine ux_put fcX7 16 (by decide) wk_789 rfl rfl ⟨rfl, rfl⟩ rfl rfl (dg hd_Mo_text 11 rfl) ?_
    refine ux_nas (fun σ3 => ?_)
    refine ux_aload_n (dg hd_Mo_text 12 rfl) rfl ?_
    refine ux_iconst (0 : Int32) (dg hd_Mo_text 13 rfl) (by decide) ?_
    refine ux_put fcX7 12 (by decide) wk_785 rfl rfl ⟨rfl, rfl⟩ rfl rfl (dg hd_Mo_text 14 rfl) ?_
    refine ux_nas (fun σ4 => ?_)
    refine ux_aload_n (dg hd_Mo_text 15 rfl) rfl ?_
    refine ux_iconst (0 : Int32) (dg hd_Mo_text 16 rfl) (by decide) ?_
    refine ux_put fcX7 13 (by decide) wk_786 rfl rfl ⟨rfl, rfl⟩ rfl rfl (dg hd_Mo_text 17 rfl) ?_
    refine ux_nas (fun σ5 => ?_)
    refine ux_aload_n (dg hd_Mo_text 18 rfl) rfl ?_
    refine ux_iconst (0 : Int32) (dg hd_Mo_text 19 rfl) (by decide) ?_
    refine ux_put fcX7 14 (by decide) wk_787 rfl rfl ⟨rfl, rfl⟩ rfl rfl (dg hd_Mo_text 20 rfl) ?_
    refine ux_nas (fun σ6 => ?_)
    refine ux_aload_n (dg hd_Mo_text 21 rfl) rfl ?_
    refine ux_iconst (0 : Int32) (dg hd_Mo_text 22 rfl) (by decide) ?_
    refine ux_put fcX7 15 (by decide) wk_788 rfl rfl (isB_n (by decide)) rfl rfl (dg hd_Mo_text 23 rfl) ?_
    refine ux_nas (fun σ7 => ?_)
    refine ux_aload_n (dg hd_Mo_text 24 rfl) rfl ?_
    refine ux_callVv (As := []) (sp_Mo_any l 60  _) (by omega) cv_Mo_any wk_985 rfl rfl rfl rfl rfl (Nat.le_of_ble_eq_true rfl) (dg hd_Mo_text 25 rfl) (fun r8 σ9 _ => ?_)
    refine ux_aload_n (dg hd_Mo_text 26 rfl) rfl ?_
    refine ux_aload_n (dg hd_Mo_text 27 rfl) rfl ?_
    refine ux_get fcX7 15 (by decide) wk_788 rfl rfl (dg hd_Mo_text 28 rfl) ?_
    refine ux_if_ne 67 (dg hd_Mo_text 29 rfl) (by decide) (fun _ => ?_) (fun _ => ?_)
    · refine ux_aload_n (dg hd_Mo_text 30 rfl) rfl ?_
      refine ux_get fcX7 13 (by decide) wk_786 rfl rfl (dg hd_Mo_text 31 rfl) ?_
      refine ux_aload_n (dg hd_Mo_text 32 rfl) rfl ?_
      refine ux_getr (q := 1) fcX7 0 (by decide) wk_773 rfl rfl (dg hd_Mo_text 33 rfl) ?_
      refine ux_bipush (8 : Int32) (dg hd_Mo_text 34 rfl) (by decide) ?_
      refine ux_iald rfl (dg hd_Mo_text 35 rfl) ?_
      refine ux_icmp_ge 71 (dg hd_Mo_text 36 rfl) (by decide) (fun _ => ?_) (fun _ => ?_)
      · refine ux_iconst (0 : Int32) (dg hd_Mo_text 39 rfl) (by decide) ?_
        refine ux_put fcX7 15 (by decide) wk_788 rfl rfl (isB_n (by decide)) rfl rfl (dg hd_Mo_text 40 rfl) ?_
        refine ux_nas (fun σ17 => ?_)
        refine ux_aload_n (dg hd_Mo_text 41 rfl) rfl ?_
        refine ux_getr (q := 1) fcX7 0 (by decide) wk_773 rfl rfl (dg hd_Mo_text 42 rfl) ?_
        refine ux_bipush (8 : Int32) (dg hd_Mo_text 43 rfl) (by decide) ?_
        refine ux_iconst (0 : Int32) (dg hd_Mo_text 44 rfl) (by decide) ?_
        refine ux_iast rfl (dg hd_Mo_text 45 rfl) ?_
        refine ux_nas (fun σ18 => ?_)
        refine ux_aload_n (dg hd_Mo_text 46 rfl) rfl ?_
        refine ux_get fcX7 15 (by decide) wk_788 rfl rfl (dg hd_Mo_text 47 rfl) ?_
        refine ux_if_eq 98 (dg hd_Mo_text 48 rfl) (by decide) (fun _ => ?_) (fun _ => ?_)
        · refine ux_bipush (124 : Int32) (dg hd_Mo_text 54 rfl) (by decide) ?_
          refine ux_bipush (121 : Int32) (dg hd_Mo_text 55 rfl) (by decide) ?_
          refine ux_iload_n (dg hd_Mo_text 56 rfl) rfl ?_
          refine ux_imul (dg hd_Mo_text 57 rfl) ?_
          refine ux_iadd (dg hd_Mo_text 58 rfl) ?_
          refine ux_nam (fun y19 => ?_)
          refine ux_istore_n [(2, .int y19), (0, .ref 0), (1, .int p1)] (dg hd_Mo_text 59 rfl) (by decide) rfl ?_
          refine ux_aload_n (dg hd_Mo_text 60 rfl) rfl ?_
          refine ux_getr (q := 1) fcX7 0 (by decide) wk_773 rfl rfl (dg hd_Mo_text 61 rfl) ?_
          refine ux_iload_n (dg hd_Mo_text 62 rfl) rfl ?_
          refine ux_aload_n (dg hd_Mo_text 63 rfl) rfl ?_
          refine ux_get fcX7 12 (by decide) wk_785 rfl rfl (dg hd_Mo_text 64 rfl) ?_
          refine ux_iast rfl (dg hd_Mo_text 65 rfl) ?_
          refine ux_nas (fun σ20 => ?_)
          refine ux_iconst (0 : Int32) (dg hd_Mo_text 66 rfl) (by decide) ?_
          refine ux_istore_n [(3, .int (0 : Int32)), (2, .int y19), (0, .ref 0), (1, .int p1)] (dg hd_Mo_text 67 rfl) (by decide) rfl ?_
          refine ux_wk [(0, .ref 0), (1, .int p1), (2, .int y19), (3, .int (0 : Int32))] [2, 3, 1, 0] rfl ?_
          exact wk_Mo_text_L118 l 1000 p1 y19 (0 : Int32) σ20
        · refine ux_bipush (-10 : Int32) (dg hd_Mo_text 49 rfl) (by decide) ?_
          refine ux_aload_n (dg hd_Mo_text 50 rfl) rfl ?_
          refine ux_get fcX7 13 (by decide) wk_786 rfl rfl (dg hd_Mo_text 51 rfl) ?_
          refine ux_isub (dg hd_Mo_text 52 rfl) ?_
          exact ux_iret rfl (dg hd_Mo_text 53 rfl)
      · refine ux_iconst (1 : Int32) (dg hd_Mo_text 37 rfl) (by decide) ?_
        refine ux_goto 72 (dg hd_Mo_text 38 rfl) (by decide) ?_
        refine ux_put fcX7 15 (by decide) wk_788 rfl rfl (isB_n (by decide)) rfl rfl (dg hd_Mo_text 40 rfl) ?_
        refine ux_nas (fun σ21 => ?_)
        refine ux_aload_n (dg hd_Mo_text 41 rfl) rfl ?_
        refine ux_getr (q := 1) fcX7 0 (by decide) wk_773 rfl rfl (dg hd_Mo_text 42 rfl) ?_
        refine ux_bipush (8 : Int32) (dg hd_Mo_text 43 rfl) (by decide) ?_
        refine ux_iconst (0 : Int32) (dg hd_Mo_text 44 rfl) (by decide) ?_
        refine ux_iast rfl (dg hd_Mo_text 45 rfl) ?_
        refine ux_nas (fun σ22 => ?_)
        refine ux_aload_n (dg hd_Mo_text 46 rfl) rfl ?_
        refine ux_get fcX7 15 (by decide) wk_788 rfl rfl (dg hd_Mo_text 47 rfl) ?_
        refine ux_if_eq 98 (dg hd_Mo_text 48 rfl) (by decide) (fun _ => ?_) (fun _ => ?_)
        · refine ux_bipush (124 : Int32) (dg hd_Mo_text 54 rfl) (by decide) ?_
          refine ux_bipush (121 : Int32) (dg hd_Mo_text 55 rfl) (by decide) ?_
          refine ux_iload_n (dg hd_Mo_text 56 rfl) rfl ?_
          refine ux_imul (dg hd_Mo_text 57 rfl) ?_
          refine ux_iadd (dg hd_Mo_text 58 rfl) ?_
          refine ux_nam (fun y23 => ?_)
          refine ux_istore_n [(2, .int y23), (0, .ref 0), (1, .int p1)] (dg hd_Mo_text 59 rfl) (by decide) rfl ?_
          refine ux_aload_n (dg hd_Mo_text 60 rfl) rfl ?_
          refine ux_getr (q := 1) fcX7 0 (by decide) wk_773 rfl rfl (dg hd_Mo_text 61 rfl) ?_
          refine ux_iload_n (dg hd_Mo_text 62 rfl) rfl ?_
          refine ux_aload_n (dg hd_Mo_text 63 rfl) rfl ?_
          refine ux_get fcX7 12 (by decide) wk_785 rfl rfl (dg hd_Mo_text 64 rfl) ?_
          refine ux_iast rfl (dg hd_Mo_text 65 rfl) ?_
          refine ux_nas (fun σ24 => ?_)
          refine ux_iconst (0 : Int32) (dg hd_Mo_text 66 rfl) (by decide) ?_
          refine ux_istore_n [(3, .int (0 : Int32)), (2, .int y23), (0, .ref 0), (1, .int p1)] (dg hd_Mo_text 67 rfl) (by decide) rfl ?_
          refine ux_wk [(0, .ref 0), (1, .int p1), (2, .int y23), (3, .int (0 : Int32))] [2, 3, 1, 0] rfl ?_
          exact wk_Mo_text_L118 l 1000 p1 y23 (0 : Int32) σ24
        · refine ux_bipush (-10 : Int32) (dg hd_Mo_text 49 rfl) (by decide) ?_
          refine ux_aload_n (dg hd_Mo_text 50 rfl) rfl ?_
          refine ux_get fcX7 13 (by decide) wk_786 rfl rfl (dg hd_Mo_text 51 rfl) ?_
          refine ux_isub (dg hd_Mo_text 52 rfl) ?_
          exact ux_iret rfl (dg hd_Mo_text 53 rfl)
    · refine ux_iconst (1 : Int32) (dg hd_Mo_text 37 rfl) (by decide) ?_
      refine ux_goto 72 (dg hd_Mo_text 38 rfl) (by decide) ?_
      refine ux_put fcX7 15 (by decide) wk_788 rfl rfl (isB_n (by decide)) rfl rfl (dg hd_Mo_text 40 rfl) ?_
      refine ux_nas (fun σ10 => ?_)
      refine ux_aload_n (dg hd_Mo_text 41 rfl) rfl ?_
      refine ux_getr (q := 1) fcX7 0 (by decide) wk_773 rfl rfl (dg hd_Mo_text 42 rfl) ?_
      refine ux_bipush (8 : Int32) (dg hd_Mo_text 43 rfl) (by decide) ?_
      refine ux_iconst (0 : Int32) (dg hd_Mo_text 44 rfl) (by decide) ?_
      refine ux_iast rfl (dg hd_Mo_text 45 rfl) ?_
      refine ux_nas (fun σ11 => ?_)
      refine ux_aload_n (dg hd_Mo_text 46 rfl) rfl ?_
      refine ux_get fcX7 15 (by decide) wk_788 rfl rfl (dg hd_Mo_text 47 rfl) ?_
      refine ux_if_eq 98 (dg hd_Mo_text 48 rfl) (by decide) (fun _ => ?_) (fun _ => ?_)
      · refine ux_bipush (124 : Int32) (dg hd_Mo_text 54 rfl) (by decide) ?_
        refine ux_bipush (121 : Int32) (dg hd_Mo_text 55 rfl) (by decide) ?_
        refine ux_iload_n (dg hd_Mo_text 56 rfl) rfl ?_
        refine ux_imul (dg hd_Mo_text 57 rfl) ?_
        refine ux_iadd (dg hd_Mo_text 58 rfl) ?_
        refine ux_nam (fun y12 => ?_)
        refine ux_istore_n [(2, .int y12), (0, .ref 0), (1, .int p1)] (dg hd_Mo_text 59 rfl) (by decide) rfl ?_
        refine ux_aload_n (dg hd_Mo_text 60 rfl) rfl ?_
        refine ux_getr (q := 1) fcX7 0 (by decide) wk_773 rfl rfl (dg hd_Mo_text 61 rfl) ?_
        refine ux_iload_n (dg hd_Mo_text 62 rfl) rfl ?_
        refine ux_aload_n (dg hd_Mo_text 63 rfl) rfl ?_
        refine ux_get fcX7 12 (by decide) wk_785 rfl rfl (dg hd_Mo_text 64 rfl) ?_
        refine ux_iast rfl (dg hd_Mo_text 65 rfl) ?_
        refine ux_nas (fun σ13 => ?_)
        refine ux_iconst (0 : Int32) (dg hd_Mo_text 66 rfl) (by decide) ?_
        refine ux_istore_n [(3, .int (0 : Int32)), (2, .int y12), (0, .ref 0), (1, .int p1)] (dg hd_Mo_text 67 rfl) (by decide) rfl ?_
        refine ux_wk [(0, .ref 0), (1, .int p1), (2, .int y12), (3, .int (0 : Int32))] [2, 3, 1, 0] rfl ?_
        exact wk_Mo_text_L118 l 1000 p1 y12 (0 : Int32) σ13
      · refine ux_bipush (-10 : Int32) (dg hd_Mo_text 49 rfl) (by decide) ?_
        refine ux_aload_n (dg hd_Mo_text 50 rfl) rfl ?_
        refine ux_get fcX7 13 (by decide) wk_786 rfl rfl (dg hd_Mo_text 51 rfl) ?_
        refine ux_isub (dg hd_Mo_text 52 rfl) ?_
        exact ux_iret rfl (dg hd_Mo_text 53 rfl)
def Mo_untell (p1 : Int32) (σ : St) : Option (Int32 × St) :=
  bnd (Mo_in p1 (0 : Int32) (1 : Int32) σ) (fun r1 σ2 =>
  if r1 = (0 : Int32) then (
  bnd (Mo_error (-1000000001 : Int32) σ2) (fun r5 σ6 =>
  some (r5, σ6))) else (
  bnd (Mo_becomes ((124 : Int32) + ((121 : Int32) * p1)) (0 : Int32) σ2) (fun r3 σ4 =>
  if r3 ≤ (0 : Int32) then (
  some ((0 : Int32), σ4)) else (
  some ((1 : Int32), σ4)))))
set_option maxRecDepth 100000 in
theorem sp_Mo_untell (l : Launch) (p1 : Int32) (σ : St) : Spc l shM 3 md_Mo_untell [.ref 0, .int p1] σ (Mo_untell p1 σ) := by
  refine Spc_of_Ux [(0, .ref 0), (1, .int p1)] (by decide) rfl (Nat.le_of_ble_eq_true rfl) ?_
  unfold Mo_untell
  refine ux_iload_n (dg hd_Mo_untell 0 rfl) rfl ?_
  refine ux_iconst (0 : Int32) (dg hd_Mo_untell 1 rfl) (by decide) ?_
  refine ux_iconst (1 : Int32) (dg hd_Mo_untell 2 rfl) (by decide) ?_
  refine ux_callSi (As := [.int p1, .int (0 : Int32), .int (1 : Int32)]) (sp_Mo_in l p1 (0 : Int32) (1 : Int32) _) (by omega) cs_Mo_in wk_844 rfl rfl (Nat.le_of_ble_eq_true rfl) (dg hd_Mo_untell 3 rfl) (fun r1 σ2 _ => ?_)
  refine ux_if_ne 16 (dg hd_Mo_untell 4 rfl) (by decide) (fun _ => ?_) (fun _ => ?_)
  · refine ux_aload_n (dg hd_Mo_untell 5 rfl) rfl ?_
    refine ux_ldc (-1000000001 : Int32) wk_847 (dg hd_Mo_untell 6 rfl) ?_
    refine ux_callVi (As := [.int (-1000000001 : Int32)]) (sp_Mo_error l (-1000000001 : Int32) _) (by omega) cv_Mo_error wk_848 rfl rfl rfl rfl rfl (Nat.le_of_ble_eq_true rfl) (dg hd_Mo_untell 7 rfl) (fun r5 σ6 _ => ?_)
    exact ux_iret rfl (dg hd_Mo_untell 8 rfl)
  · refine ux_aload_n (dg hd_Mo_untell 9 rfl) rfl ?_
    refine ux_bipush (124 : Int32) (dg hd_Mo_untell 10 rfl) (by decide) ?_
    refine ux_bipush (121 : Int32) (dg hd_Mo_untell 11 rfl) (by decide) ?_
    refine ux_iload_n (dg hd_Mo_untell 12 rfl) rfl ?_
    refine ux_imul (dg hd_Mo_untell 13 rfl) ?_
    refine ux_iadd (dg hd_Mo_untell 14 rfl) ?_
    refine ux_iconst (0 : Int32) (dg hd_Mo_untell 15 rfl) (by decide) ?_
    refine ux_callVi (As := [.int ((124 : Int32) + ((121 : Int32) * p1)), .int (0 : Int32)]) (sp_Mo_becomes l ((124 : Int32) + ((121 : Int32) * p1)) (0 : Int32) _) (by omega) cv_Mo_becomes wk_911 rfl rfl rfl rfl rfl (Nat.le_of_ble_eq_true rfl) (dg hd_Mo_untell 16 rfl) (fun r3 σ4 _ => ?_)
    refine ux_if_le 35 (dg hd_Mo_untell 17 rfl) (by decide) (fun _ => ?_) (fun _ => ?_)
    · refine ux_iconst (0 : Int32) (dg hd_Mo_untell 20 rfl) (by decide) ?_
      exact ux_iret rfl (dg hd_Mo_untell 21 rfl)
    · refine ux_iconst (1 : Int32) (dg hd_Mo_untell 18 rfl) (by decide) ?_
      refine ux_goto 36 (dg hd_Mo_untell 19 rfl) (by decide) ?_
      exact ux_iret rfl (dg hd_Mo_untell 21 rfl)
def Mo_law (p1 : Int32) (p2 : Int32) (p3 : Int32) (p4 : Int32) (σ : St) : Option (Int32 × St) :=
  bnd (Mo_in p1 (0 : Int32) (1 : Int32) σ) (fun r1 σ2 =>
  if r1 = (0 : Int32) then (
  bnd (Mo_error (-1000000001 : Int32) σ2) (fun r3 σ4 =>
  some (r3, σ4))) else (
  bnd (Mo_gives p1 p2 p3 p4 σ2) (fun r5 σ6 =>
  some (r5, σ6))))
set_option maxRecDepth 100000 in
theorem sp_Mo_law (l : Launch) (p1 : Int32) (p2 : Int32) (p3 : Int32) (p4 : Int32) (σ : St) : Spc l shM 5 md_Mo_law [.ref 0, .int p1, .int p2, .int p3, .int p4] σ (Mo_law p1 p2 p3 p4 σ) := by
  refine Spc_of_Ux [(0, .ref 0), (1, .int p1), (2, .int p2), (3, .int p3), (4, .int p4)] (by decide) rfl (Nat.le_of_ble_eq_true rfl) ?_
  unfold Mo_law
  refine ux_iload_n (dg hd_Mo_law 0 rfl) rfl ?_
  refine ux_iconst (0 : Int32) (dg hd_Mo_law 1 rfl) (by decide) ?_
  refine ux_iconst (1 : Int32) (dg hd_Mo_law 2 rfl) (by decide) ?_
  refine ux_callSi (As := [.int p1, .int (0 : Int32), .int (1 : Int32)]) (sp_Mo_in l p1 (0 : Int32) (1 : Int32) _) (by omega) cs_Mo_in wk_844 rfl rfl (Nat.le_of_ble_eq_true rfl) (dg hd_Mo_law 3 rfl) (fun r1 σ2 _ => ?_)
  refine ux_if_eq 21 (dg hd_Mo_law 4 rfl) (by decide) (fun _ => ?_) (fun _ => ?_)
  · refine ux_aload_n (dg hd_Mo_law 12 rfl) rfl ?_
    refine ux_ldc (-1000000001 : Int32) wk_847 (dg hd_Mo_law 13 rfl) ?_
    refine ux_callVi (As := [.int (-1000000001 : Int32)]) (sp_Mo_error l (-1000000001 : Int32) _) (by omega) cv_Mo_error wk_848 rfl rfl rfl rfl rfl (Nat.le_of_ble_eq_true rfl) (dg hd_Mo_law 14 rfl) (fun r3 σ4 _ => ?_)
    exact ux_iret rfl (dg hd_Mo_law 15 rfl)
  · refine ux_aload_n (dg hd_Mo_law 5 rfl) rfl ?_
    refine ux_iload_n (dg hd_Mo_law 6 rfl) rfl ?_
    refine ux_iload_n (dg hd_Mo_law 7 rfl) rfl ?_
    refine ux_iload_n (dg hd_Mo_law 8 rfl) rfl ?_
    refine ux_iload (dg hd_Mo_law 9 rfl) rfl ?_
    refine ux_callVi (As := [.int p1, .int p2, .int p3, .int p4]) (sp_Mo_gives l p1 p2 p3 p4 _) (by omega) cv_Mo_gives wk_893 rfl rfl rfl rfl rfl (Nat.le_of_ble_eq_true rfl) (dg hd_Mo_law 10 rfl) (fun r5 σ6 _ => ?_)
    refine ux_goto 27 (dg hd_Mo_law 11 rfl) (by decide) ?_
    exact ux_iret rfl (dg hd_Mo_law 15 rfl)
def Mo_misses (p1 : Int32) (σ : St) : Option (Int32 × St) :=
  bnd (Mo_of p1 (2 : Int32) σ) (fun r1 σ2 =>
  bnd (Mo_isIn p1 σ2) (fun r3 σ4 =>
  if r3 = (0 : Int32) then (
  bnd (Mo_isIn p1 σ4) (fun r5 σ6 =>
  if r5 = (0 : Int32) then (
  bnd (Mo_held (r1 + (1 : Int32)) (0 : Int32) (99 : Int32) σ6) (fun r23 σ24 =>
  bnd (Mo_lets p1 (2 : Int32) r23 σ24) (fun r25 σ26 =>
  if (0 : Int32) = (0 : Int32) then (
  bnd (Mo_of p1 (4 : Int32) σ26) (fun r27 σ28 =>
  bnd (Mo_lets p1 (4 : Int32) r27 σ28) (fun r29 σ30 =>
  some ((0 : Int32), σ30)))) else (
  bnd (Mo_lets p1 (4 : Int32) (0 : Int32) σ26) (fun r31 σ32 =>
  some ((0 : Int32), σ32)))))) else (
  if (0 : Int32) = (0 : Int32) then (
  grd (inb p1 6) (
  bnd (Mo_lets p1 (2 : Int32) (r1 - (σ6.2 12 p1.toNatClampNeg)) σ6) (fun r7 σ8 =>
  if (0 : Int32) = (0 : Int32) then (
  bnd (Mo_of p1 (4 : Int32) σ8) (fun r9 σ10 =>
  bnd (Mo_lets p1 (4 : Int32) r9 σ10) (fun r11 σ12 =>
  some ((0 : Int32), σ12)))) else (
  bnd (Mo_lets p1 (4 : Int32) (0 : Int32) σ8) (fun r13 σ14 =>
  some ((0 : Int32), σ14)))))) else (
  bnd (Mo_lets p1 (2 : Int32) r1 σ6) (fun r15 σ16 =>
  if (0 : Int32) = (0 : Int32) then (
  bnd (Mo_of p1 (4 : Int32) σ16) (fun r17 σ18 =>
  bnd (Mo_lets p1 (4 : Int32) r17 σ18) (fun r19 σ20 =>
  some ((0 : Int32), σ20)))) else (
  bnd (Mo_lets p1 (4 : Int32) (0 : Int32) σ16) (fun r21 σ22 =>
  some ((0 : Int32), σ22)))))))) else (
  grd (inb p1 6) (
  if (σ4.2 12 p1.toNatClampNeg) ≤ r1 then (
  bnd (Mo_isIn p1 σ4) (fun r33 σ34 =>
  if r33 = (0 : Int32) then (
  bnd (Mo_held (r1 + (1 : Int32)) (0 : Int32) (99 : Int32) σ34) (fun r51 σ52 =>
  bnd (Mo_lets p1 (2 : Int32) r51 σ52) (fun r53 σ54 =>
  if (0 : Int32) = (0 : Int32) then (
  bnd (Mo_of p1 (4 : Int32) σ54) (fun r55 σ56 =>
  bnd (Mo_lets p1 (4 : Int32) r55 σ56) (fun r57 σ58 =>
  some ((0 : Int32), σ58)))) else (
  bnd (Mo_lets p1 (4 : Int32) (0 : Int32) σ54) (fun r59 σ60 =>
  some ((0 : Int32), σ60)))))) else (
  if (0 : Int32) = (0 : Int32) then (
  grd (inb p1 6) (
  bnd (Mo_lets p1 (2 : Int32) (r1 - (σ34.2 12 p1.toNatClampNeg)) σ34) (fun r35 σ36 =>
  if (0 : Int32) = (0 : Int32) then (
  bnd (Mo_of p1 (4 : Int32) σ36) (fun r37 σ38 =>
  bnd (Mo_lets p1 (4 : Int32) r37 σ38) (fun r39 σ40 =>
  some ((0 : Int32), σ40)))) else (
  bnd (Mo_lets p1 (4 : Int32) (0 : Int32) σ36) (fun r41 σ42 =>
  some ((0 : Int32), σ42)))))) else (
  bnd (Mo_lets p1 (2 : Int32) r1 σ34) (fun r43 σ44 =>
  if (0 : Int32) = (0 : Int32) then (
  bnd (Mo_of p1 (4 : Int32) σ44) (fun r45 σ46 =>
  bnd (Mo_lets p1 (4 : Int32) r45 σ46) (fun r47 σ48 =>
  some ((0 : Int32), σ48)))) else (
  bnd (Mo_lets p1 (4 : Int32) (0 : Int32) σ44) (fun r49 σ50 =>
  some ((0 : Int32), σ50)))))))) else (
  bnd (Mo_isIn p1 σ4) (fun r61 σ62 =>
  if r61 = (0 : Int32) then (
  bnd (Mo_held (r1 + (1 : Int32)) (0 : Int32) (99 : Int32) σ62) (fun r79 σ80 =>
  bnd (Mo_lets p1 (2 : Int32) r79 σ80) (fun r81 σ82 =>
  if (1 : Int32) = (0 : Int32) then (
  bnd (Mo_of p1 (4 : Int32) σ82) (fun r83 σ84 =>
  bnd (Mo_lets p1 (4 : Int32) r83 σ84) (fun r85 σ86 =>
  some ((1 : Int32), σ86)))) else (
  bnd (Mo_lets p1 (4 : Int32) (0 : Int32) σ82) (fun r87 σ88 =>
  some ((1 : Int32), σ88)))))) else (
  if (1 : Int32) = (0 : Int32) then (
  grd (inb p1 6) (
  bnd (Mo_lets p1 (2 : Int32) (r1 - (σ62.2 12 p1.toNatClampNeg)) σ62) (fun r63 σ64 =>
  if (1 : Int32) = (0 : Int32) then (
  bnd (Mo_of p1 (4 : Int32) σ64) (fun r65 σ66 =>
  bnd (Mo_lets p1 (4 : Int32) r65 σ66) (fun r67 σ68 =>
  some ((1 : Int32), σ68)))) else (
  bnd (Mo_lets p1 (4 : Int32) (0 : Int32) σ64) (fun r69 σ70 =>
  some ((1 : Int32), σ70)))))) else (
  bnd (Mo_lets p1 (2 : Int32) r1 σ62) (fun r71 σ72 =>
  if (1 : Int32) = (0 : Int32) then (
  bnd (Mo_of p1 (4 : Int32) σ72) (fun r73 σ74 =>
  bnd (Mo_lets p1 (4 : Int32) r73 σ74) (fun r75 σ76 =>
  some ((1 : Int32), σ76)))) else (
  bnd (Mo_lets p1 (4 : Int32) (0 : Int32) σ72) (fun r77 σ78 =>
  some ((1 : Int32), σ78))))))))))))
set_option maxRecDepth 100000 in
theorem sp_Mo_misses (l : Launch) (p1 : Int32) (σ : St) : Spc l shM 4 md_Mo_misses [.ref 0, .int p1] σ (Mo_misses p1 σ) := by
  refine Spc_of_Ux [(0, .ref 0), (1, .int p1)] (by decide) rfl (Nat.le_of_ble_eq_true rfl) ?_
  unfold Mo_misses
  refine ux_aload_n (dg hd_Mo_misses 0 rfl) rfl ?_
  refine ux_iload_n (dg hd_Mo_misses 1 rfl) rfl ?_
  refine ux_iconst (2 : Int32) (dg hd_Mo_misses 2 rfl) (by decide) ?_
  refine ux_callVi (As := [.int p1, .int (2 : Int32)]) (sp_Mo_of l p1 (2 : Int32) _) (by omega) cv_Mo_of wk_866 rfl rfl rfl rfl rfl (Nat.le_of_ble_eq_true rfl) (dg hd_Mo_misses 3 rfl) (fun r1 σ2 _ => ?_)
  refine ux_istore_n [(2, .int r1), (0, .ref 0), (1, .int p1)] (dg hd_Mo_misses 4 rfl) (by decide) rfl ?_
  refine ux_aload_n (dg hd_Mo_misses 5 rfl) rfl ?_
  refine ux_iload_n (dg hd_Mo_misses 6 rfl) rfl ?_
  refine ux_callVi (As := [.int p1]) (sp_Mo_isIn l p1 _) (by omega) cv_Mo_isIn wk_886 rfl rfl rfl rfl rfl (Nat.le_of_ble_eq_true rfl) (dg hd_Mo_misses 7 rfl) (fun r3 σ4 _ => ?_)
  refine ux_if_eq 29 (dg hd_Mo_misses 8 rfl) (by decide) (fun _ => ?_) (fun _ => ?_)
  · refine ux_iconst (0 : Int32) (dg hd_Mo_misses 17 rfl) (by decide) ?_
    refine ux_istore_n [(3, .int (0 : Int32)), (2, .int r1), (0, .ref 0), (1, .int p1)] (dg hd_Mo_misses 18 rfl) (by decide) rfl ?_
    refine ux_aload_n (dg hd_Mo_misses 19 rfl) rfl ?_
    refine ux_iload_n (dg hd_Mo_misses 20 rfl) rfl ?_
    refine ux_iconst (2 : Int32) (dg hd_Mo_misses 21 rfl) (by decide) ?_
    refine ux_aload_n (dg hd_Mo_misses 22 rfl) rfl ?_
    refine ux_iload_n (dg hd_Mo_misses 23 rfl) rfl ?_
    refine ux_callVi (As := [.int p1]) (sp_Mo_isIn l p1 _) (by omega) cv_Mo_isIn wk_886 rfl rfl rfl rfl rfl (Nat.le_of_ble_eq_true rfl) (dg hd_Mo_misses 24 rfl) (fun r5 σ6 _ => ?_)
    refine ux_if_ne 54 (dg hd_Mo_misses 25 rfl) (by decide) (fun _ => ?_) (fun _ => ?_)
    · refine ux_iload_n (dg hd_Mo_misses 26 rfl) rfl ?_
      refine ux_iconst (1 : Int32) (dg hd_Mo_misses 27 rfl) (by decide) ?_
      refine ux_iadd (dg hd_Mo_misses 28 rfl) ?_
      refine ux_iconst (0 : Int32) (dg hd_Mo_misses 29 rfl) (by decide) ?_
      refine ux_bipush (99 : Int32) (dg hd_Mo_misses 30 rfl) (by decide) ?_
      refine ux_callSi (As := [.int (r1 + (1 : Int32)), .int (0 : Int32), .int (99 : Int32)]) (sp_Mo_held l (r1 + (1 : Int32)) (0 : Int32) (99 : Int32) _) (by omega) cs_Mo_held wk_904 rfl rfl (Nat.le_of_ble_eq_true rfl) (dg hd_Mo_misses 31 rfl) (fun r23 σ24 _ => ?_)
      refine ux_goto 70 (dg hd_Mo_misses 32 rfl) (by decide) ?_
      refine ux_callVv (As := [.int p1, .int (2 : Int32), .int r23]) (sp_Mo_lets l p1 (2 : Int32) r23 _) (by omega) cv_Mo_lets wk_854 rfl rfl rfl rfl rfl (Nat.le_of_ble_eq_true rfl) (dg hd_Mo_misses 43 rfl) (fun r25 σ26 _ => ?_)
      refine ux_aload_n (dg hd_Mo_misses 44 rfl) rfl ?_
      refine ux_iload_n (dg hd_Mo_misses 45 rfl) rfl ?_
      refine ux_iconst (4 : Int32) (dg hd_Mo_misses 46 rfl) (by decide) ?_
      refine ux_iload_n (dg hd_Mo_misses 47 rfl) rfl ?_
      refine ux_if_eq 84 (dg hd_Mo_misses 48 rfl) (by decide) (fun _ => ?_) (fun _ => ?_)
      · refine ux_aload_n (dg hd_Mo_misses 51 rfl) rfl ?_
        refine ux_iload_n (dg hd_Mo_misses 52 rfl) rfl ?_
        refine ux_iconst (4 : Int32) (dg hd_Mo_misses 53 rfl) (by decide) ?_
        refine ux_callVi (As := [.int p1, .int (4 : Int32)]) (sp_Mo_of l p1 (4 : Int32) _) (by omega) cv_Mo_of wk_866 rfl rfl rfl rfl rfl (Nat.le_of_ble_eq_true rfl) (dg hd_Mo_misses 54 rfl) (fun r27 σ28 _ => ?_)
        refine ux_callVv (As := [.int p1, .int (4 : Int32), .int r27]) (sp_Mo_lets l p1 (4 : Int32) r27 _) (by omega) cv_Mo_lets wk_854 rfl rfl rfl rfl rfl (Nat.le_of_ble_eq_true rfl) (dg hd_Mo_misses 55 rfl) (fun r29 σ30 _ => ?_)
        refine ux_iload_n (dg hd_Mo_misses 56 rfl) rfl ?_
        exact ux_zret rfl (dg hd_Mo_misses 57 rfl) (isB_n (by decide))
      · refine ux_iconst (0 : Int32) (dg hd_Mo_misses 49 rfl) (by decide) ?_
        refine ux_goto 90 (dg hd_Mo_misses 50 rfl) (by decide) ?_
        refine ux_callVv (As := [.int p1, .int (4 : Int32), .int (0 : Int32)]) (sp_Mo_lets l p1 (4 : Int32) (0 : Int32) _) (by omega) cv_Mo_lets wk_854 rfl rfl rfl rfl rfl (Nat.le_of_ble_eq_true rfl) (dg hd_Mo_misses 55 rfl) (fun r31 σ32 _ => ?_)
        refine ux_iload_n (dg hd_Mo_misses 56 rfl) rfl ?_
        exact ux_zret rfl (dg hd_Mo_misses 57 rfl) (isB_n (by decide))
    · refine ux_iload_n (dg hd_Mo_misses 33 rfl) rfl ?_
      refine ux_if_eq 62 (dg hd_Mo_misses 34 rfl) (by decide) (fun _ => ?_) (fun _ => ?_)
      · refine ux_iload_n (dg hd_Mo_misses 37 rfl) rfl ?_
        refine ux_aload_n (dg hd_Mo_misses 38 rfl) rfl ?_
        refine ux_getr (q := 12) fcX7 17 (by decide) wk_790 rfl rfl (dg hd_Mo_misses 39 rfl) ?_
        refine ux_iload_n (dg hd_Mo_misses 40 rfl) rfl ?_
        refine ux_iald rfl (dg hd_Mo_misses 41 rfl) ?_
        refine ux_isub (dg hd_Mo_misses 42 rfl) ?_
        refine ux_callVv (As := [.int p1, .int (2 : Int32), .int (r1 - (σ6.2 12 p1.toNatClampNeg))]) (sp_Mo_lets l p1 (2 : Int32) (r1 - (σ6.2 12 p1.toNatClampNeg)) _) (by omega) cv_Mo_lets wk_854 rfl rfl rfl rfl rfl (Nat.le_of_ble_eq_true rfl) (dg hd_Mo_misses 43 rfl) (fun r7 σ8 _ => ?_)
        refine ux_aload_n (dg hd_Mo_misses 44 rfl) rfl ?_
        refine ux_iload_n (dg hd_Mo_misses 45 rfl) rfl ?_
        refine ux_iconst (4 : Int32) (dg hd_Mo_misses 46 rfl) (by decide) ?_
        refine ux_iload_n (dg hd_Mo_misses 47 rfl) rfl ?_
        refine ux_if_eq 84 (dg hd_Mo_misses 48 rfl) (by decide) (fun _ => ?_) (fun _ => ?_)
        · refine ux_aload_n (dg hd_Mo_misses 51 rfl) rfl ?_
          refine ux_iload_n (dg hd_Mo_misses 52 rfl) rfl ?_
          refine ux_iconst (4 : Int32) (dg hd_Mo_misses 53 rfl) (by decide) ?_
          refine ux_callVi (As := [.int p1, .int (4 : Int32)]) (sp_Mo_of l p1 (4 : Int32) _) (by omega) cv_Mo_of wk_866 rfl rfl rfl rfl rfl (Nat.le_of_ble_eq_true rfl) (dg hd_Mo_misses 54 rfl) (fun r9 σ10 _ => ?_)
          refine ux_callVv (As := [.int p1, .int (4 : Int32), .int r9]) (sp_Mo_lets l p1 (4 : Int32) r9 _) (by omega) cv_Mo_lets wk_854 rfl rfl rfl rfl rfl (Nat.le_of_ble_eq_true rfl) (dg hd_Mo_misses 55 rfl) (fun r11 σ12 _ => ?_)
          refine ux_iload_n (dg hd_Mo_misses 56 rfl) rfl ?_
          exact ux_zret rfl (dg hd_Mo_misses 57 rfl) (isB_n (by decide))
        · refine ux_iconst (0 : Int32) (dg hd_Mo_misses 49 rfl) (by decide) ?_
          refine ux_goto 90 (dg hd_Mo_misses 50 rfl) (by decide) ?_
          refine ux_callVv (As := [.int p1, .int (4 : Int32), .int (0 : Int32)]) (sp_Mo_lets l p1 (4 : Int32) (0 : Int32) _) (by omega) cv_Mo_lets wk_854 rfl rfl rfl rfl rfl (Nat.le_of_ble_eq_true rfl) (dg hd_Mo_misses 55 rfl) (fun r13 σ14 _ => ?_)
          refine ux_iload_n (dg hd_Mo_misses 56 rfl) rfl ?_
          exact ux_zret rfl (dg hd_Mo_misses 57 rfl) (isB_n (by decide))
      · refine ux_iload_n (dg hd_Mo_misses 35 rfl) rfl ?_
        refine ux_goto 70 (dg hd_Mo_misses 36 rfl) (by decide) ?_
        refine ux_callVv (As := [.int p1, .int (2 : Int32), .int r1]) (sp_Mo_lets l p1 (2 : Int32) r1 _) (by omega) cv_Mo_lets wk_854 rfl rfl rfl rfl rfl (Nat.le_of_ble_eq_true rfl) (dg hd_Mo_misses 43 rfl) (fun r15 σ16 _ => ?_)
        refine ux_aload_n (dg hd_Mo_misses 44 rfl) rfl ?_
        refine ux_iload_n (dg hd_Mo_misses 45 rfl) rfl ?_
        refine ux_iconst (4 : Int32) (dg hd_Mo_misses 46 rfl) (by decide) ?_
        refine ux_iload_n (dg hd_Mo_misses 47 rfl) rfl ?_
        refine ux_if_eq 84 (dg hd_Mo_misses 48 rfl) (by decide) (fun _ => ?_) (fun _ => ?_)
        · refine ux_aload_n (dg hd_Mo_misses 51 rfl) rfl ?_
          refine ux_iload_n (dg hd_Mo_misses 52 rfl) rfl ?_
          refine ux_iconst (4 : Int32) (dg hd_Mo_misses 53 rfl) (by decide) ?_
          refine ux_callVi (As := [.int p1, .int (4 : Int32)]) (sp_Mo_of l p1 (4 : Int32) _) (by omega) cv_Mo_of wk_866 rfl rfl rfl rfl rfl (Nat.le_of_ble_eq_true rfl) (dg hd_Mo_misses 54 rfl) (fun r17 σ18 _ => ?_)
          refine ux_callVv (As := [.int p1, .int (4 : Int32), .int r17]) (sp_Mo_lets l p1 (4 : Int32) r17 _) (by omega) cv_Mo_lets wk_854 rfl rfl rfl rfl rfl (Nat.le_of_ble_eq_true rfl) (dg hd_Mo_misses 55 rfl) (fun r19 σ20 _ => ?_)
          refine ux_iload_n (dg hd_Mo_misses 56 rfl) rfl ?_
          exact ux_zret rfl (dg hd_Mo_misses 57 rfl) (isB_n (by decide))
        · refine ux_iconst (0 : Int32) (dg hd_Mo_misses 49 rfl) (by decide) ?_
          refine ux_goto 90 (dg hd_Mo_misses 50 rfl) (by decide) ?_
          refine ux_callVv (As := [.int p1, .int (4 : Int32), .int (0 : Int32)]) (sp_Mo_lets l p1 (4 : Int32) (0 : Int32) _) (by omega) cv_Mo_lets wk_854 rfl rfl rfl rfl rfl (Nat.le_of_ble_eq_true rfl) (dg hd_Mo_misses 55 rfl) (fun r21 σ22 _ => ?_)
          refine ux_iload_n (dg hd_Mo_misses 56 rfl) rfl ?_
          exact ux_zret rfl (dg hd_Mo_misses 57 rfl) (isB_n (by decide))
  · refine ux_iload_n (dg hd_Mo_misses 9 rfl) rfl ?_
    refine ux_aload_n (dg hd_Mo_misses 10 rfl) rfl ?_
    refine ux_getr (q := 12) fcX7 17 (by decide) wk_790 rfl rfl (dg hd_Mo_misses 11 rfl) ?_
    refine ux_iload_n (dg hd_Mo_misses 12 rfl) rfl ?_
    refine ux_iald rfl (dg hd_Mo_misses 13 rfl) ?_
    refine ux_icmp_ge 29 (dg hd_Mo_misses 14 rfl) (by decide) (fun _ => ?_) (fun _ => ?_)
    · refine ux_iconst (0 : Int32) (dg hd_Mo_misses 17 rfl) (by decide) ?_
      refine ux_istore_n [(3, .int (0 : Int32)), (2, .int r1), (0, .ref 0), (1, .int p1)] (dg hd_Mo_misses 18 rfl) (by decide) rfl ?_
      refine ux_aload_n (dg hd_Mo_misses 19 rfl) rfl ?_
      refine ux_iload_n (dg hd_Mo_misses 20 rfl) rfl ?_
      refine ux_iconst (2 : Int32) (dg hd_Mo_misses 21 rfl) (by decide) ?_
      refine ux_aload_n (dg hd_Mo_misses 22 rfl) rfl ?_
      refine ux_iload_n (dg hd_Mo_misses 23 rfl) rfl ?_
      refine ux_callVi (As := [.int p1]) (sp_Mo_isIn l p1 _) (by omega) cv_Mo_isIn wk_886 rfl rfl rfl rfl rfl (Nat.le_of_ble_eq_true rfl) (dg hd_Mo_misses 24 rfl) (fun r33 σ34 _ => ?_)
      refine ux_if_ne 54 (dg hd_Mo_misses 25 rfl) (by decide) (fun _ => ?_) (fun _ => ?_)
      · refine ux_iload_n (dg hd_Mo_misses 26 rfl) rfl ?_
        refine ux_iconst (1 : Int32) (dg hd_Mo_misses 27 rfl) (by decide) ?_
        refine ux_iadd (dg hd_Mo_misses 28 rfl) ?_
        refine ux_iconst (0 : Int32) (dg hd_Mo_misses 29 rfl) (by decide) ?_
        refine ux_bipush (99 : Int32) (dg hd_Mo_misses 30 rfl) (by decide) ?_
        refine ux_callSi (As := [.int (r1 + (1 : Int32)), .int (0 : Int32), .int (99 : Int32)]) (sp_Mo_held l (r1 + (1 : Int32)) (0 : Int32) (99 : Int32) _) (by omega) cs_Mo_held wk_904 rfl rfl (Nat.le_of_ble_eq_true rfl) (dg hd_Mo_misses 31 rfl) (fun r51 σ52 _ => ?_)
        refine ux_goto 70 (dg hd_Mo_misses 32 rfl) (by decide) ?_
        refine ux_callVv (As := [.int p1, .int (2 : Int32), .int r51]) (sp_Mo_lets l p1 (2 : Int32) r51 _) (by omega) cv_Mo_lets wk_854 rfl rfl rfl rfl rfl (Nat.le_of_ble_eq_true rfl) (dg hd_Mo_misses 43 rfl) (fun r53 σ54 _ => ?_)
        refine ux_aload_n (dg hd_Mo_misses 44 rfl) rfl ?_
        refine ux_iload_n (dg hd_Mo_misses 45 rfl) rfl ?_
        refine ux_iconst (4 : Int32) (dg hd_Mo_misses 46 rfl) (by decide) ?_
        refine ux_iload_n (dg hd_Mo_misses 47 rfl) rfl ?_
        refine ux_if_eq 84 (dg hd_Mo_misses 48 rfl) (by decide) (fun _ => ?_) (fun _ => ?_)
        · refine ux_aload_n (dg hd_Mo_misses 51 rfl) rfl ?_
          refine ux_iload_n (dg hd_Mo_misses 52 rfl) rfl ?_
          refine ux_iconst (4 : Int32) (dg hd_Mo_misses 53 rfl) (by decide) ?_
          refine ux_callVi (As := [.int p1, .int (4 : Int32)]) (sp_Mo_of l p1 (4 : Int32) _) (by omega) cv_Mo_of wk_866 rfl rfl rfl rfl rfl (Nat.le_of_ble_eq_true rfl) (dg hd_Mo_misses 54 rfl) (fun r55 σ56 _ => ?_)
          refine ux_callVv (As := [.int p1, .int (4 : Int32), .int r55]) (sp_Mo_lets l p1 (4 : Int32) r55 _) (by omega) cv_Mo_lets wk_854 rfl rfl rfl rfl rfl (Nat.le_of_ble_eq_true rfl) (dg hd_Mo_misses 55 rfl) (fun r57 σ58 _ => ?_)
          refine ux_iload_n (dg hd_Mo_misses 56 rfl) rfl ?_
          exact ux_zret rfl (dg hd_Mo_misses 57 rfl) (isB_n (by decide))
        · refine ux_iconst (0 : Int32) (dg hd_Mo_misses 49 rfl) (by decide) ?_
          refine ux_goto 90 (dg hd_Mo_misses 50 rfl) (by decide) ?_
          refine ux_callVv (As := [.int p1, .int (4 : Int32), .int (0 : Int32)]) (sp_Mo_lets l p1 (4 : Int32) (0 : Int32) _) (by omega) cv_Mo_lets wk_854 rfl rfl rfl rfl rfl (Nat.le_of_ble_eq_true rfl) (dg hd_Mo_misses 55 rfl) (fun r59 σ60 _ => ?_)
          refine ux_iload_n (dg hd_Mo_misses 56 rfl) rfl ?_
          exact ux_zret rfl (dg hd_Mo_misses 57 rfl) (isB_n (by decide))
      · refine ux_iload_n (dg hd_Mo_misses 33 rfl) rfl ?_
        refine ux_if_eq 62 (dg hd_Mo_misses 34 rfl) (by decide) (fun _ => ?_) (fun _ => ?_)
        · refine ux_iload_n (dg hd_Mo_misses 37 rfl) rfl ?_
          refine ux_aload_n (dg hd_Mo_misses 38 rfl) rfl ?_
          refine ux_getr (q := 12) fcX7 17 (by decide) wk_790 rfl rfl (dg hd_Mo_misses 39 rfl) ?_
          refine ux_iload_n (dg hd_Mo_misses 40 rfl) rfl ?_
          refine ux_iald rfl (dg hd_Mo_misses 41 rfl) ?_
          refine ux_isub (dg hd_Mo_misses 42 rfl) ?_
          refine ux_callVv (As := [.int p1, .int (2 : Int32), .int (r1 - (σ34.2 12 p1.toNatClampNeg))]) (sp_Mo_lets l p1 (2 : Int32) (r1 - (σ34.2 12 p1.toNatClampNeg)) _) (by omega) cv_Mo_lets wk_854 rfl rfl rfl rfl rfl (Nat.le_of_ble_eq_true rfl) (dg hd_Mo_misses 43 rfl) (fun r35 σ36 _ => ?_)
          refine ux_aload_n (dg hd_Mo_misses 44 rfl) rfl ?_
          refine ux_iload_n (dg hd_Mo_misses 45 rfl) rfl ?_
          refine ux_iconst (4 : Int32) (dg hd_Mo_misses 46 rfl) (by decide) ?_
          refine ux_iload_n (dg hd_Mo_misses 47 rfl) rfl ?_
          refine ux_if_eq 84 (dg hd_Mo_misses 48 rfl) (by decide) (fun _ => ?_) (fun _ => ?_)
          · refine ux_aload_n (dg hd_Mo_misses 51 rfl) rfl ?_
            refine ux_iload_n (dg hd_Mo_misses 52 rfl) rfl ?_
            refine ux_iconst (4 : Int32) (dg hd_Mo_misses 53 rfl) (by decide) ?_
            refine ux_callVi (As := [.int p1, .int (4 : Int32)]) (sp_Mo_of l p1 (4 : Int32) _) (by omega) cv_Mo_of wk_866 rfl rfl rfl rfl rfl (Nat.le_of_ble_eq_true rfl) (dg hd_Mo_misses 54 rfl) (fun r37 σ38 _ => ?_)
            refine ux_callVv (As := [.int p1, .int (4 : Int32), .int r37]) (sp_Mo_lets l p1 (4 : Int32) r37 _) (by omega) cv_Mo_lets wk_854 rfl rfl rfl rfl rfl (Nat.le_of_ble_eq_true rfl) (dg hd_Mo_misses 55 rfl) (fun r39 σ40 _ => ?_)
            refine ux_iload_n (dg hd_Mo_misses 56 rfl) rfl ?_
            exact ux_zret rfl (dg hd_Mo_misses 57 rfl) (isB_n (by decide))
          · refine ux_iconst (0 : Int32) (dg hd_Mo_misses 49 rfl) (by decide) ?_
            refine ux_goto 90 (dg hd_Mo_misses 50 rfl) (by decide) ?_
            refine ux_callVv (As := [.int p1, .int (4 : Int32), .int (0 : Int32)]) (sp_Mo_lets l p1 (4 : Int32) (0 : Int32) _) (by omega) cv_Mo_lets wk_854 rfl rfl rfl rfl rfl (Nat.le_of_ble_eq_true rfl) (dg hd_Mo_misses 55 rfl) (fun r41 σ42 _ => ?_)
            refine ux_iload_n (dg hd_Mo_misses 56 rfl) rfl ?_
            exact ux_zret rfl (dg hd_Mo_misses 57 rfl) (isB_n (by decide))
        · refine ux_iload_n (dg hd_Mo_misses 35 rfl) rfl ?_
          refine ux_goto 70 (dg hd_Mo_misses 36 rfl) (by decide) ?_
          refine ux_callVv (As := [.int p1, .int (2 : Int32), .int r1]) (sp_Mo_lets l p1 (2 : Int32) r1 _) (by omega) cv_Mo_lets wk_854 rfl rfl rfl rfl rfl (Nat.le_of_ble_eq_true rfl) (dg hd_Mo_misses 43 rfl) (fun r43 σ44 _ => ?_)
          refine ux_aload_n (dg hd_Mo_misses 44 rfl) rfl ?_
          refine ux_iload_n (dg hd_Mo_misses 45 rfl) rfl ?_
          refine ux_iconst (4 : Int32) (dg hd_Mo_misses 46 rfl) (by decide) ?_
          refine ux_iload_n (dg hd_Mo_misses 47 rfl) rfl ?_
          refine ux_if_eq 84 (dg hd_Mo_misses 48 rfl) (by decide) (fun _ => ?_) (fun _ => ?_)
          · refine ux_aload_n (dg hd_Mo_misses 51 rfl) rfl ?_
            refine ux_iload_n (dg hd_Mo_misses 52 rfl) rfl ?_
            refine ux_iconst (4 : Int32) (dg hd_Mo_misses 53 rfl) (by decide) ?_
            refine ux_callVi (As := [.int p1, .int (4 : Int32)]) (sp_Mo_of l p1 (4 : Int32) _) (by omega) cv_Mo_of wk_866 rfl rfl rfl rfl rfl (Nat.le_of_ble_eq_true rfl) (dg hd_Mo_misses 54 rfl) (fun r45 σ46 _ => ?_)
            refine ux_callVv (As := [.int p1, .int (4 : Int32), .int r45]) (sp_Mo_lets l p1 (4 : Int32) r45 _) (by omega) cv_Mo_lets wk_854 rfl rfl rfl rfl rfl (Nat.le_of_ble_eq_true rfl) (dg hd_Mo_misses 55 rfl) (fun r47 σ48 _ => ?_)
            refine ux_iload_n (dg hd_Mo_misses 56 rfl) rfl ?_
            exact ux_zret rfl (dg hd_Mo_misses 57 rfl) (isB_n (by decide))
          · refine ux_iconst (0 : Int32) (dg hd_Mo_misses 49 rfl) (by decide) ?_
            refine ux_goto 90 (dg hd_Mo_misses 50 rfl) (by decide) ?_
            refine ux_callVv (As := [.int p1, .int (4 : Int32), .int (0 : Int32)]) (sp_Mo_lets l p1 (4 : Int32) (0 : Int32) _) (by omega) cv_Mo_lets wk_854 rfl rfl rfl rfl rfl (Nat.le_of_ble_eq_true rfl) (dg hd_Mo_misses 55 rfl) (fun r49 σ50 _ => ?_)
            refine ux_iload_n (dg hd_Mo_misses 56 rfl) rfl ?_
            exact ux_zret rfl (dg hd_Mo_misses 57 rfl) (isB_n (by decide))
    · refine ux_iconst (1 : Int32) (dg hd_Mo_misses 15 rfl) (by decide) ?_
      refine ux_goto 30 (dg hd_Mo_misses 16 rfl) (by decide) ?_
      refine ux_istore_n [(3, .int (1 : Int32)), (2, .int r1), (0, .ref 0), (1, .int p1)] (dg hd_Mo_misses 18 rfl) (by decide) rfl ?_
      refine ux_aload_n (dg hd_Mo_misses 19 rfl) rfl ?_
      refine ux_iload_n (dg hd_Mo_misses 20 rfl) rfl ?_
      refine ux_iconst (2 : Int32) (dg hd_Mo_misses 21 rfl) (by decide) ?_
      refine ux_aload_n (dg hd_Mo_misses 22 rfl) rfl ?_
      refine ux_iload_n (dg hd_Mo_misses 23 rfl) rfl ?_
      refine ux_callVi (As := [.int p1]) (sp_Mo_isIn l p1 _) (by omega) cv_Mo_isIn wk_886 rfl rfl rfl rfl rfl (Nat.le_of_ble_eq_true rfl) (dg hd_Mo_misses 24 rfl) (fun r61 σ62 _ => ?_)
      refine ux_if_ne 54 (dg hd_Mo_misses 25 rfl) (by decide) (fun _ => ?_) (fun _ => ?_)
      · refine ux_iload_n (dg hd_Mo_misses 26 rfl) rfl ?_
        refine ux_iconst (1 : Int32) (dg hd_Mo_misses 27 rfl) (by decide) ?_
        refine ux_iadd (dg hd_Mo_misses 28 rfl) ?_
        refine ux_iconst (0 : Int32) (dg hd_Mo_misses 29 rfl) (by decide) ?_
        refine ux_bipush (99 : Int32) (dg hd_Mo_misses 30 rfl) (by decide) ?_
        refine ux_callSi (As := [.int (r1 + (1 : Int32)), .int (0 : Int32), .int (99 : Int32)]) (sp_Mo_held l (r1 + (1 : Int32)) (0 : Int32) (99 : Int32) _) (by omega) cs_Mo_held wk_904 rfl rfl (Nat.le_of_ble_eq_true rfl) (dg hd_Mo_misses 31 rfl) (fun r79 σ80 _ => ?_)
        refine ux_goto 70 (dg hd_Mo_misses 32 rfl) (by decide) ?_
        refine ux_callVv (As := [.int p1, .int (2 : Int32), .int r79]) (sp_Mo_lets l p1 (2 : Int32) r79 _) (by omega) cv_Mo_lets wk_854 rfl rfl rfl rfl rfl (Nat.le_of_ble_eq_true rfl) (dg hd_Mo_misses 43 rfl) (fun r81 σ82 _ => ?_)
        refine ux_aload_n (dg hd_Mo_misses 44 rfl) rfl ?_
        refine ux_iload_n (dg hd_Mo_misses 45 rfl) rfl ?_
        refine ux_iconst (4 : Int32) (dg hd_Mo_misses 46 rfl) (by decide) ?_
        refine ux_iload_n (dg hd_Mo_misses 47 rfl) rfl ?_
        refine ux_if_eq 84 (dg hd_Mo_misses 48 rfl) (by decide) (fun _ => ?_) (fun _ => ?_)
        · refine ux_aload_n (dg hd_Mo_misses 51 rfl) rfl ?_
          refine ux_iload_n (dg hd_Mo_misses 52 rfl) rfl ?_
          refine ux_iconst (4 : Int32) (dg hd_Mo_misses 53 rfl) (by decide) ?_
          refine ux_callVi (As := [.int p1, .int (4 : Int32)]) (sp_Mo_of l p1 (4 : Int32) _) (by omega) cv_Mo_of wk_866 rfl rfl rfl rfl rfl (Nat.le_of_ble_eq_true rfl) (dg hd_Mo_misses 54 rfl) (fun r83 σ84 _ => ?_)
          refine ux_callVv (As := [.int p1, .int (4 : Int32), .int r83]) (sp_Mo_lets l p1 (4 : Int32) r83 _) (by omega) cv_Mo_lets wk_854 rfl rfl rfl rfl rfl (Nat.le_of_ble_eq_true rfl) (dg hd_Mo_misses 55 rfl) (fun r85 σ86 _ => ?_)
          refine ux_iload_n (dg hd_Mo_misses 56 rfl) rfl ?_
          exact ux_zret rfl (dg hd_Mo_misses 57 rfl) (isB_n (by decide))
        · refine ux_iconst (0 : Int32) (dg hd_Mo_misses 49 rfl) (by decide) ?_
          refine ux_goto 90 (dg hd_Mo_misses 50 rfl) (by decide) ?_
          refine ux_callVv (As := [.int p1, .int (4 : Int32), .int (0 : Int32)]) (sp_Mo_lets l p1 (4 : Int32) (0 : Int32) _) (by omega) cv_Mo_lets wk_854 rfl rfl rfl rfl rfl (Nat.le_of_ble_eq_true rfl) (dg hd_Mo_misses 55 rfl) (fun r87 σ88 _ => ?_)
          refine ux_iload_n (dg hd_Mo_misses 56 rfl) rfl ?_
          exact ux_zret rfl (dg hd_Mo_misses 57 rfl) (isB_n (by decide))
      · refine ux_iload_n (dg hd_Mo_misses 33 rfl) rfl ?_
        refine ux_if_eq 62 (dg hd_Mo_misses 34 rfl) (by decide) (fun _ => ?_) (fun _ => ?_)
        · refine ux_iload_n (dg hd_Mo_misses 37 rfl) rfl ?_
          refine ux_aload_n (dg hd_Mo_misses 38 rfl) rfl ?_
          refine ux_getr (q := 12) fcX7 17 (by decide) wk_790 rfl rfl (dg hd_Mo_misses 39 rfl) ?_
          refine ux_iload_n (dg hd_Mo_misses 40 rfl) rfl ?_
          refine ux_iald rfl (dg hd_Mo_misses 41 rfl) ?_
          refine ux_isub (dg hd_Mo_misses 42 rfl) ?_
          refine ux_callVv (As := [.int p1, .int (2 : Int32), .int (r1 - (σ62.2 12 p1.toNatClampNeg))]) (sp_Mo_lets l p1 (2 : Int32) (r1 - (σ62.2 12 p1.toNatClampNeg)) _) (by omega) cv_Mo_lets wk_854 rfl rfl rfl rfl rfl (Nat.le_of_ble_eq_true rfl) (dg hd_Mo_misses 43 rfl) (fun r63 σ64 _ => ?_)
          refine ux_aload_n (dg hd_Mo_misses 44 rfl) rfl ?_
          refine ux_iload_n (dg hd_Mo_misses 45 rfl) rfl ?_
          refine ux_iconst (4 : Int32) (dg hd_Mo_misses 46 rfl) (by decide) ?_
          refine ux_iload_n (dg hd_Mo_misses 47 rfl) rfl ?_
          refine ux_if_eq 84 (dg hd_Mo_misses 48 rfl) (by decide) (fun _ => ?_) (fun _ => ?_)
          · refine ux_aload_n (dg hd_Mo_misses 51 rfl) rfl ?_
            refine ux_iload_n (dg hd_Mo_misses 52 rfl) rfl ?_
            refine ux_iconst (4 : Int32) (dg hd_Mo_misses 53 rfl) (by decide) ?_
            refine ux_callVi (As := [.int p1, .int (4 : Int32)]) (sp_Mo_of l p1 (4 : Int32) _) (by omega) cv_Mo_of wk_866 rfl rfl rfl rfl rfl (Nat.le_of_ble_eq_true rfl) (dg hd_Mo_misses 54 rfl) (fun r65 σ66 _ => ?_)
            refine ux_callVv (As := [.int p1, .int (4 : Int32), .int r65]) (sp_Mo_lets l p1 (4 : Int32) r65 _) (by omega) cv_Mo_lets wk_854 rfl rfl rfl rfl rfl (Nat.le_of_ble_eq_true rfl) (dg hd_Mo_misses 55 rfl) (fun r67 σ68 _ => ?_)
            refine ux_iload_n (dg hd_Mo_misses 56 rfl) rfl ?_
            exact ux_zret rfl (dg hd_Mo_misses 57 rfl) (isB_n (by decide))
          · refine ux_iconst (0 : Int32) (dg hd_Mo_misses 49 rfl) (by decide) ?_
            refine ux_goto 90 (dg hd_Mo_misses 50 rfl) (by decide) ?_
            refine ux_callVv (As := [.int p1, .int (4 : Int32), .int (0 : Int32)]) (sp_Mo_lets l p1 (4 : Int32) (0 : Int32) _) (by omega) cv_Mo_lets wk_854 rfl rfl rfl rfl rfl (Nat.le_of_ble_eq_true rfl) (dg hd_Mo_misses 55 rfl) (fun r69 σ70 _ => ?_)
            refine ux_iload_n (dg hd_Mo_misses 56 rfl) rfl ?_
            exact ux_zret rfl (dg hd_Mo_misses 57 rfl) (isB_n (by decide))
        · refine ux_iload_n (dg hd_Mo_misses 35 rfl) rfl ?_
          refine ux_goto 70 (dg hd_Mo_misses 36 rfl) (by decide) ?_
          refine ux_callVv (As := [.int p1, .int (2 : Int32), .int r1]) (sp_Mo_lets l p1 (2 : Int32) r1 _) (by omega) cv_Mo_lets wk_854 rfl rfl rfl rfl rfl (Nat.le_of_ble_eq_true rfl) (dg hd_Mo_misses 43 rfl) (fun r71 σ72 _ => ?_)
          refine ux_aload_n (dg hd_Mo_misses 44 rfl) rfl ?_
          refine ux_iload_n (dg hd_Mo_misses 45 rfl) rfl ?_
          refine ux_iconst (4 : Int32) (dg hd_Mo_misses 46 rfl) (by decide) ?_
          refine ux_iload_n (dg hd_Mo_misses 47 rfl) rfl ?_
          refine ux_if_eq 84 (dg hd_Mo_misses 48 rfl) (by decide) (fun _ => ?_) (fun _ => ?_)
          · refine ux_aload_n (dg hd_Mo_misses 51 rfl) rfl ?_
            refine ux_iload_n (dg hd_Mo_misses 52 rfl) rfl ?_
            refine ux_iconst (4 : Int32) (dg hd_Mo_misses 53 rfl) (by decide) ?_
            refine ux_callVi (As := [.int p1, .int (4 : Int32)]) (sp_Mo_of l p1 (4 : Int32) _) (by omega) cv_Mo_of wk_866 rfl rfl rfl rfl rfl (Nat.le_of_ble_eq_true rfl) (dg hd_Mo_misses 54 rfl) (fun r73 σ74 _ => ?_)
            refine ux_callVv (As := [.int p1, .int (4 : Int32), .int r73]) (sp_Mo_lets l p1 (4 : Int32) r73 _) (by omega) cv_Mo_lets wk_854 rfl rfl rfl rfl rfl (Nat.le_of_ble_eq_true rfl) (dg hd_Mo_misses 55 rfl) (fun r75 σ76 _ => ?_)
            refine ux_iload_n (dg hd_Mo_misses 56 rfl) rfl ?_
            exact ux_zret rfl (dg hd_Mo_misses 57 rfl) (isB_n (by decide))
          · refine ux_iconst (0 : Int32) (dg hd_Mo_misses 49 rfl) (by decide) ?_
            refine ux_goto 90 (dg hd_Mo_misses 50 rfl) (by decide) ?_
            refine ux_callVv (As := [.int p1, .int (4 : Int32), .int (0 : Int32)]) (sp_Mo_lets l p1 (4 : Int32) (0 : Int32) _) (by omega) cv_Mo_lets wk_854 rfl rfl rfl rfl rfl (Nat.le_of_ble_eq_true rfl) (dg hd_Mo_misses 55 rfl) (fun r77 σ78 _ => ?_)
            refine ux_iload_n (dg hd_Mo_misses 56 rfl) rfl ?_
            exact ux_zret rfl (dg hd_Mo_misses 57 rfl) (isB_n (by decide))
