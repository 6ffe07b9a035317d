/-! ===== agree, fairest, balks, meets, odds ===== -/
def ca (R : Nat → Int32) (N m : Nat) : Nat := match m with
  | 0 => 0
  | m + 1 => if tkn R (63 - m) N = true then ca R N m + 1 else ca R N m
def la (R : Nat → Int32) (N m : Nat) : Option Nat := match m with
  | 0 => none
  | m + 1 => if tkn R (63 - m) N = true then some (63 - m) else la R N m
theorem la_lt {R : Nat → Int32} {N : Nat} : ∀ (m t : Nat), la R N m = some t → t < 64 := by
  intro m
  induction m with
  | zero => intro t h; cases h
  | succ m ih =>
    intro t h
    rw [la] at h
    split at h
    · cases h; omega
    · exact ih t h
def agL (l : Option Nat) (σ : St) : Option (Int32 × St) := match l with
  | none => bnd (Mn_error 2 σ) (fun r s => some (r, s))
  | some t => some (nI t, σ)
def agN (l : Option Nat) (σ : St) : Option (Int32 × St) := match l with
  | none => bnd (Mo_error (-1000000002) σ) (fun r s => some (r, s))
  | some t => some (nI t, σ)
def agC (v x : Int32) (c : Nat) (l : Option Nat) (σ : St) : Option (Int32 × St) := if v = 1 then agL l σ else some (x + nI c, σ)
def agM (v : Int32) (c : Nat) (l : Option Nat) (σ : St) : Option (Int32 × St) := if v = 0 then some (nI c, σ) else agN l σ
theorem Mn_agree_loop {R : Nat → Int32} {N : Nat} {v : Int32} (hN : RN R N) : ∀ (m n : Nat) (x : Int32) (σ : St), m ≤ 64 → m < n → RA σ 15 R → TX σ 15 R → ∃ σ', SQ σ σ' ∧ Mn_agree_L18 n v x (nI (64 - m)) σ = agC v x (ca R N m) (la R N m) σ' := by
  intro m
  induction m with
  | zero =>
    intro n x σ hm hn hA hT
    obtain ⟨n, rfl⟩ : ∃ z, n = z + 1 := ⟨n - 1, by omega⟩
    refine ⟨σ, SQ.rf σ, ?_⟩
    rw [Mn_agree_L18, if_pos (show (64 : Int32) ≤ nI (64 - 0) from Int32.le_refl _), agC]
    by_cases hv : v = 1
    · rw [if_pos hv, if_pos hv]; rfl
    · rw [if_neg hv, if_neg hv, ca, show nI 0 = 0 from rfl, Int32.add_zero]
  | succ m ih =>
    intro n x σ hm hn hA hT
    obtain ⟨n, rfl⟩ : ∃ z, n = z + 1 := ⟨n - 1, by omega⟩
    have et : 64 - (m + 1) = 63 - m := by omega
    obtain ⟨r, s, e, q1, q2⟩ := Rp_isTaken_ok (t := 63 - m) (Or.inl rfl) hN (by omega) hA hT
    rw [et, Mn_agree_L18, if_neg (show ¬ (64 : Int32) ≤ nI (63 - m) from nI_ge (b := 64) (by omega) (by decide)), e, bnd_t, q1]
    have hx : nI (63 - m) + 1 = nI (64 - m) := by rw [nI_lit1, show 63 - m + 1 = 64 - m by omega]
    cases hb : tkn R (63 - m) N with
    | false =>
      have e1 : ca R N (m + 1) = ca R N m := by rw [ca, hb]; rfl
      have e2 : la R N (m + 1) = la R N m := by rw [la, hb]; rfl
      obtain ⟨σ', g1, g2⟩ := ih n x s (by omega) (by omega) (sq_RA q2 (by decide) hA) (sq_TX q2 hT)
      refine ⟨σ', q2.tr g1, ?_⟩
      rw [if_bf, nam_t, hx, e1, e2]
      exact g2
    | true =>
      have e1 : ca R N (m + 1) = ca R N m + 1 := by rw [ca, hb]; rfl
      have e2 : la R N (m + 1) = some (63 - m) := by rw [la, hb]; rfl
      by_cases hv : v = 1
      · refine ⟨s, q2, ?_⟩
        rw [if_bt, if_pos hv, e1, e2, agC, if_pos hv]; rfl
      · obtain ⟨σ', g1, g2⟩ := ih n (x + 1) s (by omega) (by omega) (sq_RA q2 (by decide) hA) (sq_TX q2 hT)
        refine ⟨σ', q2.tr g1, ?_⟩
        rw [if_bt, if_neg hv, nam_t, nam_t, hx, e1, e2, g2, agC, agC, if_neg hv, if_neg hv, Int32.add_assoc, ← nI_lit1, Int32.add_comm 1]
theorem bI_t (t : Nat) (h : t < 64) : (0 : Int32) ≤ bI (some t) := nI_pos' (by omega)
theorem Mo_agree_loop {R : Nat → Int32} {N : Nat} {v : Int32} (hN : RN R N) (hT : TW R 245) : ∀ (j n : Nat) (τ : St), j ≤ 64 → j < n → τ.2 1 = R → ∃ τ', Mq τ τ' ∧ Mo_agree_L24 n v (nI (ca R N (64 - j))) (bI (la R N (64 - j))) (nI j + (-1)) τ = agM v (ca R N 64) (la R N 64) τ' := by
  intro j
  induction j with
  | zero =>
    intro n τ hj hn h1
    obtain ⟨n, rfl⟩ : ∃ z, n = z + 1 := ⟨n - 1, by omega⟩
    refine ⟨τ, Mq.rf τ, ?_⟩
    rw [Mo_agree_L24, if_pos (show nI 0 + (-1) < 0 by decide), agM, Nat.sub_zero]
    by_cases hv : v = 0
    · rw [if_pos hv, if_pos hv]
    · rw [if_neg hv, if_neg hv]
      cases hl : la R N 64 with
      | none => rw [if_neg (show ¬ (0 : Int32) ≤ bI none by decide)]; rfl
      | some t => rw [if_pos (bI_t t (la_lt 64 t hl))]; rfl
  | succ j ih =>
    intro n τ hj hn h1
    obtain ⟨n, rfl⟩ : ∃ z, n = z + 1 := ⟨n - 1, by omega⟩
    obtain ⟨r, s, e, q1, q2⟩ := Mo_isTaken_ok (τ := τ) (N := N) (t := j) (by rw [h1]; exact hN) (by omega) (by rw [h1]; exact hT)
    rw [Mo_agree_L24, pk_m1, if_neg (nI_pos (show j < 2 ^ 31 by omega)), e, bnd_t, q1, h1]
    have hs1 : s.2 1 = R := (mq_1 q2).trans h1
    obtain ⟨τ', g1, g2⟩ := ih n s (by omega) (by omega) hs1
    refine ⟨τ', q2.tr g1, ?_⟩
    have ej : 64 - j = (64 - (j + 1)) + 1 := by omega
    have e63 : 63 - (64 - (j + 1)) = j := by omega
    rw [ej, ca, la, e63] at g2
    cases hb : tkn R j N with
    | false =>
      rw [hb] at g2
      rw [if_bf, nam_t, if_bf, nam_t, nI_lit0]
      exact g2
    | true =>
      rw [hb] at g2
      rw [if_bt, nam_t, if_bt, nam_t, nI_lit1]
      exact g2
theorem op_agree {σ τ : St} (h : Rl σ τ) (a : Int32) : OK2 (Mn_agree a σ) (Mo_agree a τ) := by
  obtain ⟨N, hN⟩ := h.1.2.1
  have hA := h.1.1
  have hT := Rl_TX h
  rw [Mn_agree, Mo_agree, Mn_isWithin_eq, bnd_t, Mo_in_eq, bnd_t]
  cases e1 : wi a 0 1 with
  | false => rw [if_bf, if_bf]; exact err1 h
  | true =>
    obtain ⟨v, hv, rfl⟩ := wi_in (m := 1) (by decide) e1
    obtain ⟨s, g1, g2⟩ := Mn_agree_loop (v := nI v) hN 64 1000 0 σ (by omega) (by omega) hA hT
    obtain ⟨t, g3, g4⟩ := Mo_agree_loop (v := nI v) hN hT.2.1 64 1000 τ (by omega) (by omega) rfl
    rw [if_bt, if_bt]
    have h2 : Rl s t := Rl_keep (SX.sq g1) (MX.mq g3) h
    refine Eq.mpr (congrArg (fun x => OK2 x _) g2) ?_
    refine Eq.mpr (congrArg (fun x => OK2 _ x) g4) ?_
    rw [agC, agM]
    clear g2 g4
    match v, hv with
    | 0, _ =>
      rw [if_neg (show ¬ nI 0 = 1 by decide), if_pos (show nI 0 = 0 from rfl), Int32.zero_add]
      exact ok2 h2
    | 1, _ =>
      rw [if_pos (show nI 1 = 1 from rfl), if_neg (show ¬ nI 1 = 0 by decide)]
      cases la (τ.2 1) N 64 with
      | none => exact err2 h2
      | some t => exact ok2 h2
    | v + 2, hv => exact absurd hv (by omega)
theorem fairest_loop {R : Nat → Int32} {N : Nat} {x1 : Int32} (hN : RN R N) : ∀ (m k n n' : Nat) (x2 x3 : Int32) (σ τ : St), k + m = 64 → m < n → m < n' → RA σ 15 R → TX σ 15 R → τ.2 1 = R → s2 (Mn_fairest_L37 n x1 x2 x3 (nI k) σ) (Mo_fairest_L37 n' x1 x2 x3 (nI k) τ) (fun r σ' q τ' => q = r ∧ SQ σ σ' ∧ Mq τ τ') := by
  intro m
  induction m with
  | zero =>
    intro k n n' x2 x3 σ τ hk hn hn' hA hT h1
    obtain ⟨n, rfl⟩ : ∃ z, n = z + 1 := ⟨n - 1, by omega⟩
    obtain ⟨n', rfl⟩ : ∃ z, n' = z + 1 := ⟨n' - 1, by omega⟩
    have hk : k = 64 := by omega
    rw [hk, Mn_fairest_L37, Mo_fairest_L37, if_pos (show (64 : Int32) ≤ nI 64 from Int32.le_refl _), if_pos (show (64 : Int32) ≤ nI 64 from Int32.le_refl _)]
    by_cases hx : x1 = 0
    · rw [if_pos hx, if_pos hx]; exact s2_some ⟨rfl, SQ.rf σ, Mq.rf τ⟩
    · rw [if_neg hx, if_neg hx]; exact s2_some ⟨rfl, SQ.rf σ, Mq.rf τ⟩
  | succ m ih =>
    intro k n n' x2 x3 σ τ hk hn hn' hA hT h1
    obtain ⟨n, rfl⟩ : ∃ z, n = z + 1 := ⟨n - 1, by omega⟩
    obtain ⟨n', rfl⟩ : ∃ z, n' = z + 1 := ⟨n' - 1, by omega⟩
    have hg : ¬ (64 : Int32) ≤ nI k := nI_ge (b := 64) (by omega) (by decide)
    rw [Mn_fairest_L37, Mo_fairest_L37, if_neg hg, if_neg hg]
    refine s2_l (Rp_leastLiking_ok (t := k) (Or.inl rfl) hN hA hT) (fun r s q => ?_)
    refine s2_r (Mo_leastLiking_ok (N := N) (t := k) (by rw [h1]; exact hN) (by omega) (by rw [h1]; exact hT.2.1)) (fun r' t q' => ?_)
    rw [q.1, q'.1, h1]
    have hh : ∀ x2 x3, s2 (Mn_fairest_L37 n x1 x2 x3 (nI (k + 1)) s) (Mo_fairest_L37 n' x1 x2 x3 (nI (k + 1)) t) (fun r σ' q τ' => q = r ∧ SQ σ σ' ∧ Mq τ τ') := fun x2 x3 => s2_mono (ih (k + 1) n n' x2 x3 s t (by omega) (by omega) (by omega) (sq_RA q.2 (by decide) hA) (sq_TX q.2 hT) ((mq_1 q'.2).trans h1)) (fun r σ' q1 τ' p => ⟨p.1, q.2.tr p.2.1, q'.2.tr p.2.2⟩)
    by_cases hl : ll R k N ≤ x3
    · rw [if_pos hl, if_pos hl, if_pos hl, nam_t, nam_t, nI_lit1]; exact hh _ _
    · rw [if_neg hl, if_neg hl, if_neg hl, nam_t, nam_t, nI_lit1]; exact hh _ _
theorem op_fairest {σ τ : St} (h : Rl σ τ) (a : Int32) : OK2 (Mn_fairest a σ) (Mo_fairest a τ) := by
  obtain ⟨N, hN⟩ := h.1.2.1
  have hA := h.1.1
  have hT := Rl_TX h
  rw [Mn_fairest, Mo_fairest, Mn_isWithin_eq, bnd_t, Mo_in_eq, bnd_t]
  cases e1 : wi a 0 1 with
  | false => rw [if_bf, if_bf]; exact err1 h
  | true =>
    rw [if_bt, if_bt, Rp_howManyIn_eq hN hA, bnd_t, Mo_allIn_eq hN.1 hN.2.1, bnd_t]
    by_cases hs : sset (τ.2 1) N = 0
    · rw [if_pos ((hm_0 hN.1).mpr hs), if_pos hs]; exact err3 h
    · rw [if_neg (fun q => hs ((hm_0 hN.1).mp q)), if_neg hs]
      exact s2_mono (fairest_loop hN 64 0 1000 1000 0 (-1) σ τ (by omega) (by omega) (by omega) hA hT rfl) (fun r σ' q τ' p => ⟨p.1, Rl_keep (SX.sq p.2.1) (MX.mq p.2.2) h⟩)
theorem op_balks {σ τ : St} (h : Rl σ τ) (a : Int32) : OK2 (Mn_balks a σ) (Mo_balks a τ) := by
  obtain ⟨N, hN⟩ := h.1.2.1
  have hA := h.1.1
  have hT := Rl_TX h
  rw [Mn_balks, Mo_balks, Mn_isWithin_eq, bnd_t, Mo_in_eq, bnd_t]
  cases e1 : wi a 0 1 with
  | false => rw [if_bf, if_bf]; exact err1 h
  | true =>
    rw [if_bt, if_bt, Rp_howManyIn_eq hN hA, bnd_t, Mo_allIn_eq hN.1 hN.2.1, bnd_t]
    by_cases hs : sset (τ.2 1) N = 0
    · rw [if_pos ((hm_0 hN.1).mpr hs), if_pos hs]; exact err3 h
    · rw [if_neg (fun q => hs ((hm_0 hN.1).mp q)), if_neg hs]
      obtain ⟨j, hj, hi⟩ := sset_some N hs
      obtain ⟨w, hw⟩ := bw_some (N := N) N j hj hi
      have hwN := bw_lt N w hw
      have h6 := hN.1
      refine ok2_l (Rp_whoBalks_ok hN hA hT) (fun r s q => ?_)
      have hr : r = nI w := by
        rw [q.1, hw]
        unfold imx bI
        rw [if_neg (nI_pos (by omega))]
      have hM := Mo_balks_loop (x1 := a) hN hT.2.1 N 0 1000 τ (by omega) (by omega) rfl
      rw [hr]
      by_cases ha : a = 0
      · rw [if_pos ha]
        obtain ⟨r', t, g1, g2, g3⟩ := hM
        rw [if_pos ha, hw] at g2
        refine ⟨nI w, s, r', t, rfl, g1, g2, Rl_keep (SX.sb q.2.1) (MX.mq g3) h⟩
      · rw [if_neg ha, inb_nI (show w < 6 by omega) (by decide), grd_t, nI_clamp (show w < 2 ^ 31 by omega), q.2.2 w hwN]
        obtain ⟨r', t, g1, g2, g3⟩ := hM
        rw [if_neg ha, hw] at g2
        refine ⟨_, s, r', t, rfl, g1, g2, Rl_keep (SX.sb q.2.1) (MX.mq g3) h⟩
theorem meets_loop {σ τ : St} {b m n : Nat} {x1 x3 : Int32} (h : Rl σ τ) (hb : b ≤ 99999) (hbe : τ.2 1 0 = nI b) (hm : 1 ≤ m ∧ m ≤ 30) (hn : 1 ≤ n ∧ n ≤ 30) : ∀ (z i f f' : Nat), i + z = m * n → z < f → z < f' → OK2 (Mn_meets_L26 f x1 (nI m) x3 (nI n) (nI i) σ) (Mo_meets_L59 f' x1 (nI m) x3 (nI n) (nI (b + i)) τ) := by
  have hmn : m * n ≤ 900 := Nat.mul_le_mul hm.2 hn.2
  have hnm : nz (nI m) = true := nz_of (nI_ne0 (by omega) (by omega))
  have hnn : nz (nI n) = true := nz_of (nI_ne0 (by omega) (by omega))
  intro z
  induction z with
  | zero =>
    intro i f f' hi hf hf'
    obtain ⟨f, rfl⟩ : ∃ z, f = z + 1 := ⟨f - 1, by omega⟩
    obtain ⟨f', rfl⟩ : ∃ z, f' = z + 1 := ⟨f' - 1, by omega⟩
    have hi : i = m * n := by omega
    rw [hi, Mn_meets_L26, Mo_meets_L59, g0, grd_t, z0, hbe, pk_mul, nI_add, if_pos (Int32.le_refl _), if_pos (Int32.le_refl _)]
    exact err2 h
  | succ z ih =>
    intro i f f' hi hf hf'
    obtain ⟨f, rfl⟩ : ∃ z, f = z + 1 := ⟨f - 1, by omega⟩
    obtain ⟨f', rfl⟩ : ∃ z, f' = z + 1 := ⟨f' - 1, by omega⟩
    have hik := ih (i + 1) f f' (by omega) (by omega) (by omega)
    rw [Mn_meets_L26, Mo_meets_L59, g0, grd_t, z0, hbe, pk_mul, nI_add, if_neg (nI_ge (a := i) (by omega) (by omega)), if_neg (nI_ge (a := b + i) (by omega) (by omega)), h.1.1.1.1, hbe, nI_add, nam_t, hnm, grd_t, grd_t]
    by_cases h1 : irm (nI (b + i)) (nI m) = x1
    · rw [if_pos h1, if_pos h1, hnn, grd_t, grd_t]
      by_cases h2 : irm (nI (b + i)) (nI n) = x3
      · rw [if_pos h2, if_pos h2]; exact ok2 h
      · rw [if_neg h2, if_neg h2, nam_t, nam_t, nI_lit1, nI_lit1]; exact hik
    · rw [if_neg h1, if_neg h1, nam_t, nam_t, nI_lit1, nI_lit1]; exact hik
theorem Mn_isRest_eq {a m : Int32} {σ : St} : Mn_isRest a m σ = some (b01 (wi m 1 30 && wi a 0 (m - 1)), σ) := by
  rw [Mn_isRest]
  by_cases h1 : m < 1
  · rw [if_pos h1, wi_no1 h1]; rfl
  · rw [if_neg h1]
    by_cases h2 : (30 : Int32) < m
    · rw [if_pos h2, wi_no2 h2]; rfl
    · rw [if_neg h2, wi_yes h1 h2, Mn_isWithin_eq, bnd_t, Bool.true_and]
      cases wi a 0 (m - 1) with
      | false => rw [if_bf]; rfl
      | true => rw [if_bt]; rfl
theorem wi_1in {p : Int32} {m : Nat} (hm : m < 2 ^ 31) (h : wi p 1 (nI m) = true) : ∃ k, 1 ≤ k ∧ k ≤ m ∧ p = nI k := by
  rw [wi, Bool.and_eq_true] at h
  have h1 := of_decide_eq_true h.1
  have h2 := of_decide_eq_true h.2
  exact in_1 hm (by rw [lt_i]; rw [le_i] at h1; omega) h2
theorem op_meets {σ τ : St} (h : Rl σ τ) (a b c d : Int32) : OK2 (Mn_meets a b c d σ) (Mo_meets a b c d τ) := by
  rw [Mn_meets, Mo_meets, Mn_isRest_eq, bnd_t, Mo_in_eq, bnd_t]
  cases e1 : wi b 1 30 with
  | false => rw [Bool.false_and, if_bf, if_bf]; exact err1 h
  | true =>
    rw [Bool.true_and, if_bt, Mn_isRest_eq, bnd_t, Mo_in_eq, bnd_t]
    cases e2 : wi d 1 30 with
    | false =>
      rw [Bool.false_and, if_bf]
      cases wi a 0 (b - 1) with
      | false => rw [if_bf, if_bf]; exact err1 h
      | true => rw [if_bt, if_bf]; exact err1 h
    | true =>
      rw [Bool.true_and, if_bt, Mo_in_eq, bnd_t]
      cases e3 : wi a 0 (b - 1) with
      | false => rw [if_bf, if_bf]; exact err1 h
      | true =>
        rw [if_bt, if_bt, Mo_in_eq, bnd_t]
        cases e4 : wi c 0 (d - 1) with
        | false => rw [if_bf, if_bf]; exact err1 h
        | true =>
          obtain ⟨m, hm1, hm2, rfl⟩ := wi_1in (m := 30) (by decide) e1
          obtain ⟨n, hn1, hn2, rfl⟩ := wi_1in (m := 30) (by decide) e2
          obtain ⟨bt, hbt, hbe⟩ := h.1.2.2.2.2.2.2.2
          have hmn : m * n ≤ 900 := Nat.mul_le_mul hm2 hn2
          rw [if_bt, if_bt, g0, grd_t, nam_t, z0, hbe]
          exact meets_loop h hbt hbe ⟨hm1, hm2⟩ ⟨hn1, hn2⟩ (m * n) 0 1000 1000 (by omega) (by omega) (by omega)
def oL (n : Nat) (x2 x3 x4 : Int32) : Option Int32 := match n with
  | 0 => none
  | n + 1 => if irm x3 2 = 0 then (if x4 ≤ 1 then (if x2 = 0 then some x3 else some x4) else oL n x2 (x3 / 2) (x4 / 2)) else (if x2 = 0 then some x3 else some x4)
theorem Mo_odds_oL {x1 x2 x5 : Int32} {τ : St} : ∀ (n : Nat) (x3 x4 : Int32), Mo_odds_L64 n x1 x2 x3 x4 x5 τ = (oL n x2 x3 x4).map (fun r => (r, τ)) := by
  have h2 : nz (2 : Int32) = true := rfl
  intro n
  induction n with
  | zero => intro x3 x4; rfl
  | succ n ih =>
    intro x3 x4
    rw [Mo_odds_L64, oL, h2, grd_t]
    by_cases h : irm x3 2 = 0
    · rw [if_pos h, if_pos h]
      by_cases h4 : x4 ≤ 1
      · rw [if_pos h4, if_pos h4]
        by_cases hx : x2 = 0
        · rw [if_pos hx, if_pos hx]; rfl
        · rw [if_neg hx, if_neg hx]; rfl
      · rw [if_neg h4, if_neg h4, grd_t, nam_t, grd_t, nam_t, ih]
    · rw [if_neg h, if_neg h]
      by_cases hx : x2 = 0
      · rw [if_pos hx, if_pos hx]; rfl
      · rw [if_neg hx, if_neg hx]; rfl
theorem oL_64 : ∀ c : Nat, c < 65 → oL 1000 0 (nI c) 64 = some (if nI c = 0 then nI c / 64 else nI c / (nI c &&& -nI c)) ∧ oL 1000 1 (nI c) 64 = some (if nI c = 0 then 64 / 64 else 64 / (nI c &&& -nI c)) ∧ (¬ nI c = 0 → nz (nI c &&& -nI c) = true) := by decide +kernel
def od (R : Nat → Int32) (j k : Nat) : Nat := match k with
  | 0 => 0
  | k + 1 => if R 7 ≤ lk R j k then od R j k + 1 else od R j k
theorem od_le {R : Nat → Int32} {j : Nat} (k : Nat) : od R j k ≤ k := by
  induction k with
  | zero => exact Nat.le_refl _
  | succ k ih => rw [od]; split <;> omega
theorem odds_loop {R : Nat → Int32} {N j v : Nat} (hN : RN R N) (hj : j < 6) (hv : v ≤ 1) : ∀ (m k n n' : Nat) (σ τ : St), k + m = 64 → m < n → m < n' → RA σ 15 R → TX σ 15 R → τ.2 1 = R → s2 (Mn_odds_L30 n (nI j) (nI v) (nI (od R j k)) (nI k) σ) (Mo_odds_L33 n' (nI j) (nI v) (nI (od R j k)) 64 (nI k) τ) (fun r σ' q τ' => q = r ∧ SQ σ σ' ∧ Mq τ τ') := by
  intro m
  induction m with
  | zero =>
    intro k n n' σ τ hk hn hn' hA hT h1
    obtain ⟨n, rfl⟩ : ∃ z, n = z + 1 := ⟨n - 1, by omega⟩
    obtain ⟨n', rfl⟩ : ∃ z, n' = z + 1 := ⟨n' - 1, by omega⟩
    have hk : k = 64 := by omega
    have hc := od_le (R := R) (j := j) 64
    rw [hk, Mn_odds_L30, Mo_odds_L33, if_pos (show (64 : Int32) ≤ nI 64 from Int32.le_refl _), if_pos (show (64 : Int32) ≤ nI 64 from Int32.le_refl _), Mo_odds_oL]
    generalize od R j 64 = c at hc ⊢
    obtain ⟨o0, o1, o2⟩ := oL_64 c (by omega)
    have h64 : nz (64 : Int32) = true := rfl
    match v, hv with
    | 0, _ =>
      rw [show nI 0 = (0 : Int32) from rfl, o0, h64, grd_t, grd_t, if00]
      by_cases hz : nI c = 0
      · rw [if_pos hz, if_pos hz]; exact s2_some ⟨rfl, SQ.rf σ, Mq.rf τ⟩
      · rw [if_neg hz, if_neg hz, nam_t, if00, o2 hz, grd_t]
        exact s2_some ⟨rfl, SQ.rf σ, Mq.rf τ⟩
    | 1, _ =>
      rw [show nI 1 = (1 : Int32) from rfl, o1, h64, grd_t, grd_t, if10]
      by_cases hz : nI c = 0
      · rw [if_pos hz, if_pos hz]; exact s2_some ⟨rfl, SQ.rf σ, Mq.rf τ⟩
      · rw [if_neg hz, if_neg hz, nam_t, if10, o2 hz, grd_t]
        exact s2_some ⟨rfl, SQ.rf σ, Mq.rf τ⟩
    | v + 2, hv => exact absurd hv (by omega)
  | succ m ih =>
    intro k n n' σ τ hk hn hn' hA hT h1
    obtain ⟨n, rfl⟩ : ∃ z, n = z + 1 := ⟨n - 1, by omega⟩
    obtain ⟨n', rfl⟩ : ∃ z, n' = z + 1 := ⟨n' - 1, by omega⟩
    have hg : ¬ (64 : Int32) ≤ nI k := nI_ge (b := 64) (by omega) (by decide)
    rw [Mn_odds_L30, Mo_odds_L33, if_neg hg, if_neg hg]
    refine s2_l (Rp_likes_ok (t := k) (Or.inl rfl) hj hA hT) (fun r s q => ?_)
    refine s2_r (Mo_doesTake_ok (t := k) hj (by omega) (by rw [h1]; exact hT.2.1)) (fun r' t q' => ?_)
    have hs := SQ.x8 q.2
    have hA2 := sq_RA hs (by decide) hA
    rw [q.1, q'.1, h1, hA2.1.2.2.2.2.2.2.2]
    have hik := s2_mono (ih (k + 1) n n' s t (by omega) (by omega) (by omega) hA2 (sq_TX hs hT) ((mq_1 q'.2).trans h1)) (P := fun r σ' q τ' => q = r ∧ SQ σ σ' ∧ Mq τ τ') (fun r σ' q1 τ' p => ⟨p.1, hs.tr p.2.1, q'.2.tr p.2.2⟩)
    by_cases hl : R 7 ≤ lk R j k
    · have e : od R j (k + 1) = od R j k + 1 := by rw [od, if_pos hl]
      rw [e] at hik
      rw [if_neg (show ¬ lk R j k < R 7 by rw [lt_i]; rw [le_i] at hl; omega), decide_eq_true hl, if_bt, nam_t, nam_t, nam_t, nam_t, nI_lit1, nI_lit1]
      exact hik
    · have e : od R j (k + 1) = od R j k := by rw [od, if_neg hl]
      rw [e] at hik
      rw [if_pos (show lk R j k < R 7 by rw [lt_i]; rw [le_i] at hl; omega), decide_eq_false hl, if_bf, nam_t, nam_t, nam_t, nI_lit1, nI_lit0]
      exact hik
theorem op_odds {σ τ : St} (h : Rl σ τ) (a b : Int32) : OK2 (Mn_odds a b σ) (Mo_odds a b τ) := by
  obtain ⟨N, hN⟩ := h.1.2.1
  have hA := h.1.1
  have hT := Rl_TX h
  rw [Mn_odds, Mo_odds, Rp_has_eq hN hA, bnd_t, Mo_isJumper_eq, bnd_t]
  cases e1 : wi a 0 (τ.2 1 2 - 1) with
  | false => rw [if_bf, if_bf]; exact err1 h
  | true =>
    obtain ⟨j, hjN, hj, rfl⟩ := has_in hN e1
    rw [if_bt, if_bt, Mn_isWithin_eq, bnd_t, Mo_in_eq, bnd_t]
    cases e2 : wi b 0 1 with
    | false => rw [if_bf, if_bf]; exact err1 h
    | true =>
      obtain ⟨v, hv, rfl⟩ := wi_in (m := 1) (by decide) e2
      rw [if_bt, if_bt]
      exact s2_mono (odds_loop hN hj hv 64 0 1000 1000 σ τ (by omega) (by omega) (by omega) hA hT rfl) (fun r σ' q τ' p => ⟨p.1, Rl_keep (SX.sq p.2.1) (MX.mq p.2.2) h⟩)
/-! counts, what is told, the trace -/
theorem op_count {σ τ : St} (h : Rl σ τ) (a : Int32) : OK2 (Mn_count a σ) (Mo_count a τ) := by
  obtain ⟨N, hN⟩ := h.1.2.1
  have hA := h.1.1
  obtain ⟨tn1, ht1, ht2, ht3, ht4⟩ := h.2.2.2.2.2
  rw [Mn_count, Mo_count]
  by_cases h0 : a = 0
  · rw [if_pos h0, if_pos h0, g2, grd_t, z2, hA.1.2.2.1]; exact ok2 h
  rw [if_neg h0, if_neg h0]
  by_cases h1 : a = 1
  · rw [if_pos h1, if_pos h1, Rp_setIn_eq hN hA, bnd_t, Mo_allIn_eq hN.1 hN.2.1, bnd_t]; exact ok2 h
  rw [if_neg h1, if_neg h1]
  by_cases h2 : a = 2
  · rw [if_pos h2, if_pos h2, g0, grd_t, z0, hA.1.1]; exact ok2 h
  rw [if_neg h2, if_neg h2]
  by_cases h3 : a = 3
  · rw [if_pos h3, if_pos h3, h3, show (3 : Int32) + 3 - 3 = nI 3 by decide, inb_nI (by decide) (by decide), grd_t, nI_clamp (by decide), hA.1.2.2.2.1]; exact ok2 h
  rw [if_neg h3, if_neg h3]
  by_cases h4 : a = 4
  · rw [if_pos h4, if_pos h4, h4, show (3 : Int32) + 4 - 3 = nI 4 by decide, inb_nI (by decide) (by decide), grd_t, nI_clamp (by decide), hA.1.2.2.2.2.1]; exact ok2 h
  rw [if_neg h4, if_neg h4]
  by_cases h5 : a = 5
  · rw [if_pos h5, if_pos h5, h5, show (3 : Int32) + 5 - 3 = nI 5 by decide, inb_nI (n := 366) (by decide) (by decide), grd_t, nI_clamp (by decide), show inb (0 : Int32) 2 = true from rfl, grd_t, z0, RA_arm_at hA (j := 0) (by decide) rfl]; exact ok2 h
  rw [if_neg h5, if_neg h5]
  by_cases h6 : a = 6
  · rw [if_pos h6, if_pos h6, h6, show (3 : Int32) + 6 - 3 = nI 6 by decide, inb_nI (n := 366) (by decide) (by decide), grd_t, nI_clamp (by decide), show inb (1 : Int32) 2 = true from rfl, grd_t, z1, RA_arm_at hA (j := 1) (by decide) rfl]; exact ok2 h
  rw [if_neg h6, if_neg h6]
  by_cases h7 : a = 7
  · rw [if_pos h7, if_pos h7, h7, show (3 : Int32) + 7 - 3 = nI 7 by decide, inb_nI (by decide) (by decide), grd_t, nI_clamp (by decide), hA.1.2.2.2.2.2.2.2]; exact ok2 h
  rw [if_neg h7, if_neg h7]
  by_cases h8 : a = 8
  · rw [if_pos h8, if_pos h8, show inb (8 : Int32) 366 = true from rfl, grd_t, show (8 : Int32).toNatClampNeg = 8 by decide, h.1.2.2.2.2.1.2.1]; exact ok2 h
  rw [if_neg h8, if_neg h8]
  by_cases h9 : a = 9
  · rw [if_pos h9, if_pos h9, show inb (9 : Int32) 366 = true from rfl, grd_t, show (9 : Int32).toNatClampNeg = 9 by decide, h.1.2.2.2.2.2.1.2.1]; exact ok2 h
  rw [if_neg h9, if_neg h9]
  by_cases h10 : a = 10
  · rw [if_pos h10, if_pos h10, ht2, ht3]; exact ok2 h
  rw [if_neg h10, if_neg h10]
  by_cases h11 : a = 11
  · rw [if_pos h11, if_pos h11, g1, grd_t, z1, hA.1.2.1]; exact ok2 h
  rw [if_neg h11, if_neg h11]
  exact err1 h
theorem op_told {σ τ : St} (h : Rl σ τ) (a : Int32) : OK2 (Mn_told a σ) (Mo_told a τ) := by
  rw [Mn_told, Mo_told, Mo_in_eq, bnd_t]
  by_cases h1 : a < 1
  · rw [if_pos h1, wi_no1 h1, if_bf]; exact err1 h
  · rw [if_neg h1]
    by_cases h2 : (6 : Int32) < a
    · rw [if_pos h2, wi_no2 h2, if_bf]; exact err1 h
    · have hw := wi_yes h1 h2
      obtain ⟨k, hk1, hk2, rfl⟩ := wi_1in (m := 6) (by decide) hw
      rw [if_neg h2, hw, if_bt, inb_nI (show k < 7 by omega) (by decide), grd_t, grd_t, nI_clamp (by omega), h.2.2.2.1 k (by omega)]
      exact ok2 h
theorem op_body {σ τ : St} (h : Rl σ τ) (a : Int32) : OK2 (Mn_body a σ) (Mo_body a τ) := by
  obtain ⟨n, hn, e1, e2, e3⟩ := h.2.2.2.2.2
  rw [Mn_body, Mo_body, Mo_in_eq, bnd_t, e1, e2]
  have e : (nI n - 1).toInt = (n : Int) - 1 := pk_sub_toInt (a := n) (b := 1) (by omega) (by omega)
  by_cases h1 : a < 0
  · rw [if_pos h1, wi_no1 h1, if_bf]; exact err2 h
  · rw [if_neg h1]
    by_cases h2 : nI n ≤ a
    · rw [if_pos h2, wi_no2 (by rw [lt_i, e]; rw [le_i, nI_toInt (by omega)] at h2; omega), if_bf]; exact err2 h
    · have hw : wi a 0 (nI n - 1) = true := wi_yes h1 (by rw [lt_i, e]; rw [le_i, nI_toInt (by omega)] at h2; omega)
      obtain ⟨k, hk, rfl⟩ := nI_of h1
      have hkn : k < n := by
        rcases Nat.lt_or_ge k n with q | q
        · exact q
        · exact absurd (nI_le q hk) h2
      rw [if_neg h2, hw, if_bt, inb_nI (show k < 30 by omega) (by decide), grd_t, grd_t, nI_clamp (by omega), e3 k hkn]
      exact ok2 h
