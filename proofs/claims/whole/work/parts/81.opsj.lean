/-! ===== jumpers, turners ===== -/
theorem wi_ne {p : Int32} {m k : Nat} (h : wi p 0 (nI m) = false) (hk : k ≤ m) (hm : m < 2 ^ 31) : ¬ p = nI k := by
  intro e
  rw [e, wi_yes (nI_pos (by omega)) (nI_nlt hk hm)] at h
  cases h
theorem km_in {p : Int32} (h : wi p 0 69 = true) : (∃ k, k ≤ 6 ∧ p / 10 = nI k) ∧ ∃ m, m ≤ 9 ∧ irm p 10 = nI m := by
  obtain ⟨c, hc, rfl⟩ := wi_in (m := 69) (by decide) h
  refine ⟨⟨c / 10, by omega, ?_⟩, ⟨c % 10, by omega, ?_⟩⟩
  · exact pk_div (a := c) (d := 10) (by omega) (by decide) (by decide)
  · exact irm_nI (a := c) (d := 10) (by omega) (by decide) (by decide)
theorem nz10 : nz (10 : Int32) = true := by decide
theorem Rp_setKM_eq {j : Nat} {p : Int32} (hj : j < 6) {σ : St} : Rp_setKindAndMark 15 (nI j) p σ = some (0, sA (sA σ 16 j (p / 10)) 17 j (irm p 10)) := by
  rw [Rp_setKindAndMark, nz10, grd_t, inb_nI hj (by decide), grd_t, nas_t, grd_t, grd_t, nas_t, nI_clamp (by omega)]
theorem op_jumper {σ τ : St} (h : Rl σ τ) (a b c : Int32) : OK2 (Mn_jumper a b c σ) (Mo_jumper a b c τ) := by
  obtain ⟨N, hN⟩ := h.1.2.1
  have hA := h.1.1
  have h6 := hN.1
  rw [Mn_jumper, Mo_jumper, Mn_isKindAndMark_eq, bnd_t, Mo_isKm_eq, bnd_t]
  cases e1 : wi a 0 69 with
  | false => rw [if_bf, if_bf]; exact err1 h
  | true =>
    rw [if_bt, if_bt, Mn_isWithin_eq, bnd_t, Mo_in_eq, bnd_t]
    cases e2 : wi b 0 99 with
    | false => rw [if_bf, if_bf]; exact err1 h
    | true =>
      rw [if_bt, if_bt, Mn_isWithin_eq, bnd_t, Mo_in_eq, bnd_t]
      cases e3 : wi c 0 1 with
      | false => rw [if_bf, if_bf]; exact err1 h
      | true =>
        rw [if_bt, if_bt, g2, grd_t, z2, hA.1.2.2.1, hN.2.1, nam_t]
        by_cases hf : N = 6
        · rw [hf, if_neg (show ¬ nI 6 < 6 by decide), if_pos (show nI 6 = 6 from rfl)]
          exact err4 h
        · obtain ⟨⟨kd, hkd, hkde⟩, -⟩ := km_in e1
          obtain ⟨bb, hbb, hbe⟩ := wi_in (m := 99) (by decide) e2
          have hN6 : N < 6 := by omega
          rw [if_pos (show nI N < 6 from nI_lt (b := 6) hN6 (by decide)), if_neg (show ¬ nI N = 6 from fun q => hf ((nI_eq (b := 6) (by omega) (by decide)).mp q)), grd_t, grd_t, nas_t, nz10, grd_t, Mo_lets0 hN6, bnd_t, grd_t, Mo_lets1 hN6, bnd_t, Mo_lets2 hN6, bnd_t, Mo_lets3 hN6, bnd_t, Mo_lets4 hN6, bnd_t]
          rw [Rp_add, nam_t, hA.1.2.2.1, hN.2.1, nas_t, Rp_setKM_eq hN6, bnd_t, inb_nI hN6 (by decide), grd_t, nas_t, grd_t, nas_t, grd_t, nas_t, bnd_t, nI_clamp (by omega), nI_lit1, show 15 + 3 = 18 from rfl, show 15 + 4 = 19 from rfl, show 15 + 5 = 20 from rfl]
          have hA1 := RA_many hA (nI (N + 1))
          have hA2 := RA_put hA1 0 (j := N) (a := 16) (i := 10 + 5 * N) (a / 10) (by decide) hN6 (by omega) (by omega)
          have hA3 := RA_put hA2 1 (j := N) (a := 17) (i := 11 + 5 * N) (irm a 10) (by decide) hN6 (by omega) (by omega)
          have hA4 := RA_put hA3 2 (j := N) (a := 18) (i := 12 + 5 * N) b (by decide) hN6 (by omega) (by omega)
          have hA5 := RA_put hA4 3 (j := N) (a := 19) (i := 13 + 5 * N) c (by decide) hN6 (by omega) (by omega)
          have hA6 := RA_put hA5 4 (j := N) (a := 20) (i := 14 + 5 * N) 0 (by decide) hN6 (by omega) (by omega)
          have hS : (sA (sA (sA (sA (sA (sA τ 1 2 (nI (N + 1))) 1 (10 + 5 * N) (a / 10)) 1 (11 + 5 * N) (irm a 10)) 1 (12 + 5 * N) b) 1 (13 + 5 * N) c) 1 (14 + 5 * N) 0).2 1 = upd (upd (upd (upd (upd (upd (τ.2 1) 2 (nI (N + 1))) (10 + 5 * N) (a / 10)) (11 + 5 * N) (irm a 10)) (12 + 5 * N) b) (13 + 5 * N) c) (14 + 5 * N) 0 := by rw [sA_eq, sA_eq, sA_eq, sA_eq, sA_eq, sA_eq]
          have hq : QR 15 σ (sA (sA (sA (sA (sA (sF σ 15 9 (nI (N + 1))) 16 N (a / 10)) 17 N (irm a 10)) 18 N b) 19 N c) 20 N 0) := ((((QR.fld.tr (QR.put (by omega) (by omega))).tr (QR.put (by omega) (by omega))).tr (QR.put (by omega) (by omega))).tr (QR.put (by omega) (by omega))).tr (QR.put (by omega) (by omega))
          refine ok2 (Rl_new h hq (((((FM.put1.tr FM.put1).tr FM.put1).tr FM.put1).tr FM.put1).tr FM.put1) ?_ ?_ ?_ ?_ ?_ ?_ ?_)
          · rw [hS]; exact hA6
          · rw [hS]
            refine ⟨N + 1, by omega, ?_, fun j hj => ?_⟩
            · rw [upd_n (by omega), upd_n (by omega), upd_n (by omega), upd_n (by omega), upd_n (by omega), upd_s]
            · by_cases e : 14 + 5 * j = 14 + 5 * N
              · rw [e, upd_s]; exact Or.inl rfl
              · rw [upd_n e, upd_n (by omega), upd_n (by omega), upd_n (by omega), upd_n (by omega), upd_n (by omega)]
                exact hN.2.2 j hj
          · rw [hS]
            refine RB_put (RB_put (RB_put (RB_put (RB_put (RB_put h.1.2.2.1 ?_ ?_) ?_ ?_) ?_ ?_) ?_ ?_) ?_ ?_) ?_ ?_
            · exact fun j hj e => by omega
            · exact fun e => by omega
            · exact fun j hj e => by omega
            · exact fun e => by omega
            · exact fun j hj e => by omega
            · exact fun e => by omega
            · exact fun j hj e => ⟨bb, hbb, hbe⟩
            · exact fun e => by omega
            · exact fun j hj e => by omega
            · exact fun e => by omega
            · exact fun j hj e => by omega
            · exact fun e => by omega
          · rw [hS]
            refine KD_put (KD_put (KD_put (KD_put (KD_put (KD_put h.1.2.2.2.2.2.2 ?_ ?_) ?_ ?_) ?_ ?_) ?_ ?_) ?_ ?_) ?_ ?_
            · exact fun e => by omega
            · exact fun j hj e => by omega
            · exact fun e => by omega
            · exact fun j hj e => ⟨kd, hkd, hkde⟩
            · exact fun e => by omega
            · exact fun j hj e => by omega
            · exact fun e => by omega
            · exact fun j hj e => by omega
            · exact fun e => by omega
            · exact fun j hj e => by omega
            · exact fun e => by omega
            · exact fun j hj e => by omega
          · rw [hS, upd_n (by omega), upd_n (by omega), upd_n (by omega), upd_n (by omega), upd_n (by omega), upd_n (by omega)]
          · rw [hS, upd_n (by omega), upd_n (by omega), upd_n (by omega), upd_n (by omega), upd_n (by omega), upd_n (by omega)]
          · intro i hi
            rw [hS, upd_n (by omega), upd_n (by omega), upd_n (by omega), upd_n (by omega), upd_n (by omega), upd_n (by omega)]
theorem op_jumperIs {σ τ : St} (h : Rl σ τ) (a b : Int32) : OK2 (Mn_jumperIs a b σ) (Mo_jumperIs a b τ) := by
  obtain ⟨N, hN⟩ := h.1.2.1
  have hA := h.1.1
  have h6 := hN.1
  have hT := Rl_TX h
  rw [Mn_jumperIs, Mo_jumperIs, Rp_has_eq hN hA, bnd_t, Mo_isJumper_eq, bnd_t]
  cases e1 : wi a 0 (τ.2 1 2 - 1) with
  | false => rw [if_bf, if_bf]; exact err1 h
  | true =>
    obtain ⟨j, hjN, hj, rfl⟩ := has_in hN e1
    rw [if_bt, if_bt, Mo_in_eq, bnd_t]
    cases e2 : wi b 0 5 with
    | false =>
      have hne : ∀ k, k ≤ 5 → ¬ b = nI k := fun k hk => wi_ne (m := 5) e2 hk (by decide)
      rw [if_bf, if_neg (show ¬ b = 0 from hne 0 (by decide)), if_neg (show ¬ b = 1 from hne 1 (by decide)), if_neg (show ¬ b = 2 from hne 2 (by decide)), if_neg (show ¬ b = 3 from hne 3 (by decide)), if_neg (show ¬ b = 4 from hne 4 (by decide)), if_neg (show ¬ b = 5 from hne 5 (by decide))]
      exact err1 h
    | true =>
      obtain ⟨w, hw, rfl⟩ := wi_in (m := 5) (by decide) e2
      have hb : inb (nI j) 6 = true := inb_nI hj (by decide)
      have hcl : (nI j).toNatClampNeg = j := nI_clamp (by omega)
      rw [if_bt]
      match w, hw with
      | 0, _ =>
        rw [if_pos (show nI 0 = 0 from rfl), hb, grd_t, hcl, if_neg (show ¬ (5 : Int32) ≤ nI 0 by decide), show nI 0 = 0 from rfl, Mo_of0 hj, bnd_t, RA_at hA 0 (a := 16) (i := 10 + 5 * j) (by decide) hj (by omega) (by omega)]
        exact ok2 h
      | 1, _ =>
        rw [if_neg (show ¬ nI 1 = 0 by decide), if_pos (show nI 1 = 1 from rfl), hb, grd_t, hcl, if_neg (show ¬ (5 : Int32) ≤ nI 1 by decide), show nI 1 = 1 from rfl, Mo_of1 hj, bnd_t, RA_at hA 1 (a := 17) (i := 11 + 5 * j) (by decide) hj (by omega) (by omega)]
        exact ok2 h
      | 2, _ =>
        rw [if_neg (show ¬ nI 2 = 0 by decide), if_neg (show ¬ nI 2 = 1 by decide), if_pos (show nI 2 = 2 from rfl), hb, grd_t, hcl, if_neg (show ¬ (5 : Int32) ≤ nI 2 by decide), show nI 2 = 2 from rfl, Mo_of2 hj, bnd_t, RA_at hA 2 (a := 18) (i := 12 + 5 * j) (by decide) hj (by omega) (by omega)]
        exact ok2 h
      | 3, _ =>
        rw [if_neg (show ¬ nI 3 = 0 by decide), if_neg (show ¬ nI 3 = 1 by decide), if_neg (show ¬ nI 3 = 2 by decide), if_pos (show nI 3 = 3 from rfl), hb, grd_t, hcl, if_neg (show ¬ (5 : Int32) ≤ nI 3 by decide), show nI 3 = 3 from rfl, Mo_of3 hj, bnd_t, RA_at hA 3 (a := 19) (i := 13 + 5 * j) (by decide) hj (by omega) (by omega)]
        exact ok2 h
      | 4, _ =>
        rw [if_neg (show ¬ nI 4 = 0 by decide), if_neg (show ¬ nI 4 = 1 by decide), if_neg (show ¬ nI 4 = 2 by decide), if_neg (show ¬ nI 4 = 3 by decide), if_pos (show nI 4 = 4 from rfl), hb, grd_t, hcl, if_neg (show ¬ (5 : Int32) ≤ nI 4 by decide), show nI 4 = 4 from rfl, Mo_of4 hj, bnd_t, RA_at hA 4 (a := 20) (i := 14 + 5 * j) (by decide) hj (by omega) (by omega)]
        exact ok2 h
      | 5, _ =>
        rw [if_neg (show ¬ nI 5 = 0 by decide), if_neg (show ¬ nI 5 = 1 by decide), if_neg (show ¬ nI 5 = 2 by decide), if_neg (show ¬ nI 5 = 3 by decide), if_neg (show ¬ nI 5 = 4 by decide), if_pos (show nI 5 = 5 from rfl), if_pos (show (5 : Int32) ≤ nI 5 from Int32.le_refl _)]
        refine ok2_l (Rp_costs_ok (Or.inl rfl) hN hj hA hT) (fun r s p => ?_)
        refine ok2_r (Mo_costsOf_ok hN hj hT.1) (fun q s' p' => ?_)
        rw [p.1, p'.1]
        exact ok2 (Rl_keep (SX.x5 p.2) (MX.mq p'.2) h)
      | w + 6, hw => exact absurd hw (by omega)
theorem op_become {σ τ : St} (h : Rl σ τ) (a b : Int32) : OK2 (Mn_become a b σ) (Mo_become a b τ) := by
  obtain ⟨N, hN⟩ := h.1.2.1
  have hA := h.1.1
  have h6 := hN.1
  rw [Mn_become, Mo_become, Rp_has_eq hN hA, bnd_t, Mo_isJumper_eq, bnd_t]
  cases e1 : wi a 0 (τ.2 1 2 - 1) with
  | false => rw [if_bf, if_bf]; exact err1 h
  | true =>
    obtain ⟨j, hjN, hj, rfl⟩ := has_in hN e1
    rw [if_bt, if_bt, Mn_isKindAndMark_eq, bnd_t, Mo_isKm_eq, bnd_t]
    cases e2 : wi b 0 69 with
    | false => rw [if_bf, if_bf]; exact err1 h
    | true =>
      obtain ⟨⟨kd, hkd, hkde⟩, -⟩ := km_in e2
      rw [if_bt, if_bt, inb_nI hj (by decide), grd_t, nam_t, Rp_setKM_eq hj, bnd_t, nz10, grd_t, Mo_lets1 hj, bnd_t, grd_t, ix0, Mo_becomes_eq (by omega), bnd_t, nI_clamp (by omega), RA_at hA 0 (a := 16) (i := 10 + 5 * j) (by decide) hj (by omega) (by omega), sA_eq, upd_n (show 10 + 5 * j ≠ 11 + 5 * j by omega)]
      have hA1 := RA_put hA 0 (j := j) (a := 16) (i := 10 + 5 * j) (b / 10) (by decide) hj (by omega) (by omega)
      have hA2 := RA_put hA1 1 (j := j) (a := 17) (i := 11 + 5 * j) (irm b 10) (by decide) hj (by omega) (by omega)
      have hS : (sA (sA τ 1 (11 + 5 * j) (irm b 10)) 1 (10 + 5 * j) (b / 10)).2 1 = upd (upd (τ.2 1) (10 + 5 * j) (b / 10)) (11 + 5 * j) (irm b 10) := by
        rw [sA_eq, sA_eq]
        funext i
        by_cases q1 : i = 11 + 5 * j
        · rw [q1, upd_s, upd_n (by omega), upd_s]
        · rw [upd_n q1]
          by_cases q2 : i = 10 + 5 * j
          · rw [q2, upd_s, upd_s]
          · rw [upd_n q2, upd_n q2, upd_n q1]
      have hq : QR 15 σ (sA (sA σ 16 j (b / 10)) 17 j (irm b 10)) := (QR.put (by omega) (by omega)).tr (QR.put (by omega) (by omega))
      refine ok2 (Rl_new h hq (FM.put1.tr FM.put1) ?_ ?_ ?_ ?_ ?_ ?_ ?_)
      · rw [hS]; exact hA2
      · rw [hS]
        exact ⟨N, RN_put (RN_put hN (by omega) (fun k hk e => by omega)) (by omega) (fun k hk e => by omega)⟩
      · rw [hS]
        exact RB_put (RB_put h.1.2.2.1 (fun k hk e => by omega) (fun e => by omega)) (fun k hk e => by omega) (fun e => by omega)
      · rw [hS]
        exact KD_put (KD_put h.1.2.2.2.2.2.2 (fun e => by omega) (fun k hk e => ⟨kd, hkd, hkde⟩)) (fun e => by omega) (fun k hk e => by omega)
      · rw [hS, upd_n (by omega), upd_n (by omega)]
      · rw [hS, upd_n (by omega), upd_n (by omega)]
      · intro i hi
        rw [hS, upd_n (by omega), upd_n (by omega)]
def unL (n : Nat) (x1 x2 x3 : Int32) : Option Int32 := match n with
  | 0 => none
  | n + 1 => if (7 : Int32) ≤ x3 then some 0 else if b01 (wi x2 0 6) = 0 then some 0 else if x2 = x1 then some 1 else if inb x2 7 = true then unL n x1 (tbA.getD x2.toNatClampNeg 0) (x3 + 1) else none
theorem Mn_isUnder_un {x0 x1 : Int32} {σ : St} : ∀ (n : Nat) (x2 x3 : Int32), Mn_isUnder_L4 n x0 x1 x2 x3 σ = (unL n x1 x2 x3).map (fun r => (r, σ)) := by
  intro n
  induction n with
  | zero => intro x2 x3; rfl
  | succ n ih =>
    intro x2 x3
    rw [Mn_isUnder_L4, unL, Mn_isWithin_eq, bnd_t]
    by_cases h1 : (7 : Int32) ≤ x3
    · rw [if_pos h1, if_pos h1]; rfl
    · rw [if_neg h1, if_neg h1]
      by_cases h2 : b01 (wi x2 0 6) = 0
      · rw [if_pos h2, if_pos h2]; rfl
      · rw [if_neg h2, if_neg h2]
        by_cases h3 : x2 = x1
        · rw [if_pos h3, if_pos h3]; rfl
        · rw [if_neg h3, if_neg h3]
          cases hb : inb x2 7 with
          | true => rw [grd_t, nam_t, nam_t, if_pos rfl, ih]
          | false => rfl
def un (p r : Int32) : Bool := decide (p = 0) || decide (p = r) || (decide (p = 1) && decide (r = 4)) || (decide (p = 2) && decide (r = 5))
theorem unL_7 : ∀ k : Nat, k < 7 → ∀ q : Nat, q < 7 → unL 1000 (nI q) (nI k) 0 = some (b01 (un (nI q) (nI k))) := by decide +kernel
theorem Mn_isUnder_eq {k q : Nat} (hk : k ≤ 6) (hq : q ≤ 6) {σ : St} : Mn_isUnder (nI k) (nI q) σ = some (b01 (un (nI q) (nI k)), σ) := by
  rw [Mn_isUnder, Mn_isUnder_un, unL_7 k (by omega) q (by omega)]
  rfl
theorem op_as {σ τ : St} (h : Rl σ τ) (a b : Int32) : OK2 (Mn_as a b σ) (Mo_as a b τ) := by
  obtain ⟨N, hN⟩ := h.1.2.1
  have hA := h.1.1
  have h6 := hN.1
  rw [Mn_as, Mo_as, Rp_has_eq hN hA, bnd_t, Mo_isJumper_eq, bnd_t]
  cases e1 : wi a 0 (τ.2 1 2 - 1) with
  | false => rw [if_bf, if_bf]; exact err1 h
  | true =>
    obtain ⟨j, hjN, hj, rfl⟩ := has_in hN e1
    rw [if_bt, if_bt, Mn_isWithin_eq, bnd_t, Mo_in_eq, bnd_t]
    cases e2 : wi b 0 6 with
    | false => rw [if_bf, if_bf]; exact err1 h
    | true =>
      obtain ⟨q, hq, rfl⟩ := wi_in (m := 6) (by decide) e2
      obtain ⟨k, hk, hke⟩ := h.1.2.2.2.2.2.2.1 j hj
      have h17 : σ.2 17 j = τ.2 1 (11 + 5 * j) := RA_at hA 1 (by decide) hj (by omega) (by omega)
      rw [if_bt, if_bt, inb_nI hj (by decide), grd_t, nI_clamp (by omega), RA_at hA 0 (a := 16) (i := 10 + 5 * j) (by decide) hj (by omega) (by omega), hke, Mn_isUnder_eq hk hq, bnd_t, Mo_of0 hj, bnd_t, hke]
      by_cases q0 : nI q = 0
      · rw [if_pos q0, if10, un, decide_eq_true q0, show (true || decide (nI q = nI k) || (decide (nI q = 1) && decide (nI k = 4)) || (decide (nI q = 2) && decide (nI k = 5))) = true by rfl, if_bt, grd_t, h17, Mo_of1 hj, bnd_t]
        exact ok2 h
      · rw [if_neg q0]
        by_cases qk : nI q = nI k
        · rw [if_pos qk, if10, un, decide_eq_true qk, Bool.or_true, Bool.true_or, Bool.true_or, if_bt, grd_t, h17, Mo_of1 hj, bnd_t]
          exact ok2 h
        · rw [if_neg qk]
          have u : un (nI q) (nI k) = ((decide (nI q = 1) && decide (nI k = 4)) || (decide (nI q = 2) && decide (nI k = 5))) := by rw [un, decide_eq_false q0, decide_eq_false qk]; rfl
          rw [u]
          by_cases q1 : nI q = 1
          · rw [if_pos q1]
            by_cases k4 : nI k = 4
            · rw [if_pos k4, if10, decide_eq_true q1, decide_eq_true k4, Bool.and_self, Bool.true_or, if_bt, grd_t, h17, Mo_of1 hj, bnd_t]
              exact ok2 h
            · have q2 : ¬ nI q = 2 := by rw [q1]; decide
              rw [if_neg k4, if_neg q2, if00, decide_eq_false k4, decide_eq_false q2, Bool.and_false, Bool.false_or, Bool.false_and, if_bf]
              exact err5 h
          · rw [if_neg q1]
            by_cases q2 : nI q = 2
            · rw [if_pos q2]
              by_cases k5 : nI k = 5
              · rw [if_pos k5, if10, decide_eq_true q2, decide_eq_true k5, Bool.and_self, Bool.or_true, if_bt, grd_t, h17, Mo_of1 hj, bnd_t]
                exact ok2 h
              · rw [if_neg k5, if00, decide_eq_false q1, decide_eq_false k5, Bool.and_false, Bool.false_and, Bool.or_self, if_bf]
                exact err5 h
            · rw [if_neg q2, if00, decide_eq_false q1, decide_eq_false q2, Bool.false_and, Bool.false_and, Bool.or_self, if_bf]
              exact err5 h
theorem op_jump {σ τ : St} (h : Rl σ τ) (a b : Int32) : OK2 (Mn_jump a b σ) (Mo_jump a b τ) := by
  obtain ⟨N, hN⟩ := h.1.2.1
  have hA := h.1.1
  have h6 := hN.1
  rw [Mn_jump, Mo_jump, Rp_has_eq hN hA, bnd_t, Mo_isJumper_eq, bnd_t]
  cases e1 : wi a 0 (τ.2 1 2 - 1) with
  | false => rw [if_bf, if_bf]; exact err1 h
  | true =>
    obtain ⟨j, hjN, hj, rfl⟩ := has_in hN e1
    rw [if_bt, if_bt, Mn_isWithin_eq, bnd_t, Mo_in_eq, bnd_t]
    cases e2 : wi b 0 1 with
    | false => rw [if_bf, if_bf]; exact err1 h
    | true =>
      obtain ⟨v, hv, rfl⟩ := wi_in (m := 1) (by decide) e2
      have hv01 : nI v = 0 ∨ nI v = 1 := by
        match v, hv with
        | 0, _ => exact Or.inl rfl
        | 1, _ => exact Or.inr rfl
        | v + 2, hv => exact absurd hv (by omega)
      have hfin : OK2 (some (τ.2 1 (14 + 5 * j), sA σ 20 j (nI v))) (some (τ.2 1 (14 + 5 * j), sA τ 1 (14 + 5 * j) (nI v))) := ok2 (Rl_put h (QR.put (by omega) (by omega)) (RA_put hA 4 (nI v) (by decide) hj (by omega) (by omega)) (by omega) (fun k hk e => hv01) (fun k hk e => by omega) (fun k hk e => by omega))
      rw [if_bt, if_bt, inb_nI hj (by decide), grd_t, nI_clamp (by omega), ix4, Mo_becomes_eq (by omega), bnd_t, RA_at hA 4 (a := 20) (i := 14 + 5 * j) (by decide) hj (by omega) (by omega)]
      by_cases h1 : nI v = 1
      · rw [if_pos h1, if_pos h1, Rp_turns_eq hA, bnd_t, Mo_doesTurn_eq, bnd_t]
        by_cases ht : tn (τ.2 1) = 0
        · rw [if_pos ht, if_pos ht]; exact err3 h
        · rw [if_neg ht, if_neg ht, grd_t, nam_t, grd_t, nas_t, RA_at hA 4 (a := 20) (i := 14 + 5 * j) (by decide) hj (by omega) (by omega), Mo_becomes_eq (by omega), bnd_t]
          exact hfin
      · rw [if_neg h1, if_neg h1, nam_t, grd_t, nas_t]
        exact hfin
theorem op_rest {σ τ : St} (h : Rl σ τ) (a b : Int32) : OK2 (Mn_rest a b σ) (Mo_rest a b τ) := by
  obtain ⟨N, hN⟩ := h.1.2.1
  have hA := h.1.1
  have h6 := hN.1
  rw [Mn_rest, Mo_rest, Rp_has_eq hN hA, bnd_t, Mo_isJumper_eq, bnd_t]
  cases e1 : wi a 0 (τ.2 1 2 - 1) with
  | false => rw [if_bf, if_bf]; exact err1 h
  | true =>
    obtain ⟨j, hjN, hj, rfl⟩ := has_in hN e1
    rw [if_bt, if_bt, Mn_isWithin_eq, bnd_t, Mo_in_eq, bnd_t]
    cases e2 : wi b 0 99 with
    | false => rw [if_bf, if_bf]; exact err1 h
    | true =>
      rw [if_bt, if_bt, inb_nI hj (by decide), grd_t, nam_t, grd_t, nas_t, nI_clamp (by omega), ix2, Mo_becomes_eq (by omega), bnd_t, RA_at hA 2 (a := 18) (i := 12 + 5 * j) (by decide) hj (by omega) (by omega)]
      exact ok2 (Rl_put h (QR.put (by omega) (by omega)) (RA_put hA 2 b (by decide) hj (by omega) (by omega)) (by omega) (fun k hk e => by omega) (fun k hk e => wi_in (m := 99) (by decide) e2) (fun k hk e => by omega))
theorem RA_arm_at {σ : St} {o : Nat} {R : Nat → Int32} (hA : RA σ o R) {j a : Nat} (hj : j < 2) (ha : a = o + 6) : σ.2 a j = R (5 + j) := by
  subst ha
  match j, hj with
  | 0, _ => exact hA.1.2.2.2.2.2.1
  | 1, _ => exact hA.1.2.2.2.2.2.2.1
theorem op_spell {σ τ : St} (h : Rl σ τ) (a b : Int32) : OK2 (Mn_spell a b σ) (Mo_spell a b τ) := by
  have hA := h.1.1
  rw [Mn_spell, Mo_spell, Mn_isWithin_eq, bnd_t, Mo_in_eq, bnd_t]
  cases e1 : wi a 0 1 with
  | false => rw [if_bf, if_bf]; exact err1 h
  | true =>
    obtain ⟨j, hj, rfl⟩ := wi_in (m := 1) (by decide) e1
    rw [if_bt, if_bt, Mn_isWithin_eq, bnd_t, Mo_in_eq, bnd_t]
    cases e2 : wi b 0 99 with
    | false => rw [if_bf, if_bf]; exact err1 h
    | true =>
      rw [if_bt, if_bt, inb_nI (show j < 2 by omega) (by decide), grd_t, nam_t, grd_t, nas_t, nI_clamp (by omega), show (5 : Int32) + nI j = nI (5 + j) from nI_add 5 j, Mo_becomes_eq (by omega), bnd_t, RA_arm_at hA (a := 21) (by omega) (by omega)]
      exact ok2 (Rl_put h (QR.put (by omega) (by omega)) (RA_arm hA b (show j < 2 by omega) (by omega) rfl) (by omega) (fun k hk e => by omega) (fun k hk e => by omega) (fun k hk e => by omega))
theorem op_bar {σ τ : St} (h : Rl σ τ) (a : Int32) : OK2 (Mn_bar a σ) (Mo_bar a τ) := by
  have hA := h.1.1
  rw [Mn_bar, Mo_bar, Mn_isWithin_eq, bnd_t, Mo_in_eq, bnd_t]
  cases e1 : wi a 0 99 with
  | false => rw [if_bf, if_bf]; exact err1 h
  | true =>
    rw [if_bt, if_bt, nam_t, nas_t, show (7 : Int32) = nI 7 from rfl, Mo_becomes_eq (by decide), bnd_t, hA.1.2.2.2.2.2.2.2]
    exact ok2 (Rl_put h QR.fld (RA_bar hA a) (by omega) (fun k hk e => by omega) (fun k hk e => by omega) (fun k hk e => by omega))
theorem op_seed {σ τ : St} (h : Rl σ τ) (a : Int32) : OK2 (Mn_seed a σ) (Mo_seed a τ) := by
  have hA := h.1.1
  rw [Mn_seed, Mo_seed, nam_t, nas_t, show (1 : Int32) = nI 1 from rfl, Mo_becomes_eq (by decide), bnd_t, hA.1.2.1]
  exact ok2 (Rl_put h QR.fld (RA_z hA a) (by omega) (fun k hk e => by omega) (fun k hk e => by omega) (fun k hk e => by omega))
theorem op_liking {σ τ : St} (h : Rl σ τ) (a b : Int32) : OK2 (Mn_liking a b σ) (Mo_liking a b τ) := by
  obtain ⟨N, hN⟩ := h.1.2.1
  have hA := h.1.1
  have hT := Rl_TX h
  rw [Mn_liking, Mo_liking, Rp_has_eq hN hA, bnd_t, Mo_isJumper_eq, bnd_t]
  cases e1 : wi a 0 (τ.2 1 2 - 1) with
  | false => rw [if_bf, if_bf]; exact err1 h
  | true =>
    obtain ⟨j, hjN, hj, rfl⟩ := has_in hN e1
    rw [if_bt, if_bt, Mn_isTreaty_eq, bnd_t, Mo_isTreaty_eq, bnd_t]
    cases e2 : wi b 0 63 with
    | false => rw [if_bf, if_bf]; exact err1 h
    | true =>
      obtain ⟨t, ht, rfl⟩ := wi_in (m := 63) (by decide) e2
      rw [if_bt, if_bt]
      refine ok2_l (Rp_likes_ok (t := t) (Or.inl rfl) hj hA hT) (fun r s p => ?_)
      refine ok2_r (Mo_likesOf_ok hj (show t < 64 by omega) hT.2.1) (fun q s' p' => ?_)
      rw [p.1, p'.1]
      exact ok2 (Rl_keep (SX.x8 p.2) (MX.mq p'.2) h)
theorem op_talk {σ τ : St} (h : Rl σ τ) (a b : Int32) : OK2 (Mn_talk a b σ) (Mo_talk a b τ) := by
  obtain ⟨N, hN⟩ := h.1.2.1
  have hA := h.1.1
  have hT := Rl_TX h
  rw [Mn_talk, Mo_talk, Rp_has_eq hN hA, bnd_t, Mo_isJumper_eq, bnd_t]
  cases e1 : wi a 0 (τ.2 1 2 - 1) with
  | false => rw [if_bf, if_bf]; exact err1 h
  | true =>
    obtain ⟨j, hjN, hj, rfl⟩ := has_in hN e1
    rw [if_bt, if_bt, Mn_isTreaty_eq, bnd_t, Mo_isTreaty_eq, bnd_t]
    cases e2 : wi b 0 63 with
    | false => rw [if_bf, if_bf]; exact err1 h
    | true =>
      obtain ⟨t, ht, rfl⟩ := wi_in (m := 63) (by decide) e2
      rw [if_bt, if_bt, inb_nI hj (by decide), grd_t, nI_clamp (by omega), RA_at hA 4 (a := 20) (i := 14 + 5 * j) (by decide) hj (by omega) (by omega), Mo_mayTalk_eq hj, bnd_t]
      rcases hN.2.2 j hj with hi | hi
      · rw [if_pos hi, if_neg (show ¬ τ.2 1 (14 + 5 * j) = 1 by rw [hi]; decide), if00]
        exact err3 h
      · rw [if_neg (show ¬ τ.2 1 (14 + 5 * j) = 0 by rw [hi]; decide), if_pos hi, Rp_mayTalk_eq hA, bnd_t]
        by_cases hm : mt (τ.2 1) = 0
        · rw [if_pos hm, if_pos hm]; exact err3 h
        · rw [if_neg hm, if_neg hm]
          refine ok2_l (Rp_isTaken_ok (t := t) (Or.inl rfl) hN (by omega) hA hT) (fun r s p => ?_)
          refine ok2_r (Mo_talks_ok hN (show t < 64 by omega) hT.2.1) (fun q s' p' => ?_)
          rw [p.1, p'.1]
          cases hb : tkn (τ.2 1) t N with
          | false =>
            rw [if_bf, if_bf]
            refine ok2 ⟨?_, KK_keep (SX.sq p.2).fk (FM.qm p'.2.2) h.2⟩
            rw [p'.2.1, hb]
            exact Sn_SX (SX.sq p.2) h.1
          | true =>
            rw [if_bt, if_bt, nas_t]
            have e : s'.2 1 = upd (τ.2 1) 3 (nI t) := by rw [p'.2.1, hb]; rfl
            have hs : QR 15 σ (sF s 15 11 (nI t)) := (QR.sq p.2).tr QR.fld
            refine ok2 (Rl_new h hs (FM.qm p'.2.2) ?_ ?_ ?_ ?_ ?_ ?_ ?_)
            · rw [e]; exact RA_treaty (sq_RA p.2 (by decide) hA) _
            · rw [e]; exact ⟨N, RN_put hN (by omega) (fun k hk e => by omega)⟩
            · rw [e]; exact RB_put h.1.2.2.1 (fun k hk e => by omega) (fun e => by omega)
            · rw [e]; exact KD_put h.1.2.2.2.2.2.2 (fun e => by omega) (fun k hk e => by omega)
            · rw [e]; exact upd_n (by omega)
            · rw [e]; exact upd_n (by omega)
            · intro i hi; rw [e]; exact upd_n (by omega)
