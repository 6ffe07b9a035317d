/-! ===== move, breaths, judge, fits ===== -/
theorem sub_ti {a b : Nat} (ha : a < 2 ^ 31) (hb : b < 2 ^ 31) : (nI a - nI b).toInt = (a : Int) - b := by
  rw [Int32.toInt_sub, nI_toInt ha, nI_toInt hb, Int.bmod_def]
  split <;> omega
def hld (W : Nat) (p q : Int32) : Bool := decide (0 ≤ p.toInt ∧ 0 ≤ q.toInt ∧ p.toInt + q.toInt ≤ W)
theorem Rw_holds_eq {o W : Nat} {p q : Int32} {σ : St} (hW : W ≤ 24) (h : σ.1 o 2 = nI W) : Rw_holds o p q σ = some (b01 (hld W p q), σ) := by
  have t0 : (0 : Int32).toInt = 0 := rfl
  rw [Rw_holds, h, hld]
  by_cases h1 : p < 0
  · rw [if_pos h1, decide_eq_false (fun x => by rw [lt_i, t0] at h1; omega)]; rfl
  · rw [if_neg h1]
    by_cases h2 : q < 0
    · rw [if_pos h2, decide_eq_false (fun x => by rw [lt_i, t0] at h2; omega)]; rfl
    · rw [if_neg h2]
      obtain ⟨i, hi, rfl⟩ := nI_of h1
      obtain ⟨n, hn, rfl⟩ := nI_of h2
      rw [nI_toInt hi, nI_toInt hn]
      by_cases h3 : W < n
      · rw [if_pos (nI_lt h3 hn), decide_eq_false (fun x => by omega)]; rfl
      · rw [if_neg (nI_nlt (by omega) (by omega)), pk_sub (show n ≤ W by omega)]
        by_cases h4 : W - n < i
        · rw [if_pos (nI_lt h4 hi), decide_eq_false (fun x => by omega)]; rfl
        · rw [if_neg (nI_nlt (by omega) (by omega)), decide_eq_true ⟨by omega, by omega, by omega⟩]; rfl
theorem hld_in {W : Nat} {p q : Int32} (h : hld W p q = true) : ∃ i n, i + n ≤ W ∧ p = nI i ∧ q = nI n := by
  have t0 : (0 : Int32).toInt = 0 := rfl
  obtain ⟨h1, h2, h3⟩ := of_decide_eq_true h
  obtain ⟨i, hi, rfl⟩ := nI_of (x := p) (by rw [lt_i, t0]; omega)
  obtain ⟨n, hn, rfl⟩ := nI_of (x := q) (by rw [lt_i, t0]; omega)
  rw [nI_toInt hi, nI_toInt hn] at h3
  exact ⟨i, n, by omega, rfl, rfl⟩
theorem Mo_notMoved_no1 {a b c d e : Int32} {τ : St} (h : wi a 0 3 = false) : Mo_notMoved a b c d e τ = some (-1000000001, τ) := by
  rw [Mo_notMoved, Mo_isSheet_eq, bnd_t, h, if_bf]
theorem Mo_notMoved_no2 {a b c d e : Int32} {τ : St} (h : wi a 0 3 = true) (h2 : wi c 0 3 = false) : Mo_notMoved a b c d e τ = some (-1000000001, τ) := by
  rw [Mo_notMoved, Mo_isSheet_eq, bnd_t, h, if_bt, Mo_isSheet_eq, bnd_t, h2, if_bf]
theorem Mo_notMoved_eq {s o Ws Wo : Nat} {b d e : Int32} {τ : St} (hs : s < 4) (ho : o < 4) (hWs : Ws ≤ 24) (hWo : Wo ≤ 24) (e1 : τ.2 6 s = nI Ws) (e2 : τ.2 6 o = nI Wo) : Mo_notMoved (nI s) b (nI o) d e τ = some (if τ.2 5 s = 0 then -1000000002 else if τ.2 5 o = 0 then -1000000002 else if τ.2 5 s = τ.2 5 o then (if (hld Ws b e && hld Wo d e) = true then 0 else -1000000001) else -1000000005, τ) := by
  have t0 : (0 : Int32).toInt = 0 := rfl
  have w1 : wi (nI s) 0 3 = true := wi_yes (nI_pos (by omega)) (nI_nlt (a := 3) (by omega) (by decide))
  have w2 : wi (nI o) 0 3 = true := wi_yes (nI_pos (by omega)) (nI_nlt (a := 3) (by omega) (by decide))
  rw [Mo_notMoved, Mo_isSheet_eq, bnd_t, w1, if_bt, Mo_isSheet_eq, bnd_t, w2, if_bt, inb_nI hs (by decide), grd_t, inb_nI ho (by decide), grd_t, nI_clamp (show s < 2 ^ 31 by omega), nI_clamp (show o < 2 ^ 31 by omega)]
  by_cases h1 : τ.2 5 s = 0
  · rw [if_pos h1, if_pos h1]
  rw [if_neg h1, if_neg h1]
  by_cases h2 : τ.2 5 o = 0
  · rw [if_pos h2, if_pos h2]
  rw [if_neg h2, if_neg h2, grd_t, grd_t]
  by_cases h3 : τ.2 5 s = τ.2 5 o
  · rw [if_pos h3, if_pos h3]
    by_cases k1 : e < 0
    · have : hld Ws b e = false := decide_eq_false (fun x => by rw [lt_i, t0] at k1; omega)
      rw [if_pos k1, if00, this, Bool.false_and]; rfl
    rw [if_neg k1]
    by_cases k2 : b < 0
    · have : hld Ws b e = false := decide_eq_false (fun x => by rw [lt_i, t0] at k2; omega)
      rw [if_pos k2, if00, this, Bool.false_and]; rfl
    rw [if_neg k2]
    by_cases k3 : d < 0
    · have : hld Wo d e = false := decide_eq_false (fun x => by rw [lt_i, t0] at k3; omega)
      rw [if_pos k3, if00, this, Bool.and_false]; rfl
    rw [if_neg k3, grd_t, e1, e2]
    obtain ⟨n, hn, rfl⟩ := nI_of k1
    obtain ⟨i, hi, rfl⟩ := nI_of k2
    obtain ⟨j, hj, rfl⟩ := nI_of k3
    by_cases k4 : nI Ws - nI i < nI n
    · have : hld Ws (nI i) (nI n) = false := decide_eq_false (fun x => by rw [lt_i, sub_ti (by omega) hi, nI_toInt hn] at k4; rw [nI_toInt hi, nI_toInt hn] at x; omega)
      rw [if_pos k4, if00, this, Bool.false_and]; rfl
    have k4' : hld Ws (nI i) (nI n) = true := decide_eq_true (by rw [lt_i, sub_ti (by omega) hi, nI_toInt hn] at k4; rw [nI_toInt hi, nI_toInt hn]; omega)
    rw [if_neg k4, grd_t]
    by_cases k5 : nI Wo - nI j < nI n
    · have : hld Wo (nI j) (nI n) = false := decide_eq_false (fun x => by rw [lt_i, sub_ti (by omega) hj, nI_toInt hn] at k5; rw [nI_toInt hj, nI_toInt hn] at x; omega)
      rw [if_pos k5, if00, this, Bool.and_false]; rfl
    have k5' : hld Wo (nI j) (nI n) = true := decide_eq_true (by rw [lt_i, sub_ti (by omega) hj, nI_toInt hn] at k5; rw [nI_toInt hj, nI_toInt hn]; omega)
    rw [if_neg k5, if10, k4', k5', Bool.and_self, if_pos rfl]
  · rw [if_neg h3, if_neg h3]
/-- what the reference's row of cells is behind a move -/
def Mvd (Y Z : Nat → Int32) (S D n : Nat) : Prop := (∀ e, e < n → Z (D + e) = Y (S + e)) ∧ ∀ c, (∀ e, e < n → c ≠ D + e) → Z c = Y c
theorem ix3 {s i k : Nat} : (24 : Int32) * nI s + nI i + nI k = nI (24 * s + i + k) := by rw [ixs, nI_add]
theorem move_up {s i o j n : Nat} {x6 : Int32} {Y : Nat → Int32} (hji : j ≤ i) (hS : 24 * s + i + n ≤ 96) (hD : 24 * o + j + n ≤ 96) (hne : ∀ e k, e < k → k < n → 24 * s + i + k ≠ 24 * o + j + e) : ∀ (m k f : Nat) (τ : St), k + m = n → m < f → (∀ e, e < k → τ.2 7 (24 * o + j + e) = Y (24 * s + i + e)) → (∀ c, (∀ e, e < k → c ≠ 24 * o + j + e) → τ.2 7 c = Y c) → okk (Mo_move_L28 f (nI s) (nI i) (nI o) (nI j) (nI n) x6 (nI k) τ) (fun r τ' => r = nI n ∧ τ'.1 = τ.1 ∧ (∀ a, a ≠ 7 → τ'.2 a = τ.2 a) ∧ Mvd Y (τ'.2 7) (24 * s + i) (24 * o + j) n) := by
  intro m
  induction m with
  | zero =>
    intro k f τ hk hf h1 h2
    obtain ⟨f, rfl⟩ : ∃ z, f = z + 1 := ⟨f - 1, by omega⟩
    have hk : k = n := by omega
    rw [hk] at h1 h2 ⊢
    rw [Mo_move_L28, if_pos (Int32.le_refl _)]
    exact ok_some ⟨rfl, rfl, fun _ _ => rfl, h1, h2⟩
  | succ m ih =>
    intro k f τ hk hf h1 h2
    obtain ⟨f, rfl⟩ : ∃ z, f = z + 1 := ⟨f - 1, by omega⟩
    rw [Mo_move_L28, if_neg (nI_ge (show k < n by omega) (by omega)), if_pos (nI_le hji (by omega)), ix3, ix3, inb_nI (show 24 * s + i + k < 96 by omega) (by decide), grd_t, inb_nI (show 24 * o + j + k < 96 by omega) (by decide), grd_t, nas_t, nam_t, nI_lit1, nI_clamp (show 24 * s + i + k < 2 ^ 31 by omega), nI_clamp (show 24 * o + j + k < 2 ^ 31 by omega), h2 _ (fun e he => hne e k he (by omega))]
    refine ok_mono (ih (k + 1) f _ (by omega) (by omega) (fun e he => ?_) (fun c hc => ?_)) (fun r t q => ⟨q.1, q.2.1, fun a ha => by rw [q.2.2.1 a ha, sA_ne ha], q.2.2.2⟩)
    · rw [sA_eq]
      by_cases q : e = k
      · rw [q, upd_s]
      · rw [upd_n (by omega)]; exact h1 e (by omega)
    · rw [sA_eq, upd_n (hc k (by omega))]
      exact h2 c (fun e he => hc e (by omega))
theorem move_down {s i o j n : Nat} {x6 : Int32} {Y : Nat → Int32} (hji : i < j) (hj : j < 2 ^ 31) (hS : 24 * s + i + n ≤ 96) (hD : 24 * o + j + n ≤ 96) (hne : ∀ e k, e < k → k < n → 24 * s + i + e ≠ 24 * o + j + k) : ∀ (m k f : Nat) (τ : St), k + m = n → m < f → (∀ e, m ≤ e → e < n → τ.2 7 (24 * o + j + e) = Y (24 * s + i + e)) → (∀ c, (∀ e, m ≤ e → e < n → c ≠ 24 * o + j + e) → τ.2 7 c = Y c) → okk (Mo_move_L28 f (nI s) (nI i) (nI o) (nI j) (nI n) x6 (nI k) τ) (fun r τ' => r = nI n ∧ τ'.1 = τ.1 ∧ (∀ a, a ≠ 7 → τ'.2 a = τ.2 a) ∧ Mvd Y (τ'.2 7) (24 * s + i) (24 * o + j) n) := by
  intro m
  induction m with
  | zero =>
    intro k f τ hk hf h1 h2
    obtain ⟨f, rfl⟩ : ∃ z, f = z + 1 := ⟨f - 1, by omega⟩
    have hk : k = n := by omega
    rw [hk, Mo_move_L28, if_pos (Int32.le_refl _)]
    exact ok_some ⟨rfl, rfl, fun _ _ => rfl, fun e he => h1 e (Nat.zero_le _) he, fun c hc => h2 c (fun e _ he => hc e he)⟩
  | succ m ih =>
    intro k f τ hk hf h1 h2
    obtain ⟨f, rfl⟩ : ∃ z, f = z + 1 := ⟨f - 1, by omega⟩
    have e1 : nI n - 1 - nI k = nI m := by
      rw [show nI n - 1 = nI (n - 1) from pk_sub (b := 1) (by omega), pk_sub (by omega), show n - 1 - k = m by omega]
    rw [Mo_move_L28, if_neg (nI_ge (show k < n by omega) (by omega)), if_neg (nI_ge hji hj), nam_t, e1, ix3, ix3, inb_nI (show 24 * s + i + m < 96 by omega) (by decide), grd_t, inb_nI (show 24 * o + j + m < 96 by omega) (by decide), grd_t, nas_t, nam_t, nI_lit1, nI_clamp (show 24 * s + i + m < 2 ^ 31 by omega), nI_clamp (show 24 * o + j + m < 2 ^ 31 by omega), h2 _ (fun e he hen => hne m e (by omega) hen)]
    refine ok_mono (ih (k + 1) f _ (by omega) (by omega) (fun e he hen => ?_) (fun c hc => ?_)) (fun r t q => ⟨q.1, q.2.1, fun a ha => by rw [q.2.2.1 a ha, sA_ne ha], q.2.2.2⟩)
    · rw [sA_eq]
      by_cases q : e = m
      · rw [q, upd_s]
      · rw [upd_n (by omega)]; exact h1 e (by omega) hen
    · rw [sA_eq, upd_n (hc m (by omega) (by omega))]
      exact h2 c (fun e he hen => hc e (by omega) hen)
theorem Mo_move_ok {s i o j n : Nat} {x6 : Int32} {τ : St} (hs : s < 4) (ho : o < 4) (hi : i + n ≤ 24) (hj : j + n ≤ 24) : okk (Mo_move_L28 1000 (nI s) (nI i) (nI o) (nI j) (nI n) x6 0 τ) (fun r τ' => r = nI n ∧ τ'.1 = τ.1 ∧ (∀ a, a ≠ 7 → τ'.2 a = τ.2 a) ∧ Mvd (τ.2 7) (τ'.2 7) (24 * s + i) (24 * o + j) n) := by
  by_cases h : j ≤ i
  · exact move_up h (by omega) (by omega) (fun e k h1 h2 => by omega) n 0 1000 τ (by omega) (by omega) (fun e he => by omega) (fun c _ => rfl)
  · exact move_down (by omega) (by omega) (by omega) (by omega) (fun e k h1 h2 => by omega) n 0 1000 τ (by omega) (by omega) (fun e h1 h2 => by omega) (fun c _ => rfl)
theorem m5n0 : ¬ (-1000000005 : Int32) = 0 := by decide
theorem op_move {σ τ : St} (h : Rl σ τ) (a b c d e : Int32) : OK2 (Mn_move a b c d e σ) (Mo_move a b c d e τ) := by
  rw [Mn_move, Mo_move, Mn_isSheet_eq, bnd_t]
  cases e1 : wi a 0 3 with
  | false => rw [if_bf, Mo_notMoved_no1 e1, bnd_t, if_neg m1n0]; exact err1 h
  | true =>
    rw [if_bt, Mn_isSheet_eq, bnd_t]
    cases e2 : wi c 0 3 with
    | false => rw [if_bf, Mo_notMoved_no2 e1 e2, bnd_t, if_neg m1n0]; exact err1 h
    | true =>
      obtain ⟨s, hs, rfl⟩ := wi_in (m := 3) (by decide) e1
      obtain ⟨o, ho, rfl⟩ := wi_in (m := 3) (by decide) e2
      have hs4 : s < 4 := by omega
      have ho4 : o < 4 := by omega
      obtain ⟨g1, g2, ⟨Ws, hWs, g3, g4⟩, g5⟩ := h.2.2.2.2.1 s hs4
      obtain ⟨k1, k2, ⟨Wo, hWo, k3, k4⟩, k5⟩ := h.2.2.2.2.1 o ho4
      rw [if_bt, Mo_notMoved_eq hs4 ho4 hWs hWo g4 k4, bnd_t, sh_i hs4, grd_t, sh_w hs4, sh_i ho4, grd_t, sh_w ho4, Rw_isMissing, g1]
      by_cases z1 : τ.2 5 s = 0
      · rw [if_pos z1, if_pos z1, bnd_t, if10, if_neg m2n0]; exact err2 h
      rw [if_neg z1, if_neg z1, bnd_t, if00, Rw_isMissing, k1]
      by_cases z2 : τ.2 5 o = 0
      · rw [if_pos z2, if_pos z2, bnd_t, if10, if_neg m2n0]; exact err2 h
      rw [if_neg z2, if_neg z2, bnd_t, if00, g1, k1]
      by_cases z3 : τ.2 5 s = τ.2 5 o
      · rw [if_pos z3, if_pos z3, Rw_holds_eq hWs g3, bnd_t]
        cases hb : hld Ws b e with
        | false => rw [if_bf, Bool.false_and, if_neg (show ¬ false = true by decide), if_neg m1n0]; exact err1 h
        | true =>
          rw [if_bt, Rw_holds_eq hWo k3, bnd_t, Bool.true_and]
          cases hd : hld Wo d e with
          | false => rw [if_bf, if_neg (show ¬ false = true by decide), if_neg m1n0]; exact err1 h
          | true =>
            obtain ⟨i, n, hin, rfl, rfl⟩ := hld_in hb
            obtain ⟨j, n', hjn, rfl, he⟩ := hld_in hd
            have hnn : n = n' := (nI_eq (by omega) (by omega)).mp he
            subst hnn
            have hcp : cpb (nI i) (nI j) (nI n) 24 24 = true := decide_eq_true (by rw [nI_toInt (by omega), nI_toInt (by omega), nI_toInt (by omega)]; omega)
            rw [if_bt, if_pos rfl, if00, hcp, grd_t, nas_t, nI_clamp (show i < 2 ^ 31 by omega), nI_clamp (show j < 2 ^ 31 by omega), nI_clamp (show n < 2 ^ 31 by omega)]
            refine s2_mono (s2_ok (P1 := fun r σ' => r = nI n ∧ σ' = sC σ (54 + 2 * s + 1) i (54 + 2 * o + 1) j n) (ok_some ⟨rfl, rfl⟩) (Mo_move_ok hs4 ho4 (by omega) (by omega)) (fun r σ' q τ' p1 p2 => (⟨p2.1.trans p1.1.symm, ?_⟩ : q = r ∧ Rl σ' τ'))) (fun _ _ _ _ p => p)
            obtain ⟨-, rfl⟩ := p1
            obtain ⟨-, q1, q2, q3, q4⟩ := p2
            refine Rl_sheet ho4 h (fun o k _ => rfl) (fun a ha => sC_ne (by omega)) q1 (fun a _ _ h7 => q2 a h7) (fun r _ _ => ⟨by rw [q2 5 (by decide)], by rw [q2 6 (by decide)]⟩) (fun c hc => q4 c (fun e he => by omega)) ⟨?_, ?_, ⟨Wo, hWo, k3, ?_⟩, fun c hc => ?_⟩
            · rw [q2 5 (by decide)]; exact k1
            · rw [q2 5 (by decide)]; exact k2
            · rw [q2 6 (by decide)]; exact k4
            · rw [show 55 + 2 * o = 54 + 2 * o + 1 by omega, sC_eq]
              by_cases hin2 : j ≤ c ∧ c < j + n
              · rw [pk_cpy_in hin2.1 hin2.2, show 24 * o + c = 24 * o + j + (c - j) by omega, q3 (c - j) (by omega)]
                have := g5 (i + (c - j)) (by omega)
                rw [show 55 + 2 * s = 54 + 2 * s + 1 by omega, show 24 * s + (i + (c - j)) = 24 * s + i + (c - j) by omega] at this
                exact this
              · rw [pk_cpy_out (by omega), q4 (24 * o + c) (fun e he => by omega)]
                have := k5 c hc
                rw [show 55 + 2 * o = 54 + 2 * o + 1 by omega] at this
                exact this
      · rw [if_neg z3, if_neg z3, if_neg m5n0]; exact err5 h
/-! breaths -/
theorem cel_wi {x y : Int32} (h : cel x y) : (wi x 0 99 = wi y 0 99) ∧ (wi y 0 99 = true → x = y ∧ ∃ c, c ≤ 99 ∧ y = nI c) := by
  have key : ∀ z : Int32, wi z 0 99 = true → ∃ c, c ≤ 99 ∧ z = nI c := fun z hz => wi_in (m := 99) (by decide) hz
  have back : ∀ c, c ≤ 99 → wi (nI c) 0 99 = true := fun c hc => wi_yes (nI_pos (by omega)) (nI_nlt (a := 99) hc (by decide))
  refine ⟨?_, fun hy => ?_⟩
  · cases hy : wi y 0 99 with
    | true =>
      obtain ⟨c, hc, he⟩ := key y hy
      rw [(h c hc).mpr he]; exact back c hc
    | false =>
      cases hx : wi x 0 99 with
      | false => rfl
      | true =>
        obtain ⟨c, hc, he⟩ := key x hx
        rw [(h c hc).mp he, back c hc] at hy
        cases hy
  · obtain ⟨c, hc, he⟩ := key y hy
    exact ⟨((h c hc).mpr he).trans he.symm, c, hc, he⟩
theorem breaths_loop {s W N : Nat} {x2 : Int32} (hs : s < 4) (hW : W ≤ 24) (h6 : N ≤ 6) : ∀ (m k n n' : Nat) (σ τ : St), k + m = W → m < n → m < n' → Rl σ τ → τ.2 6 s = nI W → σ.1 (54 + 2 * s) 2 = nI W → RN (τ.2 1) N → OK2 (Rp_takeBreaths_L2 n 15 (54 + 2 * s) (nI k) σ) (Mo_breaths_L18 n' (nI s) x2 (nI k) τ) := by
  intro m
  induction m with
  | zero =>
    intro k n n' σ τ hk hn hn' h e1 e2 hN
    obtain ⟨n, rfl⟩ : ∃ z, n = z + 1 := ⟨n - 1, by omega⟩
    obtain ⟨n', rfl⟩ : ∃ z, n' = z + 1 := ⟨n' - 1, by omega⟩
    have hk : k = W := by omega
    rw [hk, Rp_takeBreaths_L2, Mo_breaths_L18, inb_nI hs (by decide), grd_t, nI_clamp (show s < 2 ^ 31 by omega), e1, e2, if_pos (Int32.le_refl _), if_pos (Int32.le_refl _)]
    exact ok2 h
  | succ m ih =>
    intro k n n' σ τ hk hn hn' h e1 e2 hN
    obtain ⟨n, rfl⟩ : ∃ z, n = z + 1 := ⟨n - 1, by omega⟩
    obtain ⟨n', rfl⟩ : ∃ z, n' = z + 1 := ⟨n' - 1, by omega⟩
    have hg := nI_ge (show k < W by omega) (show W < 2 ^ 31 by omega)
    rw [Rp_takeBreaths_L2, Mo_breaths_L18, inb_nI hs (by decide), grd_t, nI_clamp (show s < 2 ^ 31 by omega), e1, e2, if_neg hg, if_neg hg, g2, grd_t, z2, h.1.1.1.2.2.1, hN.2.1]
    by_cases hkN : N ≤ k
    · rw [if_pos (nI_le hkN (by omega)), if_pos (nI_le hkN (by omega))]; exact ok2 h
    · have hkn : ¬ nI N ≤ nI k := nI_ge (by omega) (by omega)
      have hc : cel (σ.2 (54 + 2 * s + 1) k) (τ.2 7 (24 * s + k)) := by
        have := (h.2.2.2.2.1 s hs).2.2.2 k (by omega)
        rw [show 55 + 2 * s = 54 + 2 * s + 1 by omega] at this
        exact this
      obtain ⟨c1, c2⟩ := cel_wi hc
      rw [if_neg hkn, if_neg hkn, inb_nI (show k < 24 by omega) (by decide), grd_t, ixs, inb_nI (show 24 * s + k < 96 by omega) (by decide), grd_t, Mn_isWithin_eq, bnd_t, Mo_in_eq, bnd_t, nI_clamp (show k < 2 ^ 31 by omega), nI_clamp (show 24 * s + k < 2 ^ 31 by omega), c1]
      cases hw : wi (τ.2 7 (24 * s + k)) 0 99 with
      | false => rw [if_bf, if_bf]; exact ok2 h
      | true =>
        obtain ⟨c3, c, hc9, c4⟩ := c2 hw
        rw [if_bt, if_bt, grd_t, inb_nI (show k < 6 by omega) (by decide), grd_t, nas_t, nam_t, grd_t, Mo_lets2 (show k < 6 by omega), bnd_t, nam_t, nI_lit1, c3]
        have hA := RA_put h.1.1 2 (j := k) (a := 15 + 3) (i := 12 + 5 * k) (τ.2 7 (24 * s + k)) (by decide) (by omega) (by omega) (by omega)
        have hR : Rl (sA σ (15 + 3) k (τ.2 7 (24 * s + k))) (sA τ 1 (12 + 5 * k) (τ.2 7 (24 * s + k))) := Rl_put h (QR.put (by omega) (by omega)) hA (by omega) (fun j hj e => by omega) (fun j hj e => ⟨c, hc9, c4⟩) (fun j hj e => by omega)
        refine ih (k + 1) n n' _ _ (by omega) (by omega) (by omega) hR ?_ e2 ?_
        · rw [sA_ne (by decide)]; exact e1
        · rw [sA_eq]; exact RN_put hN (by omega) (fun j hj e => by omega)
theorem op_breaths {σ τ : St} (h : Rl σ τ) (a : Int32) : OK2 (Mn_breaths a σ) (Mo_breaths a τ) := by
  obtain ⟨N, hN⟩ := h.1.2.1
  rw [Mn_breaths, Mo_breaths, Mn_isSheet_eq, bnd_t]
  cases e1 : wi a 0 3 with
  | false => rw [if_bf, Mo_notThere_no e1, bnd_t, if_neg m1n0]; exact err1 h
  | true =>
    obtain ⟨s, hs, rfl⟩ := wi_in (m := 3) (by decide) e1
    have hs4 : s < 4 := by omega
    obtain ⟨g1, g2', ⟨W, hW, g3', g4⟩, g5⟩ := h.2.2.2.2.1 s hs4
    rw [if_bt, Mo_notThere_eq hs4 rfl, bnd_t, sh_i hs4, grd_t, sh_w hs4, Rw_isMissing, g1]
    by_cases z : τ.2 5 s = 0
    · rw [if_pos z, if_pos z, bnd_t, if10, if_neg m2n0]; exact err2 h
    · rw [if_neg z, if_neg z, bnd_t, if00, if00, grd_t, sh_w hs4]
      have hl := breaths_loop (x2 := 0) hs4 hW hN.1 W 0 1000 1000 σ τ (by omega) (by omega) (by omega) h g4 g3' hN
      obtain ⟨r, σ', q, τ', q1, q2, q3⟩ := hl
      refine ⟨r, σ', q, τ', ?_, q2, q3⟩
      exact Eq.trans (congrArg (fun x => bnd x (fun r7 σ8 => some (r7, σ8))) q1) rfl
theorem judge_loop {s W N : Nat} {x2 : Int32} {R : Nat → Int32} (hs : s < 4) (hW : W ≤ 24) (hN : RN R N) {F G : Nat → Int32} (hc : ∀ i, i < 24 → cel (F i) (G (24 * s + i))) : ∀ (m k n n' : Nat) (σ τ : St), k + m = W → m < n → m < n' → RA σ 15 R → TX σ 15 R → τ.2 1 = R → σ.2 (54 + 2 * s + 1) = F → τ.2 7 = G → τ.2 6 s = nI W → σ.1 (54 + 2 * s) 2 = nI W → s2 (Rp_costsRight_L2 n 15 (54 + 2 * s) (nI k) σ) (Mo_judge_L18 n' (nI s) x2 (nI k) τ) (fun r σ' q τ' => q = r ∧ SQ σ σ' ∧ Mq τ τ') := by
  have h6 := hN.1
  intro m
  induction m with
  | zero =>
    intro k n n' σ τ hk hn hn' hA hT h1 hF hG e1 e2
    obtain ⟨n, rfl⟩ : ∃ z, n = z + 1 := ⟨n - 1, by omega⟩
    obtain ⟨n', rfl⟩ : ∃ z, n' = z + 1 := ⟨n' - 1, by omega⟩
    have hk : k = W := by omega
    rw [hk, Rp_costsRight_L2, Mo_judge_L18, inb_nI hs (by decide), grd_t, nI_clamp (show s < 2 ^ 31 by omega), e1, e2, if_pos (Int32.le_refl _), if_pos (Int32.le_refl _)]
    exact s2_some ⟨rfl, SQ.rf σ, Mq.rf τ⟩
  | succ m ih =>
    intro k n n' σ τ hk hn hn' hA hT h1 hF hG e1 e2
    obtain ⟨n, rfl⟩ : ∃ z, n = z + 1 := ⟨n - 1, by omega⟩
    obtain ⟨n', rfl⟩ : ∃ z, n' = z + 1 := ⟨n' - 1, by omega⟩
    have hg := nI_ge (show k < W by omega) (show W < 2 ^ 31 by omega)
    rw [Rp_costsRight_L2, Mo_judge_L18, inb_nI hs (by decide), grd_t, nI_clamp (show s < 2 ^ 31 by omega), e1, e2, if_neg hg, if_neg hg, g2, grd_t, z2, hA.1.2.2.1, h1, hN.2.1]
    by_cases hkN : N ≤ k
    · rw [if_pos (nI_le hkN (by omega)), if_pos (nI_le hkN (by omega))]; exact s2_some ⟨rfl, SQ.rf σ, Mq.rf τ⟩
    · have hkn : ¬ nI N ≤ nI k := nI_ge (by omega) (by omega)
      rw [if_neg hkn, if_neg hkn, inb_nI (show k < 24 by omega) (by decide), grd_t, ixs, inb_nI (show 24 * s + k < 96 by omega) (by decide), grd_t, nI_clamp (show k < 2 ^ 31 by omega), nI_clamp (show 24 * s + k < 2 ^ 31 by omega), hF, hG]
      refine s2_l (Rp_costs_ok (Or.inl rfl) hN (show k < 6 by omega) hA hT) (fun r t q => ?_)
      refine s2_r (Mo_costsOf_ok (N := N) (by rw [h1]; exact hN) (show k < 6 by omega) (by rw [h1]; exact hT.1)) (fun r' t' q' => ?_)
      have hs0 := SQ.x5 q.2
      rw [q.1, q'.1, h1]
      obtain ⟨c, hc20, hce⟩ := ct_20 (R := R) (N := N) (j := k)
      have hiff := hc k (by omega) c (by omega)
      rw [hce]
      by_cases hx : G (24 * s + k) = nI c
      · rw [if_pos (hiff.mpr hx), if_pos hx, nam_t, nam_t, nI_lit1]
        refine s2_mono (ih (k + 1) n n' t t' (by omega) (by omega) (by omega) (sq_RA hs0 (by decide) hA) (sq_TX hs0 hT) ((mq_1 q'.2).trans h1) ?_ ?_ ?_ ?_) (fun r σ' u τ' p => ⟨p.1, hs0.tr p.2.1, q'.2.tr p.2.2⟩)
        · rw [hs0.2 _ (by omega) (by omega)]; exact hF
        · rw [q'.2.2 7 (by decide) (by decide)]; exact hG
        · rw [q'.2.2 6 (by decide) (by decide)]; exact e1
        · rw [hs0.1]; exact e2
      · rw [if_neg (fun y => hx (hiff.mp y)), if_neg hx]; exact s2_some ⟨rfl, hs0, q'.2⟩
theorem op_judge {σ τ : St} (h : Rl σ τ) (a : Int32) : OK2 (Mn_judge a σ) (Mo_judge a τ) := by
  obtain ⟨N, hN⟩ := h.1.2.1
  rw [Mn_judge, Mo_judge, Mn_isSheet_eq, bnd_t]
  cases e1 : wi a 0 3 with
  | false => rw [if_bf, Mo_notThere_no e1, bnd_t, if_neg m1n0]; exact err1 h
  | true =>
    obtain ⟨s, hs, rfl⟩ := wi_in (m := 3) (by decide) e1
    have hs4 : s < 4 := by omega
    obtain ⟨g1, g2', ⟨W, hW, g3', g4⟩, g5⟩ := h.2.2.2.2.1 s hs4
    rw [if_bt, Mo_notThere_eq hs4 rfl, bnd_t, sh_i hs4, grd_t, sh_w hs4, Rw_isMissing, g1]
    by_cases z : τ.2 5 s = 0
    · rw [if_pos z, if_pos z, bnd_t, if10, if_neg m2n0]; exact err2 h
    · rw [if_neg z, if_neg z, bnd_t, if00, if00, grd_t, sh_w hs4]
      have hl := judge_loop (x2 := 0) (F := σ.2 (54 + 2 * s + 1)) (G := τ.2 7) hs4 hW hN (fun i hi => by have := g5 i hi; rw [show 55 + 2 * s = 54 + 2 * s + 1 by omega] at this; exact this) W 0 1000 1000 σ τ (by omega) (by omega) (by omega) h.1.1 (Rl_TX h) rfl rfl rfl g4 g3'
      obtain ⟨r, σ', q, τ', q1, q2, q3, q4, q5⟩ := hl
      refine ⟨r, σ', q, τ', ?_, q2, q3, Rl_keep (SX.sq q4) (MX.mq q5) h⟩
      exact Eq.trans (congrArg (fun x => bnd x (fun r7 σ8 => some (r7, σ8))) q1) rfl
/-! fits -/
def so (G R : Nat → Int32) (m k : Nat) : Bool := match m with
  | 0 => true
  | m + 1 => if G k = R (12 + 5 * k) then so G R m (k + 1) else false
theorem so_bq {F G R : Nat → Int32} {N W : Nat} (hWN : W ≤ N) (hc : ∀ i, i < W → (F i = R (12 + 5 * i) ↔ G i = R (12 + 5 * i))) : ∀ (m k : Nat), k + m = W → (bq F R N W m k = W ↔ so G R m k = true) := by
  intro m
  induction m with
  | zero => intro k h; rw [bq, so]; exact ⟨fun _ => rfl, fun _ => by omega⟩
  | succ m ih =>
    intro k h
    rw [bq, so, if_neg (by omega), if_neg (by omega)]
    by_cases h1 : G k = R (12 + 5 * k)
    · rw [if_pos h1, if_pos ((hc k (by omega)).mpr h1)]
      exact ih (k + 1) (by omega)
    · rw [if_neg h1, if_neg (fun q => h1 ((hc k (by omega)).mp q))]
      exact ⟨fun q => by omega, fun q => by cases q⟩
theorem Mo_isSo_loop {s W : Nat} {τ : St} (hs : s < 4) (hW : W ≤ 6) (h6 : τ.2 6 s = nI W) : ∀ (m k n : Nat), k + m = W → m < n → Mo_isSo_L4 (n + 1) (nI s) 1 (nI k) τ = some (b01 (so (fun i => τ.2 7 (24 * s + i)) (τ.2 1) m k), τ) := by
  intro m
  induction m with
  | zero =>
    intro k n hk hn
    have hk : k = W := by omega
    rw [hk, Mo_isSo_L4, inb_nI hs (by decide), grd_t, nI_clamp (by omega), h6, if_pos (Int32.le_refl _), show isB (1 : Int32) = true from rfl, grd_t]
    rfl
  | succ m ih =>
    intro k n hk hn
    obtain ⟨n, rfl⟩ : ∃ z, n = z + 1 := ⟨n - 1, by omega⟩
    rw [Mo_isSo_L4, inb_nI hs (by decide), grd_t, nI_clamp (show s < 2 ^ 31 by omega), h6, if_neg (nI_ge (show k < W by omega) (by omega)), if10, ixs, inb_nI (show 24 * s + k < 96 by omega) (by decide), grd_t, Mo_of2 (show k < 6 by omega), bnd_t, nI_clamp (show 24 * s + k < 2 ^ 31 by omega), so]
    by_cases h1 : τ.2 7 (24 * s + k) = τ.2 1 (12 + 5 * k)
    · rw [if_pos h1, if_pos h1, nam_t, nI_lit1]
      exact ih (k + 1) n (by omega) (by omega)
    · rw [if_neg h1, if_neg h1, nam_t, nI_lit1, Mo_isSo_L4, inb_nI hs (by decide), grd_t, nI_clamp (show s < 2 ^ 31 by omega), h6]
      by_cases h2 : nI W ≤ nI (k + 1)
      · rw [if_pos h2, show isB (0 : Int32) = true from rfl, grd_t]; rfl
      · rw [if_neg h2, if00, show isB (0 : Int32) = true from rfl, grd_t]; rfl
theorem bq_N {F R : Nat → Int32} {N W : Nat} : ∀ (m k : Nat), k ≤ N → bq F R N W m k ≤ N ∨ W ≤ N := by
  intro m
  induction m with
  | zero => intro k h; exact Or.inl h
  | succ m ih =>
    intro k h
    rw [bq]
    split
    · exact Or.inl h
    · split
      · exact Or.inl h
      · split
        · exact ih (k + 1) (by omega)
        · exact Or.inl h
theorem fits_no {R : Nat → Int32} {s W N : Nat} (hs : s < 4) (hW : W ≤ 24) (hN : RN R N) (hB : RB R) (hWN : N < W) : ∀ (m k n : Nat) (σ : St), k + m = 100 → m < n → RA σ 24 (pn R N k) → TX σ 24 R → σ.1 (54 + 2 * s) 2 = nI W → ∃ σ', QR 24 σ σ' ∧ Mn_fits_L44 n (nI s) (nI k) σ = bnd (Mn_error 2 σ') (fun r s => some (r, s)) := by
  intro m
  induction m with
  | zero =>
    intro k n σ hk hn hA hT e2
    obtain ⟨n, rfl⟩ : ∃ z, n = z + 1 := ⟨n - 1, by omega⟩
    have hk : k = 100 := by omega
    refine ⟨σ, QR.rf _ _, ?_⟩
    rw [hk, Mn_fits_L44, if_pos (show (99 : Int32) < nI 100 by decide)]
  | succ m ih =>
    intro k n σ hk hn hA hT e2
    obtain ⟨n, rfl⟩ : ∃ z, n = z + 1 := ⟨n - 1, by omega⟩
    obtain ⟨a1, a2, a3⟩ := pn_all hN hB k
    obtain ⟨r, t, q1, q2, q3, q4, q5⟩ := Rp_pass_n (Or.inr rfl) hN hB hA hT
    obtain ⟨σ', g1, g2⟩ := ih (k + 1) n t (by omega) (by omega) q3 q5 (by rw [q4.1 _ (by omega)]; exact e2)
    refine ⟨σ', q4.tr g1, ?_⟩
    have hb := (bq_N (F := σ.2 (54 + 2 * s + 1)) (R := pn R N k) (N := N) (W := W) W 0 (Nat.zero_le _)).resolve_right (by omega)
    rw [Mn_fits_L44, if_neg (show ¬ (99 : Int32) < nI k from nI_nlt (a := 99) (by omega) (by decide)), sh_i hs, grd_t, sh_w hs, Rp_right_eq a2 hW hA e2, bnd_t, grd_t, sh_w hs, e2, if_neg (fun x => by have := (nI_eq (by omega) (by omega)).mp x; omega), q1, bnd_t, nam_t, nI_lit1]
    exact g2
theorem fits_loop {σ0 τ0 : St} {s W N : Nat} {x2 : Int32} (h : Rl σ0 τ0) (hs : s < 4) (hN : RN (τ0.2 1) N) (hWN : W ≤ N) (e1 : τ0.2 6 s = nI W) (e2 : σ0.1 (54 + 2 * s) 2 = nI W) : ∀ (m k n n' : Nat) (σ t : St), k + m = 100 → m < n → m < n' → RA σ 24 (pn (τ0.2 1) N k) → TX σ 24 (τ0.2 1) → SX σ0 σ → TB τ0 t → t.2 1 = pn (τ0.2 1) N k → OK2 (Mn_fits_L44 n (nI s) (nI k) σ) (Mo_fits_L44 n' (nI s) x2 (nI k) t) := by
  have hB := h.1.2.2.1
  have hT0 := Rl_TX h
  have h6 := hN.1
  intro m
  induction m with
  | zero =>
    intro k n n' σ t hk hn hn' hA hT hq hTB ht
    obtain ⟨n, rfl⟩ : ∃ z, n = z + 1 := ⟨n - 1, by omega⟩
    obtain ⟨n', rfl⟩ : ∃ z, n' = z + 1 := ⟨n' - 1, by omega⟩
    have hk : k = 100 := by omega
    subst hk
    rw [Mn_fits_L44, if_pos (show (99 : Int32) < nI 100 by decide), Mo_fits_L44, if_pos (show (99 : Int32) < nI 100 by decide)]
    exact back_none h hq hTB (fun i hi => by rw [ht]; exact pn_back hN hB _ i hi) (by decide) (by decide)
  | succ m ih =>
    intro k n n' σ t hk hn hn' hA hT hq hTB ht
    obtain ⟨n, rfl⟩ : ∃ z, n = z + 1 := ⟨n - 1, by omega⟩
    obtain ⟨n', rfl⟩ : ∃ z, n' = z + 1 := ⟨n' - 1, by omega⟩
    obtain ⟨a1, a2, a3⟩ := pn_all hN hB k
    have hg : ¬ (99 : Int32) < nI k := nI_nlt (a := 99) (by omega) (by decide)
    have e2' : σ.1 (54 + 2 * s) 2 = nI W := by rw [hq.1 (54 + 2 * s) 2 (by omega) (by omega) (by omega)]; exact e2
    have e1' : t.2 6 s = nI W := by rw [hTB.2.1 6 (by decide) (by decide) (by decide) (by decide) (by decide)]; exact e1
    have hF : σ.2 (54 + 2 * s + 1) = σ0.2 (54 + 2 * s + 1) := hq.2 (54 + 2 * s + 1) (by omega) (by omega) (by omega) (by omega) (by omega)
    have hG : t.2 7 = τ0.2 7 := hTB.2.1 7 (by decide) (by decide) (by decide) (by decide) (by decide)
    have hiff := so_bq (F := σ.2 (54 + 2 * s + 1)) (G := fun i => t.2 7 (24 * s + i)) (R := pn (τ0.2 1) N k) hWN (fun i hi => by
      obtain ⟨b, hb, he⟩ := a3.1 i (by omega)
      have hc := (h.2.2.2.2.1 s hs).2.2.2 i (by omega)
      rw [show 55 + 2 * s = 54 + 2 * s + 1 by omega] at hc
      rw [he, hF, hG]
      exact hc b hb) W 0 (by omega)
    have hM : Mo_isSo (nI s) t = some (b01 (so (fun i => t.2 7 (24 * s + i)) (t.2 1) W 0), t) := Mo_isSo_loop hs (by omega) e1' W 0 999 (by omega) (by omega)
    rw [Mn_fits_L44, if_neg hg, Mo_fits_L44, if_neg hg, sh_i hs, grd_t, sh_w hs, Rp_right_eq a2 (by omega) hA e2', bnd_t, grd_t, sh_w hs, e2', hM, bnd_t, ht]
    have hbl := bq_le (F := σ.2 (54 + 2 * s + 1)) (R := pn (τ0.2 1) N k) (N := N) (W := W) W 0 (by omega)
    cases hso : so (fun i => t.2 7 (24 * s + i)) (pn (τ0.2 1) N k) W 0 with
    | true =>
      rw [if_bt, if_pos (by rw [hiff.mpr hso])]
      exact back_ans h hq hTB (fun i hi => by rw [ht]; exact pn_back hN hB _ i hi) (by omega)
    | false =>
      rw [if_bf, if_neg (fun x => by rw [hiff.mp ((nI_eq (by omega) (by omega)).mp x)] at hso; cases hso)]
      refine ok2_l (Rp_pass_n (Or.inr rfl) hN hB hA hT) (fun r u q => ?_)
      refine ok2_r (Mo_goesFor_1 (k := k) hN hB hT0.1 ht) (fun _ t2 q2 => ?_)
      rw [nam_t, nam_t, nI_lit1]
      exact ih (k + 1) n n' u t2 (by omega) (by omega) (by omega) q.2.1 q.2.2.2 (hq.tr (SX.qr q.2.2.1)) (hTB.qm q2.2) q2.1
theorem op_fits {σ τ : St} (h : Rl σ τ) (a : Int32) : OK2 (Mn_fits a σ) (Mo_fits a τ) := by
  obtain ⟨N, hN⟩ := h.1.2.1
  have hT := Rl_TX h
  have h6 := hN.1
  rw [Mn_fits, Mo_fits, Mn_isSheet_eq, bnd_t]
  cases e1 : wi a 0 3 with
  | false => rw [if_bf, Mo_notThere_no e1, bnd_t, if_neg m1n0]; exact err1 h
  | true =>
    obtain ⟨s, hs, rfl⟩ := wi_in (m := 3) (by decide) e1
    have hs4 : s < 4 := by omega
    obtain ⟨g1, g2', ⟨W, hW, g3', g4⟩, g5⟩ := h.2.2.2.2.1 s hs4
    rw [if_bt, Mo_notThere_eq hs4 rfl, bnd_t, sh_i hs4, grd_t, sh_w hs4, Rw_isMissing, g1]
    by_cases z : τ.2 5 s = 0
    · rw [if_pos z, if_pos z, bnd_t, if10, if_neg m2n0]; exact err2 h
    · rw [if_neg z, if_neg z, bnd_t, if00, if00, inb_nI hs4 (by decide), grd_t, g2, grd_t, z2, nI_clamp (by omega), g4, hN.2.1]
      refine ok2_l (copy_24 h.1.1 hT (Rl_mx h)) (fun r t q => ?_)
      by_cases hWN : W ≤ N
      · rw [if_pos (nI_le hWN (by omega))]
        refine ok2_r Mo_thinks_ok (fun r' t' q' => ?_)
        exact fits_loop h hs4 hN hWN g4 g3' 100 0 1000 1000 t t' (by omega) (by omega) (by omega) q.1 q.2.1 q.2.2 q'.1 q'.2
      · rw [if_neg (nI_ge (by omega) (by omega))]
        obtain ⟨σ', k1, k2⟩ := fits_no hs4 hW hN h.1.2.2.1 (by omega) 100 0 1000 t (by omega) (by omega) q.1 q.2.1 (by rw [q.2.2.1 (54 + 2 * s) 2 (by omega) (by omega) (by omega)]; exact g3')
        refine Eq.mpr (congrArg (fun x => OK2 x _) k2) ?_
        exact err2 (Rl_keep (q.2.2.tr (SX.qr k1)) (MX.rf τ) h)
