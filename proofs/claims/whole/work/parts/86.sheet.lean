/-! ===== sheets ===== -/
theorem sh_i {s : Nat} (hs : s < 4) : inb (nI s) ([54, 56, 58, 60] : List Nat).length = true := inb_nI hs (by decide)
theorem sh_w {s : Nat} (hs : s < 4) {K : Nat → Option (Int32 × St)} : wid (([54, 56, 58, 60] : List Nat).getD (nI s).toNatClampNeg 0) K = K (54 + 2 * s) := by
  rw [nI_clamp (by omega)]
  match s, hs with
  | 0, _ => rfl
  | 1, _ => rfl
  | 2, _ => rfl
  | 3, _ => rfl
  | s + 4, hs => exact absurd hs (by omega)
theorem sh_w2 {s : Nat} (hs : s < 4) {K : Nat → Option (Int32 × St)} : wid (([54, 56, 58, 60] : List Nat).getD s 0) K = K (54 + 2 * s) := by
  match s, hs with
  | 0, _ => rfl
  | 1, _ => rfl
  | 2, _ => rfl
  | 3, _ => rfl
  | s + 4, hs => exact absurd hs (by omega)
theorem ixs {s i : Nat} : (24 : Int32) * nI s + nI i = nI (24 * s + i) := by
  rw [show (24 : Int32) = nI 24 from rfl, pk_mul, nI_add]
theorem Rl_sheet {σ τ σ' τ' : St} {s : Nat} (hs : s < 4) (h : Rl σ τ) (f1 : ∀ o k, o ≠ 54 + 2 * s → σ'.1 o k = σ.1 o k) (f2 : ∀ a, a ≠ 55 + 2 * s → σ'.2 a = σ.2 a) (m1 : τ'.1 = τ.1) (m2 : ∀ a, a ≠ 5 → a ≠ 6 → a ≠ 7 → τ'.2 a = τ.2 a) (m5 : ∀ r, r < 4 → r ≠ s → τ'.2 5 r = τ.2 5 r ∧ τ'.2 6 r = τ.2 6 r) (m7 : ∀ i, (i < 24 * s ∨ 24 * s + 24 ≤ i) → τ'.2 7 i = τ.2 7 i) (hS : SH σ' τ' s) : Rl σ' τ' := by
  obtain ⟨h0, ⟨h1, h2⟩, ⟨h3, h4⟩, h5, h6, h7⟩ := h
  refine ⟨?_, ⟨?_, ?_⟩, ⟨?_, ?_⟩, ?_, ?_, ?_⟩
  · rw [m2 1 (by decide) (by decide) (by decide)]
    exact Sn_keep h0 (fun k => f1 15 k (by omega)) (fun a _ _ => f2 a (by omega)) ⟨f1 3 3 (by omega), f2 (3 + 1) (by omega), f1 6 3 (by omega), f2 (6 + 1) (by omega)⟩ ⟨f1 42 1 (by omega), f2 (42 + 1) (by omega)⟩ ⟨f1 49 2 (by omega), f2 (49 + 1) (by omega)⟩
  · rw [f1 3 0 (by omega), f1 66 0 (by omega)]; exact h1
  · rw [f1 6 0 (by omega), f1 69 0 (by omega)]; exact h2
  · rw [f1 0 11 (by omega), m1]; exact h3
  · rw [f1 0 11 (by omega), m2 2 (by decide) (by decide) (by decide)]
    exact h4.imp_right (fun q => Sn_keep q (fun k => f1 33 k (by omega)) (fun a _ _ => f2 a (by omega)) ⟨f1 9 3 (by omega), f2 (9 + 1) (by omega), f1 12 3 (by omega), f2 (12 + 1) (by omega)⟩ ⟨f1 44 1 (by omega), f2 (44 + 1) (by omega)⟩ ⟨f1 51 2 (by omega), f2 (51 + 1) (by omega)⟩)
  · intro k hk
    rw [f2 64 (by omega), m2 4 (by decide) (by decide) (by decide)]; exact h5 k hk
  · intro r hr
    by_cases e : r = s
    · rw [e]; exact hS
    · obtain ⟨g1, g2, g3, g4⟩ := h6 r hr
      obtain ⟨n5, n6⟩ := m5 r hr e
      unfold SH
      rw [f1 _ 1 (by omega), f1 _ 2 (by omega), f2 _ (by omega), n5, n6]
      exact ⟨g1, g2, g3, fun i hi => by rw [m7 _ (by omega)]; exact g4 i hi⟩
  · unfold TT
    rw [f1 62 1 (by omega), f2 63 (by omega), m1, m2 13 (by decide) (by decide) (by decide)]
    exact h7
theorem cel_rf (x : Int32) : cel x x := fun _ _ => Iff.rfl
theorem Rw_begin_loop {o : Nat} {x1 x2 : Int32} : ∀ (m k n : Nat) (σ : St), k + m = 24 → m < n → okk (Rw_begin_L12 n o x1 x2 (nI k) σ) (fun _ σ' => σ'.1 = σ.1 ∧ (∀ a, a ≠ o + 1 → σ'.2 a = σ.2 a) ∧ (∀ i, k ≤ i → i < 24 → σ'.2 (o + 1) i = 0) ∧ ∀ i, i < k → σ'.2 (o + 1) i = σ.2 (o + 1) i) := by
  intro m
  induction m with
  | zero =>
    intro k n σ hk hn
    obtain ⟨n, rfl⟩ : ∃ z, n = z + 1 := ⟨n - 1, by omega⟩
    have hk : k = 24 := by omega
    rw [hk, Rw_begin_L12, if_pos (show (24 : Int32) ≤ nI 24 from Int32.le_refl _)]
    exact ok_some ⟨rfl, fun _ _ => rfl, fun i h1 h2 => by omega, fun _ _ => rfl⟩
  | succ m ih =>
    intro k n σ hk hn
    obtain ⟨n, rfl⟩ : ∃ z, n = z + 1 := ⟨n - 1, by omega⟩
    rw [Rw_begin_L12, if_neg (show ¬ (24 : Int32) ≤ nI k from nI_ge (b := 24) (by omega) (by decide)), inb_nI (show k < 24 by omega) (by decide), grd_t, nas_t, nam_t, nI_lit1, nI_clamp (show k < 2 ^ 31 by omega)]
    refine ok_mono (ih (k + 1) n _ (by omega) (by omega)) (fun r s q => ⟨q.1, fun a ha => ?_, fun i h1 h2 => ?_, fun i hi => ?_⟩)
    · rw [q.2.1 a ha, sA_ne ha]
    · by_cases e : i = k
      · rw [e, q.2.2.2 k (by omega), sA_eq, upd_s]
      · exact q.2.2.1 i (by omega) h2
    · rw [q.2.2.2 i (by omega), sA_eq, upd_n (by omega)]
theorem Mo_sheet_loop {s : Nat} {x2 x3 : Int32} (hs : s < 4) : ∀ (m k n : Nat) (τ : St), k + m = 24 → m < n → okk (Mo_sheet_L93 n (nI s) x2 x3 (nI k) τ) (fun r τ' => r = 1 ∧ τ'.1 = τ.1 ∧ (∀ a, a ≠ 7 → τ'.2 a = τ.2 a) ∧ (∀ i, k ≤ i → i < 24 → τ'.2 7 (24 * s + i) = 0) ∧ ∀ i, (i < 24 * s + k ∨ 24 * s + 24 ≤ i) → τ'.2 7 i = τ.2 7 i) := by
  intro m
  induction m with
  | zero =>
    intro k n τ hk hn
    obtain ⟨n, rfl⟩ : ∃ z, n = z + 1 := ⟨n - 1, by omega⟩
    have hk : k = 24 := by omega
    rw [hk, Mo_sheet_L93, if_pos (show (24 : Int32) ≤ nI 24 from Int32.le_refl _)]
    exact ok_some ⟨rfl, rfl, fun _ _ => rfl, fun i h1 h2 => by omega, fun _ _ => rfl⟩
  | succ m ih =>
    intro k n τ hk hn
    obtain ⟨n, rfl⟩ : ∃ z, n = z + 1 := ⟨n - 1, by omega⟩
    rw [Mo_sheet_L93, if_neg (show ¬ (24 : Int32) ≤ nI k from nI_ge (b := 24) (by omega) (by decide)), ixs, inb_nI (show 24 * s + k < 96 by omega) (by decide), grd_t, nas_t, nam_t, nI_lit1, nI_clamp (show 24 * s + k < 2 ^ 31 by omega)]
    refine ok_mono (ih (k + 1) n _ (by omega) (by omega)) (fun r t q => ⟨q.1, q.2.1, fun a ha => ?_, fun i h1 h2 => ?_, fun i hi => ?_⟩)
    · rw [q.2.2.1 a ha, sA_ne ha]
    · by_cases e : i = k
      · rw [e, q.2.2.2.2 _ (by omega), sA_eq, upd_s]
      · exact q.2.2.2.1 i (by omega) h2
    · rw [q.2.2.2.2 i (by omega), sA_eq, upd_n (by omega)]
theorem begin_2 {σ τ : St} {s n : Nat} {v y1 y2 : Int32} (h : Rl σ τ) (hs : s < 4) (hn : n ≤ 24) (hv : v = 0 ∨ v = 8 ∨ v = 16 ∨ v = 32) : OK2 (bnd (Rw_begin (54 + 2 * s) v (nI n) σ) (fun _ s => some (1, s))) (Mo_sheet_L93 1000 (nI s) y1 y2 0 (sA (sA τ 5 s v) 6 s (nI n))) := by
  rw [Rw_begin, nas_t, nas_t]
  refine ok2_l (Rw_begin_loop (o := 54 + 2 * s) 24 0 1000 _ (by omega) (by omega)) (fun _ t q => ?_)
  refine s2_mono (s2_ok (P1 := fun r σ' => r = 1 ∧ σ' = t) (ok_some ⟨rfl, rfl⟩) (Mo_sheet_loop hs 24 0 1000 _ (by omega) (by omega)) (fun r σ' u τ' p1 p2 => (⟨p2.1.trans p1.1.symm, ?_⟩ : u = r ∧ Rl σ' τ'))) (fun _ _ _ _ p => p)
  obtain ⟨rfl, rfl⟩ := p1
  obtain ⟨-, p1, p2, p3, p4⟩ := p2
  obtain ⟨q1, q2, q3, q4⟩ := q
  refine Rl_sheet hs h (fun o k ho => ?_) (fun a ha => ?_) p1 (fun a h5 h6 h7 => ?_) (fun r hr he => ?_) (fun i hi => ?_) ⟨?_, ?_, ⟨n, hn, ?_, ?_⟩, fun i hi => ?_⟩
  · rw [q1, sF_ne ho, sF_ne ho]
  · rw [q2 a (by omega)]; rfl
  · rw [p2 a h7, sA_ne h6, sA_ne h5]
  · rw [p2 5 (by decide), p2 6 (by decide), sA_ne (by decide), sA_eq, upd_n he, sA_eq, upd_n he, sA_ne (by decide)]; exact ⟨rfl, rfl⟩
  · rw [p4 i (by omega)]; rfl
  · rw [q1, sF_eq, if_neg (by decide), sF_eq, if_pos rfl, p2 5 (by decide), sA_ne (by decide), sA_eq, upd_s]
  · rw [p2 5 (by decide), sA_ne (by decide), sA_eq, upd_s]; exact hv
  · rw [q1, sF_eq, if_pos rfl]
  · rw [p2 6 (by decide), sA_eq, upd_s]
  · rw [p3 i (Nat.zero_le _) hi, show 55 + 2 * s = 54 + 2 * s + 1 by omega, q3 i (Nat.zero_le _) hi]
    exact cel_rf 0
theorem op_sheet {σ τ : St} (h : Rl σ τ) (a b c : Int32) : OK2 (Mn_sheet a b c σ) (Mo_sheet a b c τ) := by
  rw [Mn_sheet, Mo_sheet, Mn_isSheet_eq, bnd_t, Mo_isSheet_eq, bnd_t]
  cases e1 : wi a 0 3 with
  | false => rw [if_bf, if_bf]; exact err1 h
  | true =>
    obtain ⟨s, hs, rfl⟩ := wi_in (m := 3) (by decide) e1
    have hs4 : s < 4 := by omega
    have hi4 : inb (nI s) 4 = true := inb_nI hs4 (by decide)
    have hcl : (nI s).toNatClampNeg = s := nI_clamp (by omega)
    rw [if_bt, if_bt, Mn_isBits]
    by_cases b0 : b = 0
    · subst b0
      rw [if00, bnd_t, if10, if00, if00, sh_i hs4, grd_t, sh_w hs4, if00, if00, if_pos (show (0 : Int32) ≤ 0 from Int32.le_refl _), if_pos (show (0 : Int32) ≤ 0 from Int32.le_refl _), hi4, grd_t, nas_t, if00, grd_t, nas_t, hcl]
      exact begin_2 (n := 0) h hs4 (by decide) (Or.inl rfl)
    · rw [if_neg b0, if_neg b0]
      by_cases b8 : b = 8
      · subst b8
        rw [if_pos (show (8 : Int32) = 8 from rfl), bnd_t, if10, if_neg (show ¬ (8 : Int32) = 0 by decide), if_pos (show (8 : Int32) = 8 from rfl), if_neg (show ¬ (8 : Int32) ≤ 0 by decide)]
        by_cases c0 : 0 ≤ c
        · rw [if_pos c0, if_pos c0, if_neg (show ¬ (8 : Int32) = 0 by decide), if_neg (show ¬ (8 : Int32) ≤ 0 by decide)]
          by_cases c24 : c ≤ 24
          · have hc : ∃ n, n ≤ 24 ∧ c = nI n := wi_in (m := 24) (by decide) (wi_yes (by rw [lt_i]; rw [le_i] at c0; omega) (by rw [lt_i]; rw [le_i, show (24 : Int32).toInt = 24 from rfl] at c24; rw [show (nI 24).toInt = 24 from rfl]; omega))
            obtain ⟨n, hn, rfl⟩ := hc
            rw [if_pos c24, if_pos c24, sh_i hs4, grd_t, sh_w hs4, if_neg (show ¬ (8 : Int32) = 0 by decide), hi4, grd_t, nas_t, if_neg (show ¬ (8 : Int32) = 0 by decide), grd_t, nas_t, hcl]
            exact begin_2 h hs4 hn (by decide)
          · rw [if_neg c24, if_neg c24]; exact err1 h
        · rw [if_neg c0, if_neg c0]; exact err3 h
      · rw [if_neg b8, if_neg b8]
        by_cases b16 : b = 16
        · subst b16
          rw [if_pos (show (16 : Int32) = 16 from rfl), bnd_t, if10, if_neg (show ¬ (16 : Int32) = 0 by decide), if_pos (show (16 : Int32) = 16 from rfl), if_neg (show ¬ (16 : Int32) ≤ 0 by decide)]
          by_cases c0 : 0 ≤ c
          · rw [if_pos c0, if_pos c0, if_neg (show ¬ (16 : Int32) = 0 by decide), if_neg (show ¬ (16 : Int32) ≤ 0 by decide)]
            by_cases c24 : c ≤ 24
            · have hc : ∃ n, n ≤ 24 ∧ c = nI n := wi_in (m := 24) (by decide) (wi_yes (by rw [lt_i]; rw [le_i] at c0; omega) (by rw [lt_i]; rw [le_i, show (24 : Int32).toInt = 24 from rfl] at c24; rw [show (nI 24).toInt = 24 from rfl]; omega))
              obtain ⟨n, hn, rfl⟩ := hc
              rw [if_pos c24, if_pos c24, sh_i hs4, grd_t, sh_w hs4, if_neg (show ¬ (16 : Int32) = 0 by decide), hi4, grd_t, nas_t, if_neg (show ¬ (16 : Int32) = 0 by decide), grd_t, nas_t, hcl]
              exact begin_2 h hs4 hn (by decide)
            · rw [if_neg c24, if_neg c24]; exact err1 h
          · rw [if_neg c0, if_neg c0]; exact err3 h
        · rw [if_neg b16, if_neg b16]
          by_cases b32 : b = 32
          · subst b32
            rw [if_pos (show (32 : Int32) = 32 from rfl), bnd_t, if10, if_neg (show ¬ (32 : Int32) = 0 by decide), if_pos (show (32 : Int32) = 32 from rfl), if_neg (show ¬ (32 : Int32) ≤ 0 by decide)]
            by_cases c0 : 0 ≤ c
            · rw [if_pos c0, if_pos c0, if_neg (show ¬ (32 : Int32) = 0 by decide), if_neg (show ¬ (32 : Int32) ≤ 0 by decide)]
              by_cases c24 : c ≤ 24
              · have hc : ∃ n, n ≤ 24 ∧ c = nI n := wi_in (m := 24) (by decide) (wi_yes (by rw [lt_i]; rw [le_i] at c0; omega) (by rw [lt_i]; rw [le_i, show (24 : Int32).toInt = 24 from rfl] at c24; rw [show (nI 24).toInt = 24 from rfl]; omega))
                obtain ⟨n, hn, rfl⟩ := hc
                rw [if_pos c24, if_pos c24, sh_i hs4, grd_t, sh_w hs4, if_neg (show ¬ (32 : Int32) = 0 by decide), hi4, grd_t, nas_t, if_neg (show ¬ (32 : Int32) = 0 by decide), grd_t, nas_t, hcl]
                exact begin_2 h hs4 hn (by decide)
              · rw [if_neg c24, if_neg c24]; exact err1 h
            · rw [if_neg c0, if_neg c0]; exact err3 h
          · rw [if_neg b32, if_neg b32]
            rw [bnd_t, if00]; exact err1 h
/-! put -/
theorem cel_8 (v : Int32) : cel (v &&& 255) (i2b v) := by
  intro c hc
  have e1 : v &&& 255 = nI (v.toBitVec.toNat % 2 ^ 8) := pk_and v 8 (by decide)
  have e2 : (i2b v).toInt = v.toInt.bmod (2 ^ 8) := by rw [i2b, Int8.toInt_toInt32, Int32.toInt_toInt8]
  have t1 : v.toInt = v.toBitVec.toInt := rfl
  rw [t1, BitVec.toInt_eq_toNat_cond, Int.bmod_def] at e2
  have b1 := v.toBitVec.isLt
  rw [e1, nI_eq (by omega) (by omega), ← Int32.toInt_inj, e2, nI_toInt (by omega)]
  generalize v.toBitVec.toNat = X at b1 ⊢
  split <;> split <;> omega
theorem cel_16 (v : Int32) : cel (v &&& 65535) (i2s v) := by
  intro c hc
  have e1 : v &&& 65535 = nI (v.toBitVec.toNat % 2 ^ 16) := pk_and v 16 (by decide)
  have e2 : (i2s v).toInt = v.toInt.bmod (2 ^ 16) := by rw [i2s, Int16.toInt_toInt32, Int32.toInt_toInt16]
  have t1 : v.toInt = v.toBitVec.toInt := rfl
  rw [t1, BitVec.toInt_eq_toNat_cond, Int.bmod_def] at e2
  have b1 := v.toBitVec.isLt
  rw [e1, nI_eq (by omega) (by omega), ← Int32.toInt_inj, e2, nI_toInt (by omega)]
  generalize v.toBitVec.toNat = X at b1 ⊢
  split <;> split <;> omega
theorem Mo_notThere_eq {p : Int32} {τ : St} {s : Nat} (hs : s < 4) (hp : p = nI s) : Mo_notThere p τ = some (if τ.2 5 s = 0 then -1000000002 else 0, τ) := by
  subst hp
  rw [Mo_notThere, Mo_isSheet_eq, bnd_t, wi_yes (nI_pos (by omega)) (show ¬ (3 : Int32) < nI s from nI_nlt (a := 3) (by omega) (by decide)), if_bt, inb_nI hs (by decide), grd_t, nI_clamp (by omega)]
  by_cases h : τ.2 5 s = 0
  · rw [if_pos h, if_pos h]
  · rw [if_neg h, if_neg h]
theorem Mo_notThere_no {p : Int32} {τ : St} (hp : wi p 0 3 = false) : Mo_notThere p τ = some (-1000000001, τ) := by
  rw [Mo_notThere, Mo_isSheet_eq, bnd_t, hp, if_bf]
theorem m1n0 : ¬ (-1000000001 : Int32) = 0 := by decide
theorem m2n0 : ¬ (-1000000002 : Int32) = 0 := by decide
theorem wi_k {k n : Nat} (hk : k < 2 ^ 31) (hn : n < 2 ^ 30) : wi (nI k) 0 (nI n - 1) = decide (k < n) := by
  have e : (nI n - 1).toInt = (n : Int) - 1 := pk_sub_toInt (a := n) (b := 1) hn (by omega)
  by_cases h : k < n
  · rw [decide_eq_true h]
    exact wi_yes (nI_pos (by omega)) (by rw [lt_i, e, nI_toInt (by omega)]; omega)
  · rw [decide_eq_false h]
    exact wi_no2 (by rw [lt_i, e, nI_toInt (by omega)]; omega)
theorem put_2 {σ τ : St} {s k : Nat} {x y : Int32} (h : Rl σ τ) (hs : s < 4) (hk : k < 24) (hc : cel x y) : Rl (sA σ (54 + 2 * s + 1) k x) (sA τ 7 (24 * s + k) y) := by
  obtain ⟨g1, g2, g3, g4⟩ := h.2.2.2.2.1 s hs
  refine Rl_sheet hs h (fun o k _ => rfl) (fun a ha => sA_ne (by omega)) rfl (fun a _ _ h7 => sA_ne h7) (fun r _ _ => ⟨rfl, rfl⟩) (fun i hi => ?_) ⟨?_, ?_, ?_, fun i hi => ?_⟩
  · rw [sA_eq, upd_n (by omega)]
  · rw [sA_ne (show 5 ≠ 7 by decide)]; exact g1
  · rw [sA_ne (show 5 ≠ 7 by decide)]; exact g2
  · rw [sA_ne (show 6 ≠ 7 by decide)]; exact g3
  · rw [show 55 + 2 * s = 54 + 2 * s + 1 by omega, sA_eq, sA_eq]
    by_cases e : i = k
    · rw [e, upd_s, upd_s]; exact hc
    · rw [upd_n e, upd_n (by omega)]
      have := g4 i hi
      rw [show 55 + 2 * s = 54 + 2 * s + 1 by omega] at this
      exact this
theorem op_put {σ τ : St} (h : Rl σ τ) (a b c : Int32) : OK2 (Mn_put a b c σ) (Mo_put a b c τ) := by
  rw [Mn_put, Mo_put, Mn_isSheet_eq, bnd_t]
  cases e1 : wi a 0 3 with
  | false => rw [if_bf, Mo_notThere_no e1, bnd_t, if_neg m1n0, if_neg m1n0]; exact err1 h
  | true =>
    obtain ⟨s, hs, rfl⟩ := wi_in (m := 3) (by decide) e1
    have hs4 : s < 4 := by omega
    have hi4 : inb (nI s) 4 = true := inb_nI hs4 (by decide)
    have hcl : (nI s).toNatClampNeg = s := nI_clamp (by omega)
    obtain ⟨g1, g2, ⟨W, hW, g3, g4⟩, g5⟩ := h.2.2.2.2.1 s hs4
    rw [if_bt, Mo_notThere_eq hs4 rfl, bnd_t, sh_i hs4, grd_t, sh_w hs4, Rw_isMissing, g1]
    by_cases z : τ.2 5 s = 0
    · rw [if_pos z, if_pos z, bnd_t, if10, if_neg m2n0, if_neg m2n0]; exact err2 h
    · rw [if_neg z, if_neg z, bnd_t, if00, if00, hi4, grd_t, hcl, g4, Mo_in_eq, bnd_t]
      by_cases b0 : b < 0
      · rw [if_pos b0, wi_no1 b0, if_bf, if_neg m1n0]; exact err1 h
      · obtain ⟨k, hk, rfl⟩ := nI_of b0
        rw [if_neg b0, grd_t, sh_w2 hs4, g3, wi_k hk (by omega)]
        by_cases hkW : k < W
        · have hx : inb (nI k) 24 = true := inb_nI (by omega) (by decide)
          have hy : inb (nI (24 * s + k)) 96 = true := inb_nI (by omega) (by decide)
          have hyc : (nI (24 * s + k)).toNatClampNeg = 24 * s + k := nI_clamp (by omega)
          have hkc : (nI k).toNatClampNeg = k := nI_clamp (by omega)
          rw [if_pos (nI_lt hkW (by omega)), grd_t, sh_w2 hs4, grd_t, sh_w2 hs4, decide_eq_true hkW, if_bt, if00, grd_t, grd_t, ixs, hy, hyc, Rw_lowest, g1]
          rcases g2 with q | q | q | q
          · exact absurd q z
          · rw [q, if_neg (show ¬ (8 : Int32) = 32 by decide), bnd_t, if_pos (show (8 : Int32) = 8 from rfl), hx, grd_t, nas_t, grd_t, nas_t, hkc]
            exact ok2 (put_2 h hs4 (by omega) (cel_8 c))
          · rw [q, if_neg (show ¬ (16 : Int32) = 32 by decide), bnd_t, if_neg (show ¬ (16 : Int32) = 8 by decide), if_pos (show (16 : Int32) = 16 from rfl), hx, grd_t, nas_t, grd_t, nas_t, hkc]
            exact ok2 (put_2 h hs4 (by omega) (cel_16 c))
          · rw [q, if_pos (show (32 : Int32) = 32 from rfl), bnd_t, if_neg (show ¬ (32 : Int32) = 8 by decide), if_neg (show ¬ (32 : Int32) = 16 by decide), hx, grd_t, nas_t, grd_t, nas_t, hkc]
            exact ok2 (put_2 h hs4 (by omega) (cel_rf c))
        · rw [if_neg (nI_nlt (by omega) hk), decide_eq_false hkW, if_bf, if_neg m1n0]; exact err1 h
