def Ops (Rl : St → St → Prop) : Prop :=
  (∀ (σ τ : St), Rl σ τ → ∀ (a0 : Int32) (a1 : Int32) (a2 : Int32), ∃ r σ1 τ1, Mn_jumper a0 a1 a2 σ = some (r, σ1) ∧ Mo_jumper a0 a1 a2 τ = some (r, τ1) ∧ Rl σ1 τ1) ∧
  (∀ (σ τ : St), Rl σ τ → ∀ (a0 : Int32) (a1 : Int32), ∃ r σ1 τ1, Mn_jumperIs a0 a1 σ = some (r, σ1) ∧ Mo_jumperIs a0 a1 τ = some (r, τ1) ∧ Rl σ1 τ1) ∧
  (∀ (σ τ : St), Rl σ τ → ∀ (a0 : Int32) (a1 : Int32), ∃ r σ1 τ1, Mn_become a0 a1 σ = some (r, σ1) ∧ Mo_become a0 a1 τ = some (r, τ1) ∧ Rl σ1 τ1) ∧
  (∀ (σ τ : St), Rl σ τ → ∀ (a0 : Int32) (a1 : Int32), ∃ r σ1 τ1, Mn_as a0 a1 σ = some (r, σ1) ∧ Mo_as a0 a1 τ = some (r, τ1) ∧ Rl σ1 τ1) ∧
  (∀ (σ τ : St), Rl σ τ → ∀ (a0 : Int32) (a1 : Int32), ∃ r σ1 τ1, Mn_jump a0 a1 σ = some (r, σ1) ∧ Mo_jump a0 a1 τ = some (r, τ1) ∧ Rl σ1 τ1) ∧
  (∀ (σ τ : St), Rl σ τ → ∀ (a0 : Int32) (a1 : Int32), ∃ r σ1 τ1, Mn_rest a0 a1 σ = some (r, σ1) ∧ Mo_rest a0 a1 τ = some (r, τ1) ∧ Rl σ1 τ1) ∧
  (∀ (σ τ : St), Rl σ τ → ∀ (a0 : Int32) (a1 : Int32), ∃ r σ1 τ1, Mn_spell a0 a1 σ = some (r, σ1) ∧ Mo_spell a0 a1 τ = some (r, τ1) ∧ Rl σ1 τ1) ∧
  (∀ (σ τ : St), Rl σ τ → ∀ (a0 : Int32), ∃ r σ1 τ1, Mn_bar a0 σ = some (r, σ1) ∧ Mo_bar a0 τ = some (r, τ1) ∧ Rl σ1 τ1) ∧
  (∀ (σ τ : St), Rl σ τ → ∀ (a0 : Int32) (a1 : Int32), ∃ r σ1 τ1, Mn_liking a0 a1 σ = some (r, σ1) ∧ Mo_liking a0 a1 τ = some (r, τ1) ∧ Rl σ1 τ1) ∧
  (∀ (σ τ : St), Rl σ τ → ∀ (a0 : Int32) (a1 : Int32), ∃ r σ1 τ1, Mn_talk a0 a1 σ = some (r, σ1) ∧ Mo_talk a0 a1 τ = some (r, τ1) ∧ Rl σ1 τ1) ∧
  (∀ (σ τ : St), Rl σ τ → ∀ (a0 : Int64) (a1 : Int32), ∃ r σ1 τ1, Mn_feed a0 a1 σ = some (r, σ1) ∧ Mo_feed a0 a1 τ = some (r, τ1) ∧ Rl σ1 τ1) ∧
  (∀ (σ τ : St), Rl σ τ → ∀ (a0 : Int32), ∃ r σ1 τ1, Mn_text a0 σ = some (r, σ1) ∧ Mo_text a0 τ = some (r, τ1) ∧ Rl σ1 τ1) ∧
  (∀ (σ τ : St), Rl σ τ → ∀ (a0 : Int32), ∃ r σ1 τ1, Mn_untell a0 σ = some (r, σ1) ∧ Mo_untell a0 τ = some (r, τ1) ∧ Rl σ1 τ1) ∧
  (∀ (σ τ : St), Rl σ τ → ∀ (a0 : Int32) (a1 : Int32) (a2 : Int32) (a3 : Int32), ∃ r σ1 τ1, Mn_law a0 a1 a2 a3 σ = some (r, σ1) ∧ Mo_law a0 a1 a2 a3 τ = some (r, τ1) ∧ Rl σ1 τ1) ∧
  (∀ (σ τ : St), Rl σ τ → ∀ (a0 : Int32), ∃ r σ1 τ1, Mn_beats a0 σ = some (r, σ1) ∧ Mo_beats a0 τ = some (r, τ1) ∧ Rl σ1 τ1) ∧
  (∀ (σ τ : St), Rl σ τ → ∀ (a0 : Int32), ∃ r σ1 τ1, Mn_loose a0 σ = some (r, σ1) ∧ Mo_loose a0 τ = some (r, τ1) ∧ Rl σ1 τ1) ∧
  (∀ (σ τ : St), Rl σ τ → ∀ (a0 : Int32), ∃ r σ1 τ1, Mn_seed a0 σ = some (r, σ1) ∧ Mo_seed a0 τ = some (r, τ1) ∧ Rl σ1 τ1) ∧
  (∀ (σ τ : St), Rl σ τ → ∀ (a0 : Int32) (a1 : Int32) (a2 : Int32), ∃ r σ1 τ1, Mn_then a0 a1 a2 σ = some (r, σ1) ∧ Mo_then a0 a1 a2 τ = some (r, τ1) ∧ Rl σ1 τ1) ∧
  (∀ (σ τ : St), Rl σ τ → ∀ (a0 : Int32), ∃ r σ1 τ1, Mn_lasts a0 σ = some (r, σ1) ∧ Mo_lasts a0 τ = some (r, τ1) ∧ Rl σ1 τ1) ∧
  (∀ (σ τ : St), Rl σ τ → ∀ (a0 : Int32), ∃ r σ1 τ1, Mn_agree a0 σ = some (r, σ1) ∧ Mo_agree a0 τ = some (r, τ1) ∧ Rl σ1 τ1) ∧
  (∀ (σ τ : St), Rl σ τ → ∀ (a0 : Int32), ∃ r σ1 τ1, Mn_fairest a0 σ = some (r, σ1) ∧ Mo_fairest a0 τ = some (r, τ1) ∧ Rl σ1 τ1) ∧
  (∀ (σ τ : St), Rl σ τ → ∀ (a0 : Int32), ∃ r σ1 τ1, Mn_balks a0 σ = some (r, σ1) ∧ Mo_balks a0 τ = some (r, τ1) ∧ Rl σ1 τ1) ∧
  (∀ (σ τ : St), Rl σ τ → ∀ (a0 : Int32), ∃ r σ1 τ1, Mn_soon a0 σ = some (r, σ1) ∧ Mo_soon a0 τ = some (r, τ1) ∧ Rl σ1 τ1) ∧
  (∀ (σ τ : St), Rl σ τ → ∀ (a0 : Int32) (a1 : Int32) (a2 : Int32) (a3 : Int32), ∃ r σ1 τ1, Mn_meets a0 a1 a2 a3 σ = some (r, σ1) ∧ Mo_meets a0 a1 a2 a3 τ = some (r, τ1) ∧ Rl σ1 τ1) ∧
  (∀ (σ τ : St), Rl σ τ → ∀ (a0 : Int32) (a1 : Int32), ∃ r σ1 τ1, Mn_odds a0 a1 σ = some (r, σ1) ∧ Mo_odds a0 a1 τ = some (r, τ1) ∧ Rl σ1 τ1) ∧
  (∀ (σ τ : St), Rl σ τ → ∀ (a0 : Int32), ∃ r σ1 τ1, Mn_fits a0 σ = some (r, σ1) ∧ Mo_fits a0 τ = some (r, τ1) ∧ Rl σ1 τ1) ∧
  (∀ (σ τ : St), Rl σ τ → ∀ (a0 : Int32) (a1 : Int32) (a2 : Int32), ∃ r σ1 τ1, Mn_voice a0 a1 a2 σ = some (r, σ1) ∧ Mo_voice a0 a1 a2 τ = some (r, τ1) ∧ Rl σ1 τ1) ∧
  (∀ (σ τ : St), Rl σ τ → ∀ (a0 : Int32), ∃ r σ1 τ1, Mn_body a0 σ = some (r, σ1) ∧ Mo_body a0 τ = some (r, τ1) ∧ Rl σ1 τ1) ∧
  (∀ (σ τ : St), Rl σ τ → ∀ (a0 : Int32) (a1 : Int32) (a2 : Int32), ∃ r σ1 τ1, Mn_sheet a0 a1 a2 σ = some (r, σ1) ∧ Mo_sheet a0 a1 a2 τ = some (r, τ1) ∧ Rl σ1 τ1) ∧
  (∀ (σ τ : St), Rl σ τ → ∀ (a0 : Int32) (a1 : Int32) (a2 : Int32), ∃ r σ1 τ1, Mn_put a0 a1 a2 σ = some (r, σ1) ∧ Mo_put a0 a1 a2 τ = some (r, τ1) ∧ Rl σ1 τ1) ∧
  (∀ (σ τ : St), Rl σ τ → ∀ (a0 : Int32) (a1 : Int32) (a2 : Int32) (a3 : Int32) (a4 : Int32), ∃ r σ1 τ1, Mn_move a0 a1 a2 a3 a4 σ = some (r, σ1) ∧ Mo_move a0 a1 a2 a3 a4 τ = some (r, τ1) ∧ Rl σ1 τ1) ∧
  (∀ (σ τ : St), Rl σ τ → ∀ (a0 : Int32), ∃ r σ1 τ1, Mn_breaths a0 σ = some (r, σ1) ∧ Mo_breaths a0 τ = some (r, τ1) ∧ Rl σ1 τ1) ∧
  (∀ (σ τ : St), Rl σ τ → ∀ (a0 : Int32), ∃ r σ1 τ1, Mn_judge a0 σ = some (r, σ1) ∧ Mo_judge a0 τ = some (r, τ1) ∧ Rl σ1 τ1) ∧
  (∀ (σ τ : St), Rl σ τ → ∀ (_ : Unit), ∃ r σ1 τ1, Mn_image σ = some (r, σ1) ∧ Mo_image τ = some (r, τ1) ∧ Rl σ1 τ1) ∧
  (∀ (σ τ : St), Rl σ τ → ∀ (_ : Unit), ∃ r σ1 τ1, Mn_restore σ = some (r, σ1) ∧ Mo_restore τ = some (r, τ1) ∧ Rl σ1 τ1) ∧
  (∀ (σ τ : St), Rl σ τ → ∀ (a0 : Int32), ∃ r σ1 τ1, Mn_tell a0 σ = some (r, σ1) ∧ Mo_tell a0 τ = some (r, τ1) ∧ Rl σ1 τ1) ∧
  (∀ (σ τ : St), Rl σ τ → ∀ (_ : Unit), ∃ r σ1 τ1, Mn_check σ = some (r, σ1) ∧ Mo_check τ = some (r, τ1) ∧ Rl σ1 τ1) ∧
  (∀ (σ τ : St), Rl σ τ → ∀ (a0 : Int32), ∃ r σ1 τ1, Mn_count a0 σ = some (r, σ1) ∧ Mo_count a0 τ = some (r, τ1) ∧ Rl σ1 τ1) ∧
  (∀ (σ τ : St), Rl σ τ → ∀ (a0 : Int32), ∃ r σ1 τ1, Mn_told a0 σ = some (r, σ1) ∧ Mo_told a0 τ = some (r, τ1) ∧ Rl σ1 τ1)
theorem nI_six {i N : Nat} (hN : N ≤ 3072) (h : ¬ nI N - 6 < nI i) (hi : i ≤ 3078) : i + 6 ≤ N := by
  have h1 : ¬ (nI N - nI 6).toInt < (nI i).toInt := fun q => h (Int32.lt_iff_toInt_lt.mpr q)
  rw [pk_sub_toInt (by omega) (by omega), nI_toInt (by omega)] at h1
  omega
theorem nI_six' {i N : Nat} (hN : N ≤ 3072) (h : nI N - 6 < nI i) (hi : i ≤ 3078) : N < i + 6 := by
  have h1 : (nI N - nI 6).toInt < (nI i).toInt := Int32.lt_iff_toInt_lt.mp h
  rw [pk_sub_toInt (by omega) (by omega), nI_toInt (by omega)] at h1
  omega
set_option maxRecDepth 100000 in
set_option maxHeartbeats 4000000 in
theorem law_loop {p : Program} {l : Launch} {e : Env} {s : State} {m : MethodId} {below : List Frame} {meth : Method} {c : Code} {b N : Nat} {xs : Nat → Int32} {D : va_G} {ca : Nat → ClassId} {aC aM : Nat → Nat} {kc ks : Nat} {Rl : St → St → Prop} (C : LC p s m meth c b N xs D ca aC aM) (hkc : kc ≤ 600000) (hks : ks ≤ 7302249) (hN : N ≤ 3072) (hops : Ops Rl) : ∀ (n i : Nat) (σ τ : St), i ≤ N → N < i + n → Rl σ τ → LU p l e s m below meth c b D ca aC aM kc ks 18 [(0, .ref b), (1, .ref (aC 0)), (2, .ref (aM 0)), (3, .int (nI i))] [] σ τ := by
  intro n
  induction n with
  | zero => intro i σ τ h1 h2; exact absurd h2 (by omega)
  | succ n ih =>
    intro i σ τ h1 h2 hR
    refine lu_iload C (dg hd_law_0 10 rfl) rfl ?_
    refine lu_aload C (dg hd_law_0 11 rfl) rfl ?_
    refine lu_slen C (dg hd_law_0 12 rfl) ?_
    refine lu_bipush C (6 : Int32) (dg hd_law_0 13 rfl) (by decide) ?_
    refine lu_isub C (dg hd_law_0 14 rfl) ?_
    refine lu_gt C 1407 (dg hd_law_0 15 rfl) (by decide) (fun _ => ?_) (fun q => ?_)
    · refine lu_iconst C (1 : Int32) (dg hd_law_19 31 rfl) (by decide) ?_
      exact lu_ret C hkc hks (dg hd_law_19 32 rfl)
    · have h6 := nI_six hN q (by omega)
      have hv : ∀ k : Nat, k < 6 → vp_in (nI i + nI k) N := fun k hk => by rw [nI_add]; exact vp_in_nI (by omega) (by omega)
      have h0 : vp_in (nI i) N := vp_in_nI (by omega) (by omega)
      refine lu_aload C (dg hd_law_0 16 rfl) rfl ?_
      refine lu_iload C (dg hd_law_0 17 rfl) rfl ?_
      refine lu_sld C h0 (dg hd_law_0 18 rfl) ?_
      refine lu_bipush C (63 : Int32) (dg hd_law_0 19 rfl) (by decide) ?_
      refine lu_iand C (dg hd_law_0 20 rfl) ?_
      have hend : ∀ σ τ, Rl σ τ → LU p l e s m below meth c b D ca aC aM kc ks 1401 [(0, .ref b), (1, .ref (aC 0)), (2, .ref (aM 0)), (3, .int (nI i))] [] σ τ := by
        intro σ τ hR
        refine lu_iinc C (nI (i + 6)) [(3, .int (nI (i + 6))), (0, .ref b), (1, .ref (aC 0)), (2, .ref (aM 0))] (dg hd_law_19 29 rfl) rfl (by rw [← nI_add]; rfl) (by decide) rfl ?_
        refine lu_goto C 18 (dg hd_law_19 30 rfl) (by decide) ?_
        intro H locs ls hP hQ hS hl
        exact ih (i + 6) σ τ (by omega) (by omega) hR H locs ls hP hQ hS (lv_sub hl [1, 2, 3, 0] rfl)
      obtain ⟨j, hj, hx⟩ := pk_andE (xs (nI i).toNatClampNeg) (m := 63) 6 (by decide)
      rw [hx]
      rcases Nat.lt_or_ge j 39 with h39 | h39
      · match j, h39 with
        | 0, _ => exact lu_tabIn C 204 (dg hd_law_0 21 rfl) (by decide) (by decide) rfl (by decide) (lc_0 C hkc hks hops.1 (hv 1 (by decide)) (hv 2 (by decide)) (hv 3 (by decide)) (hv 4 (by decide)) (hv 5 (by decide)) hR hend)
        | 1, _ => exact lu_tabIn C 247 (dg hd_law_0 21 rfl) (by decide) (by decide) rfl (by decide) (lc_1 C hkc hks hops.2.1 (hv 1 (by decide)) (hv 2 (by decide)) (hv 3 (by decide)) (hv 4 (by decide)) (hv 5 (by decide)) hR hend)
        | 2, _ => exact lu_tabIn C 280 (dg hd_law_0 21 rfl) (by decide) (by decide) rfl (by decide) (lc_2 C hkc hks hops.2.2.1 (hv 1 (by decide)) (hv 2 (by decide)) (hv 3 (by decide)) (hv 4 (by decide)) (hv 5 (by decide)) hR hend)
        | 3, _ => exact lu_tabIn C 313 (dg hd_law_0 21 rfl) (by decide) (by decide) rfl (by decide) (lc_3 C hkc hks hops.2.2.2.1 (hv 1 (by decide)) (hv 2 (by decide)) (hv 3 (by decide)) (hv 4 (by decide)) (hv 5 (by decide)) hR hend)
        | 4, _ => exact lu_tabIn C 346 (dg hd_law_0 21 rfl) (by decide) (by decide) rfl (by decide) (lc_4 C hkc hks hops.2.2.2.2.1 (hv 1 (by decide)) (hv 2 (by decide)) (hv 3 (by decide)) (hv 4 (by decide)) (hv 5 (by decide)) hR hend)
        | 5, _ => exact lu_tabIn C 379 (dg hd_law_0 21 rfl) (by decide) (by decide) rfl (by decide) (lc_5 C hkc hks hops.2.2.2.2.2.1 (hv 1 (by decide)) (hv 2 (by decide)) (hv 3 (by decide)) (hv 4 (by decide)) (hv 5 (by decide)) hR hend)
        | 6, _ => exact lu_tabIn C 412 (dg hd_law_0 21 rfl) (by decide) (by decide) rfl (by decide) (lc_6 C hkc hks hops.2.2.2.2.2.2.1 (hv 1 (by decide)) (hv 2 (by decide)) (hv 3 (by decide)) (hv 4 (by decide)) (hv 5 (by decide)) hR hend)
        | 7, _ => exact lu_tabIn C 445 (dg hd_law_0 21 rfl) (by decide) (by decide) rfl (by decide) (lc_7 C hkc hks hops.2.2.2.2.2.2.2.1 (hv 1 (by decide)) (hv 2 (by decide)) (hv 3 (by decide)) (hv 4 (by decide)) (hv 5 (by decide)) hR hend)
        | 8, _ => exact lu_tabIn C 468 (dg hd_law_0 21 rfl) (by decide) (by decide) rfl (by decide) (lc_8 C hkc hks hops.2.2.2.2.2.2.2.2.1 (hv 1 (by decide)) (hv 2 (by decide)) (hv 3 (by decide)) (hv 4 (by decide)) (hv 5 (by decide)) hR hend)
        | 9, _ => exact lu_tabIn C 501 (dg hd_law_0 21 rfl) (by decide) (by decide) rfl (by decide) (lc_9 C hkc hks hops.2.2.2.2.2.2.2.2.2.1 (hv 1 (by decide)) (hv 2 (by decide)) (hv 3 (by decide)) (hv 4 (by decide)) (hv 5 (by decide)) hR hend)
        | 10, _ => exact lu_tabIn C 534 (dg hd_law_0 21 rfl) (by decide) (by decide) rfl (by decide) (lc_10 C hkc hks hops.2.2.2.2.2.2.2.2.2.2.1 (hv 1 (by decide)) (hv 2 (by decide)) (hv 3 (by decide)) (hv 4 (by decide)) (hv 5 (by decide)) hR hend)
        | 11, _ => exact lu_tabIn C 597 (dg hd_law_0 21 rfl) (by decide) (by decide) rfl (by decide) (lc_11 C hkc hks hops.2.2.2.2.2.2.2.2.2.2.2.1 (hv 1 (by decide)) (hv 2 (by decide)) (hv 3 (by decide)) (hv 4 (by decide)) (hv 5 (by decide)) hR hend)
        | 12, _ => exact lu_tabIn C 620 (dg hd_law_0 21 rfl) (by decide) (by decide) rfl (by decide) (lc_12 C hkc hks hops.2.2.2.2.2.2.2.2.2.2.2.2.1 (hv 1 (by decide)) (hv 2 (by decide)) (hv 3 (by decide)) (hv 4 (by decide)) (hv 5 (by decide)) hR hend)
        | 13, _ => exact lu_tabIn C 643 (dg hd_law_0 21 rfl) (by decide) (by decide) rfl (by decide) (lc_13 C hkc hks hops.2.2.2.2.2.2.2.2.2.2.2.2.2.1 (hv 1 (by decide)) (hv 2 (by decide)) (hv 3 (by decide)) (hv 4 (by decide)) (hv 5 (by decide)) hR hend)
        | 14, _ => exact lu_tabIn C 696 (dg hd_law_0 21 rfl) (by decide) (by decide) rfl (by decide) (lc_14 C hkc hks hops.2.2.2.2.2.2.2.2.2.2.2.2.2.2.1 (hv 1 (by decide)) (hv 2 (by decide)) (hv 3 (by decide)) (hv 4 (by decide)) (hv 5 (by decide)) hR hend)
        | 15, _ => exact lu_tabIn C 719 (dg hd_law_0 21 rfl) (by decide) (by decide) rfl (by decide) (lc_15 C hkc hks hops.2.2.2.2.2.2.2.2.2.2.2.2.2.2.2.1 (hv 1 (by decide)) (hv 2 (by decide)) (hv 3 (by decide)) (hv 4 (by decide)) (hv 5 (by decide)) hR hend)
        | 16, _ => exact lu_tabIn C 742 (dg hd_law_0 21 rfl) (by decide) (by decide) rfl (by decide) (lc_16 C hkc hks hops.2.2.2.2.2.2.2.2.2.2.2.2.2.2.2.2.1 (hv 1 (by decide)) (hv 2 (by decide)) (hv 3 (by decide)) (hv 4 (by decide)) (hv 5 (by decide)) hR hend)
        | 17, _ => exact lu_tabIn C 765 (dg hd_law_0 21 rfl) (by decide) (by decide) rfl (by decide) (lc_17 C hkc hks hops.2.2.2.2.2.2.2.2.2.2.2.2.2.2.2.2.2.1 (hv 1 (by decide)) (hv 2 (by decide)) (hv 3 (by decide)) (hv 4 (by decide)) (hv 5 (by decide)) hR hend)
        | 18, _ => exact lu_tabIn C 808 (dg hd_law_0 21 rfl) (by decide) (by decide) rfl (by decide) (lc_18 C hkc hks hops.2.2.2.2.2.2.2.2.2.2.2.2.2.2.2.2.2.2.1 (hv 1 (by decide)) (hv 2 (by decide)) (hv 3 (by decide)) (hv 4 (by decide)) (hv 5 (by decide)) hR hend)
        | 19, _ => exact lu_tabIn C 831 (dg hd_law_0 21 rfl) (by decide) (by decide) rfl (by decide) (lc_19 C hkc hks hops.2.2.2.2.2.2.2.2.2.2.2.2.2.2.2.2.2.2.2.1 (hv 1 (by decide)) (hv 2 (by decide)) (hv 3 (by decide)) (hv 4 (by decide)) (hv 5 (by decide)) hR hend)
        | 20, _ => exact lu_tabIn C 854 (dg hd_law_0 21 rfl) (by decide) (by decide) rfl (by decide) (lc_20 C hkc hks hops.2.2.2.2.2.2.2.2.2.2.2.2.2.2.2.2.2.2.2.2.1 (hv 1 (by decide)) (hv 2 (by decide)) (hv 3 (by decide)) (hv 4 (by decide)) (hv 5 (by decide)) hR hend)
        | 21, _ => exact lu_tabIn C 877 (dg hd_law_0 21 rfl) (by decide) (by decide) rfl (by decide) (lc_21 C hkc hks hops.2.2.2.2.2.2.2.2.2.2.2.2.2.2.2.2.2.2.2.2.2.1 (hv 1 (by decide)) (hv 2 (by decide)) (hv 3 (by decide)) (hv 4 (by decide)) (hv 5 (by decide)) hR hend)
        | 22, _ => exact lu_tabIn C 900 (dg hd_law_0 21 rfl) (by decide) (by decide) rfl (by decide) (lc_22 C hkc hks hops.2.2.2.2.2.2.2.2.2.2.2.2.2.2.2.2.2.2.2.2.2.2.1 (hv 1 (by decide)) (hv 2 (by decide)) (hv 3 (by decide)) (hv 4 (by decide)) (hv 5 (by decide)) hR hend)
        | 23, _ => exact lu_tabIn C 923 (dg hd_law_0 21 rfl) (by decide) (by decide) rfl (by decide) (lc_23 C hkc hks hops.2.2.2.2.2.2.2.2.2.2.2.2.2.2.2.2.2.2.2.2.2.2.2.1 (hv 1 (by decide)) (hv 2 (by decide)) (hv 3 (by decide)) (hv 4 (by decide)) (hv 5 (by decide)) hR hend)
        | 24, _ => exact lu_tabIn C 976 (dg hd_law_0 21 rfl) (by decide) (by decide) rfl (by decide) (lc_24 C hkc hks hops.2.2.2.2.2.2.2.2.2.2.2.2.2.2.2.2.2.2.2.2.2.2.2.2.1 (hv 1 (by decide)) (hv 2 (by decide)) (hv 3 (by decide)) (hv 4 (by decide)) (hv 5 (by decide)) hR hend)
        | 25, _ => exact lu_tabIn C 1009 (dg hd_law_0 21 rfl) (by decide) (by decide) rfl (by decide) (lc_25 C hkc hks hops.2.2.2.2.2.2.2.2.2.2.2.2.2.2.2.2.2.2.2.2.2.2.2.2.2.1 (hv 1 (by decide)) (hv 2 (by decide)) (hv 3 (by decide)) (hv 4 (by decide)) (hv 5 (by decide)) hR hend)
        | 26, _ => exact lu_tabIn C 1032 (dg hd_law_0 21 rfl) (by decide) (by decide) rfl (by decide) (lc_26 C hkc hks hops.2.2.2.2.2.2.2.2.2.2.2.2.2.2.2.2.2.2.2.2.2.2.2.2.2.2.1 (hv 1 (by decide)) (hv 2 (by decide)) (hv 3 (by decide)) (hv 4 (by decide)) (hv 5 (by decide)) hR hend)
        | 27, _ => exact lu_tabIn C 1075 (dg hd_law_0 21 rfl) (by decide) (by decide) rfl (by decide) (lc_27 C hkc hks hops.2.2.2.2.2.2.2.2.2.2.2.2.2.2.2.2.2.2.2.2.2.2.2.2.2.2.2.1 (hv 1 (by decide)) (hv 2 (by decide)) (hv 3 (by decide)) (hv 4 (by decide)) (hv 5 (by decide)) hR hend)
        | 28, _ => exact lu_tabIn C 1098 (dg hd_law_0 21 rfl) (by decide) (by decide) rfl (by decide) (lc_28 C hkc hks hops.2.2.2.2.2.2.2.2.2.2.2.2.2.2.2.2.2.2.2.2.2.2.2.2.2.2.2.2.1 (hv 1 (by decide)) (hv 2 (by decide)) (hv 3 (by decide)) (hv 4 (by decide)) (hv 5 (by decide)) hR hend)
        | 29, _ => exact lu_tabIn C 1141 (dg hd_law_0 21 rfl) (by decide) (by decide) rfl (by decide) (lc_29 C hkc hks hops.2.2.2.2.2.2.2.2.2.2.2.2.2.2.2.2.2.2.2.2.2.2.2.2.2.2.2.2.2.1 (hv 1 (by decide)) (hv 2 (by decide)) (hv 3 (by decide)) (hv 4 (by decide)) (hv 5 (by decide)) hR hend)
        | 30, _ => exact lu_tabIn C 1184 (dg hd_law_0 21 rfl) (by decide) (by decide) rfl (by decide) (lc_30 C hkc hks hops.2.2.2.2.2.2.2.2.2.2.2.2.2.2.2.2.2.2.2.2.2.2.2.2.2.2.2.2.2.2.1 (hv 1 (by decide)) (hv 2 (by decide)) (hv 3 (by decide)) (hv 4 (by decide)) (hv 5 (by decide)) hR hend)
        | 31, _ => exact lu_tabIn C 1247 (dg hd_law_0 21 rfl) (by decide) (by decide) rfl (by decide) (lc_31 C hkc hks hops.2.2.2.2.2.2.2.2.2.2.2.2.2.2.2.2.2.2.2.2.2.2.2.2.2.2.2.2.2.2.2.1 (hv 1 (by decide)) (hv 2 (by decide)) (hv 3 (by decide)) (hv 4 (by decide)) (hv 5 (by decide)) hR hend)
        | 32, _ => exact lu_tabIn C 1270 (dg hd_law_0 21 rfl) (by decide) (by decide) rfl (by decide) (lc_32 C hkc hks hops.2.2.2.2.2.2.2.2.2.2.2.2.2.2.2.2.2.2.2.2.2.2.2.2.2.2.2.2.2.2.2.2.1 (hv 1 (by decide)) (hv 2 (by decide)) (hv 3 (by decide)) (hv 4 (by decide)) (hv 5 (by decide)) hR hend)
        | 33, _ => exact lu_tabIn C 1293 (dg hd_law_0 21 rfl) (by decide) (by decide) rfl (by decide) (lc_33 C hkc hks hops.2.2.2.2.2.2.2.2.2.2.2.2.2.2.2.2.2.2.2.2.2.2.2.2.2.2.2.2.2.2.2.2.2.1 (hv 1 (by decide)) (hv 2 (by decide)) (hv 3 (by decide)) (hv 4 (by decide)) (hv 5 (by decide)) hR hend)
        | 34, _ => exact lu_tabIn C 1306 (dg hd_law_0 21 rfl) (by decide) (by decide) rfl (by decide) (lc_34 C hkc hks hops.2.2.2.2.2.2.2.2.2.2.2.2.2.2.2.2.2.2.2.2.2.2.2.2.2.2.2.2.2.2.2.2.2.2.1 (hv 1 (by decide)) (hv 2 (by decide)) (hv 3 (by decide)) (hv 4 (by decide)) (hv 5 (by decide)) hR hend)
        | 35, _ => exact lu_tabIn C 1319 (dg hd_law_0 21 rfl) (by decide) (by decide) rfl (by decide) (lc_35 C hkc hks hops.2.2.2.2.2.2.2.2.2.2.2.2.2.2.2.2.2.2.2.2.2.2.2.2.2.2.2.2.2.2.2.2.2.2.2.1 (hv 1 (by decide)) (hv 2 (by decide)) (hv 3 (by decide)) (hv 4 (by decide)) (hv 5 (by decide)) hR hend)
        | 36, _ => exact lu_tabIn C 1342 (dg hd_law_0 21 rfl) (by decide) (by decide) rfl (by decide) (lc_36 C hkc hks hops.2.2.2.2.2.2.2.2.2.2.2.2.2.2.2.2.2.2.2.2.2.2.2.2.2.2.2.2.2.2.2.2.2.2.2.2.1 (hv 1 (by decide)) (hv 2 (by decide)) (hv 3 (by decide)) (hv 4 (by decide)) (hv 5 (by decide)) hR hend)
        | 37, _ => exact lu_tabIn C 1355 (dg hd_law_0 21 rfl) (by decide) (by decide) rfl (by decide) (lc_37 C hkc hks hops.2.2.2.2.2.2.2.2.2.2.2.2.2.2.2.2.2.2.2.2.2.2.2.2.2.2.2.2.2.2.2.2.2.2.2.2.2.1 (hv 1 (by decide)) (hv 2 (by decide)) (hv 3 (by decide)) (hv 4 (by decide)) (hv 5 (by decide)) hR hend)
        | 38, _ => exact lu_tabIn C 1378 (dg hd_law_0 21 rfl) (by decide) (by decide) rfl (by decide) (lc_38 C hkc hks hops.2.2.2.2.2.2.2.2.2.2.2.2.2.2.2.2.2.2.2.2.2.2.2.2.2.2.2.2.2.2.2.2.2.2.2.2.2.2 (hv 1 (by decide)) (hv 2 (by decide)) (hv 3 (by decide)) (hv 4 (by decide)) (hv 5 (by decide)) hR hend)
        | k + 39, hk => exact absurd hk (by omega)
      · refine lu_tabOut C 1401 (dg hd_law_0 21 rfl) (Or.inr ?_) (by decide) ?_
        · rw [nI_toInt (by omega)]; omega
        · exact hend σ τ hR
