set_option maxRecDepth 100000 in
theorem lc_0 {p : Program} {l : Launch} {e : Env} {s : State} {m : MethodId} {below : List Frame} {meth : Method} {c : Code} {b N : Nat} {xs : Nat → Int32} {D : va_G} {ca : Nat → ClassId} {aC aM : Nat → Nat} {kc ks : Nat} {Rl : St → St → Prop} (C : LC p s m meth c b N xs D ca aC aM) (hkc : kc ≤ 600000) (hks : ks ≤ 7302249) (hop : ∀ (σ τ : St), Rl σ τ → ∀ (a0 : Int32) (a1 : Int32) (a2 : Int32), ∃ r σ1 τ1, Mn_jumper a0 a1 a2 σ = some (r, σ1) ∧ Mo_jumper a0 a1 a2 τ = some (r, τ1) ∧ Rl σ1 τ1) {i : Nat} (h1 : vp_in (nI i + (1 : Int32)) N) (h2 : vp_in (nI i + (2 : Int32)) N) (h3 : vp_in (nI i + (3 : Int32)) N) (h4 : vp_in (nI i + (4 : Int32)) N) (h5 : vp_in (nI i + (5 : Int32)) N) {σ τ : St} (hR : Rl σ τ) (hend : ∀ σ τ, Rl σ τ → LU p l e s m below meth c b D ca aC aM kc ks 1401 [(0, .ref b), (1, .ref (aC 0)), (2, .ref (aM 0)), (3, .int (nI i))] [] σ τ) : LU p l e s m below meth c b D ca aC aM kc ks 204 [(0, .ref b), (1, .ref (aC 0)), (2, .ref (aM 0)), (3, .int (nI i))] [] σ τ := by
  obtain ⟨r, σ1, τ1, hC, hM, hR1⟩ := hop σ τ hR (xs ((nI i) + (1 : Int32)).toNatClampNeg) (xs ((nI i) + (2 : Int32)).toNatClampNeg) (xs ((nI i) + (3 : Int32)).toNatClampNeg)
  refine lu_aload C (dg hd_law_0 22 rfl) rfl ?_
  refine lu_aload C (dg hd_law_0 23 rfl) rfl ?_
  refine lu_iload C (dg hd_law_0 24 rfl) rfl ?_
  refine lu_iconst C (1 : Int32) (dg hd_law_0 25 rfl) (by decide) ?_
  refine lu_iadd C (dg hd_law_0 26 rfl) ?_
  refine lu_sld C h1 (dg hd_law_0 27 rfl) ?_
  refine lu_aload C (dg hd_law_0 28 rfl) rfl ?_
  refine lu_iload C (dg hd_law_0 29 rfl) rfl ?_
  refine lu_iconst C (2 : Int32) (dg hd_law_0 30 rfl) (by decide) ?_
  refine lu_iadd C (dg hd_law_0 31 rfl) ?_
  refine lu_sld C h2 (dg hd_law_0 32 rfl) ?_
  refine lu_aload C (dg hd_law_0 33 rfl) rfl ?_
  refine lu_iload C (dg hd_law_0 34 rfl) rfl ?_
  refine lu_iconst C (3 : Int32) (dg hd_law_0 35 rfl) (by decide) ?_
  refine lu_iadd C (dg hd_law_0 36 rfl) ?_
  refine lu_sld C h3 (dg hd_law_0 37 rfl) ?_
  refine lu_callC (As := [.int (xs ((nI i) + (1 : Int32)).toNatClampNeg), .int (xs ((nI i) + (2 : Int32)).toNatClampNeg), .int (xs ((nI i) + (3 : Int32)).toNatClampNeg)]) C (sp_Mn_jumper l (xs ((nI i) + (1 : Int32)).toNatClampNeg) (xs ((nI i) + (2 : Int32)).toNatClampNeg) (xs ((nI i) + (3 : Int32)).toNatClampNeg) _) hC (by decide) cv_Mn_jumper rfl lk_315 rfl rfl rfl (Nat.le_of_ble_eq_true rfl) hkc hks (dg hd_law_0 38 rfl) ?_
  refine lu_aload C (dg hd_law_0 39 rfl) rfl ?_
  refine lu_aload C (dg hd_law_0 40 rfl) rfl ?_
  refine lu_iload C (dg hd_law_0 41 rfl) rfl ?_
  refine lu_iconst C (1 : Int32) (dg hd_law_0 42 rfl) (by decide) ?_
  refine lu_iadd C (dg hd_law_0 43 rfl) ?_
  refine lu_sld C h1 (dg hd_law_0 44 rfl) ?_
  refine lu_aload C (dg hd_law_0 45 rfl) rfl ?_
  refine lu_iload C (dg hd_law_0 46 rfl) rfl ?_
  refine lu_iconst C (2 : Int32) (dg hd_law_0 47 rfl) (by decide) ?_
  refine lu_iadd C (dg hd_law_0 48 rfl) ?_
  refine lu_sld C h2 (dg hd_law_0 49 rfl) ?_
  refine lu_aload C (dg hd_law_1 0 rfl) rfl ?_
  refine lu_iload C (dg hd_law_1 1 rfl) rfl ?_
  refine lu_iconst C (3 : Int32) (dg hd_law_1 2 rfl) (by decide) ?_
  refine lu_iadd C (dg hd_law_1 3 rfl) ?_
  refine lu_sld C h3 (dg hd_law_1 4 rfl) ?_
  refine lu_callM (As := [.int (xs ((nI i) + (1 : Int32)).toNatClampNeg), .int (xs ((nI i) + (2 : Int32)).toNatClampNeg), .int (xs ((nI i) + (3 : Int32)).toNatClampNeg)]) C (sp_Mo_jumper l (xs ((nI i) + (1 : Int32)).toNatClampNeg) (xs ((nI i) + (2 : Int32)).toNatClampNeg) (xs ((nI i) + (3 : Int32)).toNatClampNeg) _) hM (by decide) cv_Mo_jumper rfl lk_837 rfl rfl rfl (Nat.le_of_ble_eq_true rfl) hkc hks (dg hd_law_1 5 rfl) ?_
  refine lu_eq C 1401 (dg hd_law_1 6 rfl) (by decide) ?_
  exact hend σ1 τ1 hR1
set_option maxRecDepth 100000 in
theorem lc_1 {p : Program} {l : Launch} {e : Env} {s : State} {m : MethodId} {below : List Frame} {meth : Method} {c : Code} {b N : Nat} {xs : Nat → Int32} {D : va_G} {ca : Nat → ClassId} {aC aM : Nat → Nat} {kc ks : Nat} {Rl : St → St → Prop} (C : LC p s m meth c b N xs D ca aC aM) (hkc : kc ≤ 600000) (hks : ks ≤ 7302249) (hop : ∀ (σ τ : St), Rl σ τ → ∀ (a0 : Int32) (a1 : Int32), ∃ r σ1 τ1, Mn_jumperIs a0 a1 σ = some (r, σ1) ∧ Mo_jumperIs a0 a1 τ = some (r, τ1) ∧ Rl σ1 τ1) {i : Nat} (h1 : vp_in (nI i + (1 : Int32)) N) (h2 : vp_in (nI i + (2 : Int32)) N) (h3 : vp_in (nI i + (3 : Int32)) N) (h4 : vp_in (nI i + (4 : Int32)) N) (h5 : vp_in (nI i + (5 : Int32)) N) {σ τ : St} (hR : Rl σ τ) (hend : ∀ σ τ, Rl σ τ → LU p l e s m below meth c b D ca aC aM kc ks 1401 [(0, .ref b), (1, .ref (aC 0)), (2, .ref (aM 0)), (3, .int (nI i))] [] σ τ) : LU p l e s m below meth c b D ca aC aM kc ks 247 [(0, .ref b), (1, .ref (aC 0)), (2, .ref (aM 0)), (3, .int (nI i))] [] σ τ := by
  obtain ⟨r, σ1, τ1, hC, hM, hR1⟩ := hop σ τ hR (xs ((nI i) + (1 : Int32)).toNatClampNeg) (xs ((nI i) + (2 : Int32)).toNatClampNeg)
  refine lu_aload C (dg hd_law_1 9 rfl) rfl ?_
  refine lu_aload C (dg hd_law_1 10 rfl) rfl ?_
  refine lu_iload C (dg hd_law_1 11 rfl) rfl ?_
  refine lu_iconst C (1 : Int32) (dg hd_law_1 12 rfl) (by decide) ?_
  refine lu_iadd C (dg hd_law_1 13 rfl) ?_
  refine lu_sld C h1 (dg hd_law_1 14 rfl) ?_
  refine lu_aload C (dg hd_law_1 15 rfl) rfl ?_
  refine lu_iload C (dg hd_law_1 16 rfl) rfl ?_
  refine lu_iconst C (2 : Int32) (dg hd_law_1 17 rfl) (by decide) ?_
  refine lu_iadd C (dg hd_law_1 18 rfl) ?_
  refine lu_sld C h2 (dg hd_law_1 19 rfl) ?_
  refine lu_callC (As := [.int (xs ((nI i) + (1 : Int32)).toNatClampNeg), .int (xs ((nI i) + (2 : Int32)).toNatClampNeg)]) C (sp_Mn_jumperIs l (xs ((nI i) + (1 : Int32)).toNatClampNeg) (xs ((nI i) + (2 : Int32)).toNatClampNeg) _) hC (by decide) cv_Mn_jumperIs rfl lk_338 rfl rfl rfl (Nat.le_of_ble_eq_true rfl) hkc hks (dg hd_law_1 20 rfl) ?_
  refine lu_aload C (dg hd_law_1 21 rfl) rfl ?_
  refine lu_aload C (dg hd_law_1 22 rfl) rfl ?_
  refine lu_iload C (dg hd_law_1 23 rfl) rfl ?_
  refine lu_iconst C (1 : Int32) (dg hd_law_1 24 rfl) (by decide) ?_
  refine lu_iadd C (dg hd_law_1 25 rfl) ?_
  refine lu_sld C h1 (dg hd_law_1 26 rfl) ?_
  refine lu_aload C (dg hd_law_1 27 rfl) rfl ?_
  refine lu_iload C (dg hd_law_1 28 rfl) rfl ?_
  refine lu_iconst C (2 : Int32) (dg hd_law_1 29 rfl) (by decide) ?_
  refine lu_iadd C (dg hd_law_1 30 rfl) ?_
  refine lu_sld C h2 (dg hd_law_1 31 rfl) ?_
  refine lu_callM (As := [.int (xs ((nI i) + (1 : Int32)).toNatClampNeg), .int (xs ((nI i) + (2 : Int32)).toNatClampNeg)]) C (sp_Mo_jumperIs l (xs ((nI i) + (1 : Int32)).toNatClampNeg) (xs ((nI i) + (2 : Int32)).toNatClampNeg) _) hM (by decide) cv_Mo_jumperIs rfl lk_858 rfl rfl rfl (Nat.le_of_ble_eq_true rfl) hkc hks (dg hd_law_1 32 rfl) ?_
  refine lu_eq C 1401 (dg hd_law_1 33 rfl) (by decide) ?_
  exact hend σ1 τ1 hR1
set_option maxRecDepth 100000 in
theorem lc_2 {p : Program} {l : Launch} {e : Env} {s : State} {m : MethodId} {below : List Frame} {meth : Method} {c : Code} {b N : Nat} {xs : Nat → Int32} {D : va_G} {ca : Nat → ClassId} {aC aM : Nat → Nat} {kc ks : Nat} {Rl : St → St → Prop} (C : LC p s m meth c b N xs D ca aC aM) (hkc : kc ≤ 600000) (hks : ks ≤ 7302249) (hop : ∀ (σ τ : St), Rl σ τ → ∀ (a0 : Int32) (a1 : Int32), ∃ r σ1 τ1, Mn_become a0 a1 σ = some (r, σ1) ∧ Mo_become a0 a1 τ = some (r, τ1) ∧ Rl σ1 τ1) {i : Nat} (h1 : vp_in (nI i + (1 : Int32)) N) (h2 : vp_in (nI i + (2 : Int32)) N) (h3 : vp_in (nI i + (3 : Int32)) N) (h4 : vp_in (nI i + (4 : Int32)) N) (h5 : vp_in (nI i + (5 : Int32)) N) {σ τ : St} (hR : Rl σ τ) (hend : ∀ σ τ, Rl σ τ → LU p l e s m below meth c b D ca aC aM kc ks 1401 [(0, .ref b), (1, .ref (aC 0)), (2, .ref (aM 0)), (3, .int (nI i))] [] σ τ) : LU p l e s m below meth c b D ca aC aM kc ks 280 [(0, .ref b), (1, .ref (aC 0)), (2, .ref (aM 0)), (3, .int (nI i))] [] σ τ := by
  obtain ⟨r, σ1, τ1, hC, hM, hR1⟩ := hop σ τ hR (xs ((nI i) + (1 : Int32)).toNatClampNeg) (xs ((nI i) + (2 : Int32)).toNatClampNeg)
  refine lu_aload C (dg hd_law_1 36 rfl) rfl ?_
  refine lu_aload C (dg hd_law_1 37 rfl) rfl ?_
  refine lu_iload C (dg hd_law_1 38 rfl) rfl ?_
  refine lu_iconst C (1 : Int32) (dg hd_law_1 39 rfl) (by decide) ?_
  refine lu_iadd C (dg hd_law_1 40 rfl) ?_
  refine lu_sld C h1 (dg hd_law_1 41 rfl) ?_
  refine lu_aload C (dg hd_law_1 42 rfl) rfl ?_
  refine lu_iload C (dg hd_law_1 43 rfl) rfl ?_
  refine lu_iconst C (2 : Int32) (dg hd_law_1 44 rfl) (by decide) ?_
  refine lu_iadd C (dg hd_law_1 45 rfl) ?_
  refine lu_sld C h2 (dg hd_law_1 46 rfl) ?_
  refine lu_callC (As := [.int (xs ((nI i) + (1 : Int32)).toNatClampNeg), .int (xs ((nI i) + (2 : Int32)).toNatClampNeg)]) C (sp_Mn_become l (xs ((nI i) + (1 : Int32)).toNatClampNeg) (xs ((nI i) + (2 : Int32)).toNatClampNeg) _) hC (by decide) cv_Mn_become rfl lk_396 rfl rfl rfl (Nat.le_of_ble_eq_true rfl) hkc hks (dg hd_law_1 47 rfl) ?_
  refine lu_aload C (dg hd_law_1 48 rfl) rfl ?_
  refine lu_aload C (dg hd_law_1 49 rfl) rfl ?_
  refine lu_iload C (dg hd_law_2 0 rfl) rfl ?_
  refine lu_iconst C (1 : Int32) (dg hd_law_2 1 rfl) (by decide) ?_
  refine lu_iadd C (dg hd_law_2 2 rfl) ?_
  refine lu_sld C h1 (dg hd_law_2 3 rfl) ?_
  refine lu_aload C (dg hd_law_2 4 rfl) rfl ?_
  refine lu_iload C (dg hd_law_2 5 rfl) rfl ?_
  refine lu_iconst C (2 : Int32) (dg hd_law_2 6 rfl) (by decide) ?_
  refine lu_iadd C (dg hd_law_2 7 rfl) ?_
  refine lu_sld C h2 (dg hd_law_2 8 rfl) ?_
  refine lu_callM (As := [.int (xs ((nI i) + (1 : Int32)).toNatClampNeg), .int (xs ((nI i) + (2 : Int32)).toNatClampNeg)]) C (sp_Mo_become l (xs ((nI i) + (1 : Int32)).toNatClampNeg) (xs ((nI i) + (2 : Int32)).toNatClampNeg) _) hM (by decide) cv_Mo_become rfl lk_907 rfl rfl rfl (Nat.le_of_ble_eq_true rfl) hkc hks (dg hd_law_2 9 rfl) ?_
  refine lu_eq C 1401 (dg hd_law_2 10 rfl) (by decide) ?_
  exact hend σ1 τ1 hR1
set_option maxRecDepth 100000 in
theorem lc_3 {p : Program} {l : Launch} {e : Env} {s : State} {m : MethodId} {below : List Frame} {meth : Method} {c : Code} {b N : Nat} {xs : Nat → Int32} {D : va_G} {ca : Nat → ClassId} {aC aM : Nat → Nat} {kc ks : Nat} {Rl : St → St → Prop} (C : LC p s m meth c b N xs D ca aC aM) (hkc : kc ≤ 600000) (hks : ks ≤ 7302249) (hop : ∀ (σ τ : St), Rl σ τ → ∀ (a0 : Int32) (a1 : Int32), ∃ r σ1 τ1, Mn_as a0 a1 σ = some (r, σ1) ∧ Mo_as a0 a1 τ = some (r, τ1) ∧ Rl σ1 τ1) {i : Nat} (h1 : vp_in (nI i + (1 : Int32)) N) (h2 : vp_in (nI i + (2 : Int32)) N) (h3 : vp_in (nI i + (3 : Int32)) N) (h4 : vp_in (nI i + (4 : Int32)) N) (h5 : vp_in (nI i + (5 : Int32)) N) {σ τ : St} (hR : Rl σ τ) (hend : ∀ σ τ, Rl σ τ → LU p l e s m below meth c b D ca aC aM kc ks 1401 [(0, .ref b), (1, .ref (aC 0)), (2, .ref (aM 0)), (3, .int (nI i))] [] σ τ) : LU p l e s m below meth c b D ca aC aM kc ks 313 [(0, .ref b), (1, .ref (aC 0)), (2, .ref (aM 0)), (3, .int (nI i))] [] σ τ := by
  obtain ⟨r, σ1, τ1, hC, hM, hR1⟩ := hop σ τ hR (xs ((nI i) + (1 : Int32)).toNatClampNeg) (xs ((nI i) + (2 : Int32)).toNatClampNeg)
  refine lu_aload C (dg hd_law_2 13 rfl) rfl ?_
  refine lu_aload C (dg hd_law_2 14 rfl) rfl ?_
  refine lu_iload C (dg hd_law_2 15 rfl) rfl ?_
  refine lu_iconst C (1 : Int32) (dg hd_law_2 16 rfl) (by decide) ?_
  refine lu_iadd C (dg hd_law_2 17 rfl) ?_
  refine lu_sld C h1 (dg hd_law_2 18 rfl) ?_
  refine lu_aload C (dg hd_law_2 19 rfl) rfl ?_
  refine lu_iload C (dg hd_law_2 20 rfl) rfl ?_
  refine lu_iconst C (2 : Int32) (dg hd_law_2 21 rfl) (by decide) ?_
  refine lu_iadd C (dg hd_law_2 22 rfl) ?_
  refine lu_sld C h2 (dg hd_law_2 23 rfl) ?_
  refine lu_callC (As := [.int (xs ((nI i) + (1 : Int32)).toNatClampNeg), .int (xs ((nI i) + (2 : Int32)).toNatClampNeg)]) C (sp_Mn_as l (xs ((nI i) + (1 : Int32)).toNatClampNeg) (xs ((nI i) + (2 : Int32)).toNatClampNeg) _) hC (by decide) cv_Mn_as rfl lk_401 rfl rfl rfl (Nat.le_of_ble_eq_true rfl) hkc hks (dg hd_law_2 24 rfl) ?_
  refine lu_aload C (dg hd_law_2 25 rfl) rfl ?_
  refine lu_aload C (dg hd_law_2 26 rfl) rfl ?_
  refine lu_iload C (dg hd_law_2 27 rfl) rfl ?_
  refine lu_iconst C (1 : Int32) (dg hd_law_2 28 rfl) (by decide) ?_
  refine lu_iadd C (dg hd_law_2 29 rfl) ?_
  refine lu_sld C h1 (dg hd_law_2 30 rfl) ?_
  refine lu_aload C (dg hd_law_2 31 rfl) rfl ?_
  refine lu_iload C (dg hd_law_2 32 rfl) rfl ?_
  refine lu_iconst C (2 : Int32) (dg hd_law_2 33 rfl) (by decide) ?_
  refine lu_iadd C (dg hd_law_2 34 rfl) ?_
  refine lu_sld C h2 (dg hd_law_2 35 rfl) ?_
  refine lu_callM (As := [.int (xs ((nI i) + (1 : Int32)).toNatClampNeg), .int (xs ((nI i) + (2 : Int32)).toNatClampNeg)]) C (sp_Mo_as l (xs ((nI i) + (1 : Int32)).toNatClampNeg) (xs ((nI i) + (2 : Int32)).toNatClampNeg) _) hM (by decide) cv_Mo_as rfl lk_915 rfl rfl rfl (Nat.le_of_ble_eq_true rfl) hkc hks (dg hd_law_2 36 rfl) ?_
  refine lu_eq C 1401 (dg hd_law_2 37 rfl) (by decide) ?_
  exact hend σ1 τ1 hR1
set_option maxRecDepth 100000 in
theorem lc_4 {p : Program} {l : Launch} {e : Env} {s : State} {m : MethodId} {below : List Frame} {meth : Method} {c : Code} {b N : Nat} {xs : Nat → Int32} {D : va_G} {ca : Nat → ClassId} {aC aM : Nat → Nat} {kc ks : Nat} {Rl : St → St → Prop} (C : LC p s m meth c b N xs D ca aC aM) (hkc : kc ≤ 600000) (hks : ks ≤ 7302249) (hop : ∀ (σ τ : St), Rl σ τ → ∀ (a0 : Int32) (a1 : Int32), ∃ r σ1 τ1, Mn_jump a0 a1 σ = some (r, σ1) ∧ Mo_jump a0 a1 τ = some (r, τ1) ∧ Rl σ1 τ1) {i : Nat} (h1 : vp_in (nI i + (1 : Int32)) N) (h2 : vp_in (nI i + (2 : Int32)) N) (h3 : vp_in (nI i + (3 : Int32)) N) (h4 : vp_in (nI i + (4 : Int32)) N) (h5 : vp_in (nI i + (5 : Int32)) N) {σ τ : St} (hR : Rl σ τ) (hend : ∀ σ τ, Rl σ τ → LU p l e s m below meth c b D ca aC aM kc ks 1401 [(0, .ref b), (1, .ref (aC 0)), (2, .ref (aM 0)), (3, .int (nI i))] [] σ τ) : LU p l e s m below meth c b D ca aC aM kc ks 346 [(0, .ref b), (1, .ref (aC 0)), (2, .ref (aM 0)), (3, .int (nI i))] [] σ τ := by
  obtain ⟨r, σ1, τ1, hC, hM, hR1⟩ := hop σ τ hR (xs ((nI i) + (1 : Int32)).toNatClampNeg) (xs ((nI i) + (2 : Int32)).toNatClampNeg)
  refine lu_aload C (dg hd_law_2 40 rfl) rfl ?_
  refine lu_aload C (dg hd_law_2 41 rfl) rfl ?_
  refine lu_iload C (dg hd_law_2 42 rfl) rfl ?_
  refine lu_iconst C (1 : Int32) (dg hd_law_2 43 rfl) (by decide) ?_
  refine lu_iadd C (dg hd_law_2 44 rfl) ?_
  refine lu_sld C h1 (dg hd_law_2 45 rfl) ?_
  refine lu_aload C (dg hd_law_2 46 rfl) rfl ?_
  refine lu_iload C (dg hd_law_2 47 rfl) rfl ?_
  refine lu_iconst C (2 : Int32) (dg hd_law_2 48 rfl) (by decide) ?_
  refine lu_iadd C (dg hd_law_2 49 rfl) ?_
  refine lu_sld C h2 (dg hd_law_3 0 rfl) ?_
  refine lu_callC (As := [.int (xs ((nI i) + (1 : Int32)).toNatClampNeg), .int (xs ((nI i) + (2 : Int32)).toNatClampNeg)]) C (sp_Mn_jump l (xs ((nI i) + (1 : Int32)).toNatClampNeg) (xs ((nI i) + (2 : Int32)).toNatClampNeg) _) hC (by decide) cv_Mn_jump rfl lk_410 rfl rfl rfl (Nat.le_of_ble_eq_true rfl) hkc hks (dg hd_law_3 1 rfl) ?_
  refine lu_aload C (dg hd_law_3 2 rfl) rfl ?_
  refine lu_aload C (dg hd_law_3 3 rfl) rfl ?_
  refine lu_iload C (dg hd_law_3 4 rfl) rfl ?_
  refine lu_iconst C (1 : Int32) (dg hd_law_3 5 rfl) (by decide) ?_
  refine lu_iadd C (dg hd_law_3 6 rfl) ?_
  refine lu_sld C h1 (dg hd_law_3 7 rfl) ?_
  refine lu_aload C (dg hd_law_3 8 rfl) rfl ?_
  refine lu_iload C (dg hd_law_3 9 rfl) rfl ?_
  refine lu_iconst C (2 : Int32) (dg hd_law_3 10 rfl) (by decide) ?_
  refine lu_iadd C (dg hd_law_3 11 rfl) ?_
  refine lu_sld C h2 (dg hd_law_3 12 rfl) ?_
  refine lu_callM (As := [.int (xs ((nI i) + (1 : Int32)).toNatClampNeg), .int (xs ((nI i) + (2 : Int32)).toNatClampNeg)]) C (sp_Mo_jump l (xs ((nI i) + (1 : Int32)).toNatClampNeg) (xs ((nI i) + (2 : Int32)).toNatClampNeg) _) hM (by decide) cv_Mo_jump rfl lk_920 rfl rfl rfl (Nat.le_of_ble_eq_true rfl) hkc hks (dg hd_law_3 13 rfl) ?_
  refine lu_eq C 1401 (dg hd_law_3 14 rfl) (by decide) ?_
  exact hend σ1 τ1 hR1
set_option maxRecDepth 100000 in
theorem lc_5 {p : Program} {l : Launch} {e : Env} {s : State} {m : MethodId} {below : List Frame} {meth : Method} {c : Code} {b N : Nat} {xs : Nat → Int32} {D : va_G} {ca : Nat → ClassId} {aC aM : Nat → Nat} {kc ks : Nat} {Rl : St → St → Prop} (C : LC p s m meth c b N xs D ca aC aM) (hkc : kc ≤ 600000) (hks : ks ≤ 7302249) (hop : ∀ (σ τ : St), Rl σ τ → ∀ (a0 : Int32) (a1 : Int32), ∃ r σ1 τ1, Mn_rest a0 a1 σ = some (r, σ1) ∧ Mo_rest a0 a1 τ = some (r, τ1) ∧ Rl σ1 τ1) {i : Nat} (h1 : vp_in (nI i + (1 : Int32)) N) (h2 : vp_in (nI i + (2 : Int32)) N) (h3 : vp_in (nI i + (3 : Int32)) N) (h4 : vp_in (nI i + (4 : Int32)) N) (h5 : vp_in (nI i + (5 : Int32)) N) {σ τ : St} (hR : Rl σ τ) (hend : ∀ σ τ, Rl σ τ → LU p l e s m below meth c b D ca aC aM kc ks 1401 [(0, .ref b), (1, .ref (aC 0)), (2, .ref (aM 0)), (3, .int (nI i))] [] σ τ) : LU p l e s m below meth c b D ca aC aM kc ks 379 [(0, .ref b), (1, .ref (aC 0)), (2, .ref (aM 0)), (3, .int (nI i))] [] σ τ := by
  obtain ⟨r, σ1, τ1, hC, hM, hR1⟩ := hop σ τ hR (xs ((nI i) + (1 : Int32)).toNatClampNeg) (xs ((nI i) + (2 : Int32)).toNatClampNeg)
  refine lu_aload C (dg hd_law_3 17 rfl) rfl ?_
  refine lu_aload C (dg hd_law_3 18 rfl) rfl ?_
  refine lu_iload C (dg hd_law_3 19 rfl) rfl ?_
  refine lu_iconst C (1 : Int32) (dg hd_law_3 20 rfl) (by decide) ?_
  refine lu_iadd C (dg hd_law_3 21 rfl) ?_
  refine lu_sld C h1 (dg hd_law_3 22 rfl) ?_
  refine lu_aload C (dg hd_law_3 23 rfl) rfl ?_
  refine lu_iload C (dg hd_law_3 24 rfl) rfl ?_
  refine lu_iconst C (2 : Int32) (dg hd_law_3 25 rfl) (by decide) ?_
  refine lu_iadd C (dg hd_law_3 26 rfl) ?_
  refine lu_sld C h2 (dg hd_law_3 27 rfl) ?_
  refine lu_callC (As := [.int (xs ((nI i) + (1 : Int32)).toNatClampNeg), .int (xs ((nI i) + (2 : Int32)).toNatClampNeg)]) C (sp_Mn_rest l (xs ((nI i) + (1 : Int32)).toNatClampNeg) (xs ((nI i) + (2 : Int32)).toNatClampNeg) _) hC (by decide) cv_Mn_rest rfl lk_418 rfl rfl rfl (Nat.le_of_ble_eq_true rfl) hkc hks (dg hd_law_3 28 rfl) ?_
  refine lu_aload C (dg hd_law_3 29 rfl) rfl ?_
  refine lu_aload C (dg hd_law_3 30 rfl) rfl ?_
  refine lu_iload C (dg hd_law_3 31 rfl) rfl ?_
  refine lu_iconst C (1 : Int32) (dg hd_law_3 32 rfl) (by decide) ?_
  refine lu_iadd C (dg hd_law_3 33 rfl) ?_
  refine lu_sld C h1 (dg hd_law_3 34 rfl) ?_
  refine lu_aload C (dg hd_law_3 35 rfl) rfl ?_
  refine lu_iload C (dg hd_law_3 36 rfl) rfl ?_
  refine lu_iconst C (2 : Int32) (dg hd_law_3 37 rfl) (by decide) ?_
  refine lu_iadd C (dg hd_law_3 38 rfl) ?_
  refine lu_sld C h2 (dg hd_law_3 39 rfl) ?_
  refine lu_callM (As := [.int (xs ((nI i) + (1 : Int32)).toNatClampNeg), .int (xs ((nI i) + (2 : Int32)).toNatClampNeg)]) C (sp_Mo_rest l (xs ((nI i) + (1 : Int32)).toNatClampNeg) (xs ((nI i) + (2 : Int32)).toNatClampNeg) _) hM (by decide) cv_Mo_rest rfl lk_929 rfl rfl rfl (Nat.le_of_ble_eq_true rfl) hkc hks (dg hd_law_3 40 rfl) ?_
  refine lu_eq C 1401 (dg hd_law_3 41 rfl) (by decide) ?_
  exact hend σ1 τ1 hR1
set_option maxRecDepth 100000 in
theorem lc_6 {p : Program} {l : Launch} {e : Env} {s : State} {m : MethodId} {below : List Frame} {meth : Method} {c : Code} {b N : Nat} {xs : Nat → Int32} {D : va_G} {ca : Nat → ClassId} {aC aM : Nat → Nat} {kc ks : Nat} {Rl : St → St → Prop} (C : LC p s m meth c b N xs D ca aC aM) (hkc : kc ≤ 600000) (hks : ks ≤ 7302249) (hop : ∀ (σ τ : St), Rl σ τ → ∀ (a0 : Int32) (a1 : Int32), ∃ r σ1 τ1, Mn_spell a0 a1 σ = some (r, σ1) ∧ Mo_spell a0 a1 τ = some (r, τ1) ∧ Rl σ1 τ1) {i : Nat} (h1 : vp_in (nI i + (1 : Int32)) N) (h2 : vp_in (nI i + (2 : Int32)) N) (h3 : vp_in (nI i + (3 : Int32)) N) (h4 : vp_in (nI i + (4 : Int32)) N) (h5 : vp_in (nI i + (5 : Int32)) N) {σ τ : St} (hR : Rl σ τ) (hend : ∀ σ τ, Rl σ τ → LU p l e s m below meth c b D ca aC aM kc ks 1401 [(0, .ref b), (1, .ref (aC 0)), (2, .ref (aM 0)), (3, .int (nI i))] [] σ τ) : LU p l e s m below meth c b D ca aC aM kc ks 412 [(0, .ref b), (1, .ref (aC 0)), (2, .ref (aM 0)), (3, .int (nI i))] [] σ τ := by
  obtain ⟨r, σ1, τ1, hC, hM, hR1⟩ := hop σ τ hR (xs ((nI i) + (1 : Int32)).toNatClampNeg) (xs ((nI i) + (2 : Int32)).toNatClampNeg)
  refine lu_aload C (dg hd_law_3 44 rfl) rfl ?_
  refine lu_aload C (dg hd_law_3 45 rfl) rfl ?_
  refine lu_iload C (dg hd_law_3 46 rfl) rfl ?_
  refine lu_iconst C (1 : Int32) (dg hd_law_3 47 rfl) (by decide) ?_
  refine lu_iadd C (dg hd_law_3 48 rfl) ?_
  refine lu_sld C h1 (dg hd_law_3 49 rfl) ?_
  refine lu_aload C (dg hd_law_4 0 rfl) rfl ?_
  refine lu_iload C (dg hd_law_4 1 rfl) rfl ?_
  refine lu_iconst C (2 : Int32) (dg hd_law_4 2 rfl) (by decide) ?_
  refine lu_iadd C (dg hd_law_4 3 rfl) ?_
  refine lu_sld C h2 (dg hd_law_4 4 rfl) ?_
  refine lu_callC (As := [.int (xs ((nI i) + (1 : Int32)).toNatClampNeg), .int (xs ((nI i) + (2 : Int32)).toNatClampNeg)]) C (sp_Mn_spell l (xs ((nI i) + (1 : Int32)).toNatClampNeg) (xs ((nI i) + (2 : Int32)).toNatClampNeg) _) hC (by decide) cv_Mn_spell rfl lk_422 rfl rfl rfl (Nat.le_of_ble_eq_true rfl) hkc hks (dg hd_law_4 5 rfl) ?_
  refine lu_aload C (dg hd_law_4 6 rfl) rfl ?_
  refine lu_aload C (dg hd_law_4 7 rfl) rfl ?_
  refine lu_iload C (dg hd_law_4 8 rfl) rfl ?_
  refine lu_iconst C (1 : Int32) (dg hd_law_4 9 rfl) (by decide) ?_
  refine lu_iadd C (dg hd_law_4 10 rfl) ?_
  refine lu_sld C h1 (dg hd_law_4 11 rfl) ?_
  refine lu_aload C (dg hd_law_4 12 rfl) rfl ?_
  refine lu_iload C (dg hd_law_4 13 rfl) rfl ?_
  refine lu_iconst C (2 : Int32) (dg hd_law_4 14 rfl) (by decide) ?_
  refine lu_iadd C (dg hd_law_4 15 rfl) ?_
  refine lu_sld C h2 (dg hd_law_4 16 rfl) ?_
  refine lu_callM (As := [.int (xs ((nI i) + (1 : Int32)).toNatClampNeg), .int (xs ((nI i) + (2 : Int32)).toNatClampNeg)]) C (sp_Mo_spell l (xs ((nI i) + (1 : Int32)).toNatClampNeg) (xs ((nI i) + (2 : Int32)).toNatClampNeg) _) hM (by decide) cv_Mo_spell rfl lk_933 rfl rfl rfl (Nat.le_of_ble_eq_true rfl) hkc hks (dg hd_law_4 17 rfl) ?_
  refine lu_eq C 1401 (dg hd_law_4 18 rfl) (by decide) ?_
  exact hend σ1 τ1 hR1
set_option maxRecDepth 100000 in
theorem lc_7 {p : Program} {l : Launch} {e : Env} {s : State} {m : MethodId} {below : List Frame} {meth : Method} {c : Code} {b N : Nat} {xs : Nat → Int32} {D : va_G} {ca : Nat → ClassId} {aC aM : Nat → Nat} {kc ks : Nat} {Rl : St → St → Prop} (C : LC p s m meth c b N xs D ca aC aM) (hkc : kc ≤ 600000) (hks : ks ≤ 7302249) (hop : ∀ (σ τ : St), Rl σ τ → ∀ (a0 : Int32), ∃ r σ1 τ1, Mn_bar a0 σ = some (r, σ1) ∧ Mo_bar a0 τ = some (r, τ1) ∧ Rl σ1 τ1) {i : Nat} (h1 : vp_in (nI i + (1 : Int32)) N) (h2 : vp_in (nI i + (2 : Int32)) N) (h3 : vp_in (nI i + (3 : Int32)) N) (h4 : vp_in (nI i + (4 : Int32)) N) (h5 : vp_in (nI i + (5 : Int32)) N) {σ τ : St} (hR : Rl σ τ) (hend : ∀ σ τ, Rl σ τ → LU p l e s m below meth c b D ca aC aM kc ks 1401 [(0, .ref b), (1, .ref (aC 0)), (2, .ref (aM 0)), (3, .int (nI i))] [] σ τ) : LU p l e s m below meth c b D ca aC aM kc ks 445 [(0, .ref b), (1, .ref (aC 0)), (2, .ref (aM 0)), (3, .int (nI i))] [] σ τ := by
  obtain ⟨r, σ1, τ1, hC, hM, hR1⟩ := hop σ τ hR (xs ((nI i) + (1 : Int32)).toNatClampNeg)
  refine lu_aload C (dg hd_law_4 21 rfl) rfl ?_
  refine lu_aload C (dg hd_law_4 22 rfl) rfl ?_
  refine lu_iload C (dg hd_law_4 23 rfl) rfl ?_
  refine lu_iconst C (1 : Int32) (dg hd_law_4 24 rfl) (by decide) ?_
  refine lu_iadd C (dg hd_law_4 25 rfl) ?_
  refine lu_sld C h1 (dg hd_law_4 26 rfl) ?_
  refine lu_callC (As := [.int (xs ((nI i) + (1 : Int32)).toNatClampNeg)]) C (sp_Mn_bar l (xs ((nI i) + (1 : Int32)).toNatClampNeg) _) hC (by decide) cv_Mn_bar rfl lk_426 rfl rfl rfl (Nat.le_of_ble_eq_true rfl) hkc hks (dg hd_law_4 27 rfl) ?_
  refine lu_aload C (dg hd_law_4 28 rfl) rfl ?_
  refine lu_aload C (dg hd_law_4 29 rfl) rfl ?_
  refine lu_iload C (dg hd_law_4 30 rfl) rfl ?_
  refine lu_iconst C (1 : Int32) (dg hd_law_4 31 rfl) (by decide) ?_
  refine lu_iadd C (dg hd_law_4 32 rfl) ?_
  refine lu_sld C h1 (dg hd_law_4 33 rfl) ?_
  refine lu_callM (As := [.int (xs ((nI i) + (1 : Int32)).toNatClampNeg)]) C (sp_Mo_bar l (xs ((nI i) + (1 : Int32)).toNatClampNeg) _) hM (by decide) cv_Mo_bar rfl lk_937 rfl rfl rfl (Nat.le_of_ble_eq_true rfl) hkc hks (dg hd_law_4 34 rfl) ?_
  refine lu_eq C 1401 (dg hd_law_4 35 rfl) (by decide) ?_
  exact hend σ1 τ1 hR1
set_option maxRecDepth 100000 in
theorem lc_8 {p : Program} {l : Launch} {e : Env} {s : State} {m : MethodId} {below : List Frame} {meth : Method} {c : Code} {b N : Nat} {xs : Nat → Int32} {D : va_G} {ca : Nat → ClassId} {aC aM : Nat → Nat} {kc ks : Nat} {Rl : St → St → Prop} (C : LC p s m meth c b N xs D ca aC aM) (hkc : kc ≤ 600000) (hks : ks ≤ 7302249) (hop : ∀ (σ τ : St), Rl σ τ → ∀ (a0 : Int32) (a1 : Int32), ∃ r σ1 τ1, Mn_liking a0 a1 σ = some (r, σ1) ∧ Mo_liking a0 a1 τ = some (r, τ1) ∧ Rl σ1 τ1) {i : Nat} (h1 : vp_in (nI i + (1 : Int32)) N) (h2 : vp_in (nI i + (2 : Int32)) N) (h3 : vp_in (nI i + (3 : Int32)) N) (h4 : vp_in (nI i + (4 : Int32)) N) (h5 : vp_in (nI i + (5 : Int32)) N) {σ τ : St} (hR : Rl σ τ) (hend : ∀ σ τ, Rl σ τ → LU p l e s m below meth c b D ca aC aM kc ks 1401 [(0, .ref b), (1, .ref (aC 0)), (2, .ref (aM 0)), (3, .int (nI i))] [] σ τ) : LU p l e s m below meth c b D ca aC aM kc ks 468 [(0, .ref b), (1, .ref (aC 0)), (2, .ref (aM 0)), (3, .int (nI i))] [] σ τ := by
  obtain ⟨r, σ1, τ1, hC, hM, hR1⟩ := hop σ τ hR (xs ((nI i) + (1 : Int32)).toNatClampNeg) (xs ((nI i) + (2 : Int32)).toNatClampNeg)
  refine lu_aload C (dg hd_law_4 38 rfl) rfl ?_
  refine lu_aload C (dg hd_law_4 39 rfl) rfl ?_
  refine lu_iload C (dg hd_law_4 40 rfl) rfl ?_
  refine lu_iconst C (1 : Int32) (dg hd_law_4 41 rfl) (by decide) ?_
  refine lu_iadd C (dg hd_law_4 42 rfl) ?_
  refine lu_sld C h1 (dg hd_law_4 43 rfl) ?_
  refine lu_aload C (dg hd_law_4 44 rfl) rfl ?_
  refine lu_iload C (dg hd_law_4 45 rfl) rfl ?_
  refine lu_iconst C (2 : Int32) (dg hd_law_4 46 rfl) (by decide) ?_
  refine lu_iadd C (dg hd_law_4 47 rfl) ?_
  refine lu_sld C h2 (dg hd_law_4 48 rfl) ?_
  refine lu_callC (As := [.int (xs ((nI i) + (1 : Int32)).toNatClampNeg), .int (xs ((nI i) + (2 : Int32)).toNatClampNeg)]) C (sp_Mn_liking l (xs ((nI i) + (1 : Int32)).toNatClampNeg) (xs ((nI i) + (2 : Int32)).toNatClampNeg) _) hC (by decide) cv_Mn_liking rfl lk_430 rfl rfl rfl (Nat.le_of_ble_eq_true rfl) hkc hks (dg hd_law_4 49 rfl) ?_
  refine lu_aload C (dg hd_law_5 0 rfl) rfl ?_
  refine lu_aload C (dg hd_law_5 1 rfl) rfl ?_
  refine lu_iload C (dg hd_law_5 2 rfl) rfl ?_
  refine lu_iconst C (1 : Int32) (dg hd_law_5 3 rfl) (by decide) ?_
  refine lu_iadd C (dg hd_law_5 4 rfl) ?_
  refine lu_sld C h1 (dg hd_law_5 5 rfl) ?_
  refine lu_aload C (dg hd_law_5 6 rfl) rfl ?_
  refine lu_iload C (dg hd_law_5 7 rfl) rfl ?_
  refine lu_iconst C (2 : Int32) (dg hd_law_5 8 rfl) (by decide) ?_
  refine lu_iadd C (dg hd_law_5 9 rfl) ?_
  refine lu_sld C h2 (dg hd_law_5 10 rfl) ?_
  refine lu_callM (As := [.int (xs ((nI i) + (1 : Int32)).toNatClampNeg), .int (xs ((nI i) + (2 : Int32)).toNatClampNeg)]) C (sp_Mo_liking l (xs ((nI i) + (1 : Int32)).toNatClampNeg) (xs ((nI i) + (2 : Int32)).toNatClampNeg) _) hM (by decide) cv_Mo_liking rfl lk_941 rfl rfl rfl (Nat.le_of_ble_eq_true rfl) hkc hks (dg hd_law_5 11 rfl) ?_
  refine lu_eq C 1401 (dg hd_law_5 12 rfl) (by decide) ?_
  exact hend σ1 τ1 hR1
set_option maxRecDepth 100000 in
theorem lc_9 {p : Program} {l : Launch} {e : Env} {s : State} {m : MethodId} {below : List Frame} {meth : Method} {c : Code} {b N : Nat} {xs : Nat → Int32} {D : va_G} {ca : Nat → ClassId} {aC aM : Nat → Nat} {kc ks : Nat} {Rl : St → St → Prop} (C : LC p s m meth c b N xs D ca aC aM) (hkc : kc ≤ 600000) (hks : ks ≤ 7302249) (hop : ∀ (σ τ : St), Rl σ τ → ∀ (a0 : Int32) (a1 : Int32), ∃ r σ1 τ1, Mn_talk a0 a1 σ = some (r, σ1) ∧ Mo_talk a0 a1 τ = some (r, τ1) ∧ Rl σ1 τ1) {i : Nat} (h1 : vp_in (nI i + (1 : Int32)) N) (h2 : vp_in (nI i + (2 : Int32)) N) (h3 : vp_in (nI i + (3 : Int32)) N) (h4 : vp_in (nI i + (4 : Int32)) N) (h5 : vp_in (nI i + (5 : Int32)) N) {σ τ : St} (hR : Rl σ τ) (hend : ∀ σ τ, Rl σ τ → LU p l e s m below meth c b D ca aC aM kc ks 1401 [(0, .ref b), (1, .ref (aC 0)), (2, .ref (aM 0)), (3, .int (nI i))] [] σ τ) : LU p l e s m below meth c b D ca aC aM kc ks 501 [(0, .ref b), (1, .ref (aC 0)), (2, .ref (aM 0)), (3, .int (nI i))] [] σ τ := by
  obtain ⟨r, σ1, τ1, hC, hM, hR1⟩ := hop σ τ hR (xs ((nI i) + (1 : Int32)).toNatClampNeg) (xs ((nI i) + (2 : Int32)).toNatClampNeg)
  refine lu_aload C (dg hd_law_5 15 rfl) rfl ?_
  refine lu_aload C (dg hd_law_5 16 rfl) rfl ?_
  refine lu_iload C (dg hd_law_5 17 rfl) rfl ?_
  refine lu_iconst C (1 : Int32) (dg hd_law_5 18 rfl) (by decide) ?_
  refine lu_iadd C (dg hd_law_5 19 rfl) ?_
  refine lu_sld C h1 (dg hd_law_5 20 rfl) ?_
  refine lu_aload C (dg hd_law_5 21 rfl) rfl ?_
  refine lu_iload C (dg hd_law_5 22 rfl) rfl ?_
  refine lu_iconst C (2 : Int32) (dg hd_law_5 23 rfl) (by decide) ?_
  refine lu_iadd C (dg hd_law_5 24 rfl) ?_
  refine lu_sld C h2 (dg hd_law_5 25 rfl) ?_
  refine lu_callC (As := [.int (xs ((nI i) + (1 : Int32)).toNatClampNeg), .int (xs ((nI i) + (2 : Int32)).toNatClampNeg)]) C (sp_Mn_talk l (xs ((nI i) + (1 : Int32)).toNatClampNeg) (xs ((nI i) + (2 : Int32)).toNatClampNeg) _) hC (by decide) cv_Mn_talk rfl lk_445 rfl rfl rfl (Nat.le_of_ble_eq_true rfl) hkc hks (dg hd_law_5 26 rfl) ?_
  refine lu_aload C (dg hd_law_5 27 rfl) rfl ?_
  refine lu_aload C (dg hd_law_5 28 rfl) rfl ?_
  refine lu_iload C (dg hd_law_5 29 rfl) rfl ?_
  refine lu_iconst C (1 : Int32) (dg hd_law_5 30 rfl) (by decide) ?_
  refine lu_iadd C (dg hd_law_5 31 rfl) ?_
  refine lu_sld C h1 (dg hd_law_5 32 rfl) ?_
  refine lu_aload C (dg hd_law_5 33 rfl) rfl ?_
  refine lu_iload C (dg hd_law_5 34 rfl) rfl ?_
  refine lu_iconst C (2 : Int32) (dg hd_law_5 35 rfl) (by decide) ?_
  refine lu_iadd C (dg hd_law_5 36 rfl) ?_
  refine lu_sld C h2 (dg hd_law_5 37 rfl) ?_
  refine lu_callM (As := [.int (xs ((nI i) + (1 : Int32)).toNatClampNeg), .int (xs ((nI i) + (2 : Int32)).toNatClampNeg)]) C (sp_Mo_talk l (xs ((nI i) + (1 : Int32)).toNatClampNeg) (xs ((nI i) + (2 : Int32)).toNatClampNeg) _) hM (by decide) cv_Mo_talk rfl lk_956 rfl rfl rfl (Nat.le_of_ble_eq_true rfl) hkc hks (dg hd_law_5 38 rfl) ?_
  refine lu_eq C 1401 (dg hd_law_5 39 rfl) (by decide) ?_
  exact hend σ1 τ1 hR1
set_option maxRecDepth 100000 in
theorem lc_10 {p : Program} {l : Launch} {e : Env} {s : State} {m : MethodId} {below : List Frame} {meth : Method} {c : Code} {b N : Nat} {xs : Nat → Int32} {D : va_G} {ca : Nat → ClassId} {aC aM : Nat → Nat} {kc ks : Nat} {Rl : St → St → Prop} (C : LC p s m meth c b N xs D ca aC aM) (hkc : kc ≤ 600000) (hks : ks ≤ 7302249) (hop : ∀ (σ τ : St), Rl σ τ → ∀ (a0 : Int64) (a1 : Int32), ∃ r σ1 τ1, Mn_feed a0 a1 σ = some (r, σ1) ∧ Mo_feed a0 a1 τ = some (r, τ1) ∧ Rl σ1 τ1) {i : Nat} (h1 : vp_in (nI i + (1 : Int32)) N) (h2 : vp_in (nI i + (2 : Int32)) N) (h3 : vp_in (nI i + (3 : Int32)) N) (h4 : vp_in (nI i + (4 : Int32)) N) (h5 : vp_in (nI i + (5 : Int32)) N) {σ τ : St} (hR : Rl σ τ) (hend : ∀ σ τ, Rl σ τ → LU p l e s m below meth c b D ca aC aM kc ks 1401 [(0, .ref b), (1, .ref (aC 0)), (2, .ref (aM 0)), (3, .int (nI i))] [] σ τ) : LU p l e s m below meth c b D ca aC aM kc ks 534 [(0, .ref b), (1, .ref (aC 0)), (2, .ref (aM 0)), (3, .int (nI i))] [] σ τ := by
  obtain ⟨r, σ1, τ1, hC, hM, hR1⟩ := hop σ τ hR ((((xs ((nI i) + (1 : Int32)).toNatClampNeg).toInt64) <<< (((32 : Int32)).toInt64 &&& 63)) ||| (((xs ((nI i) + (2 : Int32)).toNatClampNeg).toInt64) &&& (4294967295 : Int64))) (xs ((nI i) + (3 : Int32)).toNatClampNeg)
  refine lu_aload C (dg hd_law_5 42 rfl) rfl ?_
  refine lu_aload C (dg hd_law_5 43 rfl) rfl ?_
  refine lu_iload C (dg hd_law_5 44 rfl) rfl ?_
  refine lu_iconst C (1 : Int32) (dg hd_law_5 45 rfl) (by decide) ?_
  refine lu_iadd C (dg hd_law_5 46 rfl) ?_
  refine lu_sld C h1 (dg hd_law_5 47 rfl) ?_
  refine lu_i2l C (dg hd_law_5 48 rfl) ?_
  refine lu_bipush C (32 : Int32) (dg hd_law_5 49 rfl) (by decide) ?_
  refine lu_lshl C (dg hd_law_6 0 rfl) ?_
  refine lu_aload C (dg hd_law_6 1 rfl) rfl ?_
  refine lu_iload C (dg hd_law_6 2 rfl) rfl ?_
  refine lu_iconst C (2 : Int32) (dg hd_law_6 3 rfl) (by decide) ?_
  refine lu_iadd C (dg hd_law_6 4 rfl) ?_
  refine lu_sld C h2 (dg hd_law_6 5 rfl) ?_
  refine lu_i2l C (dg hd_law_6 6 rfl) ?_
  refine lu_ldc2 C (4294967295 : Int64) lk_1243 (dg hd_law_6 7 rfl) ?_
  refine lu_land C (dg hd_law_6 8 rfl) ?_
  refine lu_lor C (dg hd_law_6 9 rfl) ?_
  refine lu_aload C (dg hd_law_6 10 rfl) rfl ?_
  refine lu_iload C (dg hd_law_6 11 rfl) rfl ?_
  refine lu_iconst C (3 : Int32) (dg hd_law_6 12 rfl) (by decide) ?_
  refine lu_iadd C (dg hd_law_6 13 rfl) ?_
  refine lu_sld C h3 (dg hd_law_6 14 rfl) ?_
  refine lu_callC (As := [.long ((((xs ((nI i) + (1 : Int32)).toNatClampNeg).toInt64) <<< (((32 : Int32)).toInt64 &&& 63)) ||| (((xs ((nI i) + (2 : Int32)).toNatClampNeg).toInt64) &&& (4294967295 : Int64))), .int (xs ((nI i) + (3 : Int32)).toNatClampNeg)]) C (sp_Mn_feed l ((((xs ((nI i) + (1 : Int32)).toNatClampNeg).toInt64) <<< (((32 : Int32)).toInt64 &&& 63)) ||| (((xs ((nI i) + (2 : Int32)).toNatClampNeg).toInt64) &&& (4294967295 : Int64))) (xs ((nI i) + (3 : Int32)).toNatClampNeg) _) hC (by decide) cv_Mn_feed rfl lk_459 rfl rfl rfl (Nat.le_of_ble_eq_true rfl) hkc hks (dg hd_law_6 15 rfl) ?_
  refine lu_aload C (dg hd_law_6 16 rfl) rfl ?_
  refine lu_aload C (dg hd_law_6 17 rfl) rfl ?_
  refine lu_iload C (dg hd_law_6 18 rfl) rfl ?_
  refine lu_iconst C (1 : Int32) (dg hd_law_6 19 rfl) (by decide) ?_
  refine lu_iadd C (dg hd_law_6 20 rfl) ?_
  refine lu_sld C h1 (dg hd_law_6 21 rfl) ?_
  refine lu_i2l C (dg hd_law_6 22 rfl) ?_
  refine lu_bipush C (32 : Int32) (dg hd_law_6 23 rfl) (by decide) ?_
  refine lu_lshl C (dg hd_law_6 24 rfl) ?_
  refine lu_aload C (dg hd_law_6 25 rfl) rfl ?_
  refine lu_iload C (dg hd_law_6 26 rfl) rfl ?_
  refine lu_iconst C (2 : Int32) (dg hd_law_6 27 rfl) (by decide) ?_
  refine lu_iadd C (dg hd_law_6 28 rfl) ?_
  refine lu_sld C h2 (dg hd_law_6 29 rfl) ?_
  refine lu_i2l C (dg hd_law_6 30 rfl) ?_
  refine lu_ldc2 C (4294967295 : Int64) lk_1243 (dg hd_law_6 31 rfl) ?_
  refine lu_land C (dg hd_law_6 32 rfl) ?_
  refine lu_lor C (dg hd_law_6 33 rfl) ?_
  refine lu_aload C (dg hd_law_6 34 rfl) rfl ?_
  refine lu_iload C (dg hd_law_6 35 rfl) rfl ?_
  refine lu_iconst C (3 : Int32) (dg hd_law_6 36 rfl) (by decide) ?_
  refine lu_iadd C (dg hd_law_6 37 rfl) ?_
  refine lu_sld C h3 (dg hd_law_6 38 rfl) ?_
  refine lu_callM (As := [.long ((((xs ((nI i) + (1 : Int32)).toNatClampNeg).toInt64) <<< (((32 : Int32)).toInt64 &&& 63)) ||| (((xs ((nI i) + (2 : Int32)).toNatClampNeg).toInt64) &&& (4294967295 : Int64))), .int (xs ((nI i) + (3 : Int32)).toNatClampNeg)]) C (sp_Mo_feed l ((((xs ((nI i) + (1 : Int32)).toNatClampNeg).toInt64) <<< (((32 : Int32)).toInt64 &&& 63)) ||| (((xs ((nI i) + (2 : Int32)).toNatClampNeg).toInt64) &&& (4294967295 : Int64))) (xs ((nI i) + (3 : Int32)).toNatClampNeg) _) hM (by decide) cv_Mo_feed rfl lk_976 rfl rfl rfl (Nat.le_of_ble_eq_true rfl) hkc hks (dg hd_law_6 39 rfl) ?_
  refine lu_eq C 1401 (dg hd_law_6 40 rfl) (by decide) ?_
  exact hend σ1 τ1 hR1
set_option maxRecDepth 100000 in
theorem lc_11 {p : Program} {l : Launch} {e : Env} {s : State} {m : MethodId} {below : List Frame} {meth : Method} {c : Code} {b N : Nat} {xs : Nat → Int32} {D : va_G} {ca : Nat → ClassId} {aC aM : Nat → Nat} {kc ks : Nat} {Rl : St → St → Prop} (C : LC p s m meth c b N xs D ca aC aM) (hkc : kc ≤ 600000) (hks : ks ≤ 7302249) (hop : ∀ (σ τ : St), Rl σ τ → ∀ (a0 : Int32), ∃ r σ1 τ1, Mn_text a0 σ = some (r, σ1) ∧ Mo_text a0 τ = some (r, τ1) ∧ Rl σ1 τ1) {i : Nat} (h1 : vp_in (nI i + (1 : Int32)) N) (h2 : vp_in (nI i + (2 : Int32)) N) (h3 : vp_in (nI i + (3 : Int32)) N) (h4 : vp_in (nI i + (4 : Int32)) N) (h5 : vp_in (nI i + (5 : Int32)) N) {σ τ : St} (hR : Rl σ τ) (hend : ∀ σ τ, Rl σ τ → LU p l e s m below meth c b D ca aC aM kc ks 1401 [(0, .ref b), (1, .ref (aC 0)), (2, .ref (aM 0)), (3, .int (nI i))] [] σ τ) : LU p l e s m below meth c b D ca aC aM kc ks 597 [(0, .ref b), (1, .ref (aC 0)), (2, .ref (aM 0)), (3, .int (nI i))] [] σ τ := by
  obtain ⟨r, σ1, τ1, hC, hM, hR1⟩ := hop σ τ hR (xs ((nI i) + (1 : Int32)).toNatClampNeg)
  refine lu_aload C (dg hd_law_6 43 rfl) rfl ?_
  refine lu_aload C (dg hd_law_6 44 rfl) rfl ?_
  refine lu_iload C (dg hd_law_6 45 rfl) rfl ?_
  refine lu_iconst C (1 : Int32) (dg hd_law_6 46 rfl) (by decide) ?_
  refine lu_iadd C (dg hd_law_6 47 rfl) ?_
  refine lu_sld C h1 (dg hd_law_6 48 rfl) ?_
  refine lu_callC (As := [.int (xs ((nI i) + (1 : Int32)).toNatClampNeg)]) C (sp_Mn_text l (xs ((nI i) + (1 : Int32)).toNatClampNeg) _) hC (by decide) cv_Mn_text rfl lk_467 rfl rfl rfl (Nat.le_of_ble_eq_true rfl) hkc hks (dg hd_law_6 49 rfl) ?_
  refine lu_aload C (dg hd_law_7 0 rfl) rfl ?_
  refine lu_aload C (dg hd_law_7 1 rfl) rfl ?_
  refine lu_iload C (dg hd_law_7 2 rfl) rfl ?_
  refine lu_iconst C (1 : Int32) (dg hd_law_7 3 rfl) (by decide) ?_
  refine lu_iadd C (dg hd_law_7 4 rfl) ?_
  refine lu_sld C h1 (dg hd_law_7 5 rfl) ?_
  refine lu_callM (As := [.int (xs ((nI i) + (1 : Int32)).toNatClampNeg)]) C (sp_Mo_text l (xs ((nI i) + (1 : Int32)).toNatClampNeg) _) hM (by decide) cv_Mo_text rfl lk_981 rfl rfl rfl (Nat.le_of_ble_eq_true rfl) hkc hks (dg hd_law_7 6 rfl) ?_
  refine lu_eq C 1401 (dg hd_law_7 7 rfl) (by decide) ?_
  exact hend σ1 τ1 hR1
set_option maxRecDepth 100000 in
theorem lc_12 {p : Program} {l : Launch} {e : Env} {s : State} {m : MethodId} {below : List Frame} {meth : Method} {c : Code} {b N : Nat} {xs : Nat → Int32} {D : va_G} {ca : Nat → ClassId} {aC aM : Nat → Nat} {kc ks : Nat} {Rl : St → St → Prop} (C : LC p s m meth c b N xs D ca aC aM) (hkc : kc ≤ 600000) (hks : ks ≤ 7302249) (hop : ∀ (σ τ : St), Rl σ τ → ∀ (a0 : Int32), ∃ r σ1 τ1, Mn_untell a0 σ = some (r, σ1) ∧ Mo_untell a0 τ = some (r, τ1) ∧ Rl σ1 τ1) {i : Nat} (h1 : vp_in (nI i + (1 : Int32)) N) (h2 : vp_in (nI i + (2 : Int32)) N) (h3 : vp_in (nI i + (3 : Int32)) N) (h4 : vp_in (nI i + (4 : Int32)) N) (h5 : vp_in (nI i + (5 : Int32)) N) {σ τ : St} (hR : Rl σ τ) (hend : ∀ σ τ, Rl σ τ → LU p l e s m below meth c b D ca aC aM kc ks 1401 [(0, .ref b), (1, .ref (aC 0)), (2, .ref (aM 0)), (3, .int (nI i))] [] σ τ) : LU p l e s m below meth c b D ca aC aM kc ks 620 [(0, .ref b), (1, .ref (aC 0)), (2, .ref (aM 0)), (3, .int (nI i))] [] σ τ := by
  obtain ⟨r, σ1, τ1, hC, hM, hR1⟩ := hop σ τ hR (xs ((nI i) + (1 : Int32)).toNatClampNeg)
  refine lu_aload C (dg hd_law_7 10 rfl) rfl ?_
  refine lu_aload C (dg hd_law_7 11 rfl) rfl ?_
  refine lu_iload C (dg hd_law_7 12 rfl) rfl ?_
  refine lu_iconst C (1 : Int32) (dg hd_law_7 13 rfl) (by decide) ?_
  refine lu_iadd C (dg hd_law_7 14 rfl) ?_
  refine lu_sld C h1 (dg hd_law_7 15 rfl) ?_
  refine lu_callC (As := [.int (xs ((nI i) + (1 : Int32)).toNatClampNeg)]) C (sp_Mn_untell l (xs ((nI i) + (1 : Int32)).toNatClampNeg) _) hC (by decide) cv_Mn_untell rfl lk_536 rfl rfl rfl (Nat.le_of_ble_eq_true rfl) hkc hks (dg hd_law_7 16 rfl) ?_
  refine lu_aload C (dg hd_law_7 17 rfl) rfl ?_
  refine lu_aload C (dg hd_law_7 18 rfl) rfl ?_
  refine lu_iload C (dg hd_law_7 19 rfl) rfl ?_
  refine lu_iconst C (1 : Int32) (dg hd_law_7 20 rfl) (by decide) ?_
  refine lu_iadd C (dg hd_law_7 21 rfl) ?_
  refine lu_sld C h1 (dg hd_law_7 22 rfl) ?_
  refine lu_callM (As := [.int (xs ((nI i) + (1 : Int32)).toNatClampNeg)]) C (sp_Mo_untell l (xs ((nI i) + (1 : Int32)).toNatClampNeg) _) hM (by decide) cv_Mo_untell rfl lk_1029 rfl rfl rfl (Nat.le_of_ble_eq_true rfl) hkc hks (dg hd_law_7 23 rfl) ?_
  refine lu_eq C 1401 (dg hd_law_7 24 rfl) (by decide) ?_
  exact hend σ1 τ1 hR1
set_option maxRecDepth 100000 in
theorem lc_13 {p : Program} {l : Launch} {e : Env} {s : State} {m : MethodId} {below : List Frame} {meth : Method} {c : Code} {b N : Nat} {xs : Nat → Int32} {D : va_G} {ca : Nat → ClassId} {aC aM : Nat → Nat} {kc ks : Nat} {Rl : St → St → Prop} (C : LC p s m meth c b N xs D ca aC aM) (hkc : kc ≤ 600000) (hks : ks ≤ 7302249) (hop : ∀ (σ τ : St), Rl σ τ → ∀ (a0 : Int32) (a1 : Int32) (a2 : Int32) (a3 : Int32), ∃ r σ1 τ1, Mn_law a0 a1 a2 a3 σ = some (r, σ1) ∧ Mo_law a0 a1 a2 a3 τ = some (r, τ1) ∧ Rl σ1 τ1) {i : Nat} (h1 : vp_in (nI i + (1 : Int32)) N) (h2 : vp_in (nI i + (2 : Int32)) N) (h3 : vp_in (nI i + (3 : Int32)) N) (h4 : vp_in (nI i + (4 : Int32)) N) (h5 : vp_in (nI i + (5 : Int32)) N) {σ τ : St} (hR : Rl σ τ) (hend : ∀ σ τ, Rl σ τ → LU p l e s m below meth c b D ca aC aM kc ks 1401 [(0, .ref b), (1, .ref (aC 0)), (2, .ref (aM 0)), (3, .int (nI i))] [] σ τ) : LU p l e s m below meth c b D ca aC aM kc ks 643 [(0, .ref b), (1, .ref (aC 0)), (2, .ref (aM 0)), (3, .int (nI i))] [] σ τ := by
  obtain ⟨r, σ1, τ1, hC, hM, hR1⟩ := hop σ τ hR (xs ((nI i) + (1 : Int32)).toNatClampNeg) (xs ((nI i) + (2 : Int32)).toNatClampNeg) (xs ((nI i) + (3 : Int32)).toNatClampNeg) (xs ((nI i) + (4 : Int32)).toNatClampNeg)
  refine lu_aload C (dg hd_law_7 27 rfl) rfl ?_
  refine lu_aload C (dg hd_law_7 28 rfl) rfl ?_
  refine lu_iload C (dg hd_law_7 29 rfl) rfl ?_
  refine lu_iconst C (1 : Int32) (dg hd_law_7 30 rfl) (by decide) ?_
  refine lu_iadd C (dg hd_law_7 31 rfl) ?_
  refine lu_sld C h1 (dg hd_law_7 32 rfl) ?_
  refine lu_aload C (dg hd_law_7 33 rfl) rfl ?_
  refine lu_iload C (dg hd_law_7 34 rfl) rfl ?_
  refine lu_iconst C (2 : Int32) (dg hd_law_7 35 rfl) (by decide) ?_
  refine lu_iadd C (dg hd_law_7 36 rfl) ?_
  refine lu_sld C h2 (dg hd_law_7 37 rfl) ?_
  refine lu_aload C (dg hd_law_7 38 rfl) rfl ?_
  refine lu_iload C (dg hd_law_7 39 rfl) rfl ?_
  refine lu_iconst C (3 : Int32) (dg hd_law_7 40 rfl) (by decide) ?_
  refine lu_iadd C (dg hd_law_7 41 rfl) ?_
  refine lu_sld C h3 (dg hd_law_7 42 rfl) ?_
  refine lu_aload C (dg hd_law_7 43 rfl) rfl ?_
  refine lu_iload C (dg hd_law_7 44 rfl) rfl ?_
  refine lu_iconst C (4 : Int32) (dg hd_law_7 45 rfl) (by decide) ?_
  refine lu_iadd C (dg hd_law_7 46 rfl) ?_
  refine lu_sld C h4 (dg hd_law_7 47 rfl) ?_
  refine lu_callC (As := [.int (xs ((nI i) + (1 : Int32)).toNatClampNeg), .int (xs ((nI i) + (2 : Int32)).toNatClampNeg), .int (xs ((nI i) + (3 : Int32)).toNatClampNeg), .int (xs ((nI i) + (4 : Int32)).toNatClampNeg)]) C (sp_Mn_law l (xs ((nI i) + (1 : Int32)).toNatClampNeg) (xs ((nI i) + (2 : Int32)).toNatClampNeg) (xs ((nI i) + (3 : Int32)).toNatClampNeg) (xs ((nI i) + (4 : Int32)).toNatClampNeg) _) hC (by decide) cv_Mn_law rfl lk_541 rfl rfl rfl (Nat.le_of_ble_eq_true rfl) hkc hks (dg hd_law_7 48 rfl) ?_
  refine lu_aload C (dg hd_law_7 49 rfl) rfl ?_
  refine lu_aload C (dg hd_law_8 0 rfl) rfl ?_
  refine lu_iload C (dg hd_law_8 1 rfl) rfl ?_
  refine lu_iconst C (1 : Int32) (dg hd_law_8 2 rfl) (by decide) ?_
  refine lu_iadd C (dg hd_law_8 3 rfl) ?_
  refine lu_sld C h1 (dg hd_law_8 4 rfl) ?_
  refine lu_aload C (dg hd_law_8 5 rfl) rfl ?_
  refine lu_iload C (dg hd_law_8 6 rfl) rfl ?_
  refine lu_iconst C (2 : Int32) (dg hd_law_8 7 rfl) (by decide) ?_
  refine lu_iadd C (dg hd_law_8 8 rfl) ?_
  refine lu_sld C h2 (dg hd_law_8 9 rfl) ?_
  refine lu_aload C (dg hd_law_8 10 rfl) rfl ?_
  refine lu_iload C (dg hd_law_8 11 rfl) rfl ?_
  refine lu_iconst C (3 : Int32) (dg hd_law_8 12 rfl) (by decide) ?_
  refine lu_iadd C (dg hd_law_8 13 rfl) ?_
  refine lu_sld C h3 (dg hd_law_8 14 rfl) ?_
  refine lu_aload C (dg hd_law_8 15 rfl) rfl ?_
  refine lu_iload C (dg hd_law_8 16 rfl) rfl ?_
  refine lu_iconst C (4 : Int32) (dg hd_law_8 17 rfl) (by decide) ?_
  refine lu_iadd C (dg hd_law_8 18 rfl) ?_
  refine lu_sld C h4 (dg hd_law_8 19 rfl) ?_
  refine lu_callM (As := [.int (xs ((nI i) + (1 : Int32)).toNatClampNeg), .int (xs ((nI i) + (2 : Int32)).toNatClampNeg), .int (xs ((nI i) + (3 : Int32)).toNatClampNeg), .int (xs ((nI i) + (4 : Int32)).toNatClampNeg)]) C (sp_Mo_law l (xs ((nI i) + (1 : Int32)).toNatClampNeg) (xs ((nI i) + (2 : Int32)).toNatClampNeg) (xs ((nI i) + (3 : Int32)).toNatClampNeg) (xs ((nI i) + (4 : Int32)).toNatClampNeg) _) hM (by decide) cv_Mo_law rfl lk_1033 rfl rfl rfl (Nat.le_of_ble_eq_true rfl) hkc hks (dg hd_law_8 20 rfl) ?_
  refine lu_eq C 1401 (dg hd_law_8 21 rfl) (by decide) ?_
  exact hend σ1 τ1 hR1
set_option maxRecDepth 100000 in
theorem lc_14 {p : Program} {l : Launch} {e : Env} {s : State} {m : MethodId} {below : List Frame} {meth : Method} {c : Code} {b N : Nat} {xs : Nat → Int32} {D : va_G} {ca : Nat → ClassId} {aC aM : Nat → Nat} {kc ks : Nat} {Rl : St → St → Prop} (C : LC p s m meth c b N xs D ca aC aM) (hkc : kc ≤ 600000) (hks : ks ≤ 7302249) (hop : ∀ (σ τ : St), Rl σ τ → ∀ (a0 : Int32), ∃ r σ1 τ1, Mn_beats a0 σ = some (r, σ1) ∧ Mo_beats a0 τ = some (r, τ1) ∧ Rl σ1 τ1) {i : Nat} (h1 : vp_in (nI i + (1 : Int32)) N) (h2 : vp_in (nI i + (2 : Int32)) N) (h3 : vp_in (nI i + (3 : Int32)) N) (h4 : vp_in (nI i + (4 : Int32)) N) (h5 : vp_in (nI i + (5 : Int32)) N) {σ τ : St} (hR : Rl σ τ) (hend : ∀ σ τ, Rl σ τ → LU p l e s m below meth c b D ca aC aM kc ks 1401 [(0, .ref b), (1, .ref (aC 0)), (2, .ref (aM 0)), (3, .int (nI i))] [] σ τ) : LU p l e s m below meth c b D ca aC aM kc ks 696 [(0, .ref b), (1, .ref (aC 0)), (2, .ref (aM 0)), (3, .int (nI i))] [] σ τ := by
  obtain ⟨r, σ1, τ1, hC, hM, hR1⟩ := hop σ τ hR (xs ((nI i) + (1 : Int32)).toNatClampNeg)
  refine lu_aload C (dg hd_law_8 24 rfl) rfl ?_
  refine lu_aload C (dg hd_law_8 25 rfl) rfl ?_
  refine lu_iload C (dg hd_law_8 26 rfl) rfl ?_
  refine lu_iconst C (1 : Int32) (dg hd_law_8 27 rfl) (by decide) ?_
  refine lu_iadd C (dg hd_law_8 28 rfl) ?_
  refine lu_sld C h1 (dg hd_law_8 29 rfl) ?_
  refine lu_callC (As := [.int (xs ((nI i) + (1 : Int32)).toNatClampNeg)]) C (sp_Mn_beats l (xs ((nI i) + (1 : Int32)).toNatClampNeg) _) hC (by decide) cv_Mn_beats rfl lk_546 rfl rfl rfl (Nat.le_of_ble_eq_true rfl) hkc hks (dg hd_law_8 30 rfl) ?_
  refine lu_aload C (dg hd_law_8 31 rfl) rfl ?_
  refine lu_aload C (dg hd_law_8 32 rfl) rfl ?_
  refine lu_iload C (dg hd_law_8 33 rfl) rfl ?_
  refine lu_iconst C (1 : Int32) (dg hd_law_8 34 rfl) (by decide) ?_
  refine lu_iadd C (dg hd_law_8 35 rfl) ?_
  refine lu_sld C h1 (dg hd_law_8 36 rfl) ?_
  refine lu_callM (As := [.int (xs ((nI i) + (1 : Int32)).toNatClampNeg)]) C (sp_Mo_beats l (xs ((nI i) + (1 : Int32)).toNatClampNeg) _) hM (by decide) cv_Mo_beats rfl lk_1037 rfl rfl rfl (Nat.le_of_ble_eq_true rfl) hkc hks (dg hd_law_8 37 rfl) ?_
  refine lu_eq C 1401 (dg hd_law_8 38 rfl) (by decide) ?_
  exact hend σ1 τ1 hR1
set_option maxRecDepth 100000 in
theorem lc_15 {p : Program} {l : Launch} {e : Env} {s : State} {m : MethodId} {below : List Frame} {meth : Method} {c : Code} {b N : Nat} {xs : Nat → Int32} {D : va_G} {ca : Nat → ClassId} {aC aM : Nat → Nat} {kc ks : Nat} {Rl : St → St → Prop} (C : LC p s m meth c b N xs D ca aC aM) (hkc : kc ≤ 600000) (hks : ks ≤ 7302249) (hop : ∀ (σ τ : St), Rl σ τ → ∀ (a0 : Int32), ∃ r σ1 τ1, Mn_loose a0 σ = some (r, σ1) ∧ Mo_loose a0 τ = some (r, τ1) ∧ Rl σ1 τ1) {i : Nat} (h1 : vp_in (nI i + (1 : Int32)) N) (h2 : vp_in (nI i + (2 : Int32)) N) (h3 : vp_in (nI i + (3 : Int32)) N) (h4 : vp_in (nI i + (4 : Int32)) N) (h5 : vp_in (nI i + (5 : Int32)) N) {σ τ : St} (hR : Rl σ τ) (hend : ∀ σ τ, Rl σ τ → LU p l e s m below meth c b D ca aC aM kc ks 1401 [(0, .ref b), (1, .ref (aC 0)), (2, .ref (aM 0)), (3, .int (nI i))] [] σ τ) : LU p l e s m below meth c b D ca aC aM kc ks 719 [(0, .ref b), (1, .ref (aC 0)), (2, .ref (aM 0)), (3, .int (nI i))] [] σ τ := by
  obtain ⟨r, σ1, τ1, hC, hM, hR1⟩ := hop σ τ hR (xs ((nI i) + (1 : Int32)).toNatClampNeg)
  refine lu_aload C (dg hd_law_8 41 rfl) rfl ?_
  refine lu_aload C (dg hd_law_8 42 rfl) rfl ?_
  refine lu_iload C (dg hd_law_8 43 rfl) rfl ?_
  refine lu_iconst C (1 : Int32) (dg hd_law_8 44 rfl) (by decide) ?_
  refine lu_iadd C (dg hd_law_8 45 rfl) ?_
  refine lu_sld C h1 (dg hd_law_8 46 rfl) ?_
  refine lu_callC (As := [.int (xs ((nI i) + (1 : Int32)).toNatClampNeg)]) C (sp_Mn_loose l (xs ((nI i) + (1 : Int32)).toNatClampNeg) _) hC (by decide) cv_Mn_loose rfl lk_562 rfl rfl rfl (Nat.le_of_ble_eq_true rfl) hkc hks (dg hd_law_8 47 rfl) ?_
  refine lu_aload C (dg hd_law_8 48 rfl) rfl ?_
  refine lu_aload C (dg hd_law_8 49 rfl) rfl ?_
  refine lu_iload C (dg hd_law_9 0 rfl) rfl ?_
  refine lu_iconst C (1 : Int32) (dg hd_law_9 1 rfl) (by decide) ?_
  refine lu_iadd C (dg hd_law_9 2 rfl) ?_
  refine lu_sld C h1 (dg hd_law_9 3 rfl) ?_
  refine lu_callM (As := [.int (xs ((nI i) + (1 : Int32)).toNatClampNeg)]) C (sp_Mo_loose l (xs ((nI i) + (1 : Int32)).toNatClampNeg) _) hM (by decide) cv_Mo_loose rfl lk_1050 rfl rfl rfl (Nat.le_of_ble_eq_true rfl) hkc hks (dg hd_law_9 4 rfl) ?_
  refine lu_eq C 1401 (dg hd_law_9 5 rfl) (by decide) ?_
  exact hend σ1 τ1 hR1
set_option maxRecDepth 100000 in
theorem lc_16 {p : Program} {l : Launch} {e : Env} {s : State} {m : MethodId} {below : List Frame} {meth : Method} {c : Code} {b N : Nat} {xs : Nat → Int32} {D : va_G} {ca : Nat → ClassId} {aC aM : Nat → Nat} {kc ks : Nat} {Rl : St → St → Prop} (C : LC p s m meth c b N xs D ca aC aM) (hkc : kc ≤ 600000) (hks : ks ≤ 7302249) (hop : ∀ (σ τ : St), Rl σ τ → ∀ (a0 : Int32), ∃ r σ1 τ1, Mn_seed a0 σ = some (r, σ1) ∧ Mo_seed a0 τ = some (r, τ1) ∧ Rl σ1 τ1) {i : Nat} (h1 : vp_in (nI i + (1 : Int32)) N) (h2 : vp_in (nI i + (2 : Int32)) N) (h3 : vp_in (nI i + (3 : Int32)) N) (h4 : vp_in (nI i + (4 : Int32)) N) (h5 : vp_in (nI i + (5 : Int32)) N) {σ τ : St} (hR : Rl σ τ) (hend : ∀ σ τ, Rl σ τ → LU p l e s m below meth c b D ca aC aM kc ks 1401 [(0, .ref b), (1, .ref (aC 0)), (2, .ref (aM 0)), (3, .int (nI i))] [] σ τ) : LU p l e s m below meth c b D ca aC aM kc ks 742 [(0, .ref b), (1, .ref (aC 0)), (2, .ref (aM 0)), (3, .int (nI i))] [] σ τ := by
  obtain ⟨r, σ1, τ1, hC, hM, hR1⟩ := hop σ τ hR (xs ((nI i) + (1 : Int32)).toNatClampNeg)
  refine lu_aload C (dg hd_law_9 8 rfl) rfl ?_
  refine lu_aload C (dg hd_law_9 9 rfl) rfl ?_
  refine lu_iload C (dg hd_law_9 10 rfl) rfl ?_
  refine lu_iconst C (1 : Int32) (dg hd_law_9 11 rfl) (by decide) ?_
  refine lu_iadd C (dg hd_law_9 12 rfl) ?_
  refine lu_sld C h1 (dg hd_law_9 13 rfl) ?_
  refine lu_callC (As := [.int (xs ((nI i) + (1 : Int32)).toNatClampNeg)]) C (sp_Mn_seed l (xs ((nI i) + (1 : Int32)).toNatClampNeg) _) hC (by decide) cv_Mn_seed rfl lk_578 rfl rfl rfl (Nat.le_of_ble_eq_true rfl) hkc hks (dg hd_law_9 14 rfl) ?_
  refine lu_aload C (dg hd_law_9 15 rfl) rfl ?_
  refine lu_aload C (dg hd_law_9 16 rfl) rfl ?_
  refine lu_iload C (dg hd_law_9 17 rfl) rfl ?_
  refine lu_iconst C (1 : Int32) (dg hd_law_9 18 rfl) (by decide) ?_
  refine lu_iadd C (dg hd_law_9 19 rfl) ?_
  refine lu_sld C h1 (dg hd_law_9 20 rfl) ?_
  refine lu_callM (As := [.int (xs ((nI i) + (1 : Int32)).toNatClampNeg)]) C (sp_Mo_seed l (xs ((nI i) + (1 : Int32)).toNatClampNeg) _) hM (by decide) cv_Mo_seed rfl lk_1063 rfl rfl rfl (Nat.le_of_ble_eq_true rfl) hkc hks (dg hd_law_9 21 rfl) ?_
  refine lu_eq C 1401 (dg hd_law_9 22 rfl) (by decide) ?_
  exact hend σ1 τ1 hR1
set_option maxRecDepth 100000 in
theorem lc_17 {p : Program} {l : Launch} {e : Env} {s : State} {m : MethodId} {below : List Frame} {meth : Method} {c : Code} {b N : Nat} {xs : Nat → Int32} {D : va_G} {ca : Nat → ClassId} {aC aM : Nat → Nat} {kc ks : Nat} {Rl : St → St → Prop} (C : LC p s m meth c b N xs D ca aC aM) (hkc : kc ≤ 600000) (hks : ks ≤ 7302249) (hop : ∀ (σ τ : St), Rl σ τ → ∀ (a0 : Int32) (a1 : Int32) (a2 : Int32), ∃ r σ1 τ1, Mn_then a0 a1 a2 σ = some (r, σ1) ∧ Mo_then a0 a1 a2 τ = some (r, τ1) ∧ Rl σ1 τ1) {i : Nat} (h1 : vp_in (nI i + (1 : Int32)) N) (h2 : vp_in (nI i + (2 : Int32)) N) (h3 : vp_in (nI i + (3 : Int32)) N) (h4 : vp_in (nI i + (4 : Int32)) N) (h5 : vp_in (nI i + (5 : Int32)) N) {σ τ : St} (hR : Rl σ τ) (hend : ∀ σ τ, Rl σ τ → LU p l e s m below meth c b D ca aC aM kc ks 1401 [(0, .ref b), (1, .ref (aC 0)), (2, .ref (aM 0)), (3, .int (nI i))] [] σ τ) : LU p l e s m below meth c b D ca aC aM kc ks 765 [(0, .ref b), (1, .ref (aC 0)), (2, .ref (aM 0)), (3, .int (nI i))] [] σ τ := by
  obtain ⟨r, σ1, τ1, hC, hM, hR1⟩ := hop σ τ hR (xs ((nI i) + (1 : Int32)).toNatClampNeg) (xs ((nI i) + (2 : Int32)).toNatClampNeg) (xs ((nI i) + (3 : Int32)).toNatClampNeg)
  refine lu_aload C (dg hd_law_9 25 rfl) rfl ?_
  refine lu_aload C (dg hd_law_9 26 rfl) rfl ?_
  refine lu_iload C (dg hd_law_9 27 rfl) rfl ?_
  refine lu_iconst C (1 : Int32) (dg hd_law_9 28 rfl) (by decide) ?_
  refine lu_iadd C (dg hd_law_9 29 rfl) ?_
  refine lu_sld C h1 (dg hd_law_9 30 rfl) ?_
  refine lu_aload C (dg hd_law_9 31 rfl) rfl ?_
  refine lu_iload C (dg hd_law_9 32 rfl) rfl ?_
  refine lu_iconst C (2 : Int32) (dg hd_law_9 33 rfl) (by decide) ?_
  refine lu_iadd C (dg hd_law_9 34 rfl) ?_
  refine lu_sld C h2 (dg hd_law_9 35 rfl) ?_
  refine lu_aload C (dg hd_law_9 36 rfl) rfl ?_
  refine lu_iload C (dg hd_law_9 37 rfl) rfl ?_
  refine lu_iconst C (3 : Int32) (dg hd_law_9 38 rfl) (by decide) ?_
  refine lu_iadd C (dg hd_law_9 39 rfl) ?_
  refine lu_sld C h3 (dg hd_law_9 40 rfl) ?_
  refine lu_callC (As := [.int (xs ((nI i) + (1 : Int32)).toNatClampNeg), .int (xs ((nI i) + (2 : Int32)).toNatClampNeg), .int (xs ((nI i) + (3 : Int32)).toNatClampNeg)]) C (sp_Mn_then l (xs ((nI i) + (1 : Int32)).toNatClampNeg) (xs ((nI i) + (2 : Int32)).toNatClampNeg) (xs ((nI i) + (3 : Int32)).toNatClampNeg) _) hC (by decide) cv_Mn_then rfl lk_582 rfl rfl rfl (Nat.le_of_ble_eq_true rfl) hkc hks (dg hd_law_9 41 rfl) ?_
  refine lu_aload C (dg hd_law_9 42 rfl) rfl ?_
  refine lu_aload C (dg hd_law_9 43 rfl) rfl ?_
  refine lu_iload C (dg hd_law_9 44 rfl) rfl ?_
  refine lu_iconst C (1 : Int32) (dg hd_law_9 45 rfl) (by decide) ?_
  refine lu_iadd C (dg hd_law_9 46 rfl) ?_
  refine lu_sld C h1 (dg hd_law_9 47 rfl) ?_
  refine lu_aload C (dg hd_law_9 48 rfl) rfl ?_
  refine lu_iload C (dg hd_law_9 49 rfl) rfl ?_
  refine lu_iconst C (2 : Int32) (dg hd_law_10 0 rfl) (by decide) ?_
  refine lu_iadd C (dg hd_law_10 1 rfl) ?_
  refine lu_sld C h2 (dg hd_law_10 2 rfl) ?_
  refine lu_aload C (dg hd_law_10 3 rfl) rfl ?_
  refine lu_iload C (dg hd_law_10 4 rfl) rfl ?_
  refine lu_iconst C (3 : Int32) (dg hd_law_10 5 rfl) (by decide) ?_
  refine lu_iadd C (dg hd_law_10 6 rfl) ?_
  refine lu_sld C h3 (dg hd_law_10 7 rfl) ?_
  refine lu_callM (As := [.int (xs ((nI i) + (1 : Int32)).toNatClampNeg), .int (xs ((nI i) + (2 : Int32)).toNatClampNeg), .int (xs ((nI i) + (3 : Int32)).toNatClampNeg)]) C (sp_Mo_then l (xs ((nI i) + (1 : Int32)).toNatClampNeg) (xs ((nI i) + (2 : Int32)).toNatClampNeg) (xs ((nI i) + (3 : Int32)).toNatClampNeg) _) hM (by decide) cv_Mo_then rfl lk_1067 rfl rfl rfl (Nat.le_of_ble_eq_true rfl) hkc hks (dg hd_law_10 8 rfl) ?_
  refine lu_eq C 1401 (dg hd_law_10 9 rfl) (by decide) ?_
  exact hend σ1 τ1 hR1
set_option maxRecDepth 100000 in
theorem lc_18 {p : Program} {l : Launch} {e : Env} {s : State} {m : MethodId} {below : List Frame} {meth : Method} {c : Code} {b N : Nat} {xs : Nat → Int32} {D : va_G} {ca : Nat → ClassId} {aC aM : Nat → Nat} {kc ks : Nat} {Rl : St → St → Prop} (C : LC p s m meth c b N xs D ca aC aM) (hkc : kc ≤ 600000) (hks : ks ≤ 7302249) (hop : ∀ (σ τ : St), Rl σ τ → ∀ (a0 : Int32), ∃ r σ1 τ1, Mn_lasts a0 σ = some (r, σ1) ∧ Mo_lasts a0 τ = some (r, τ1) ∧ Rl σ1 τ1) {i : Nat} (h1 : vp_in (nI i + (1 : Int32)) N) (h2 : vp_in (nI i + (2 : Int32)) N) (h3 : vp_in (nI i + (3 : Int32)) N) (h4 : vp_in (nI i + (4 : Int32)) N) (h5 : vp_in (nI i + (5 : Int32)) N) {σ τ : St} (hR : Rl σ τ) (hend : ∀ σ τ, Rl σ τ → LU p l e s m below meth c b D ca aC aM kc ks 1401 [(0, .ref b), (1, .ref (aC 0)), (2, .ref (aM 0)), (3, .int (nI i))] [] σ τ) : LU p l e s m below meth c b D ca aC aM kc ks 808 [(0, .ref b), (1, .ref (aC 0)), (2, .ref (aM 0)), (3, .int (nI i))] [] σ τ := by
  obtain ⟨r, σ1, τ1, hC, hM, hR1⟩ := hop σ τ hR (xs ((nI i) + (1 : Int32)).toNatClampNeg)
  refine lu_aload C (dg hd_law_10 12 rfl) rfl ?_
  refine lu_aload C (dg hd_law_10 13 rfl) rfl ?_
  refine lu_iload C (dg hd_law_10 14 rfl) rfl ?_
  refine lu_iconst C (1 : Int32) (dg hd_law_10 15 rfl) (by decide) ?_
  refine lu_iadd C (dg hd_law_10 16 rfl) ?_
  refine lu_sld C h1 (dg hd_law_10 17 rfl) ?_
  refine lu_callC (As := [.int (xs ((nI i) + (1 : Int32)).toNatClampNeg)]) C (sp_Mn_lasts l (xs ((nI i) + (1 : Int32)).toNatClampNeg) _) hC (by decide) cv_Mn_lasts rfl lk_596 rfl rfl rfl (Nat.le_of_ble_eq_true rfl) hkc hks (dg hd_law_10 18 rfl) ?_
  refine lu_aload C (dg hd_law_10 19 rfl) rfl ?_
  refine lu_aload C (dg hd_law_10 20 rfl) rfl ?_
  refine lu_iload C (dg hd_law_10 21 rfl) rfl ?_
  refine lu_iconst C (1 : Int32) (dg hd_law_10 22 rfl) (by decide) ?_
  refine lu_iadd C (dg hd_law_10 23 rfl) ?_
  refine lu_sld C h1 (dg hd_law_10 24 rfl) ?_
  refine lu_callM (As := [.int (xs ((nI i) + (1 : Int32)).toNatClampNeg)]) C (sp_Mo_lasts l (xs ((nI i) + (1 : Int32)).toNatClampNeg) _) hM (by decide) cv_Mo_lasts rfl lk_1086 rfl rfl rfl (Nat.le_of_ble_eq_true rfl) hkc hks (dg hd_law_10 25 rfl) ?_
  refine lu_eq C 1401 (dg hd_law_10 26 rfl) (by decide) ?_
  exact hend σ1 τ1 hR1
set_option maxRecDepth 100000 in
theorem lc_19 {p : Program} {l : Launch} {e : Env} {s : State} {m : MethodId} {below : List Frame} {meth : Method} {c : Code} {b N : Nat} {xs : Nat → Int32} {D : va_G} {ca : Nat → ClassId} {aC aM : Nat → Nat} {kc ks : Nat} {Rl : St → St → Prop} (C : LC p s m meth c b N xs D ca aC aM) (hkc : kc ≤ 600000) (hks : ks ≤ 7302249) (hop : ∀ (σ τ : St), Rl σ τ → ∀ (a0 : Int32), ∃ r σ1 τ1, Mn_agree a0 σ = some (r, σ1) ∧ Mo_agree a0 τ = some (r, τ1) ∧ Rl σ1 τ1) {i : Nat} (h1 : vp_in (nI i + (1 : Int32)) N) (h2 : vp_in (nI i + (2 : Int32)) N) (h3 : vp_in (nI i + (3 : Int32)) N) (h4 : vp_in (nI i + (4 : Int32)) N) (h5 : vp_in (nI i + (5 : Int32)) N) {σ τ : St} (hR : Rl σ τ) (hend : ∀ σ τ, Rl σ τ → LU p l e s m below meth c b D ca aC aM kc ks 1401 [(0, .ref b), (1, .ref (aC 0)), (2, .ref (aM 0)), (3, .int (nI i))] [] σ τ) : LU p l e s m below meth c b D ca aC aM kc ks 831 [(0, .ref b), (1, .ref (aC 0)), (2, .ref (aM 0)), (3, .int (nI i))] [] σ τ := by
  obtain ⟨r, σ1, τ1, hC, hM, hR1⟩ := hop σ τ hR (xs ((nI i) + (1 : Int32)).toNatClampNeg)
  refine lu_aload C (dg hd_law_10 29 rfl) rfl ?_
  refine lu_aload C (dg hd_law_10 30 rfl) rfl ?_
  refine lu_iload C (dg hd_law_10 31 rfl) rfl ?_
  refine lu_iconst C (1 : Int32) (dg hd_law_10 32 rfl) (by decide) ?_
  refine lu_iadd C (dg hd_law_10 33 rfl) ?_
  refine lu_sld C h1 (dg hd_law_10 34 rfl) ?_
  refine lu_callC (As := [.int (xs ((nI i) + (1 : Int32)).toNatClampNeg)]) C (sp_Mn_agree l (xs ((nI i) + (1 : Int32)).toNatClampNeg) _) hC (by decide) cv_Mn_agree rfl lk_600 rfl rfl rfl (Nat.le_of_ble_eq_true rfl) hkc hks (dg hd_law_10 35 rfl) ?_
  refine lu_aload C (dg hd_law_10 36 rfl) rfl ?_
  refine lu_aload C (dg hd_law_10 37 rfl) rfl ?_
  refine lu_iload C (dg hd_law_10 38 rfl) rfl ?_
  refine lu_iconst C (1 : Int32) (dg hd_law_10 39 rfl) (by decide) ?_
  refine lu_iadd C (dg hd_law_10 40 rfl) ?_
  refine lu_sld C h1 (dg hd_law_10 41 rfl) ?_
  refine lu_callM (As := [.int (xs ((nI i) + (1 : Int32)).toNatClampNeg)]) C (sp_Mo_agree l (xs ((nI i) + (1 : Int32)).toNatClampNeg) _) hM (by decide) cv_Mo_agree rfl lk_1091 rfl rfl rfl (Nat.le_of_ble_eq_true rfl) hkc hks (dg hd_law_10 42 rfl) ?_
  refine lu_eq C 1401 (dg hd_law_10 43 rfl) (by decide) ?_
  exact hend σ1 τ1 hR1
set_option maxRecDepth 100000 in
theorem lc_20 {p : Program} {l : Launch} {e : Env} {s : State} {m : MethodId} {below : List Frame} {meth : Method} {c : Code} {b N : Nat} {xs : Nat → Int32} {D : va_G} {ca : Nat → ClassId} {aC aM : Nat → Nat} {kc ks : Nat} {Rl : St → St → Prop} (C : LC p s m meth c b N xs D ca aC aM) (hkc : kc ≤ 600000) (hks : ks ≤ 7302249) (hop : ∀ (σ τ : St), Rl σ τ → ∀ (a0 : Int32), ∃ r σ1 τ1, Mn_fairest a0 σ = some (r, σ1) ∧ Mo_fairest a0 τ = some (r, τ1) ∧ Rl σ1 τ1) {i : Nat} (h1 : vp_in (nI i + (1 : Int32)) N) (h2 : vp_in (nI i + (2 : Int32)) N) (h3 : vp_in (nI i + (3 : Int32)) N) (h4 : vp_in (nI i + (4 : Int32)) N) (h5 : vp_in (nI i + (5 : Int32)) N) {σ τ : St} (hR : Rl σ τ) (hend : ∀ σ τ, Rl σ τ → LU p l e s m below meth c b D ca aC aM kc ks 1401 [(0, .ref b), (1, .ref (aC 0)), (2, .ref (aM 0)), (3, .int (nI i))] [] σ τ) : LU p l e s m below meth c b D ca aC aM kc ks 854 [(0, .ref b), (1, .ref (aC 0)), (2, .ref (aM 0)), (3, .int (nI i))] [] σ τ := by
  obtain ⟨r, σ1, τ1, hC, hM, hR1⟩ := hop σ τ hR (xs ((nI i) + (1 : Int32)).toNatClampNeg)
  refine lu_aload C (dg hd_law_10 46 rfl) rfl ?_
  refine lu_aload C (dg hd_law_10 47 rfl) rfl ?_
  refine lu_iload C (dg hd_law_10 48 rfl) rfl ?_
  refine lu_iconst C (1 : Int32) (dg hd_law_10 49 rfl) (by decide) ?_
  refine lu_iadd C (dg hd_law_11 0 rfl) ?_
  refine lu_sld C h1 (dg hd_law_11 1 rfl) ?_
  refine lu_callC (As := [.int (xs ((nI i) + (1 : Int32)).toNatClampNeg)]) C (sp_Mn_fairest l (xs ((nI i) + (1 : Int32)).toNatClampNeg) _) hC (by decide) cv_Mn_fairest rfl lk_604 rfl rfl rfl (Nat.le_of_ble_eq_true rfl) hkc hks (dg hd_law_11 2 rfl) ?_
  refine lu_aload C (dg hd_law_11 3 rfl) rfl ?_
  refine lu_aload C (dg hd_law_11 4 rfl) rfl ?_
  refine lu_iload C (dg hd_law_11 5 rfl) rfl ?_
  refine lu_iconst C (1 : Int32) (dg hd_law_11 6 rfl) (by decide) ?_
  refine lu_iadd C (dg hd_law_11 7 rfl) ?_
  refine lu_sld C h1 (dg hd_law_11 8 rfl) ?_
  refine lu_callM (As := [.int (xs ((nI i) + (1 : Int32)).toNatClampNeg)]) C (sp_Mo_fairest l (xs ((nI i) + (1 : Int32)).toNatClampNeg) _) hM (by decide) cv_Mo_fairest rfl lk_1095 rfl rfl rfl (Nat.le_of_ble_eq_true rfl) hkc hks (dg hd_law_11 9 rfl) ?_
  refine lu_eq C 1401 (dg hd_law_11 10 rfl) (by decide) ?_
  exact hend σ1 τ1 hR1
set_option maxRecDepth 100000 in
theorem lc_21 {p : Program} {l : Launch} {e : Env} {s : State} {m : MethodId} {below : List Frame} {meth : Method} {c : Code} {b N : Nat} {xs : Nat → Int32} {D : va_G} {ca : Nat → ClassId} {aC aM : Nat → Nat} {kc ks : Nat} {Rl : St → St → Prop} (C : LC p s m meth c b N xs D ca aC aM) (hkc : kc ≤ 600000) (hks : ks ≤ 7302249) (hop : ∀ (σ τ : St), Rl σ τ → ∀ (a0 : Int32), ∃ r σ1 τ1, Mn_balks a0 σ = some (r, σ1) ∧ Mo_balks a0 τ = some (r, τ1) ∧ Rl σ1 τ1) {i : Nat} (h1 : vp_in (nI i + (1 : Int32)) N) (h2 : vp_in (nI i + (2 : Int32)) N) (h3 : vp_in (nI i + (3 : Int32)) N) (h4 : vp_in (nI i + (4 : Int32)) N) (h5 : vp_in (nI i + (5 : Int32)) N) {σ τ : St} (hR : Rl σ τ) (hend : ∀ σ τ, Rl σ τ → LU p l e s m below meth c b D ca aC aM kc ks 1401 [(0, .ref b), (1, .ref (aC 0)), (2, .ref (aM 0)), (3, .int (nI i))] [] σ τ) : LU p l e s m below meth c b D ca aC aM kc ks 877 [(0, .ref b), (1, .ref (aC 0)), (2, .ref (aM 0)), (3, .int (nI i))] [] σ τ := by
  obtain ⟨r, σ1, τ1, hC, hM, hR1⟩ := hop σ τ hR (xs ((nI i) + (1 : Int32)).toNatClampNeg)
  refine lu_aload C (dg hd_law_11 13 rfl) rfl ?_
  refine lu_aload C (dg hd_law_11 14 rfl) rfl ?_
  refine lu_iload C (dg hd_law_11 15 rfl) rfl ?_
  refine lu_iconst C (1 : Int32) (dg hd_law_11 16 rfl) (by decide) ?_
  refine lu_iadd C (dg hd_law_11 17 rfl) ?_
  refine lu_sld C h1 (dg hd_law_11 18 rfl) ?_
  refine lu_callC (As := [.int (xs ((nI i) + (1 : Int32)).toNatClampNeg)]) C (sp_Mn_balks l (xs ((nI i) + (1 : Int32)).toNatClampNeg) _) hC (by decide) cv_Mn_balks rfl lk_613 rfl rfl rfl (Nat.le_of_ble_eq_true rfl) hkc hks (dg hd_law_11 19 rfl) ?_
  refine lu_aload C (dg hd_law_11 20 rfl) rfl ?_
  refine lu_aload C (dg hd_law_11 21 rfl) rfl ?_
  refine lu_iload C (dg hd_law_11 22 rfl) rfl ?_
  refine lu_iconst C (1 : Int32) (dg hd_law_11 23 rfl) (by decide) ?_
  refine lu_iadd C (dg hd_law_11 24 rfl) ?_
  refine lu_sld C h1 (dg hd_law_11 25 rfl) ?_
  refine lu_callM (As := [.int (xs ((nI i) + (1 : Int32)).toNatClampNeg)]) C (sp_Mo_balks l (xs ((nI i) + (1 : Int32)).toNatClampNeg) _) hM (by decide) cv_Mo_balks rfl lk_1103 rfl rfl rfl (Nat.le_of_ble_eq_true rfl) hkc hks (dg hd_law_11 26 rfl) ?_
  refine lu_eq C 1401 (dg hd_law_11 27 rfl) (by decide) ?_
  exact hend σ1 τ1 hR1
set_option maxRecDepth 100000 in
theorem lc_22 {p : Program} {l : Launch} {e : Env} {s : State} {m : MethodId} {below : List Frame} {meth : Method} {c : Code} {b N : Nat} {xs : Nat → Int32} {D : va_G} {ca : Nat → ClassId} {aC aM : Nat → Nat} {kc ks : Nat} {Rl : St → St → Prop} (C : LC p s m meth c b N xs D ca aC aM) (hkc : kc ≤ 600000) (hks : ks ≤ 7302249) (hop : ∀ (σ τ : St), Rl σ τ → ∀ (a0 : Int32), ∃ r σ1 τ1, Mn_soon a0 σ = some (r, σ1) ∧ Mo_soon a0 τ = some (r, τ1) ∧ Rl σ1 τ1) {i : Nat} (h1 : vp_in (nI i + (1 : Int32)) N) (h2 : vp_in (nI i + (2 : Int32)) N) (h3 : vp_in (nI i + (3 : Int32)) N) (h4 : vp_in (nI i + (4 : Int32)) N) (h5 : vp_in (nI i + (5 : Int32)) N) {σ τ : St} (hR : Rl σ τ) (hend : ∀ σ τ, Rl σ τ → LU p l e s m below meth c b D ca aC aM kc ks 1401 [(0, .ref b), (1, .ref (aC 0)), (2, .ref (aM 0)), (3, .int (nI i))] [] σ τ) : LU p l e s m below meth c b D ca aC aM kc ks 900 [(0, .ref b), (1, .ref (aC 0)), (2, .ref (aM 0)), (3, .int (nI i))] [] σ τ := by
  obtain ⟨r, σ1, τ1, hC, hM, hR1⟩ := hop σ τ hR (xs ((nI i) + (1 : Int32)).toNatClampNeg)
  refine lu_aload C (dg hd_law_11 30 rfl) rfl ?_
  refine lu_aload C (dg hd_law_11 31 rfl) rfl ?_
  refine lu_iload C (dg hd_law_11 32 rfl) rfl ?_
  refine lu_iconst C (1 : Int32) (dg hd_law_11 33 rfl) (by decide) ?_
  refine lu_iadd C (dg hd_law_11 34 rfl) ?_
  refine lu_sld C h1 (dg hd_law_11 35 rfl) ?_
  refine lu_callC (As := [.int (xs ((nI i) + (1 : Int32)).toNatClampNeg)]) C (sp_Mn_soon l (xs ((nI i) + (1 : Int32)).toNatClampNeg) _) hC (by decide) cv_Mn_soon rfl lk_626 rfl rfl rfl (Nat.le_of_ble_eq_true rfl) hkc hks (dg hd_law_11 36 rfl) ?_
  refine lu_aload C (dg hd_law_11 37 rfl) rfl ?_
  refine lu_aload C (dg hd_law_11 38 rfl) rfl ?_
  refine lu_iload C (dg hd_law_11 39 rfl) rfl ?_
  refine lu_iconst C (1 : Int32) (dg hd_law_11 40 rfl) (by decide) ?_
  refine lu_iadd C (dg hd_law_11 41 rfl) ?_
  refine lu_sld C h1 (dg hd_law_11 42 rfl) ?_
  refine lu_callM (As := [.int (xs ((nI i) + (1 : Int32)).toNatClampNeg)]) C (sp_Mo_soon l (xs ((nI i) + (1 : Int32)).toNatClampNeg) _) hM (by decide) cv_Mo_soon rfl lk_1115 rfl rfl rfl (Nat.le_of_ble_eq_true rfl) hkc hks (dg hd_law_11 43 rfl) ?_
  refine lu_eq C 1401 (dg hd_law_11 44 rfl) (by decide) ?_
  exact hend σ1 τ1 hR1
set_option maxRecDepth 100000 in
theorem lc_23 {p : Program} {l : Launch} {e : Env} {s : State} {m : MethodId} {below : List Frame} {meth : Method} {c : Code} {b N : Nat} {xs : Nat → Int32} {D : va_G} {ca : Nat → ClassId} {aC aM : Nat → Nat} {kc ks : Nat} {Rl : St → St → Prop} (C : LC p s m meth c b N xs D ca aC aM) (hkc : kc ≤ 600000) (hks : ks ≤ 7302249) (hop : ∀ (σ τ : St), Rl σ τ → ∀ (a0 : Int32) (a1 : Int32) (a2 : Int32) (a3 : Int32), ∃ r σ1 τ1, Mn_meets a0 a1 a2 a3 σ = some (r, σ1) ∧ Mo_meets a0 a1 a2 a3 τ = some (r, τ1) ∧ Rl σ1 τ1) {i : Nat} (h1 : vp_in (nI i + (1 : Int32)) N) (h2 : vp_in (nI i + (2 : Int32)) N) (h3 : vp_in (nI i + (3 : Int32)) N) (h4 : vp_in (nI i + (4 : Int32)) N) (h5 : vp_in (nI i + (5 : Int32)) N) {σ τ : St} (hR : Rl σ τ) (hend : ∀ σ τ, Rl σ τ → LU p l e s m below meth c b D ca aC aM kc ks 1401 [(0, .ref b), (1, .ref (aC 0)), (2, .ref (aM 0)), (3, .int (nI i))] [] σ τ) : LU p l e s m below meth c b D ca aC aM kc ks 923 [(0, .ref b), (1, .ref (aC 0)), (2, .ref (aM 0)), (3, .int (nI i))] [] σ τ := by
  obtain ⟨r, σ1, τ1, hC, hM, hR1⟩ := hop σ τ hR (xs ((nI i) + (1 : Int32)).toNatClampNeg) (xs ((nI i) + (2 : Int32)).toNatClampNeg) (xs ((nI i) + (3 : Int32)).toNatClampNeg) (xs ((nI i) + (4 : Int32)).toNatClampNeg)
  refine lu_aload C (dg hd_law_11 47 rfl) rfl ?_
  refine lu_aload C (dg hd_law_11 48 rfl) rfl ?_
  refine lu_iload C (dg hd_law_11 49 rfl) rfl ?_
  refine lu_iconst C (1 : Int32) (dg hd_law_12 0 rfl) (by decide) ?_
  refine lu_iadd C (dg hd_law_12 1 rfl) ?_
  refine lu_sld C h1 (dg hd_law_12 2 rfl) ?_
  refine lu_aload C (dg hd_law_12 3 rfl) rfl ?_
  refine lu_iload C (dg hd_law_12 4 rfl) rfl ?_
  refine lu_iconst C (2 : Int32) (dg hd_law_12 5 rfl) (by decide) ?_
  refine lu_iadd C (dg hd_law_12 6 rfl) ?_
  refine lu_sld C h2 (dg hd_law_12 7 rfl) ?_
  refine lu_aload C (dg hd_law_12 8 rfl) rfl ?_
  refine lu_iload C (dg hd_law_12 9 rfl) rfl ?_
  refine lu_iconst C (3 : Int32) (dg hd_law_12 10 rfl) (by decide) ?_
  refine lu_iadd C (dg hd_law_12 11 rfl) ?_
  refine lu_sld C h3 (dg hd_law_12 12 rfl) ?_
  refine lu_aload C (dg hd_law_12 13 rfl) rfl ?_
  refine lu_iload C (dg hd_law_12 14 rfl) rfl ?_
  refine lu_iconst C (4 : Int32) (dg hd_law_12 15 rfl) (by decide) ?_
  refine lu_iadd C (dg hd_law_12 16 rfl) ?_
  refine lu_sld C h4 (dg hd_law_12 17 rfl) ?_
  refine lu_callC (As := [.int (xs ((nI i) + (1 : Int32)).toNatClampNeg), .int (xs ((nI i) + (2 : Int32)).toNatClampNeg), .int (xs ((nI i) + (3 : Int32)).toNatClampNeg), .int (xs ((nI i) + (4 : Int32)).toNatClampNeg)]) C (sp_Mn_meets l (xs ((nI i) + (1 : Int32)).toNatClampNeg) (xs ((nI i) + (2 : Int32)).toNatClampNeg) (xs ((nI i) + (3 : Int32)).toNatClampNeg) (xs ((nI i) + (4 : Int32)).toNatClampNeg) _) hC (by decide) cv_Mn_meets rfl lk_630 rfl rfl rfl (Nat.le_of_ble_eq_true rfl) hkc hks (dg hd_law_12 18 rfl) ?_
  refine lu_aload C (dg hd_law_12 19 rfl) rfl ?_
  refine lu_aload C (dg hd_law_12 20 rfl) rfl ?_
  refine lu_iload C (dg hd_law_12 21 rfl) rfl ?_
  refine lu_iconst C (1 : Int32) (dg hd_law_12 22 rfl) (by decide) ?_
  refine lu_iadd C (dg hd_law_12 23 rfl) ?_
  refine lu_sld C h1 (dg hd_law_12 24 rfl) ?_
  refine lu_aload C (dg hd_law_12 25 rfl) rfl ?_
  refine lu_iload C (dg hd_law_12 26 rfl) rfl ?_
  refine lu_iconst C (2 : Int32) (dg hd_law_12 27 rfl) (by decide) ?_
  refine lu_iadd C (dg hd_law_12 28 rfl) ?_
  refine lu_sld C h2 (dg hd_law_12 29 rfl) ?_
  refine lu_aload C (dg hd_law_12 30 rfl) rfl ?_
  refine lu_iload C (dg hd_law_12 31 rfl) rfl ?_
  refine lu_iconst C (3 : Int32) (dg hd_law_12 32 rfl) (by decide) ?_
  refine lu_iadd C (dg hd_law_12 33 rfl) ?_
  refine lu_sld C h3 (dg hd_law_12 34 rfl) ?_
  refine lu_aload C (dg hd_law_12 35 rfl) rfl ?_
  refine lu_iload C (dg hd_law_12 36 rfl) rfl ?_
  refine lu_iconst C (4 : Int32) (dg hd_law_12 37 rfl) (by decide) ?_
  refine lu_iadd C (dg hd_law_12 38 rfl) ?_
  refine lu_sld C h4 (dg hd_law_12 39 rfl) ?_
  refine lu_callM (As := [.int (xs ((nI i) + (1 : Int32)).toNatClampNeg), .int (xs ((nI i) + (2 : Int32)).toNatClampNeg), .int (xs ((nI i) + (3 : Int32)).toNatClampNeg), .int (xs ((nI i) + (4 : Int32)).toNatClampNeg)]) C (sp_Mo_meets l (xs ((nI i) + (1 : Int32)).toNatClampNeg) (xs ((nI i) + (2 : Int32)).toNatClampNeg) (xs ((nI i) + (3 : Int32)).toNatClampNeg) (xs ((nI i) + (4 : Int32)).toNatClampNeg) _) hM (by decide) cv_Mo_meets rfl lk_1119 rfl rfl rfl (Nat.le_of_ble_eq_true rfl) hkc hks (dg hd_law_12 40 rfl) ?_
  refine lu_eq C 1401 (dg hd_law_12 41 rfl) (by decide) ?_
  exact hend σ1 τ1 hR1
set_option maxRecDepth 100000 in
theorem lc_24 {p : Program} {l : Launch} {e : Env} {s : State} {m : MethodId} {below : List Frame} {meth : Method} {c : Code} {b N : Nat} {xs : Nat → Int32} {D : va_G} {ca : Nat → ClassId} {aC aM : Nat → Nat} {kc ks : Nat} {Rl : St → St → Prop} (C : LC p s m meth c b N xs D ca aC aM) (hkc : kc ≤ 600000) (hks : ks ≤ 7302249) (hop : ∀ (σ τ : St), Rl σ τ → ∀ (a0 : Int32) (a1 : Int32), ∃ r σ1 τ1, Mn_odds a0 a1 σ = some (r, σ1) ∧ Mo_odds a0 a1 τ = some (r, τ1) ∧ Rl σ1 τ1) {i : Nat} (h1 : vp_in (nI i + (1 : Int32)) N) (h2 : vp_in (nI i + (2 : Int32)) N) (h3 : vp_in (nI i + (3 : Int32)) N) (h4 : vp_in (nI i + (4 : Int32)) N) (h5 : vp_in (nI i + (5 : Int32)) N) {σ τ : St} (hR : Rl σ τ) (hend : ∀ σ τ, Rl σ τ → LU p l e s m below meth c b D ca aC aM kc ks 1401 [(0, .ref b), (1, .ref (aC 0)), (2, .ref (aM 0)), (3, .int (nI i))] [] σ τ) : LU p l e s m below meth c b D ca aC aM kc ks 976 [(0, .ref b), (1, .ref (aC 0)), (2, .ref (aM 0)), (3, .int (nI i))] [] σ τ := by
  obtain ⟨r, σ1, τ1, hC, hM, hR1⟩ := hop σ τ hR (xs ((nI i) + (1 : Int32)).toNatClampNeg) (xs ((nI i) + (2 : Int32)).toNatClampNeg)
  refine lu_aload C (dg hd_law_12 44 rfl) rfl ?_
  refine lu_aload C (dg hd_law_12 45 rfl) rfl ?_
  refine lu_iload C (dg hd_law_12 46 rfl) rfl ?_
  refine lu_iconst C (1 : Int32) (dg hd_law_12 47 rfl) (by decide) ?_
  refine lu_iadd C (dg hd_law_12 48 rfl) ?_
  refine lu_sld C h1 (dg hd_law_12 49 rfl) ?_
  refine lu_aload C (dg hd_law_13 0 rfl) rfl ?_
  refine lu_iload C (dg hd_law_13 1 rfl) rfl ?_
  refine lu_iconst C (2 : Int32) (dg hd_law_13 2 rfl) (by decide) ?_
  refine lu_iadd C (dg hd_law_13 3 rfl) ?_
  refine lu_sld C h2 (dg hd_law_13 4 rfl) ?_
  refine lu_callC (As := [.int (xs ((nI i) + (1 : Int32)).toNatClampNeg), .int (xs ((nI i) + (2 : Int32)).toNatClampNeg)]) C (sp_Mn_odds l (xs ((nI i) + (1 : Int32)).toNatClampNeg) (xs ((nI i) + (2 : Int32)).toNatClampNeg) _) hC (by decide) cv_Mn_odds rfl lk_637 rfl rfl rfl (Nat.le_of_ble_eq_true rfl) hkc hks (dg hd_law_13 5 rfl) ?_
  refine lu_aload C (dg hd_law_13 6 rfl) rfl ?_
  refine lu_aload C (dg hd_law_13 7 rfl) rfl ?_
  refine lu_iload C (dg hd_law_13 8 rfl) rfl ?_
  refine lu_iconst C (1 : Int32) (dg hd_law_13 9 rfl) (by decide) ?_
  refine lu_iadd C (dg hd_law_13 10 rfl) ?_
  refine lu_sld C h1 (dg hd_law_13 11 rfl) ?_
  refine lu_aload C (dg hd_law_13 12 rfl) rfl ?_
  refine lu_iload C (dg hd_law_13 13 rfl) rfl ?_
  refine lu_iconst C (2 : Int32) (dg hd_law_13 14 rfl) (by decide) ?_
  refine lu_iadd C (dg hd_law_13 15 rfl) ?_
  refine lu_sld C h2 (dg hd_law_13 16 rfl) ?_
  refine lu_callM (As := [.int (xs ((nI i) + (1 : Int32)).toNatClampNeg), .int (xs ((nI i) + (2 : Int32)).toNatClampNeg)]) C (sp_Mo_odds l (xs ((nI i) + (1 : Int32)).toNatClampNeg) (xs ((nI i) + (2 : Int32)).toNatClampNeg) _) hM (by decide) cv_Mo_odds rfl lk_1123 rfl rfl rfl (Nat.le_of_ble_eq_true rfl) hkc hks (dg hd_law_13 17 rfl) ?_
  refine lu_eq C 1401 (dg hd_law_13 18 rfl) (by decide) ?_
  exact hend σ1 τ1 hR1
set_option maxRecDepth 100000 in
theorem lc_25 {p : Program} {l : Launch} {e : Env} {s : State} {m : MethodId} {below : List Frame} {meth : Method} {c : Code} {b N : Nat} {xs : Nat → Int32} {D : va_G} {ca : Nat → ClassId} {aC aM : Nat → Nat} {kc ks : Nat} {Rl : St → St → Prop} (C : LC p s m meth c b N xs D ca aC aM) (hkc : kc ≤ 600000) (hks : ks ≤ 7302249) (hop : ∀ (σ τ : St), Rl σ τ → ∀ (a0 : Int32), ∃ r σ1 τ1, Mn_fits a0 σ = some (r, σ1) ∧ Mo_fits a0 τ = some (r, τ1) ∧ Rl σ1 τ1) {i : Nat} (h1 : vp_in (nI i + (1 : Int32)) N) (h2 : vp_in (nI i + (2 : Int32)) N) (h3 : vp_in (nI i + (3 : Int32)) N) (h4 : vp_in (nI i + (4 : Int32)) N) (h5 : vp_in (nI i + (5 : Int32)) N) {σ τ : St} (hR : Rl σ τ) (hend : ∀ σ τ, Rl σ τ → LU p l e s m below meth c b D ca aC aM kc ks 1401 [(0, .ref b), (1, .ref (aC 0)), (2, .ref (aM 0)), (3, .int (nI i))] [] σ τ) : LU p l e s m below meth c b D ca aC aM kc ks 1009 [(0, .ref b), (1, .ref (aC 0)), (2, .ref (aM 0)), (3, .int (nI i))] [] σ τ := by
  obtain ⟨r, σ1, τ1, hC, hM, hR1⟩ := hop σ τ hR (xs ((nI i) + (1 : Int32)).toNatClampNeg)
  refine lu_aload C (dg hd_law_13 21 rfl) rfl ?_
  refine lu_aload C (dg hd_law_13 22 rfl) rfl ?_
  refine lu_iload C (dg hd_law_13 23 rfl) rfl ?_
  refine lu_iconst C (1 : Int32) (dg hd_law_13 24 rfl) (by decide) ?_
  refine lu_iadd C (dg hd_law_13 25 rfl) ?_
  refine lu_sld C h1 (dg hd_law_13 26 rfl) ?_
  refine lu_callC (As := [.int (xs ((nI i) + (1 : Int32)).toNatClampNeg)]) C (sp_Mn_fits l (xs ((nI i) + (1 : Int32)).toNatClampNeg) _) hC (by decide) cv_Mn_fits rfl lk_641 rfl rfl rfl (Nat.le_of_ble_eq_true rfl) hkc hks (dg hd_law_13 27 rfl) ?_
  refine lu_aload C (dg hd_law_13 28 rfl) rfl ?_
  refine lu_aload C (dg hd_law_13 29 rfl) rfl ?_
  refine lu_iload C (dg hd_law_13 30 rfl) rfl ?_
  refine lu_iconst C (1 : Int32) (dg hd_law_13 31 rfl) (by decide) ?_
  refine lu_iadd C (dg hd_law_13 32 rfl) ?_
  refine lu_sld C h1 (dg hd_law_13 33 rfl) ?_
  refine lu_callM (As := [.int (xs ((nI i) + (1 : Int32)).toNatClampNeg)]) C (sp_Mo_fits l (xs ((nI i) + (1 : Int32)).toNatClampNeg) _) hM (by decide) cv_Mo_fits rfl lk_1127 rfl rfl rfl (Nat.le_of_ble_eq_true rfl) hkc hks (dg hd_law_13 34 rfl) ?_
  refine lu_eq C 1401 (dg hd_law_13 35 rfl) (by decide) ?_
  exact hend σ1 τ1 hR1
set_option maxRecDepth 100000 in
theorem lc_26 {p : Program} {l : Launch} {e : Env} {s : State} {m : MethodId} {below : List Frame} {meth : Method} {c : Code} {b N : Nat} {xs : Nat → Int32} {D : va_G} {ca : Nat → ClassId} {aC aM : Nat → Nat} {kc ks : Nat} {Rl : St → St → Prop} (C : LC p s m meth c b N xs D ca aC aM) (hkc : kc ≤ 600000) (hks : ks ≤ 7302249) (hop : ∀ (σ τ : St), Rl σ τ → ∀ (a0 : Int32) (a1 : Int32) (a2 : Int32), ∃ r σ1 τ1, Mn_voice a0 a1 a2 σ = some (r, σ1) ∧ Mo_voice a0 a1 a2 τ = some (r, τ1) ∧ Rl σ1 τ1) {i : Nat} (h1 : vp_in (nI i + (1 : Int32)) N) (h2 : vp_in (nI i + (2 : Int32)) N) (h3 : vp_in (nI i + (3 : Int32)) N) (h4 : vp_in (nI i + (4 : Int32)) N) (h5 : vp_in (nI i + (5 : Int32)) N) {σ τ : St} (hR : Rl σ τ) (hend : ∀ σ τ, Rl σ τ → LU p l e s m below meth c b D ca aC aM kc ks 1401 [(0, .ref b), (1, .ref (aC 0)), (2, .ref (aM 0)), (3, .int (nI i))] [] σ τ) : LU p l e s m below meth c b D ca aC aM kc ks 1032 [(0, .ref b), (1, .ref (aC 0)), (2, .ref (aM 0)), (3, .int (nI i))] [] σ τ := by
  obtain ⟨r, σ1, τ1, hC, hM, hR1⟩ := hop σ τ hR (xs ((nI i) + (1 : Int32)).toNatClampNeg) (xs ((nI i) + (2 : Int32)).toNatClampNeg) (xs ((nI i) + (3 : Int32)).toNatClampNeg)
  refine lu_aload C (dg hd_law_13 38 rfl) rfl ?_
  refine lu_aload C (dg hd_law_13 39 rfl) rfl ?_
  refine lu_iload C (dg hd_law_13 40 rfl) rfl ?_
  refine lu_iconst C (1 : Int32) (dg hd_law_13 41 rfl) (by decide) ?_
  refine lu_iadd C (dg hd_law_13 42 rfl) ?_
  refine lu_sld C h1 (dg hd_law_13 43 rfl) ?_
  refine lu_aload C (dg hd_law_13 44 rfl) rfl ?_
  refine lu_iload C (dg hd_law_13 45 rfl) rfl ?_
  refine lu_iconst C (2 : Int32) (dg hd_law_13 46 rfl) (by decide) ?_
  refine lu_iadd C (dg hd_law_13 47 rfl) ?_
  refine lu_sld C h2 (dg hd_law_13 48 rfl) ?_
  refine lu_aload C (dg hd_law_13 49 rfl) rfl ?_
  refine lu_iload C (dg hd_law_14 0 rfl) rfl ?_
  refine lu_iconst C (3 : Int32) (dg hd_law_14 1 rfl) (by decide) ?_
  refine lu_iadd C (dg hd_law_14 2 rfl) ?_
  refine lu_sld C h3 (dg hd_law_14 3 rfl) ?_
  refine lu_callC (As := [.int (xs ((nI i) + (1 : Int32)).toNatClampNeg), .int (xs ((nI i) + (2 : Int32)).toNatClampNeg), .int (xs ((nI i) + (3 : Int32)).toNatClampNeg)]) C (sp_Mn_voice l (xs ((nI i) + (1 : Int32)).toNatClampNeg) (xs ((nI i) + (2 : Int32)).toNatClampNeg) (xs ((nI i) + (3 : Int32)).toNatClampNeg) _) hC (by decide) cv_Mn_voice rfl lk_656 rfl rfl rfl (Nat.le_of_ble_eq_true rfl) hkc hks (dg hd_law_14 4 rfl) ?_
  refine lu_aload C (dg hd_law_14 5 rfl) rfl ?_
  refine lu_aload C (dg hd_law_14 6 rfl) rfl ?_
  refine lu_iload C (dg hd_law_14 7 rfl) rfl ?_
  refine lu_iconst C (1 : Int32) (dg hd_law_14 8 rfl) (by decide) ?_
  refine lu_iadd C (dg hd_law_14 9 rfl) ?_
  refine lu_sld C h1 (dg hd_law_14 10 rfl) ?_
  refine lu_aload C (dg hd_law_14 11 rfl) rfl ?_
  refine lu_iload C (dg hd_law_14 12 rfl) rfl ?_
  refine lu_iconst C (2 : Int32) (dg hd_law_14 13 rfl) (by decide) ?_
  refine lu_iadd C (dg hd_law_14 14 rfl) ?_
  refine lu_sld C h2 (dg hd_law_14 15 rfl) ?_
  refine lu_aload C (dg hd_law_14 16 rfl) rfl ?_
  refine lu_iload C (dg hd_law_14 17 rfl) rfl ?_
  refine lu_iconst C (3 : Int32) (dg hd_law_14 18 rfl) (by decide) ?_
  refine lu_iadd C (dg hd_law_14 19 rfl) ?_
  refine lu_sld C h3 (dg hd_law_14 20 rfl) ?_
  refine lu_callM (As := [.int (xs ((nI i) + (1 : Int32)).toNatClampNeg), .int (xs ((nI i) + (2 : Int32)).toNatClampNeg), .int (xs ((nI i) + (3 : Int32)).toNatClampNeg)]) C (sp_Mo_voice l (xs ((nI i) + (1 : Int32)).toNatClampNeg) (xs ((nI i) + (2 : Int32)).toNatClampNeg) (xs ((nI i) + (3 : Int32)).toNatClampNeg) _) hM (by decide) cv_Mo_voice rfl lk_1142 rfl rfl rfl (Nat.le_of_ble_eq_true rfl) hkc hks (dg hd_law_14 21 rfl) ?_
  refine lu_eq C 1401 (dg hd_law_14 22 rfl) (by decide) ?_
  exact hend σ1 τ1 hR1
set_option maxRecDepth 100000 in
theorem lc_27 {p : Program} {l : Launch} {e : Env} {s : State} {m : MethodId} {below : List Frame} {meth : Method} {c : Code} {b N : Nat} {xs : Nat → Int32} {D : va_G} {ca : Nat → ClassId} {aC aM : Nat → Nat} {kc ks : Nat} {Rl : St → St → Prop} (C : LC p s m meth c b N xs D ca aC aM) (hkc : kc ≤ 600000) (hks : ks ≤ 7302249) (hop : ∀ (σ τ : St), Rl σ τ → ∀ (a0 : Int32), ∃ r σ1 τ1, Mn_body a0 σ = some (r, σ1) ∧ Mo_body a0 τ = some (r, τ1) ∧ Rl σ1 τ1) {i : Nat} (h1 : vp_in (nI i + (1 : Int32)) N) (h2 : vp_in (nI i + (2 : Int32)) N) (h3 : vp_in (nI i + (3 : Int32)) N) (h4 : vp_in (nI i + (4 : Int32)) N) (h5 : vp_in (nI i + (5 : Int32)) N) {σ τ : St} (hR : Rl σ τ) (hend : ∀ σ τ, Rl σ τ → LU p l e s m below meth c b D ca aC aM kc ks 1401 [(0, .ref b), (1, .ref (aC 0)), (2, .ref (aM 0)), (3, .int (nI i))] [] σ τ) : LU p l e s m below meth c b D ca aC aM kc ks 1075 [(0, .ref b), (1, .ref (aC 0)), (2, .ref (aM 0)), (3, .int (nI i))] [] σ τ := by
  obtain ⟨r, σ1, τ1, hC, hM, hR1⟩ := hop σ τ hR (xs ((nI i) + (1 : Int32)).toNatClampNeg)
  refine lu_aload C (dg hd_law_14 25 rfl) rfl ?_
  refine lu_aload C (dg hd_law_14 26 rfl) rfl ?_
  refine lu_iload C (dg hd_law_14 27 rfl) rfl ?_
  refine lu_iconst C (1 : Int32) (dg hd_law_14 28 rfl) (by decide) ?_
  refine lu_iadd C (dg hd_law_14 29 rfl) ?_
  refine lu_sld C h1 (dg hd_law_14 30 rfl) ?_
  refine lu_callC (As := [.int (xs ((nI i) + (1 : Int32)).toNatClampNeg)]) C (sp_Mn_body l (xs ((nI i) + (1 : Int32)).toNatClampNeg) _) hC (by decide) cv_Mn_body rfl lk_683 rfl rfl rfl (Nat.le_of_ble_eq_true rfl) hkc hks (dg hd_law_14 31 rfl) ?_
  refine lu_aload C (dg hd_law_14 32 rfl) rfl ?_
  refine lu_aload C (dg hd_law_14 33 rfl) rfl ?_
  refine lu_iload C (dg hd_law_14 34 rfl) rfl ?_
  refine lu_iconst C (1 : Int32) (dg hd_law_14 35 rfl) (by decide) ?_
  refine lu_iadd C (dg hd_law_14 36 rfl) ?_
  refine lu_sld C h1 (dg hd_law_14 37 rfl) ?_
  refine lu_callM (As := [.int (xs ((nI i) + (1 : Int32)).toNatClampNeg)]) C (sp_Mo_body l (xs ((nI i) + (1 : Int32)).toNatClampNeg) _) hM (by decide) cv_Mo_body rfl lk_1191 rfl rfl rfl (Nat.le_of_ble_eq_true rfl) hkc hks (dg hd_law_14 38 rfl) ?_
  refine lu_eq C 1401 (dg hd_law_14 39 rfl) (by decide) ?_
  exact hend σ1 τ1 hR1
set_option maxRecDepth 100000 in
theorem lc_28 {p : Program} {l : Launch} {e : Env} {s : State} {m : MethodId} {below : List Frame} {meth : Method} {c : Code} {b N : Nat} {xs : Nat → Int32} {D : va_G} {ca : Nat → ClassId} {aC aM : Nat → Nat} {kc ks : Nat} {Rl : St → St → Prop} (C : LC p s m meth c b N xs D ca aC aM) (hkc : kc ≤ 600000) (hks : ks ≤ 7302249) (hop : ∀ (σ τ : St), Rl σ τ → ∀ (a0 : Int32) (a1 : Int32) (a2 : Int32), ∃ r σ1 τ1, Mn_sheet a0 a1 a2 σ = some (r, σ1) ∧ Mo_sheet a0 a1 a2 τ = some (r, τ1) ∧ Rl σ1 τ1) {i : Nat} (h1 : vp_in (nI i + (1 : Int32)) N) (h2 : vp_in (nI i + (2 : Int32)) N) (h3 : vp_in (nI i + (3 : Int32)) N) (h4 : vp_in (nI i + (4 : Int32)) N) (h5 : vp_in (nI i + (5 : Int32)) N) {σ τ : St} (hR : Rl σ τ) (hend : ∀ σ τ, Rl σ τ → LU p l e s m below meth c b D ca aC aM kc ks 1401 [(0, .ref b), (1, .ref (aC 0)), (2, .ref (aM 0)), (3, .int (nI i))] [] σ τ) : LU p l e s m below meth c b D ca aC aM kc ks 1098 [(0, .ref b), (1, .ref (aC 0)), (2, .ref (aM 0)), (3, .int (nI i))] [] σ τ := by
  obtain ⟨r, σ1, τ1, hC, hM, hR1⟩ := hop σ τ hR (xs ((nI i) + (1 : Int32)).toNatClampNeg) (xs ((nI i) + (2 : Int32)).toNatClampNeg) (xs ((nI i) + (3 : Int32)).toNatClampNeg)
  refine lu_aload C (dg hd_law_14 42 rfl) rfl ?_
  refine lu_aload C (dg hd_law_14 43 rfl) rfl ?_
  refine lu_iload C (dg hd_law_14 44 rfl) rfl ?_
  refine lu_iconst C (1 : Int32) (dg hd_law_14 45 rfl) (by decide) ?_
  refine lu_iadd C (dg hd_law_14 46 rfl) ?_
  refine lu_sld C h1 (dg hd_law_14 47 rfl) ?_
  refine lu_aload C (dg hd_law_14 48 rfl) rfl ?_
  refine lu_iload C (dg hd_law_14 49 rfl) rfl ?_
  refine lu_iconst C (2 : Int32) (dg hd_law_15 0 rfl) (by decide) ?_
  refine lu_iadd C (dg hd_law_15 1 rfl) ?_
  refine lu_sld C h2 (dg hd_law_15 2 rfl) ?_
  refine lu_aload C (dg hd_law_15 3 rfl) rfl ?_
  refine lu_iload C (dg hd_law_15 4 rfl) rfl ?_
  refine lu_iconst C (3 : Int32) (dg hd_law_15 5 rfl) (by decide) ?_
  refine lu_iadd C (dg hd_law_15 6 rfl) ?_
  refine lu_sld C h3 (dg hd_law_15 7 rfl) ?_
  refine lu_callC (As := [.int (xs ((nI i) + (1 : Int32)).toNatClampNeg), .int (xs ((nI i) + (2 : Int32)).toNatClampNeg), .int (xs ((nI i) + (3 : Int32)).toNatClampNeg)]) C (sp_Mn_sheet l (xs ((nI i) + (1 : Int32)).toNatClampNeg) (xs ((nI i) + (2 : Int32)).toNatClampNeg) (xs ((nI i) + (3 : Int32)).toNatClampNeg) _) hC (by decide) cv_Mn_sheet rfl lk_687 rfl rfl rfl (Nat.le_of_ble_eq_true rfl) hkc hks (dg hd_law_15 8 rfl) ?_
  refine lu_aload C (dg hd_law_15 9 rfl) rfl ?_
  refine lu_aload C (dg hd_law_15 10 rfl) rfl ?_
  refine lu_iload C (dg hd_law_15 11 rfl) rfl ?_
  refine lu_iconst C (1 : Int32) (dg hd_law_15 12 rfl) (by decide) ?_
  refine lu_iadd C (dg hd_law_15 13 rfl) ?_
  refine lu_sld C h1 (dg hd_law_15 14 rfl) ?_
  refine lu_aload C (dg hd_law_15 15 rfl) rfl ?_
  refine lu_iload C (dg hd_law_15 16 rfl) rfl ?_
  refine lu_iconst C (2 : Int32) (dg hd_law_15 17 rfl) (by decide) ?_
  refine lu_iadd C (dg hd_law_15 18 rfl) ?_
  refine lu_sld C h2 (dg hd_law_15 19 rfl) ?_
  refine lu_aload C (dg hd_law_15 20 rfl) rfl ?_
  refine lu_iload C (dg hd_law_15 21 rfl) rfl ?_
  refine lu_iconst C (3 : Int32) (dg hd_law_15 22 rfl) (by decide) ?_
  refine lu_iadd C (dg hd_law_15 23 rfl) ?_
  refine lu_sld C h3 (dg hd_law_15 24 rfl) ?_
  refine lu_callM (As := [.int (xs ((nI i) + (1 : Int32)).toNatClampNeg), .int (xs ((nI i) + (2 : Int32)).toNatClampNeg), .int (xs ((nI i) + (3 : Int32)).toNatClampNeg)]) C (sp_Mo_sheet l (xs ((nI i) + (1 : Int32)).toNatClampNeg) (xs ((nI i) + (2 : Int32)).toNatClampNeg) (xs ((nI i) + (3 : Int32)).toNatClampNeg) _) hM (by decide) cv_Mo_sheet rfl lk_1195 rfl rfl rfl (Nat.le_of_ble_eq_true rfl) hkc hks (dg hd_law_15 25 rfl) ?_
  refine lu_eq C 1401 (dg hd_law_15 26 rfl) (by decide) ?_
  exact hend σ1 τ1 hR1
set_option maxRecDepth 100000 in
theorem lc_29 {p : Program} {l : Launch} {e : Env} {s : State} {m : MethodId} {below : List Frame} {meth : Method} {c : Code} {b N : Nat} {xs : Nat → Int32} {D : va_G} {ca : Nat → ClassId} {aC aM : Nat → Nat} {kc ks : Nat} {Rl : St → St → Prop} (C : LC p s m meth c b N xs D ca aC aM) (hkc : kc ≤ 600000) (hks : ks ≤ 7302249) (hop : ∀ (σ τ : St), Rl σ τ → ∀ (a0 : Int32) (a1 : Int32) (a2 : Int32), ∃ r σ1 τ1, Mn_put a0 a1 a2 σ = some (r, σ1) ∧ Mo_put a0 a1 a2 τ = some (r, τ1) ∧ Rl σ1 τ1) {i : Nat} (h1 : vp_in (nI i + (1 : Int32)) N) (h2 : vp_in (nI i + (2 : Int32)) N) (h3 : vp_in (nI i + (3 : Int32)) N) (h4 : vp_in (nI i + (4 : Int32)) N) (h5 : vp_in (nI i + (5 : Int32)) N) {σ τ : St} (hR : Rl σ τ) (hend : ∀ σ τ, Rl σ τ → LU p l e s m below meth c b D ca aC aM kc ks 1401 [(0, .ref b), (1, .ref (aC 0)), (2, .ref (aM 0)), (3, .int (nI i))] [] σ τ) : LU p l e s m below meth c b D ca aC aM kc ks 1141 [(0, .ref b), (1, .ref (aC 0)), (2, .ref (aM 0)), (3, .int (nI i))] [] σ τ := by
  obtain ⟨r, σ1, τ1, hC, hM, hR1⟩ := hop σ τ hR (xs ((nI i) + (1 : Int32)).toNatClampNeg) (xs ((nI i) + (2 : Int32)).toNatClampNeg) (xs ((nI i) + (3 : Int32)).toNatClampNeg)
  refine lu_aload C (dg hd_law_15 29 rfl) rfl ?_
  refine lu_aload C (dg hd_law_15 30 rfl) rfl ?_
  refine lu_iload C (dg hd_law_15 31 rfl) rfl ?_
  refine lu_iconst C (1 : Int32) (dg hd_law_15 32 rfl) (by decide) ?_
  refine lu_iadd C (dg hd_law_15 33 rfl) ?_
  refine lu_sld C h1 (dg hd_law_15 34 rfl) ?_
  refine lu_aload C (dg hd_law_15 35 rfl) rfl ?_
  refine lu_iload C (dg hd_law_15 36 rfl) rfl ?_
  refine lu_iconst C (2 : Int32) (dg hd_law_15 37 rfl) (by decide) ?_
  refine lu_iadd C (dg hd_law_15 38 rfl) ?_
  refine lu_sld C h2 (dg hd_law_15 39 rfl) ?_
  refine lu_aload C (dg hd_law_15 40 rfl) rfl ?_
  refine lu_iload C (dg hd_law_15 41 rfl) rfl ?_
  refine lu_iconst C (3 : Int32) (dg hd_law_15 42 rfl) (by decide) ?_
  refine lu_iadd C (dg hd_law_15 43 rfl) ?_
  refine lu_sld C h3 (dg hd_law_15 44 rfl) ?_
  refine lu_callC (As := [.int (xs ((nI i) + (1 : Int32)).toNatClampNeg), .int (xs ((nI i) + (2 : Int32)).toNatClampNeg), .int (xs ((nI i) + (3 : Int32)).toNatClampNeg)]) C (sp_Mn_put l (xs ((nI i) + (1 : Int32)).toNatClampNeg) (xs ((nI i) + (2 : Int32)).toNatClampNeg) (xs ((nI i) + (3 : Int32)).toNatClampNeg) _) hC (by decide) cv_Mn_put rfl lk_698 rfl rfl rfl (Nat.le_of_ble_eq_true rfl) hkc hks (dg hd_law_15 45 rfl) ?_
  refine lu_aload C (dg hd_law_15 46 rfl) rfl ?_
  refine lu_aload C (dg hd_law_15 47 rfl) rfl ?_
  refine lu_iload C (dg hd_law_15 48 rfl) rfl ?_
  refine lu_iconst C (1 : Int32) (dg hd_law_15 49 rfl) (by decide) ?_
  refine lu_iadd C (dg hd_law_16 0 rfl) ?_
  refine lu_sld C h1 (dg hd_law_16 1 rfl) ?_
  refine lu_aload C (dg hd_law_16 2 rfl) rfl ?_
  refine lu_iload C (dg hd_law_16 3 rfl) rfl ?_
  refine lu_iconst C (2 : Int32) (dg hd_law_16 4 rfl) (by decide) ?_
  refine lu_iadd C (dg hd_law_16 5 rfl) ?_
  refine lu_sld C h2 (dg hd_law_16 6 rfl) ?_
  refine lu_aload C (dg hd_law_16 7 rfl) rfl ?_
  refine lu_iload C (dg hd_law_16 8 rfl) rfl ?_
  refine lu_iconst C (3 : Int32) (dg hd_law_16 9 rfl) (by decide) ?_
  refine lu_iadd C (dg hd_law_16 10 rfl) ?_
  refine lu_sld C h3 (dg hd_law_16 11 rfl) ?_
  refine lu_callM (As := [.int (xs ((nI i) + (1 : Int32)).toNatClampNeg), .int (xs ((nI i) + (2 : Int32)).toNatClampNeg), .int (xs ((nI i) + (3 : Int32)).toNatClampNeg)]) C (sp_Mo_put l (xs ((nI i) + (1 : Int32)).toNatClampNeg) (xs ((nI i) + (2 : Int32)).toNatClampNeg) (xs ((nI i) + (3 : Int32)).toNatClampNeg) _) hM (by decide) cv_Mo_put rfl lk_1199 rfl rfl rfl (Nat.le_of_ble_eq_true rfl) hkc hks (dg hd_law_16 12 rfl) ?_
  refine lu_eq C 1401 (dg hd_law_16 13 rfl) (by decide) ?_
  exact hend σ1 τ1 hR1
set_option maxRecDepth 100000 in
theorem lc_30 {p : Program} {l : Launch} {e : Env} {s : State} {m : MethodId} {below : List Frame} {meth : Method} {c : Code} {b N : Nat} {xs : Nat → Int32} {D : va_G} {ca : Nat → ClassId} {aC aM : Nat → Nat} {kc ks : Nat} {Rl : St → St → Prop} (C : LC p s m meth c b N xs D ca aC aM) (hkc : kc ≤ 600000) (hks : ks ≤ 7302249) (hop : ∀ (σ τ : St), Rl σ τ → ∀ (a0 : Int32) (a1 : Int32) (a2 : Int32) (a3 : Int32) (a4 : Int32), ∃ r σ1 τ1, Mn_move a0 a1 a2 a3 a4 σ = some (r, σ1) ∧ Mo_move a0 a1 a2 a3 a4 τ = some (r, τ1) ∧ Rl σ1 τ1) {i : Nat} (h1 : vp_in (nI i + (1 : Int32)) N) (h2 : vp_in (nI i + (2 : Int32)) N) (h3 : vp_in (nI i + (3 : Int32)) N) (h4 : vp_in (nI i + (4 : Int32)) N) (h5 : vp_in (nI i + (5 : Int32)) N) {σ τ : St} (hR : Rl σ τ) (hend : ∀ σ τ, Rl σ τ → LU p l e s m below meth c b D ca aC aM kc ks 1401 [(0, .ref b), (1, .ref (aC 0)), (2, .ref (aM 0)), (3, .int (nI i))] [] σ τ) : LU p l e s m below meth c b D ca aC aM kc ks 1184 [(0, .ref b), (1, .ref (aC 0)), (2, .ref (aM 0)), (3, .int (nI i))] [] σ τ := by
  obtain ⟨r, σ1, τ1, hC, hM, hR1⟩ := hop σ τ hR (xs ((nI i) + (1 : Int32)).toNatClampNeg) (xs ((nI i) + (2 : Int32)).toNatClampNeg) (xs ((nI i) + (3 : Int32)).toNatClampNeg) (xs ((nI i) + (4 : Int32)).toNatClampNeg) (xs ((nI i) + (5 : Int32)).toNatClampNeg)
  refine lu_aload C (dg hd_law_16 16 rfl) rfl ?_
  refine lu_aload C (dg hd_law_16 17 rfl) rfl ?_
  refine lu_iload C (dg hd_law_16 18 rfl) rfl ?_
  refine lu_iconst C (1 : Int32) (dg hd_law_16 19 rfl) (by decide) ?_
  refine lu_iadd C (dg hd_law_16 20 rfl) ?_
  refine lu_sld C h1 (dg hd_law_16 21 rfl) ?_
  refine lu_aload C (dg hd_law_16 22 rfl) rfl ?_
  refine lu_iload C (dg hd_law_16 23 rfl) rfl ?_
  refine lu_iconst C (2 : Int32) (dg hd_law_16 24 rfl) (by decide) ?_
  refine lu_iadd C (dg hd_law_16 25 rfl) ?_
  refine lu_sld C h2 (dg hd_law_16 26 rfl) ?_
  refine lu_aload C (dg hd_law_16 27 rfl) rfl ?_
  refine lu_iload C (dg hd_law_16 28 rfl) rfl ?_
  refine lu_iconst C (3 : Int32) (dg hd_law_16 29 rfl) (by decide) ?_
  refine lu_iadd C (dg hd_law_16 30 rfl) ?_
  refine lu_sld C h3 (dg hd_law_16 31 rfl) ?_
  refine lu_aload C (dg hd_law_16 32 rfl) rfl ?_
  refine lu_iload C (dg hd_law_16 33 rfl) rfl ?_
  refine lu_iconst C (4 : Int32) (dg hd_law_16 34 rfl) (by decide) ?_
  refine lu_iadd C (dg hd_law_16 35 rfl) ?_
  refine lu_sld C h4 (dg hd_law_16 36 rfl) ?_
  refine lu_aload C (dg hd_law_16 37 rfl) rfl ?_
  refine lu_iload C (dg hd_law_16 38 rfl) rfl ?_
  refine lu_iconst C (5 : Int32) (dg hd_law_16 39 rfl) (by decide) ?_
  refine lu_iadd C (dg hd_law_16 40 rfl) ?_
  refine lu_sld C h5 (dg hd_law_16 41 rfl) ?_
  refine lu_callC (As := [.int (xs ((nI i) + (1 : Int32)).toNatClampNeg), .int (xs ((nI i) + (2 : Int32)).toNatClampNeg), .int (xs ((nI i) + (3 : Int32)).toNatClampNeg), .int (xs ((nI i) + (4 : Int32)).toNatClampNeg), .int (xs ((nI i) + (5 : Int32)).toNatClampNeg)]) C (sp_Mn_move l (xs ((nI i) + (1 : Int32)).toNatClampNeg) (xs ((nI i) + (2 : Int32)).toNatClampNeg) (xs ((nI i) + (3 : Int32)).toNatClampNeg) (xs ((nI i) + (4 : Int32)).toNatClampNeg) (xs ((nI i) + (5 : Int32)).toNatClampNeg) _) hC (by decide) cv_Mn_move rfl lk_706 rfl rfl rfl (Nat.le_of_ble_eq_true rfl) hkc hks (dg hd_law_16 42 rfl) ?_
  refine lu_aload C (dg hd_law_16 43 rfl) rfl ?_
  refine lu_aload C (dg hd_law_16 44 rfl) rfl ?_
  refine lu_iload C (dg hd_law_16 45 rfl) rfl ?_
  refine lu_iconst C (1 : Int32) (dg hd_law_16 46 rfl) (by decide) ?_
  refine lu_iadd C (dg hd_law_16 47 rfl) ?_
  refine lu_sld C h1 (dg hd_law_16 48 rfl) ?_
  refine lu_aload C (dg hd_law_16 49 rfl) rfl ?_
  refine lu_iload C (dg hd_law_17 0 rfl) rfl ?_
  refine lu_iconst C (2 : Int32) (dg hd_law_17 1 rfl) (by decide) ?_
  refine lu_iadd C (dg hd_law_17 2 rfl) ?_
  refine lu_sld C h2 (dg hd_law_17 3 rfl) ?_
  refine lu_aload C (dg hd_law_17 4 rfl) rfl ?_
  refine lu_iload C (dg hd_law_17 5 rfl) rfl ?_
  refine lu_iconst C (3 : Int32) (dg hd_law_17 6 rfl) (by decide) ?_
  refine lu_iadd C (dg hd_law_17 7 rfl) ?_
  refine lu_sld C h3 (dg hd_law_17 8 rfl) ?_
  refine lu_aload C (dg hd_law_17 9 rfl) rfl ?_
  refine lu_iload C (dg hd_law_17 10 rfl) rfl ?_
  refine lu_iconst C (4 : Int32) (dg hd_law_17 11 rfl) (by decide) ?_
  refine lu_iadd C (dg hd_law_17 12 rfl) ?_
  refine lu_sld C h4 (dg hd_law_17 13 rfl) ?_
  refine lu_aload C (dg hd_law_17 14 rfl) rfl ?_
  refine lu_iload C (dg hd_law_17 15 rfl) rfl ?_
  refine lu_iconst C (5 : Int32) (dg hd_law_17 16 rfl) (by decide) ?_
  refine lu_iadd C (dg hd_law_17 17 rfl) ?_
  refine lu_sld C h5 (dg hd_law_17 18 rfl) ?_
  refine lu_callM (As := [.int (xs ((nI i) + (1 : Int32)).toNatClampNeg), .int (xs ((nI i) + (2 : Int32)).toNatClampNeg), .int (xs ((nI i) + (3 : Int32)).toNatClampNeg), .int (xs ((nI i) + (4 : Int32)).toNatClampNeg), .int (xs ((nI i) + (5 : Int32)).toNatClampNeg)]) C (sp_Mo_move l (xs ((nI i) + (1 : Int32)).toNatClampNeg) (xs ((nI i) + (2 : Int32)).toNatClampNeg) (xs ((nI i) + (3 : Int32)).toNatClampNeg) (xs ((nI i) + (4 : Int32)).toNatClampNeg) (xs ((nI i) + (5 : Int32)).toNatClampNeg) _) hM (by decide) cv_Mo_move rfl lk_1203 rfl rfl rfl (Nat.le_of_ble_eq_true rfl) hkc hks (dg hd_law_17 19 rfl) ?_
  refine lu_eq C 1401 (dg hd_law_17 20 rfl) (by decide) ?_
  exact hend σ1 τ1 hR1
set_option maxRecDepth 100000 in
theorem lc_31 {p : Program} {l : Launch} {e : Env} {s : State} {m : MethodId} {below : List Frame} {meth : Method} {c : Code} {b N : Nat} {xs : Nat → Int32} {D : va_G} {ca : Nat → ClassId} {aC aM : Nat → Nat} {kc ks : Nat} {Rl : St → St → Prop} (C : LC p s m meth c b N xs D ca aC aM) (hkc : kc ≤ 600000) (hks : ks ≤ 7302249) (hop : ∀ (σ τ : St), Rl σ τ → ∀ (a0 : Int32), ∃ r σ1 τ1, Mn_breaths a0 σ = some (r, σ1) ∧ Mo_breaths a0 τ = some (r, τ1) ∧ Rl σ1 τ1) {i : Nat} (h1 : vp_in (nI i + (1 : Int32)) N) (h2 : vp_in (nI i + (2 : Int32)) N) (h3 : vp_in (nI i + (3 : Int32)) N) (h4 : vp_in (nI i + (4 : Int32)) N) (h5 : vp_in (nI i + (5 : Int32)) N) {σ τ : St} (hR : Rl σ τ) (hend : ∀ σ τ, Rl σ τ → LU p l e s m below meth c b D ca aC aM kc ks 1401 [(0, .ref b), (1, .ref (aC 0)), (2, .ref (aM 0)), (3, .int (nI i))] [] σ τ) : LU p l e s m below meth c b D ca aC aM kc ks 1247 [(0, .ref b), (1, .ref (aC 0)), (2, .ref (aM 0)), (3, .int (nI i))] [] σ τ := by
  obtain ⟨r, σ1, τ1, hC, hM, hR1⟩ := hop σ τ hR (xs ((nI i) + (1 : Int32)).toNatClampNeg)
  refine lu_aload C (dg hd_law_17 23 rfl) rfl ?_
  refine lu_aload C (dg hd_law_17 24 rfl) rfl ?_
  refine lu_iload C (dg hd_law_17 25 rfl) rfl ?_
  refine lu_iconst C (1 : Int32) (dg hd_law_17 26 rfl) (by decide) ?_
  refine lu_iadd C (dg hd_law_17 27 rfl) ?_
  refine lu_sld C h1 (dg hd_law_17 28 rfl) ?_
  refine lu_callC (As := [.int (xs ((nI i) + (1 : Int32)).toNatClampNeg)]) C (sp_Mn_breaths l (xs ((nI i) + (1 : Int32)).toNatClampNeg) _) hC (by decide) cv_Mn_breaths rfl lk_715 rfl rfl rfl (Nat.le_of_ble_eq_true rfl) hkc hks (dg hd_law_17 29 rfl) ?_
  refine lu_aload C (dg hd_law_17 30 rfl) rfl ?_
  refine lu_aload C (dg hd_law_17 31 rfl) rfl ?_
  refine lu_iload C (dg hd_law_17 32 rfl) rfl ?_
  refine lu_iconst C (1 : Int32) (dg hd_law_17 33 rfl) (by decide) ?_
  refine lu_iadd C (dg hd_law_17 34 rfl) ?_
  refine lu_sld C h1 (dg hd_law_17 35 rfl) ?_
  refine lu_callM (As := [.int (xs ((nI i) + (1 : Int32)).toNatClampNeg)]) C (sp_Mo_breaths l (xs ((nI i) + (1 : Int32)).toNatClampNeg) _) hM (by decide) cv_Mo_breaths rfl lk_1211 rfl rfl rfl (Nat.le_of_ble_eq_true rfl) hkc hks (dg hd_law_17 36 rfl) ?_
  refine lu_eq C 1401 (dg hd_law_17 37 rfl) (by decide) ?_
  exact hend σ1 τ1 hR1
set_option maxRecDepth 100000 in
theorem lc_32 {p : Program} {l : Launch} {e : Env} {s : State} {m : MethodId} {below : List Frame} {meth : Method} {c : Code} {b N : Nat} {xs : Nat → Int32} {D : va_G} {ca : Nat → ClassId} {aC aM : Nat → Nat} {kc ks : Nat} {Rl : St → St → Prop} (C : LC p s m meth c b N xs D ca aC aM) (hkc : kc ≤ 600000) (hks : ks ≤ 7302249) (hop : ∀ (σ τ : St), Rl σ τ → ∀ (a0 : Int32), ∃ r σ1 τ1, Mn_judge a0 σ = some (r, σ1) ∧ Mo_judge a0 τ = some (r, τ1) ∧ Rl σ1 τ1) {i : Nat} (h1 : vp_in (nI i + (1 : Int32)) N) (h2 : vp_in (nI i + (2 : Int32)) N) (h3 : vp_in (nI i + (3 : Int32)) N) (h4 : vp_in (nI i + (4 : Int32)) N) (h5 : vp_in (nI i + (5 : Int32)) N) {σ τ : St} (hR : Rl σ τ) (hend : ∀ σ τ, Rl σ τ → LU p l e s m below meth c b D ca aC aM kc ks 1401 [(0, .ref b), (1, .ref (aC 0)), (2, .ref (aM 0)), (3, .int (nI i))] [] σ τ) : LU p l e s m below meth c b D ca aC aM kc ks 1270 [(0, .ref b), (1, .ref (aC 0)), (2, .ref (aM 0)), (3, .int (nI i))] [] σ τ := by
  obtain ⟨r, σ1, τ1, hC, hM, hR1⟩ := hop σ τ hR (xs ((nI i) + (1 : Int32)).toNatClampNeg)
  refine lu_aload C (dg hd_law_17 40 rfl) rfl ?_
  refine lu_aload C (dg hd_law_17 41 rfl) rfl ?_
  refine lu_iload C (dg hd_law_17 42 rfl) rfl ?_
  refine lu_iconst C (1 : Int32) (dg hd_law_17 43 rfl) (by decide) ?_
  refine lu_iadd C (dg hd_law_17 44 rfl) ?_
  refine lu_sld C h1 (dg hd_law_17 45 rfl) ?_
  refine lu_callC (As := [.int (xs ((nI i) + (1 : Int32)).toNatClampNeg)]) C (sp_Mn_judge l (xs ((nI i) + (1 : Int32)).toNatClampNeg) _) hC (by decide) cv_Mn_judge rfl lk_724 rfl rfl rfl (Nat.le_of_ble_eq_true rfl) hkc hks (dg hd_law_17 46 rfl) ?_
  refine lu_aload C (dg hd_law_17 47 rfl) rfl ?_
  refine lu_aload C (dg hd_law_17 48 rfl) rfl ?_
  refine lu_iload C (dg hd_law_17 49 rfl) rfl ?_
  refine lu_iconst C (1 : Int32) (dg hd_law_18 0 rfl) (by decide) ?_
  refine lu_iadd C (dg hd_law_18 1 rfl) ?_
  refine lu_sld C h1 (dg hd_law_18 2 rfl) ?_
  refine lu_callM (As := [.int (xs ((nI i) + (1 : Int32)).toNatClampNeg)]) C (sp_Mo_judge l (xs ((nI i) + (1 : Int32)).toNatClampNeg) _) hM (by decide) cv_Mo_judge rfl lk_1215 rfl rfl rfl (Nat.le_of_ble_eq_true rfl) hkc hks (dg hd_law_18 3 rfl) ?_
  refine lu_eq C 1401 (dg hd_law_18 4 rfl) (by decide) ?_
  exact hend σ1 τ1 hR1
set_option maxRecDepth 100000 in
theorem lc_33 {p : Program} {l : Launch} {e : Env} {s : State} {m : MethodId} {below : List Frame} {meth : Method} {c : Code} {b N : Nat} {xs : Nat → Int32} {D : va_G} {ca : Nat → ClassId} {aC aM : Nat → Nat} {kc ks : Nat} {Rl : St → St → Prop} (C : LC p s m meth c b N xs D ca aC aM) (hkc : kc ≤ 600000) (hks : ks ≤ 7302249) (hop : ∀ (σ τ : St), Rl σ τ → ∀ (_ : Unit), ∃ r σ1 τ1, Mn_image σ = some (r, σ1) ∧ Mo_image τ = some (r, τ1) ∧ Rl σ1 τ1) {i : Nat} (h1 : vp_in (nI i + (1 : Int32)) N) (h2 : vp_in (nI i + (2 : Int32)) N) (h3 : vp_in (nI i + (3 : Int32)) N) (h4 : vp_in (nI i + (4 : Int32)) N) (h5 : vp_in (nI i + (5 : Int32)) N) {σ τ : St} (hR : Rl σ τ) (hend : ∀ σ τ, Rl σ τ → LU p l e s m below meth c b D ca aC aM kc ks 1401 [(0, .ref b), (1, .ref (aC 0)), (2, .ref (aM 0)), (3, .int (nI i))] [] σ τ) : LU p l e s m below meth c b D ca aC aM kc ks 1293 [(0, .ref b), (1, .ref (aC 0)), (2, .ref (aM 0)), (3, .int (nI i))] [] σ τ := by
  obtain ⟨r, σ1, τ1, hC, hM, hR1⟩ := hop σ τ hR ()
  refine lu_aload C (dg hd_law_18 7 rfl) rfl ?_
  refine lu_callC (As := []) C (sp_Mn_image l  _) hC (by decide) cv_Mn_image rfl lk_732 rfl rfl rfl (Nat.le_of_ble_eq_true rfl) hkc hks (dg hd_law_18 8 rfl) ?_
  refine lu_aload C (dg hd_law_18 9 rfl) rfl ?_
  refine lu_callM (As := []) C (sp_Mo_image l  _) hM (by decide) cv_Mo_image rfl lk_1219 rfl rfl rfl (Nat.le_of_ble_eq_true rfl) hkc hks (dg hd_law_18 10 rfl) ?_
  refine lu_eq C 1401 (dg hd_law_18 11 rfl) (by decide) ?_
  exact hend σ1 τ1 hR1
set_option maxRecDepth 100000 in
theorem lc_34 {p : Program} {l : Launch} {e : Env} {s : State} {m : MethodId} {below : List Frame} {meth : Method} {c : Code} {b N : Nat} {xs : Nat → Int32} {D : va_G} {ca : Nat → ClassId} {aC aM : Nat → Nat} {kc ks : Nat} {Rl : St → St → Prop} (C : LC p s m meth c b N xs D ca aC aM) (hkc : kc ≤ 600000) (hks : ks ≤ 7302249) (hop : ∀ (σ τ : St), Rl σ τ → ∀ (_ : Unit), ∃ r σ1 τ1, Mn_restore σ = some (r, σ1) ∧ Mo_restore τ = some (r, τ1) ∧ Rl σ1 τ1) {i : Nat} (h1 : vp_in (nI i + (1 : Int32)) N) (h2 : vp_in (nI i + (2 : Int32)) N) (h3 : vp_in (nI i + (3 : Int32)) N) (h4 : vp_in (nI i + (4 : Int32)) N) (h5 : vp_in (nI i + (5 : Int32)) N) {σ τ : St} (hR : Rl σ τ) (hend : ∀ σ τ, Rl σ τ → LU p l e s m below meth c b D ca aC aM kc ks 1401 [(0, .ref b), (1, .ref (aC 0)), (2, .ref (aM 0)), (3, .int (nI i))] [] σ τ) : LU p l e s m below meth c b D ca aC aM kc ks 1306 [(0, .ref b), (1, .ref (aC 0)), (2, .ref (aM 0)), (3, .int (nI i))] [] σ τ := by
  obtain ⟨r, σ1, τ1, hC, hM, hR1⟩ := hop σ τ hR ()
  refine lu_aload C (dg hd_law_18 14 rfl) rfl ?_
  refine lu_callC (As := []) C (sp_Mn_restore l  _) hC (by decide) cv_Mn_restore rfl lk_746 rfl rfl rfl (Nat.le_of_ble_eq_true rfl) hkc hks (dg hd_law_18 15 rfl) ?_
  refine lu_aload C (dg hd_law_18 16 rfl) rfl ?_
  refine lu_callM (As := []) C (sp_Mo_restore l  _) hM (by decide) cv_Mo_restore rfl lk_1223 rfl rfl rfl (Nat.le_of_ble_eq_true rfl) hkc hks (dg hd_law_18 17 rfl) ?_
  refine lu_eq C 1401 (dg hd_law_18 18 rfl) (by decide) ?_
  exact hend σ1 τ1 hR1
set_option maxRecDepth 100000 in
theorem lc_35 {p : Program} {l : Launch} {e : Env} {s : State} {m : MethodId} {below : List Frame} {meth : Method} {c : Code} {b N : Nat} {xs : Nat → Int32} {D : va_G} {ca : Nat → ClassId} {aC aM : Nat → Nat} {kc ks : Nat} {Rl : St → St → Prop} (C : LC p s m meth c b N xs D ca aC aM) (hkc : kc ≤ 600000) (hks : ks ≤ 7302249) (hop : ∀ (σ τ : St), Rl σ τ → ∀ (a0 : Int32), ∃ r σ1 τ1, Mn_tell a0 σ = some (r, σ1) ∧ Mo_tell a0 τ = some (r, τ1) ∧ Rl σ1 τ1) {i : Nat} (h1 : vp_in (nI i + (1 : Int32)) N) (h2 : vp_in (nI i + (2 : Int32)) N) (h3 : vp_in (nI i + (3 : Int32)) N) (h4 : vp_in (nI i + (4 : Int32)) N) (h5 : vp_in (nI i + (5 : Int32)) N) {σ τ : St} (hR : Rl σ τ) (hend : ∀ σ τ, Rl σ τ → LU p l e s m below meth c b D ca aC aM kc ks 1401 [(0, .ref b), (1, .ref (aC 0)), (2, .ref (aM 0)), (3, .int (nI i))] [] σ τ) : LU p l e s m below meth c b D ca aC aM kc ks 1319 [(0, .ref b), (1, .ref (aC 0)), (2, .ref (aM 0)), (3, .int (nI i))] [] σ τ := by
  obtain ⟨r, σ1, τ1, hC, hM, hR1⟩ := hop σ τ hR (xs ((nI i) + (1 : Int32)).toNatClampNeg)
  refine lu_aload C (dg hd_law_18 21 rfl) rfl ?_
  refine lu_aload C (dg hd_law_18 22 rfl) rfl ?_
  refine lu_iload C (dg hd_law_18 23 rfl) rfl ?_
  refine lu_iconst C (1 : Int32) (dg hd_law_18 24 rfl) (by decide) ?_
  refine lu_iadd C (dg hd_law_18 25 rfl) ?_
  refine lu_sld C h1 (dg hd_law_18 26 rfl) ?_
  refine lu_callC (As := [.int (xs ((nI i) + (1 : Int32)).toNatClampNeg)]) C (sp_Mn_tell l (xs ((nI i) + (1 : Int32)).toNatClampNeg) _) hC (by decide) cv_Mn_tell rfl lk_750 rfl rfl rfl (Nat.le_of_ble_eq_true rfl) hkc hks (dg hd_law_18 27 rfl) ?_
  refine lu_aload C (dg hd_law_18 28 rfl) rfl ?_
  refine lu_aload C (dg hd_law_18 29 rfl) rfl ?_
  refine lu_iload C (dg hd_law_18 30 rfl) rfl ?_
  refine lu_iconst C (1 : Int32) (dg hd_law_18 31 rfl) (by decide) ?_
  refine lu_iadd C (dg hd_law_18 32 rfl) ?_
  refine lu_sld C h1 (dg hd_law_18 33 rfl) ?_
  refine lu_callM (As := [.int (xs ((nI i) + (1 : Int32)).toNatClampNeg)]) C (sp_Mo_tell l (xs ((nI i) + (1 : Int32)).toNatClampNeg) _) hM (by decide) cv_Mo_tell rfl lk_1227 rfl rfl rfl (Nat.le_of_ble_eq_true rfl) hkc hks (dg hd_law_18 34 rfl) ?_
  refine lu_eq C 1401 (dg hd_law_18 35 rfl) (by decide) ?_
  exact hend σ1 τ1 hR1
set_option maxRecDepth 100000 in
theorem lc_36 {p : Program} {l : Launch} {e : Env} {s : State} {m : MethodId} {below : List Frame} {meth : Method} {c : Code} {b N : Nat} {xs : Nat → Int32} {D : va_G} {ca : Nat → ClassId} {aC aM : Nat → Nat} {kc ks : Nat} {Rl : St → St → Prop} (C : LC p s m meth c b N xs D ca aC aM) (hkc : kc ≤ 600000) (hks : ks ≤ 7302249) (hop : ∀ (σ τ : St), Rl σ τ → ∀ (_ : Unit), ∃ r σ1 τ1, Mn_check σ = some (r, σ1) ∧ Mo_check τ = some (r, τ1) ∧ Rl σ1 τ1) {i : Nat} (h1 : vp_in (nI i + (1 : Int32)) N) (h2 : vp_in (nI i + (2 : Int32)) N) (h3 : vp_in (nI i + (3 : Int32)) N) (h4 : vp_in (nI i + (4 : Int32)) N) (h5 : vp_in (nI i + (5 : Int32)) N) {σ τ : St} (hR : Rl σ τ) (hend : ∀ σ τ, Rl σ τ → LU p l e s m below meth c b D ca aC aM kc ks 1401 [(0, .ref b), (1, .ref (aC 0)), (2, .ref (aM 0)), (3, .int (nI i))] [] σ τ) : LU p l e s m below meth c b D ca aC aM kc ks 1342 [(0, .ref b), (1, .ref (aC 0)), (2, .ref (aM 0)), (3, .int (nI i))] [] σ τ := by
  obtain ⟨r, σ1, τ1, hC, hM, hR1⟩ := hop σ τ hR ()
  refine lu_aload C (dg hd_law_18 38 rfl) rfl ?_
  refine lu_callC (As := []) C (sp_Mn_check l  _) hC (by decide) cv_Mn_check rfl lk_754 rfl rfl rfl (Nat.le_of_ble_eq_true rfl) hkc hks (dg hd_law_18 39 rfl) ?_
  refine lu_aload C (dg hd_law_18 40 rfl) rfl ?_
  refine lu_callM (As := []) C (sp_Mo_check l  _) hM (by decide) cv_Mo_check rfl lk_1231 rfl rfl rfl (Nat.le_of_ble_eq_true rfl) hkc hks (dg hd_law_18 41 rfl) ?_
  refine lu_eq C 1401 (dg hd_law_18 42 rfl) (by decide) ?_
  exact hend σ1 τ1 hR1
set_option maxRecDepth 100000 in
theorem lc_37 {p : Program} {l : Launch} {e : Env} {s : State} {m : MethodId} {below : List Frame} {meth : Method} {c : Code} {b N : Nat} {xs : Nat → Int32} {D : va_G} {ca : Nat → ClassId} {aC aM : Nat → Nat} {kc ks : Nat} {Rl : St → St → Prop} (C : LC p s m meth c b N xs D ca aC aM) (hkc : kc ≤ 600000) (hks : ks ≤ 7302249) (hop : ∀ (σ τ : St), Rl σ τ → ∀ (a0 : Int32), ∃ r σ1 τ1, Mn_count a0 σ = some (r, σ1) ∧ Mo_count a0 τ = some (r, τ1) ∧ Rl σ1 τ1) {i : Nat} (h1 : vp_in (nI i + (1 : Int32)) N) (h2 : vp_in (nI i + (2 : Int32)) N) (h3 : vp_in (nI i + (3 : Int32)) N) (h4 : vp_in (nI i + (4 : Int32)) N) (h5 : vp_in (nI i + (5 : Int32)) N) {σ τ : St} (hR : Rl σ τ) (hend : ∀ σ τ, Rl σ τ → LU p l e s m below meth c b D ca aC aM kc ks 1401 [(0, .ref b), (1, .ref (aC 0)), (2, .ref (aM 0)), (3, .int (nI i))] [] σ τ) : LU p l e s m below meth c b D ca aC aM kc ks 1355 [(0, .ref b), (1, .ref (aC 0)), (2, .ref (aM 0)), (3, .int (nI i))] [] σ τ := by
  obtain ⟨r, σ1, τ1, hC, hM, hR1⟩ := hop σ τ hR (xs ((nI i) + (1 : Int32)).toNatClampNeg)
  refine lu_aload C (dg hd_law_18 45 rfl) rfl ?_
  refine lu_aload C (dg hd_law_18 46 rfl) rfl ?_
  refine lu_iload C (dg hd_law_18 47 rfl) rfl ?_
  refine lu_iconst C (1 : Int32) (dg hd_law_18 48 rfl) (by decide) ?_
  refine lu_iadd C (dg hd_law_18 49 rfl) ?_
  refine lu_sld C h1 (dg hd_law_19 0 rfl) ?_
  refine lu_callC (As := [.int (xs ((nI i) + (1 : Int32)).toNatClampNeg)]) C (sp_Mn_count l (xs ((nI i) + (1 : Int32)).toNatClampNeg) _) hC (by decide) cv_Mn_count rfl lk_758 rfl rfl rfl (Nat.le_of_ble_eq_true rfl) hkc hks (dg hd_law_19 1 rfl) ?_
  refine lu_aload C (dg hd_law_19 2 rfl) rfl ?_
  refine lu_aload C (dg hd_law_19 3 rfl) rfl ?_
  refine lu_iload C (dg hd_law_19 4 rfl) rfl ?_
  refine lu_iconst C (1 : Int32) (dg hd_law_19 5 rfl) (by decide) ?_
  refine lu_iadd C (dg hd_law_19 6 rfl) ?_
  refine lu_sld C h1 (dg hd_law_19 7 rfl) ?_
  refine lu_callM (As := [.int (xs ((nI i) + (1 : Int32)).toNatClampNeg)]) C (sp_Mo_count l (xs ((nI i) + (1 : Int32)).toNatClampNeg) _) hM (by decide) cv_Mo_count rfl lk_1235 rfl rfl rfl (Nat.le_of_ble_eq_true rfl) hkc hks (dg hd_law_19 8 rfl) ?_
  refine lu_eq C 1401 (dg hd_law_19 9 rfl) (by decide) ?_
  exact hend σ1 τ1 hR1
set_option maxRecDepth 100000 in
theorem lc_38 {p : Program} {l : Launch} {e : Env} {s : State} {m : MethodId} {below : List Frame} {meth : Method} {c : Code} {b N : Nat} {xs : Nat → Int32} {D : va_G} {ca : Nat → ClassId} {aC aM : Nat → Nat} {kc ks : Nat} {Rl : St → St → Prop} (C : LC p s m meth c b N xs D ca aC aM) (hkc : kc ≤ 600000) (hks : ks ≤ 7302249) (hop : ∀ (σ τ : St), Rl σ τ → ∀ (a0 : Int32), ∃ r σ1 τ1, Mn_told a0 σ = some (r, σ1) ∧ Mo_told a0 τ = some (r, τ1) ∧ Rl σ1 τ1) {i : Nat} (h1 : vp_in (nI i + (1 : Int32)) N) (h2 : vp_in (nI i + (2 : Int32)) N) (h3 : vp_in (nI i + (3 : Int32)) N) (h4 : vp_in (nI i + (4 : Int32)) N) (h5 : vp_in (nI i + (5 : Int32)) N) {σ τ : St} (hR : Rl σ τ) (hend : ∀ σ τ, Rl σ τ → LU p l e s m below meth c b D ca aC aM kc ks 1401 [(0, .ref b), (1, .ref (aC 0)), (2, .ref (aM 0)), (3, .int (nI i))] [] σ τ) : LU p l e s m below meth c b D ca aC aM kc ks 1378 [(0, .ref b), (1, .ref (aC 0)), (2, .ref (aM 0)), (3, .int (nI i))] [] σ τ := by
  obtain ⟨r, σ1, τ1, hC, hM, hR1⟩ := hop σ τ hR (xs ((nI i) + (1 : Int32)).toNatClampNeg)
  refine lu_aload C (dg hd_law_19 12 rfl) rfl ?_
  refine lu_aload C (dg hd_law_19 13 rfl) rfl ?_
  refine lu_iload C (dg hd_law_19 14 rfl) rfl ?_
  refine lu_iconst C (1 : Int32) (dg hd_law_19 15 rfl) (by decide) ?_
  refine lu_iadd C (dg hd_law_19 16 rfl) ?_
  refine lu_sld C h1 (dg hd_law_19 17 rfl) ?_
  refine lu_callC (As := [.int (xs ((nI i) + (1 : Int32)).toNatClampNeg)]) C (sp_Mn_told l (xs ((nI i) + (1 : Int32)).toNatClampNeg) _) hC (by decide) cv_Mn_told rfl lk_763 rfl rfl rfl (Nat.le_of_ble_eq_true rfl) hkc hks (dg hd_law_19 18 rfl) ?_
  refine lu_aload C (dg hd_law_19 19 rfl) rfl ?_
  refine lu_aload C (dg hd_law_19 20 rfl) rfl ?_
  refine lu_iload C (dg hd_law_19 21 rfl) rfl ?_
  refine lu_iconst C (1 : Int32) (dg hd_law_19 22 rfl) (by decide) ?_
  refine lu_iadd C (dg hd_law_19 23 rfl) ?_
  refine lu_sld C h1 (dg hd_law_19 24 rfl) ?_
  refine lu_callM (As := [.int (xs ((nI i) + (1 : Int32)).toNatClampNeg)]) C (sp_Mo_told l (xs ((nI i) + (1 : Int32)).toNatClampNeg) _) hM (by decide) cv_Mo_told rfl lk_1239 rfl rfl rfl (Nat.le_of_ble_eq_true rfl) hkc hks (dg hd_law_19 25 rfl) ?_
  refine lu_eq C 1401 (dg hd_law_19 26 rfl) (by decide) ?_
  exact hend σ1 τ1 hR1
