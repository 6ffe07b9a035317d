/-! ===== the whole parser; text ===== -/
theorem or_2 {G : Gt} {op p n d : Nat} {x1 : Int32} {rC rR : Nat → Int32 → St → Option (Int32 × St)} {σ τ : St} (hrec : ∀ p n d σ τ, PQ G op p n d σ τ → s2 (rC 1 x1 σ) (rR 1 0 τ) (Po G op p n d)) (h : PQ G op p n d σ τ) : s2 (Rd_readOr rC x1 σ) (Mo_any rR τ) (Po G op p n d) := by
  rw [Rd_readOr, Mo_any]
  refine s2_bnd (hrec _ _ _ _ _ h) (fun r s q t k => ?_)
  rcases k with ⟨p', n', k1, k2, k3⟩ | k
  · exact s2_mono (or_loop hrec 60 p' n' d 0 1000 1000 s t (by omega) (by omega) (by omega) (by omega) (Or.inl k3)) (fun _ _ _ _ y => Po_of k1 k2 y)
  · exact s2_mono (or_loop hrec 60 (p + 1) (n + 1) d 0 1000 1000 s t (by omega) (by omega) (by omega) (by omega) (Or.inr k)) (fun _ _ _ _ y => Po_of (by omega) (by omega) y)
theorem and_2 {G : Gt} {op p n d : Nat} {x1 : Int32} {rC rR : Nat → Int32 → St → Option (Int32 × St)} {σ τ : St} (hrec : ∀ p n d σ τ, PQ G op p n d σ τ → s2 (rC 2 x1 σ) (rR 2 0 τ) (Po G op p n d)) (h : PQ G op p n d σ τ) : s2 (Rd_readAnd rC x1 σ) (Mo_all rR τ) (Po G op p n d) := by
  rw [Rd_readAnd, Mo_all]
  refine s2_bnd (hrec _ _ _ _ _ h) (fun r s q t k => ?_)
  rcases k with ⟨p', n', k1, k2, k3⟩ | k
  · exact s2_mono (and_loop hrec 60 p' n' d 0 1000 1000 s t (by omega) (by omega) (by omega) (by omega) (Or.inl k3)) (fun _ _ _ _ y => Po_of k1 k2 y)
  · exact s2_mono (and_loop hrec 60 (p + 1) (n + 1) d 0 1000 1000 s t (by omega) (by omega) (by omega) (by omega) (Or.inr k)) (fun _ _ _ _ y => Po_of (by omega) (by omega) y)
theorem sum_2 {G : Gt} {op p n d : Nat} {x1 : Int32} {rC rR : Nat → Int32 → St → Option (Int32 × St)} {σ τ : St} (hrec : ∀ p n d σ τ, PQ G op p n d σ τ → s2 (rC 4 x1 σ) (rR 4 0 τ) (Po G op p n d)) (h : PQ G op p n d σ τ) : s2 (Rd_readSum rC x1 σ) (Mo_sum rR τ) (Po G op p n d) := by
  rw [Rd_readSum, Mo_sum]
  refine s2_bnd (hrec _ _ _ _ _ h) (fun r s q t k => ?_)
  rcases k with ⟨p', n', k1, k2, k3⟩ | k
  · exact s2_mono (sum_loop hrec 60 p' n' d 0 1000 1000 s t (by omega) (by omega) (by omega) (by omega) (Or.inl k3)) (fun _ _ _ _ y => Po_of k1 k2 y)
  · exact s2_mono (sum_loop hrec 60 (p + 1) (n + 1) d 0 1000 1000 s t (by omega) (by omega) (by omega) (by omega) (Or.inr k)) (fun _ _ _ _ y => Po_of (by omega) (by omega) y)
theorem prod_2 {G : Gt} {op p n d : Nat} {x1 : Int32} {rC rR : Nat → Int32 → St → Option (Int32 × St)} {σ τ : St} (hrec : ∀ p n d σ τ, PQ G op p n d σ τ → s2 (rC 5 x1 σ) (rR 5 0 τ) (Po G op p n d)) (h : PQ G op p n d σ τ) : s2 (Rd_readProduct rC x1 σ) (Mo_times rR τ) (Po G op p n d) := by
  rw [Rd_readProduct, Mo_times]
  refine s2_bnd (hrec _ _ _ _ _ h) (fun r s q t k => ?_)
  rcases k with ⟨p', n', k1, k2, k3⟩ | k
  · exact s2_mono (prod_loop hrec 60 p' n' d 0 1000 1000 s t (by omega) (by omega) (by omega) (by omega) (Or.inl k3)) (fun _ _ _ _ y => Po_of k1 k2 y)
  · exact s2_mono (prod_loop hrec 60 (p + 1) (n + 1) d 0 1000 1000 s t (by omega) (by omega) (by omega) (by omega) (Or.inr k)) (fun _ _ _ _ y => Po_of (by omega) (by omega) y)
theorem Rd_g0 {dd : Nat} {a : Int32} {σ : St} : Rd_grp (dd + 1) 0 a σ = Rd_readOr (fun k a0 σ => Rd_grp dd k a0 σ) a σ := rfl
theorem Rd_g1 {dd : Nat} {a : Int32} {σ : St} : Rd_grp (dd + 1) 1 a σ = Rd_readAnd (fun k a0 σ => Rd_grp dd k a0 σ) a σ := rfl
theorem Rd_g2 {dd : Nat} {a : Int32} {σ : St} : Rd_grp (dd + 1) 2 a σ = Rd_readLikeness (fun k a0 σ => Rd_grp dd k a0 σ) a σ := rfl
theorem Rd_g3 {dd : Nat} {a : Int32} {σ : St} : Rd_grp (dd + 1) 3 a σ = Rd_readSum (fun k a0 σ => Rd_grp dd k a0 σ) a σ := rfl
theorem Rd_g4 {dd : Nat} {a : Int32} {σ : St} : Rd_grp (dd + 1) 4 a σ = Rd_readProduct (fun k a0 σ => Rd_grp dd k a0 σ) a σ := rfl
theorem Rd_g5 {dd : Nat} {a : Int32} {σ : St} : Rd_grp (dd + 1) 5 a σ = Rd_readPart (fun k a0 σ => Rd_grp dd k a0 σ) a σ := rfl
theorem Mo_g0 {dd : Nat} {a : Int32} {σ : St} : Mo_grp (dd + 1) 0 a σ = Mo_any (fun k a0 σ => Mo_grp dd k a0 σ) σ := rfl
theorem Mo_g1 {dd : Nat} {a : Int32} {σ : St} : Mo_grp (dd + 1) 1 a σ = Mo_all (fun k a0 σ => Mo_grp dd k a0 σ) σ := rfl
theorem Mo_g2 {dd : Nat} {a : Int32} {σ : St} : Mo_grp (dd + 1) 2 a σ = Mo_compares (fun k a0 σ => Mo_grp dd k a0 σ) σ := rfl
theorem Mo_g3 {dd : Nat} {a : Int32} {σ : St} : Mo_grp (dd + 1) 3 a σ = Mo_sum (fun k a0 σ => Mo_grp dd k a0 σ) σ := rfl
theorem Mo_g4 {dd : Nat} {a : Int32} {σ : St} : Mo_grp (dd + 1) 4 a σ = Mo_times (fun k a0 σ => Mo_grp dd k a0 σ) σ := rfl
theorem Mo_g5 {dd : Nat} {a : Int32} {σ : St} : Mo_grp (dd + 1) 5 a σ = Mo_one (fun k a0 σ => Mo_grp dd k a0 σ) σ := rfl
theorem Mo_g6 {dd : Nat} {a : Int32} {σ : St} : Mo_grp (dd + 1) 6 a σ = Mo_opens (fun k a0 σ => Mo_grp dd k a0 σ) a σ := rfl
theorem grp_2 {G : Gt} : ∀ (M k op dd de : Nat), k ≤ 5 → op ≤ 5 → (6 - k) + 6 * (5 - op) ≤ M → (6 - k) + 6 * (5 - op) ≤ dd → (6 - k) + 6 * (5 - op) + (5 - op) + 1 ≤ de → ∀ p n d σ τ, PQ G op p n d σ τ → s2 (Rd_grp dd k (nI op) σ) (Mo_grp de k 0 τ) (Po G op p n d) := by
  intro M
  induction M with
  | zero => intro k op dd de hk ho hM; omega
  | succ M ih =>
    intro k op dd de hk ho hM hdd hde p n d σ τ h
    obtain ⟨dd, rfl⟩ : ∃ z, dd = z + 1 := ⟨dd - 1, by omega⟩
    obtain ⟨de, rfl⟩ : ∃ z, de = z + 2 := ⟨de - 2, by omega⟩
    match k, hk with
    | 0, _ =>
      rw [Rd_g0, Mo_g0]
      exact or_2 (ih 1 op dd (de + 1) (by omega) ho (by omega) (by omega) (by omega)) h
    | 1, _ =>
      rw [Rd_g1, Mo_g1]
      exact and_2 (ih 2 op dd (de + 1) (by omega) ho (by omega) (by omega) (by omega)) h
    | 2, _ =>
      rw [Rd_g2, Mo_g2]
      exact like_2 (ih 3 op dd (de + 1) (by omega) ho (by omega) (by omega) (by omega)) h
    | 3, _ =>
      rw [Rd_g3, Mo_g3]
      exact sum_2 (ih 4 op dd (de + 1) (by omega) ho (by omega) (by omega) (by omega)) h
    | 4, _ =>
      rw [Rd_g4, Mo_g4]
      exact prod_2 (ih 5 op dd (de + 1) (by omega) ho (by omega) (by omega) (by omega)) h
    | 5, _ =>
      rw [Rd_g5, Mo_g5]
      exact part_2 (rR := fun k a0 σ => Mo_grp de k a0 σ) ho (fun b t => Mo_g6) (fun ho5 => ih 5 (op + 1) dd de (by omega) (by omega) (by omega) (by omega) (by omega)) (fun ho5 => ih 0 (op + 1) dd de (by omega) (by omega) (by omega) (by omega) (by omega)) h
    | k + 6, hk => exact absurd hk (by omega)
theorem sA_id {σ : St} {a i : Nat} {v : Int32} (h : σ.2 a i = v) : sA σ a i v = σ := by
  unfold sA
  refine Prod.ext rfl (funext fun a' => funext fun i' => ?_)
  show (if a' = a ∧ i' = i then v else σ.2 a' i') = σ.2 a' i'
  by_cases e : a' = a ∧ i' = i
  · rw [if_pos e, e.1, e.2, h]
  · rw [if_neg e]
theorem Rl_empty {σ τ : St} (h : Rl σ τ) : Rl (sF σ 42 1 0) (sA τ 1 8 0) := by
  have q := Rl_feed (L := 0) (i := 0) (v := σ.2 43 0) h (by decide) (by decide)
  have e : τ.2 1 (40 + 0) = σ.2 43 0 := (h.1.2.2.2.2.1.2.2 0 (by decide)).symm
  rw [sA_id rfl, sA_id e] at q
  exact q
theorem SX.pf {σ σ' : St} (h : PFc σ σ') : SX σ σ' := ⟨fun o k _ p _ => h.1 o k (fun q => absurd q p), fun a _ _ _ p _ => h.2 a p⟩
theorem MX.pf {τ τ' : St} (h : PFm τ τ') : MX τ τ' := ⟨h.1 0 3 (by omega), h.1 0 19 (by omega), fun a p => h.2 a (by omega) (by omega)⟩
theorem dpt_dp {S A W : Nat → Int32} {t : Nat} : ∀ k, (∀ i, i < k → S (t + 1 + i) = A i ∧ S (t + 61 + i) = W i) → dpt S t k = dp A W k := by
  intro k
  induction k with
  | zero => intro _; rfl
  | succ k ih =>
    intro h
    rw [dpt, dp, ih (fun i hi => h i (by omega)), (h k (by omega)).1, (h k (by omega)).2]
theorem text_loop {t n : Nat} {x1 : Int32} (ht : t + 121 ≤ 366) (hn : n ≤ 60) : ∀ (m k f : Nat) (τ : St), k + m = n → m < f → τ.1 0 12 = nI n → okk (Mo_text_L118 f x1 (nI t) (nI k) τ) (fun r τ' => r = 1 ∧ τ'.1 = τ.1 ∧ (∀ a, a ≠ 1 → τ'.2 a = τ.2 a) ∧ (∀ i, k ≤ i → i < n → τ'.2 1 (t + 1 + i) = τ.2 8 i ∧ τ'.2 1 (t + 61 + i) = τ.2 9 i) ∧ ∀ i, (i < t + 1 ∨ t + 121 ≤ i ∨ (i < t + 1 + k) ∨ (t + 61 ≤ i ∧ i < t + 61 + k)) → τ'.2 1 i = τ.2 1 i) := by
  intro m
  induction m with
  | zero =>
    intro k f τ hk hf h
    obtain ⟨f, rfl⟩ : ∃ z, f = z + 1 := ⟨f - 1, by omega⟩
    have hk : k = n := by omega
    rw [hk, Mo_text_L118, h, if_pos (Int32.le_refl _)]
    exact ok_some ⟨rfl, rfl, fun _ _ => rfl, fun i h1 h2 => by omega, fun _ _ => rfl⟩
  | succ m ih =>
    intro k f τ hk hf h
    obtain ⟨f, rfl⟩ : ∃ z, f = z + 1 := ⟨f - 1, by omega⟩
    have e1 : nI t + 1 + nI k = nI (t + 1 + k) := by rw [nI_lit1, nI_add]
    have e2 : nI t + 61 + nI k = nI (t + 61 + k) := by rw [show (61 : Int32) = nI 61 from rfl, nI_add, nI_add]
    rw [Mo_text_L118, h, if_neg (nI_ge (show k < n by omega) (by omega)), inb_nI (show k < 60 by omega) (by decide), grd_t, e1, inb_nI (show t + 1 + k < 366 by omega) (by decide), grd_t, nas_t, grd_t, e2, inb_nI (show t + 61 + k < 366 by omega) (by decide), grd_t, nas_t, nam_t, nI_lit1, nI_clamp (show k < 2 ^ 31 by omega), nI_clamp (show t + 1 + k < 2 ^ 31 by omega), nI_clamp (show t + 61 + k < 2 ^ 31 by omega), sA_ne (show 9 ≠ 1 by decide)]
    have a8 : (sA (sA τ 1 (t + 1 + k) (τ.2 8 k)) 1 (t + 61 + k) (τ.2 9 k)).2 8 = τ.2 8 := by rw [sA_ne (show 8 ≠ 1 by decide), sA_ne (show 8 ≠ 1 by decide)]
    have a9 : (sA (sA τ 1 (t + 1 + k) (τ.2 8 k)) 1 (t + 61 + k) (τ.2 9 k)).2 9 = τ.2 9 := by rw [sA_ne (show 9 ≠ 1 by decide), sA_ne (show 9 ≠ 1 by decide)]
    have a1 : ∀ i, (sA (sA τ 1 (t + 1 + k) (τ.2 8 k)) 1 (t + 61 + k) (τ.2 9 k)).2 1 i = if i = t + 61 + k then τ.2 9 k else if i = t + 1 + k then τ.2 8 k else τ.2 1 i := fun i => by rw [sA_eq, sA_eq]; rfl
    refine ok_mono (ih (k + 1) f _ (by omega) (by omega) h) (fun r s q => ⟨q.1, q.2.1, fun a ha => ?_, fun i h1 h2 => ?_, fun i hi => ?_⟩)
    · rw [q.2.2.1 a ha, sA_ne ha, sA_ne ha]
    · by_cases e : i = k
      · rw [e, q.2.2.2.2 (t + 1 + k) (by omega), q.2.2.2.2 (t + 61 + k) (by omega), a1, a1, if_neg (by omega), if_pos rfl, if_pos rfl]
        exact ⟨rfl, rfl⟩
      · have := q.2.2.2.1 i (by omega) h2
        rw [a8, a9] at this
        exact this
    · rw [q.2.2.2.2 i (by omega), a1, if_neg (by omega), if_neg (by omega)]
theorem op_text {σ τ : St} (h : Rl σ τ) (a : Int32) : OK2 (Mn_text a σ) (Mo_text a τ) := by
  obtain ⟨L, hL, hLe⟩ := h.1.2.2.2.2.1.1
  have hL1 : σ.1 42 1 = nI L := h.1.2.2.2.2.1.2.1.trans hLe
  have hby := h.1.2.2.2.2.1.2.2
  rw [Mn_text, Mo_text, Mn_isUse_eq, bnd_t, Mo_in_eq, bnd_t]
  cases e1 : wi a 0 1 with
  | false => rw [if_bf, if_bf]; exact err1 h
  | true =>
    obtain ⟨u, hu, rfl⟩ := wi_in (m := 1) (by decide) e1
    have hu2 : u < 2 := by omega
    clear e1
    rw [if_bt, if_bt, Rd_read, cp60, grd_t, nas_t, nas_t, nas_t, nas_t, nas_t, nas_t, z0, z60, nas_t, nas_t, nas_t, nas_t, nas_t, bnd_bnd]
    have hσ : ∀ v, v = sF (sF (sF (sF (sF (sC σ (42 + 1) 0 48 0 60) 46 3 ((sC σ (42 + 1) 0 48 0 60).1 42 1)) 46 5 (nI u)) 46 4 0) 46 1 0) 46 6 0 → SX σ v ∧ v.1 46 3 = nI L ∧ v.1 46 5 = nI u ∧ v.1 46 4 = 0 ∧ v.1 46 1 = 0 ∧ v.1 46 6 = 0 ∧ ∀ i, i < 60 → v.2 48 i = τ.2 1 (40 + i) := by
      intro v hv
      subst hv
      refine ⟨⟨fun o k _ p _ => ?_, fun x _ _ _ _ p => ?_⟩, ?_, ?_, ?_, ?_, ?_, fun i hi => ?_⟩
      · rw [sF_ne p, sF_ne p, sF_ne p, sF_ne p, sF_ne p]; rfl
      · rw [sF2, sF2, sF2, sF2, sF2, sC_ne p]
      · rw [sF_eq, if_neg (by decide), sF_eq, if_neg (by decide), sF_eq, if_neg (by decide), sF_eq, if_neg (by decide), sF_eq, if_pos rfl]; exact hL1
      · rw [sF_eq, if_neg (by decide), sF_eq, if_neg (by decide), sF_eq, if_neg (by decide), sF_eq, if_pos rfl]
      · rw [sF_eq, if_neg (by decide), sF_eq, if_neg (by decide), sF_eq, if_pos rfl]
      · rw [sF_eq, if_neg (by decide), sF_eq, if_pos rfl]
      · rw [sF_eq, if_pos rfl]
      · rw [sF2, sF2, sF2, sF2, sF2, sC_at hi]; exact hby i hi
    have hτ : ∀ v, v = sF (sF (sF (sF (sF τ 0 16 (nI u)) 0 12 0) 0 13 0) 0 14 0) 0 15 0 → MX τ v ∧ v.1 0 16 = nI u ∧ v.1 0 12 = 0 ∧ v.1 0 13 = 0 ∧ v.1 0 14 = 0 ∧ v.1 0 15 = 0 ∧ v.2 1 = τ.2 1 := by
      intro v hv
      subst hv
      refine ⟨⟨?_, ?_, fun _ _ => rfl⟩, ?_, ?_, ?_, ?_, ?_, rfl⟩
      · rw [sF_eq, if_neg (by decide), sF_eq, if_neg (by decide), sF_eq, if_neg (by decide), sF_eq, if_neg (by decide), sF_eq, if_neg (by decide)]
      · rw [sF_eq, if_neg (by decide), sF_eq, if_neg (by decide), sF_eq, if_neg (by decide), sF_eq, if_neg (by decide), sF_eq, if_neg (by decide)]
      · rw [sF_eq, if_neg (by decide), sF_eq, if_neg (by decide), sF_eq, if_neg (by decide), sF_eq, if_neg (by decide), sF_eq, if_pos rfl]
      · rw [sF_eq, if_neg (by decide), sF_eq, if_neg (by decide), sF_eq, if_neg (by decide), sF_eq, if_pos rfl]
      · rw [sF_eq, if_neg (by decide), sF_eq, if_neg (by decide), sF_eq, if_pos rfl]
      · rw [sF_eq, if_neg (by decide), sF_eq, if_pos rfl]
      · rw [sF_eq, if_pos rfl]
    generalize sF (sF (sF (sF (sF (sC σ (42 + 1) 0 48 0 60) 46 3 ((sC σ (42 + 1) 0 48 0 60).1 42 1)) 46 5 (nI u)) 46 4 0) 46 1 0) 46 6 0 = σ6 at hσ ⊢
    generalize sF (sF (sF (sF (sF τ 0 16 (nI u)) 0 12 0) 0 13 0) 0 14 0) 0 15 0 = τ7 at hτ ⊢
    obtain ⟨s1, s2, s3, s4, s5, s6, s7⟩ := hσ _ rfl
    obtain ⟨t1, t2, t3, t4, t5, t6, t7⟩ := hτ _ rfl
    have h6 : Rl σ6 τ7 := Rl_keep s1 t1 h
    have hQ : PQ ((fun i => τ.2 1 (40 + i)), L, u, σ6, τ7) 0 0 0 0 σ6 τ7 := ⟨⟨⟨hL, hu2, s2, by rw [t7]; exact hLe, s3, t2, fun i hi => ⟨s7 i hi, by rw [t7]⟩⟩, ⟨PFc.rf _, PFm.rf _⟩, Nat.zero_le _, s4, t4, t5⟩, Nat.le_refl _, s6, t6, s5, t3, fun i hi => by omega, rfl⟩
    refine s2_bnd (grp_2 36 0 0 60 60 (by decide) (by decide) (by decide) (by decide) (by decide) 0 0 0 σ6 τ7 hQ) (fun r s q t k => ?_)
    have hbad : ∀ p', s.1 46 6 = 1 ∨ p' < L → s.1 46 4 = nI p' → t.1 0 13 = nI p' → p' ≤ L → Rl s t → OK2 (nas (sF s 42 1 0) (fun σ5 => if nI p' = -1 then grd (inb (nI u) ([3, 6] : List Nat).length) (wid (([3, 6] : List Nat).getD (nI u).toNatClampNeg 0) (fun q6 => bnd (Tx_learn q6 47 (σ5.1 46 1) σ5) (fun r7 σ8 => some (1, σ8)))) else some (-10 - nI p', σ5))) (nas (sF t 0 15 1) (fun σ10 => grd (inb 8 366) (nas (sA σ10 1 (8 : Int32).toNatClampNeg 0) (fun σ11 => if σ11.1 0 15 = 0 then nam (124 + 121 * nI u) (fun y12 => grd (inb y12 366) (nas (sA σ11 1 y12.toNatClampNeg (σ11.1 0 12)) (fun σ13 => Mo_text_L118 1000 (nI u) y12 0 σ13))) else some (-10 - σ11.1 0 13, σ11))))) := by
      intro p' _ k2 k3 k4 hR
      have hne : ¬ nI p' = -1 := fun q => by
        have : (nI p').toInt = (-1 : Int32).toInt := by rw [q]
        rw [nI_toInt (by omega), show (-1 : Int32).toInt = -1 from rfl] at this
        omega
      have e13 : (sF t 0 15 1).1 0 13 = nI p' := by rw [sF_eq, if_neg (by decide)]; exact k3
      rw [nas_t, if_neg hne, nas_t, g8, grd_t, nas_t, z8, sA1, sF_eq, if_pos rfl, if10, e13]
      refine ok2 (Rl_empty (Rl_keep (SX.rf s) ⟨?_, ?_, fun _ _ => rfl⟩ hR))
      · rw [sF_eq, if_neg (by decide)]
      · rw [sF_eq, if_neg (by decide)]
    rcases k with ⟨p', n', k1, k2, k3⟩ | k
    · obtain ⟨⟨b1, ⟨f1, f2⟩, b3, b4, b5, b6⟩, k4, y1, y2, y3, y4, y5, y6⟩ := k3
      have hR : Rl s t := Rl_keep (SX.pf f1) (MX.pf f2) h6
      have hL3 : s.1 46 3 = nI L := b1.2.2.1
      have hL4 : t.2 1 8 = nI L := b1.2.2.2.1
      have hpL : p' ≤ L := b3
      rw [y1, y2, if00, if00, hL3, b4, g8, grd_t, z8, hL4, b5]
      by_cases hp : L ≤ p'
      · rw [if_pos (nI_le hp (by omega)), if_pos (nI_le hp (by omega)), bnd_t, nas_t, if_pos rfl, nas_t, grd_t, nas_t]
        have hn60 : n' ≤ 60 := by omega
        have e15 : (sA (sF t 0 15 0) 1 8 0).1 0 15 = 0 := by rw [sA1, sF_eq, if_pos rfl]
        have e12 : (sA (sF t 0 15 0) 1 8 0).1 0 12 = nI n' := by rw [sA1, sF_eq, if_neg (by decide)]; exact y4
        have e46 : (sF s 42 1 0).1 46 1 = nI n' := by rw [sF_ne (by decide)]; exact y3
        have hR2 : Rl (sF s 42 1 0) (sA (sF t 0 15 0) 1 8 0) := Rl_empty (Rl_keep (SX.rf s) ⟨by rw [sF_eq, if_neg (by decide)], by rw [sF_eq, if_neg (by decide)], fun _ _ => rfl⟩ hR)
        have c47 : (sF s 42 1 0).2 47 = s.2 47 := rfl
        have c8 : (sA (sF t 0 15 0) 1 8 0).2 8 = t.2 8 := sA_ne (by decide)
        have c9 : (sA (sF t 0 15 0) 1 8 0).2 9 = t.2 9 := sA_ne (by decide)
        rw [tx_i hu2, grd_t, tx_w hu2, e15, if00, ixt, nam_t, inb_nI (show 124 + 121 * u < 366 by omega) (by decide), grd_t, nas_t, nI_clamp (show 124 + 121 * u < 2 ^ 31 by omega), e12, e46]
        generalize sF s 42 1 0 = σ5 at hR2 c47 ⊢
        generalize sA (sF t 0 15 0) 1 8 0 = τ5 at hR2 c8 c9 e12 ⊢
        rw [Tx_learn, cp60, grd_t, nas_t, nas_t, bnd_t, z0, z60]
        refine s2_mono (s2_ok (P1 := fun r σ' => r = 1 ∧ σ' = sF (sC σ5 47 0 (3 + 3 * u + 1) 0 60) (3 + 3 * u) 3 (nI n')) (ok_some ⟨rfl, rfl⟩) (text_loop (t := 124 + 121 * u) (n := n') (by omega) hn60 n' 0 1000 _ (by omega) (by omega) (by rw [sA1]; exact e12)) (fun r σ' q τ' p1 p2 => (⟨p2.1.trans p1.1.symm, ?_⟩ : q = r ∧ Rl σ' τ'))) (fun _ _ _ _ p => p)
        obtain ⟨-, rfl⟩ := p1
        obtain ⟨-, q1, q2, q3, q4⟩ := p2
        have r8 : (sA τ5 1 (124 + 121 * u) (nI n')).2 8 = t.2 8 := by rw [sA_ne (by decide)]; exact c8
        have r9 : (sA τ5 1 (124 + 121 * u) (nI n')).2 9 = t.2 9 := by rw [sA_ne (by decide)]; exact c9
        rw [r8, r9] at q3
        have hSt : τ'.2 1 (124 + 121 * u) = nI n' := by rw [q4 _ (by omega), sA_eq, upd_s]
        have hcod : ∀ i, i < n' → (sF (sC σ5 47 0 (3 + 3 * u + 1) 0 60) (3 + 3 * u) 3 (nI n')).2 (3 + 3 * u + 1) i = s.2 47 i := fun i hi => by rw [sF2, sC_at (by omega), c47]
        refine Rl_mk hR2 ⟨fun o k h1 _ _ => ?_, fun x hx => ?_⟩ ⟨by rw [q1]; rfl, by rw [q1]; rfl, fun x hx => by rw [q2 x (by omega), sA_ne (by omega)]⟩ ?_
        · by_cases e : o = 3 + 3 * u
          · rw [e, sF_eq, if_neg (by omega)]; rfl
          · rw [sF_ne e]; rfl
        · rw [sF2, sC_ne (by omega)]
        · refine Sn_text hu2 hR2.1 (fun i hi h1 => ?_) (fun o k h1 => ?_) (fun x hx => ?_) ⟨n', hn60, hSt, Or.inr ?_⟩ ⟨?_, fun i hi => ?_⟩
          · rw [q4 i (by omega), sA_eq, upd_n (by omega)]
          · by_cases e : o = 3 + 3 * u
            · rw [e, sF_eq, if_neg (h1 e)]; rfl
            · rw [sF_ne e]; rfl
          · rw [sF2, sC_ne (by omega)]
          · rw [dpt_dp (A := t.2 8) (W := t.2 9) n' (fun i hi => q3 i (Nat.zero_le _) hi)]; exact y6
          · rw [sF_eq, if_pos rfl, hSt]
          · rw [hSt, nI_clamp (by omega)] at hi
            rw [hcod i hi, (q3 i (Nat.zero_le _) hi).1, (q3 i (Nat.zero_le _) hi).2]
            exact y5 i hi
      · rw [if_neg (nI_ge (by omega) (by omega)), if_neg (nI_ge (by omega) (by omega)), bnd_t]
        have := hbad p' (Or.inr (by omega)) b4 b5 hpL hR
        rw [g8, z8] at this
        exact this
    · obtain ⟨p', k1, n1, n2, n3, n4⟩ := k
      have hR : Rl s t := Rl_keep (SX.pf k1.2.1.1) (MX.pf k1.2.1.2) h6
      rw [n1, n2, if10, if10, bnd_t, k1.2.2.2.1]
      exact hbad p' (Or.inl n1) k1.2.2.2.1 k1.2.2.2.2.1 k1.2.2.1 hR
