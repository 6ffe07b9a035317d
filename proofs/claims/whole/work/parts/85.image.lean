/-! ===== images ===== -/
theorem Tp_copy_ok {o p : Nat} {σ : St} : okk (Tp_copy o p σ) (fun _ σ' => (∀ q k, (q = o → k ≠ 1) → σ'.1 q k = σ.1 q k) ∧ (∀ a, a ≠ o + 1 → σ'.2 a = σ.2 a) ∧ σ'.1 o 1 = σ.1 p 1 ∧ ∀ i, i < 60 → σ'.2 (o + 1) i = σ.2 (p + 1) i) := by
  rw [Tp_copy, cp60, grd_t, nas_t, nas_t, z0, z60]
  refine ok_some ⟨fun q k h => ?_, fun a ha => ?_, ?_, fun i hi => ?_⟩
  · by_cases e : q = o
    · rw [e, sF_eq, if_neg (h e)]; rfl
    · rw [sF_ne e]; rfl
  · rw [sF2, sC_ne ha]
  · rw [sF_eq, if_pos rfl]; rfl
  · rw [sF2]; exact sC_at hi
theorem Rw_copy_ok {o p : Nat} {σ : St} (hop : p ≠ o) : okk (Rw_copy o p σ) (fun _ σ' => (∀ q k, (q = o → k ≠ 1 ∧ k ≠ 2) → σ'.1 q k = σ.1 q k) ∧ (∀ a, a ≠ o + 1 → σ'.2 a = σ.2 a) ∧ σ'.1 o 2 = σ.1 p 2 ∧ ∀ i, i < 24 → σ'.2 (o + 1) i = σ.2 (p + 1) i) := by
  rw [Rw_copy, cp24, grd_t, nas_t, nas_t, nas_t, z0, z24, sF_ne hop]
  refine ok_some ⟨fun q k h => ?_, fun a ha => ?_, ?_, fun i hi => ?_⟩
  · by_cases e : q = o
    · rw [e, sF_eq, if_neg (h e).2, sF_eq, if_neg (h e).1]; rfl
    · rw [sF_ne e, sF_ne e]; rfl
  · rw [sF2, sF2, sC_ne ha]
  · rw [sF_eq, if_pos rfl]; rfl
  · rw [sF2, sF2]; exact sC_at hi
theorem bnd_bnd {x : Option (Int32 × St)} {K L : Int32 → St → Option (Int32 × St)} : bnd (bnd x K) L = bnd x (fun r s => bnd (K r s) L) := by cases x <;> rfl
/-- a snapshot, copied -/
def snI (σ : St) : Option (Int32 × St) := bnd (Rp_copy 33 15 σ) (fun _ s => bnd (Tp_copy 44 42 s) (fun _ s => Rw_copy 51 49 s))
theorem snI_ok {σ : St} {R : Nat → Int32} (h : Sn σ 15 3 6 42 49 R) : okk (snI σ) (fun _ σ' => Sn σ' 33 9 12 44 51 R ∧ (∀ q k, q ≠ 33 → q ≠ 44 → q ≠ 51 → (q = 9 → k ≠ 3) → (q = 12 → k ≠ 3) → σ'.1 q k = σ.1 q k) ∧ ∀ a, (a < 33 + 1 ∨ 33 + 6 < a) → a ≠ 44 + 1 → a ≠ 51 + 1 → a ≠ 9 + 1 → a ≠ 12 + 1 → σ'.2 a = σ.2 a) := by
  obtain ⟨a1, a2, a3, ⟨b1, b2, b3, b4⟩, a5, a6, a7⟩ := h
  refine ok_bnd (Rp_copy_ok (o := 33) (p := 15) (t := 9) (u := 3) (by omega) rfl rfl (by omega) a1) (fun _ s1 q1 => ?_)
  refine ok_bnd Tp_copy_ok (fun _ s2 q2 => ?_)
  refine ok_mono (Rw_copy_ok (by decide)) (fun _ s3 q3 => ?_)
  obtain ⟨c1, c2, c3, f3, f4, g3, g4⟩ := q1
  obtain ⟨d1, d2, d3, d4⟩ := q2
  obtain ⟨e1, e2, e3, e4⟩ := q3
  have g3 : s1.1 12 3 = σ.1 6 3 := g3
  have g4 : ∀ i, i < 60 → s1.2 (12 + 1) i = σ.2 (6 + 1) i := g4
  have F1 : ∀ q k, q ≠ 33 → (q = 9 → k ≠ 3) → (q = 12 → k ≠ 3) → s1.1 q k = σ.1 q k := fun q k h1 h2 h3 => c2 q k h1 h2 (by omega)
  have G1 : ∀ a, (a < 33 + 1 ∨ 33 + 6 < a) → a ≠ 9 + 1 → a ≠ 12 + 1 → s1.2 a = σ.2 a := fun a h1 h2 h3 => c3 a h1 h2 (by omega)
  have F2 : ∀ q k, q ≠ 33 → q ≠ 44 → (q = 9 → k ≠ 3) → (q = 12 → k ≠ 3) → s2.1 q k = σ.1 q k := fun q k h1 h2 h3 h4 => by rw [d1 q k (by omega), F1 q k h1 h3 h4]
  have F3 : ∀ q k, q ≠ 33 → q ≠ 44 → q ≠ 51 → (q = 9 → k ≠ 3) → (q = 12 → k ≠ 3) → s3.1 q k = σ.1 q k := fun q k h1 h2 h3 h4 h5 => by rw [e1 q k (by omega), F2 q k h1 h2 h4 h5]
  have G2 : ∀ a, (a < 33 + 1 ∨ 33 + 6 < a) → a ≠ 44 + 1 → a ≠ 9 + 1 → a ≠ 12 + 1 → s2.2 a = σ.2 a := fun a h1 h2 h3 h4 => by rw [d2 a h2, G1 a h1 h3 h4]
  have G3 : ∀ a, (a < 33 + 1 ∨ 33 + 6 < a) → a ≠ 44 + 1 → a ≠ 51 + 1 → a ≠ 9 + 1 → a ≠ 12 + 1 → s3.2 a = σ.2 a := fun a h1 h2 h3 h4 h5 => by rw [e2 a h3, G2 a h1 h2 h4 h5]
  refine ⟨⟨?_, a2, a3, ⟨b1, b2, ⟨?_, ?_⟩, ⟨?_, ?_⟩⟩, ⟨a5.1, ?_, ?_⟩, ⟨a6.1, ?_, ?_⟩, a7⟩, F3, G3⟩
  · refine RA_keep c1 (fun k => ?_) (fun a h1 h2 => ?_)
    · rw [e1 33 k (by omega), d1 33 k (by omega)]
    · rw [e2 a (by omega), d2 a (by omega)]
  · rw [e1 9 3 (by omega), d1 9 3 (by omega), f3]; exact b3.1
  · intro i hi
    rw [e2 (9 + 1) (by omega), d2 (9 + 1) (by omega), f4 i (TW_60 b1 hi)]; exact b3.2 i hi
  · rw [e1 12 3 (by omega), d1 12 3 (by omega), g3]; exact b4.1
  · intro i hi
    rw [e2 (12 + 1) (by omega), d2 (12 + 1) (by omega), g4 i (TW_60 b2 hi)]; exact b4.2 i hi
  · rw [e1 44 1 (by omega), d3, F1 42 1 (by omega) (by omega) (by omega)]; exact a5.2.1
  · intro i hi
    rw [e2 (44 + 1) (by omega), d4 i hi, G1 (42 + 1) (by omega) (by omega) (by omega)]; exact a5.2.2 i hi
  · rw [e3, F2 49 2 (by omega) (by omega) (by omega) (by omega)]; exact a6.2.1
  · intro i hi
    rw [e4 i hi, G2 (49 + 1) (by omega) (by omega) (by omega) (by omega)]; exact a6.2.2 i hi
/-- a snapshot, copied -/
def snJ (σ : St) : Option (Int32 × St) := bnd (Rp_copy 15 33 σ) (fun _ s => bnd (Tp_copy 42 44 s) (fun _ s => Rw_copy 49 51 s))
theorem snJ_ok {σ : St} {R : Nat → Int32} (h : Sn σ 33 9 12 44 51 R) : okk (snJ σ) (fun _ σ' => Sn σ' 15 3 6 42 49 R ∧ (∀ q k, q ≠ 15 → q ≠ 42 → q ≠ 49 → (q = 3 → k ≠ 3) → (q = 6 → k ≠ 3) → σ'.1 q k = σ.1 q k) ∧ ∀ a, (a < 15 + 1 ∨ 15 + 6 < a) → a ≠ 42 + 1 → a ≠ 49 + 1 → a ≠ 3 + 1 → a ≠ 6 + 1 → σ'.2 a = σ.2 a) := by
  obtain ⟨a1, a2, a3, ⟨b1, b2, b3, b4⟩, a5, a6, a7⟩ := h
  refine ok_bnd (Rp_copy_ok (o := 15) (p := 33) (t := 3) (u := 9) (by omega) rfl rfl (by omega) a1) (fun _ s1 q1 => ?_)
  refine ok_bnd Tp_copy_ok (fun _ s2 q2 => ?_)
  refine ok_mono (Rw_copy_ok (by decide)) (fun _ s3 q3 => ?_)
  obtain ⟨c1, c2, c3, f3, f4, g3, g4⟩ := q1
  obtain ⟨d1, d2, d3, d4⟩ := q2
  obtain ⟨e1, e2, e3, e4⟩ := q3
  have g3 : s1.1 6 3 = σ.1 12 3 := g3
  have g4 : ∀ i, i < 60 → s1.2 (6 + 1) i = σ.2 (12 + 1) i := g4
  have F1 : ∀ q k, q ≠ 15 → (q = 3 → k ≠ 3) → (q = 6 → k ≠ 3) → s1.1 q k = σ.1 q k := fun q k h1 h2 h3 => c2 q k h1 h2 (by omega)
  have G1 : ∀ a, (a < 15 + 1 ∨ 15 + 6 < a) → a ≠ 3 + 1 → a ≠ 6 + 1 → s1.2 a = σ.2 a := fun a h1 h2 h3 => c3 a h1 h2 (by omega)
  have F2 : ∀ q k, q ≠ 15 → q ≠ 42 → (q = 3 → k ≠ 3) → (q = 6 → k ≠ 3) → s2.1 q k = σ.1 q k := fun q k h1 h2 h3 h4 => by rw [d1 q k (by omega), F1 q k h1 h3 h4]
  have F3 : ∀ q k, q ≠ 15 → q ≠ 42 → q ≠ 49 → (q = 3 → k ≠ 3) → (q = 6 → k ≠ 3) → s3.1 q k = σ.1 q k := fun q k h1 h2 h3 h4 h5 => by rw [e1 q k (by omega), F2 q k h1 h2 h4 h5]
  have G2 : ∀ a, (a < 15 + 1 ∨ 15 + 6 < a) → a ≠ 42 + 1 → a ≠ 3 + 1 → a ≠ 6 + 1 → s2.2 a = σ.2 a := fun a h1 h2 h3 h4 => by rw [d2 a h2, G1 a h1 h3 h4]
  have G3 : ∀ a, (a < 15 + 1 ∨ 15 + 6 < a) → a ≠ 42 + 1 → a ≠ 49 + 1 → a ≠ 3 + 1 → a ≠ 6 + 1 → s3.2 a = σ.2 a := fun a h1 h2 h3 h4 h5 => by rw [e2 a h3, G2 a h1 h2 h4 h5]
  refine ⟨⟨?_, a2, a3, ⟨b1, b2, ⟨?_, ?_⟩, ⟨?_, ?_⟩⟩, ⟨a5.1, ?_, ?_⟩, ⟨a6.1, ?_, ?_⟩, a7⟩, F3, G3⟩
  · refine RA_keep c1 (fun k => ?_) (fun a h1 h2 => ?_)
    · rw [e1 15 k (by omega), d1 15 k (by omega)]
    · rw [e2 a (by omega), d2 a (by omega)]
  · rw [e1 3 3 (by omega), d1 3 3 (by omega), f3]; exact b3.1
  · intro i hi
    rw [e2 (3 + 1) (by omega), d2 (3 + 1) (by omega), f4 i (TW_60 b1 hi)]; exact b3.2 i hi
  · rw [e1 6 3 (by omega), d1 6 3 (by omega), g3]; exact b4.1
  · intro i hi
    rw [e2 (6 + 1) (by omega), d2 (6 + 1) (by omega), g4 i (TW_60 b2 hi)]; exact b4.2 i hi
  · rw [e1 42 1 (by omega), d3, F1 44 1 (by omega) (by omega) (by omega)]; exact a5.2.1
  · intro i hi
    rw [e2 (42 + 1) (by omega), d4 i hi, G1 (44 + 1) (by omega) (by omega) (by omega)]; exact a5.2.2 i hi
  · rw [e3, F2 51 2 (by omega) (by omega) (by omega) (by omega)]; exact a6.2.1
  · intro i hi
    rw [e4 i hi, G2 (51 + 1) (by omega) (by omega) (by omega) (by omega)]; exact a6.2.2 i hi
theorem bnd_snI {σ : St} {K : Int32 → St → Option (Int32 × St)} : bnd (Rp_copy 33 15 σ) (fun _ s => bnd (Tp_copy 44 42 s) (fun _ s => bnd (Rw_copy 51 49 s) K)) = bnd (snI σ) K := by
  rw [snI, bnd_bnd]
  congr 1
theorem bnd_snJ {σ : St} {K : Int32 → St → Option (Int32 × St)} : bnd (Rp_copy 15 33 σ) (fun _ s => bnd (Tp_copy 42 44 s) (fun _ s => bnd (Rw_copy 49 51 s) K)) = bnd (snJ σ) K := by
  rw [snJ, bnd_bnd]
  congr 1
theorem Mn_image_eq {σ : St} : Mn_image σ = bnd (snI σ) (fun _ s => some (s.1 0 11 + 1, sF s 0 11 (s.1 0 11 + 1))) := by
  rw [Mn_image]
  exact bnd_snI
theorem Mn_restore_eq {σ : St} (h : ¬ σ.1 0 11 = 0) : Mn_restore σ = bnd (snJ σ) (fun _ s => some (s.1 15 10, s)) := by
  rw [Mn_restore, if_neg h]
  exact bnd_snJ
theorem op_image {σ τ : St} (h : Rl σ τ) : OK2 (Mn_image σ) (Mo_image τ) := by
  rw [Mn_image_eq, Mo_image]
  refine ok2_l (snI_ok h.1) (fun _ s q => ?_)
  refine ok2_r (Mo_copyAll_ok (f := 1) (t := 2) (by decide)) (fun _ t p => ?_)
  obtain ⟨q1, q2, q3⟩ := q
  obtain ⟨p1, p2, p3, p4⟩ := p
  obtain ⟨h0, ⟨h1, h2⟩, ⟨h3, h4⟩, h5, h6, h7⟩ := h
  have e0 : s.1 0 11 = σ.1 0 11 := q2 0 11 (by decide) (by decide) (by decide) (by omega) (by omega)
  have e1 : t.1 0 3 = τ.1 0 3 := by rw [p1]
  rw [nas_t, sF_eq, if_pos rfl, e0, e1, ← h3]
  have f : ∀ q k, q ≠ 0 → (sF s 0 11 (σ.1 0 11 + 1)).1 q k = s.1 q k := fun q k hq => by rw [sF_ne hq]
  refine ok2 ⟨?_, ⟨?_, ?_⟩, ⟨?_, Or.inr ?_⟩, ?_, ?_, ?_⟩
  · rw [sF2, p2 1 (by decide)]
    refine Sn_keep h0 (fun k => ?_) (fun a h1 h2 => ?_) ⟨?_, ?_, ?_, ?_⟩ ⟨?_, ?_⟩ ⟨?_, ?_⟩
    · rw [f 15 k (by decide)]; exact q2 15 k (by decide) (by decide) (by decide) (by omega) (by omega)
    · exact q3 a (by omega) (by omega) (by omega) (by omega) (by omega)
    · rw [f 3 3 (by decide)]; exact q2 3 3 (by decide) (by decide) (by decide) (by omega) (by omega)
    · exact q3 (3 + 1) (by omega) (by omega) (by omega) (by omega) (by omega)
    · rw [f 6 3 (by decide)]; exact q2 6 3 (by decide) (by decide) (by decide) (by omega) (by omega)
    · exact q3 (6 + 1) (by omega) (by omega) (by omega) (by omega) (by omega)
    · rw [f 42 1 (by decide)]; exact q2 42 1 (by decide) (by decide) (by decide) (by omega) (by omega)
    · exact q3 (42 + 1) (by omega) (by omega) (by omega) (by omega) (by omega)
    · rw [f 49 2 (by decide)]; exact q2 49 2 (by decide) (by decide) (by decide) (by omega) (by omega)
    · exact q3 (49 + 1) (by omega) (by omega) (by omega) (by omega) (by omega)
  · rw [f 3 0 (by decide), f 66 0 (by decide), q2 3 0 (by decide) (by decide) (by decide) (by omega) (by omega), q2 66 0 (by decide) (by decide) (by decide) (by omega) (by omega)]; exact h1
  · rw [f 6 0 (by decide), f 69 0 (by decide), q2 6 0 (by decide) (by decide) (by decide) (by omega) (by omega), q2 69 0 (by decide) (by decide) (by decide) (by omega) (by omega)]; exact h2
  · rw [sF_eq, if_pos rfl, sF_eq, if_pos rfl]
  · rw [sF2]
    refine Sn_c (R := τ.2 1) (fun i hi => p3 i hi) ?_
    exact Sn_keep q1 (fun k => f 33 k (by decide)) (fun a _ _ => rfl) ⟨f 9 3 (by decide), rfl, f 12 3 (by decide), rfl⟩ ⟨f 44 1 (by decide), rfl⟩ ⟨f 51 2 (by decide), rfl⟩
  · intro k hk
    rw [sF2, sF2, q3 64 (by omega) (by omega) (by omega) (by omega) (by omega), p2 4 (by decide)]
    exact h5 k hk
  · intro u hu
    have e1 : ∀ k, (sF s 0 11 (σ.1 0 11 + 1)).1 (54 + 2 * u) k = σ.1 (54 + 2 * u) k := fun k => by rw [f _ k (by omega)]; exact q2 _ k (by omega) (by omega) (by omega) (by omega) (by omega)
    have e2 : s.2 (55 + 2 * u) = σ.2 (55 + 2 * u) := q3 _ (by omega) (by omega) (by omega) (by omega) (by omega)
    unfold SH
    rw [e1, e1, sF2, sF2, e2, p2 5 (by decide), p2 6 (by decide), p2 7 (by decide)]
    exact h6 u hu
  · unfold TT
    rw [f 62 1 (by decide), q2 62 1 (by decide) (by decide) (by decide) (by omega) (by omega), sF2, sF2, q3 63 (by omega) (by omega) (by omega) (by omega) (by omega), p2 13 (by decide), sF_eq, if_neg (by decide), p1]
    exact h7
theorem op_restore {σ τ : St} (h : Rl σ τ) : OK2 (Mn_restore σ) (Mo_restore τ) := by
  obtain ⟨h3, h4⟩ := h.2.2.1
  by_cases h0 : σ.1 0 11 = 0
  · have h0' : τ.1 0 3 = 0 := h3.symm.trans h0
    rw [Mn_restore, Mo_restore, if_pos h0, if_pos h0']
    exact err2 h
  · have h0' : ¬ τ.1 0 3 = 0 := fun q => h0 (h3.trans q)
    rw [Mn_restore_eq h0, Mo_restore, if_neg h0']
    refine ok2_l (snJ_ok (h4.resolve_left h0)) (fun _ s q => ?_)
    refine ok2_r (Mo_copyAll_ok (f := 2) (t := 1) (by decide)) (fun _ t p => ?_)
    obtain ⟨q1, q2, q3⟩ := q
    obtain ⟨p1, p2, p3, p4⟩ := p
    have hS : Sn s 15 3 6 42 49 (t.2 1) := Sn_c (R := τ.2 2) (fun i hi => p3 i hi) q1
    rw [g0, grd_t, z0, hS.1.1.1]
    refine ok2 (Rl_mk h ⟨fun o k h1 _ h2 => ?_, fun a ha => ?_⟩ ⟨by rw [p1], by rw [p1], fun a ha => p2 a (by omega)⟩ hS)
    · exact q2 o k (by omega) (by omega) (by omega) (by omega) (by omega)
    · exact q3 a (by omega) (by omega) (by omega) (by omega) (by omega)
