/-! ===== all operations; the first states ===== -/
theorem ops_Rl : Ops Rl := ⟨fun σ τ h a0 a1 a2 => of_OK2 (op_jumper h a0 a1 a2),
  fun σ τ h a0 a1 => of_OK2 (op_jumperIs h a0 a1),
  fun σ τ h a0 a1 => of_OK2 (op_become h a0 a1),
  fun σ τ h a0 a1 => of_OK2 (op_as h a0 a1),
  fun σ τ h a0 a1 => of_OK2 (op_jump h a0 a1),
  fun σ τ h a0 a1 => of_OK2 (op_rest h a0 a1),
  fun σ τ h a0 a1 => of_OK2 (op_spell h a0 a1),
  fun σ τ h a0 => of_OK2 (op_bar h a0),
  fun σ τ h a0 a1 => of_OK2 (op_liking h a0 a1),
  fun σ τ h a0 a1 => of_OK2 (op_talk h a0 a1),
  fun σ τ h a0 a1 => of_OK2 (op_feed h a0 a1),
  fun σ τ h a0 => of_OK2 (op_text h a0),
  fun σ τ h a0 => of_OK2 (op_untell h a0),
  fun σ τ h a0 a1 a2 a3 => of_OK2 (op_law h a0 a1 a2 a3),
  fun σ τ h a0 => of_OK2 (op_beats h a0),
  fun σ τ h a0 => of_OK2 (op_loose h a0),
  fun σ τ h a0 => of_OK2 (op_seed h a0),
  fun σ τ h a0 a1 a2 => of_OK2 (op_then h a0 a1 a2),
  fun σ τ h a0 => of_OK2 (op_lasts h a0),
  fun σ τ h a0 => of_OK2 (op_agree h a0),
  fun σ τ h a0 => of_OK2 (op_fairest h a0),
  fun σ τ h a0 => of_OK2 (op_balks h a0),
  fun σ τ h a0 => of_OK2 (op_soon h a0),
  fun σ τ h a0 a1 a2 a3 => of_OK2 (op_meets h a0 a1 a2 a3),
  fun σ τ h a0 a1 => of_OK2 (op_odds h a0 a1),
  fun σ τ h a0 => of_OK2 (op_fits h a0),
  fun σ τ h a0 a1 a2 => of_OK2 (op_voice h a0 a1 a2),
  fun σ τ h a0 => of_OK2 (op_body h a0),
  fun σ τ h a0 a1 a2 => of_OK2 (op_sheet h a0 a1 a2),
  fun σ τ h a0 a1 a2 => of_OK2 (op_put h a0 a1 a2),
  fun σ τ h a0 a1 a2 a3 a4 => of_OK2 (op_move h a0 a1 a2 a3 a4),
  fun σ τ h a0 => of_OK2 (op_breaths h a0),
  fun σ τ h a0 => of_OK2 (op_judge h a0),
  fun σ τ h _ => of_OK2 (op_image h),
  fun σ τ h _ => of_OK2 (op_restore h),
  fun σ τ h a0 => of_OK2 (op_tell h a0),
  fun σ τ h _ => of_OK2 (op_check h),
  fun σ τ h a0 => of_OK2 (op_count h a0),
  fun σ τ h a0 => of_OK2 (op_told h a0)⟩
theorem Sn_0 : Sn σC0 15 3 6 42 49 (σM0.2 1) := by
  have r : ∀ i, 8 ≤ i → σM0.2 1 i = 0 := fun i hi => by
    show upd (upd (upd (upd (upd (fun _ => 0) 1 (1 : Int32)) 3 (-1)) 5 (99 : Int32)) 6 (99 : Int32)) 7 (30 : Int32) i = 0
    rw [upd_n (by omega), upd_n (by omega), upd_n (by omega), upd_n (by omega), upd_n (by omega)]
  have k0 : ∀ a i, a ≠ 21 → a ≠ 30 → a ≠ 39 → σC0.2 a i = 0 := fun a i h1 h2 h3 => by
    show (if a = 21 then upd (upd (fun _ => 0) 0 99) 1 99 else if a = 30 then upd (upd (fun _ => 0) 0 99) 1 99 else if a = 39 then upd (upd (fun _ => 0) 0 99) 1 99 else fun _ => 0) i = (0 : Int32)
    rw [if_neg h1, if_neg h2, if_neg h3]
  have t : ∀ t, 8 ≤ t → TW (σM0.2 1) t := fun t ht => ⟨0, by decide, r t ht, Or.inl rfl⟩
  have v : ∀ o t, 8 ≤ t → σC0.1 o 3 = 0 → TR σC0 o (σM0.2 1) t := fun o t ht h => ⟨h.trans (r t ht).symm, fun i hi => by rw [r t ht, z0] at hi; omega⟩
  refine ⟨⟨⟨by decide, by decide, by decide, by decide, by decide, by decide, by decide, by decide⟩, fun w j hw hj => ?_⟩, ⟨0, by decide, by decide, fun j hj => Or.inl (r _ (by omega))⟩, ⟨fun j hj => ⟨0, by decide, r _ (by omega)⟩, 0, by decide, by decide⟩, ⟨t 124 (by decide), t 245 (by decide), v 3 124 (by decide) (by decide), v 6 245 (by decide) (by decide)⟩, ⟨⟨0, by decide, by decide⟩, by decide, fun i hi => ?_⟩, ⟨⟨0, by decide, by decide⟩, by decide, fun i hi => ?_⟩, fun j hj => ⟨0, by decide, r _ (by omega)⟩, 0, by decide, by decide⟩
  · rw [k0 _ _ (by omega) (by omega) (by omega), r _ (by omega)]
  · rw [k0 _ _ (by omega) (by omega) (by omega), r _ (by omega)]
  · rw [k0 _ _ (by omega) (by omega) (by omega), r _ (by omega)]
theorem Rl_0 : Rl σC0 σM0 := by
  have k0 : ∀ a i, a ≠ 21 → a ≠ 30 → a ≠ 39 → σC0.2 a i = 0 := fun a i h1 h2 h3 => by
    show (if a = 21 then upd (upd (fun _ => 0) 0 99) 1 99 else if a = 30 then upd (upd (fun _ => 0) 0 99) 1 99 else if a = 39 then upd (upd (fun _ => 0) 0 99) 1 99 else fun _ => 0) i = (0 : Int32)
    rw [if_neg h1, if_neg h2, if_neg h3]
  have m0 : ∀ a i, a ≠ 1 → σM0.2 a i = 0 := fun a i h1 => by
    show (if a = 1 then upd (upd (upd (upd (upd (fun _ => 0) 1 (1 : Int32)) 3 (-1)) 5 (99 : Int32)) 6 (99 : Int32)) 7 (30 : Int32) else fun _ => 0) i = (0 : Int32)
    rw [if_neg h1]
  refine ⟨Sn_0, ⟨by decide, by decide⟩, ⟨by decide, Or.inl (by decide)⟩, fun k hk => ?_, fun s hs => ?_, ⟨0, by decide, by decide, by decide, fun i hi => by omega⟩⟩
  · rw [k0 _ _ (by decide) (by decide) (by decide), m0 _ _ (by decide)]
  · have e : ∀ k, k = 1 ∨ k = 2 → σC0.1 (54 + 2 * s) k = 0 := fun k hk => by
      rcases hk with rfl | rfl <;> rfl
    refine ⟨by rw [e 1 (by decide), m0 _ _ (by decide)], Or.inl (m0 _ _ (by decide)), ⟨0, by decide, e 2 (by decide), m0 _ _ (by decide)⟩, fun i hi => ?_⟩
    rw [k0 _ _ (by omega) (by omega) (by omega), m0 _ _ (by decide)]
    exact cel_rf 0
