/-! ===== what only the scratch rows tell apart ===== -/
def SQ (σ σ' : St) : Prop := σ'.1 = σ.1 ∧ ∀ a, a ≠ 5 → a ≠ 8 → σ'.2 a = σ.2 a
theorem SQ.rf (σ : St) : SQ σ σ := ⟨rfl, fun _ _ _ => rfl⟩
theorem SQ.tr {τ τ' τ'' : St} (h : SQ τ τ') (h' : SQ τ' τ'') : SQ τ τ'' := ⟨h'.1.trans h.1, fun a p q => (h'.2 a p q).trans (h.2 a p q)⟩
theorem SQ.c5 {σ σ' : St} (h : Cq 5 σ σ') : SQ σ σ' := ⟨h.1, fun a p _ => h.2 a p⟩
theorem SQ.c8 {σ σ' : St} (h : Cq 8 σ σ') : SQ σ σ' := ⟨h.1, fun a _ q => h.2 a q⟩
theorem sq_RA {σ σ' : St} (h : SQ σ σ') {o : Nat} {R : Nat → Int32} (ho : 9 ≤ o) (hA : RA σ o R) : RA σ' o R := by
  unfold RA at hA ⊢
  rw [h.1, h.2 (o + 6) (by omega) (by omega)]
  exact ⟨hA.1, fun w j hw hj => by rw [h.2 _ (by omega) (by omega)]; exact hA.2 w j hw hj⟩
theorem sq_TX {σ σ' : St} (h : SQ σ σ') {R : Nat → Int32} (hT : TX σ R) : TX σ' R := by
  obtain ⟨h1, h2, h3, h4, h5, h6⟩ := hT
  refine ⟨h1, h2, ⟨by rw [h.1]; exact h3.1, fun i hi => ?_⟩, ⟨by rw [h.1]; exact h4.1, fun i hi => ?_⟩, by rw [h.1]; exact h5, by rw [h.1]; exact h6⟩
  · rw [h.2 _ (by decide) (by decide)]; exact h3.2 i hi
  · rw [h.2 _ (by decide) (by decide)]; exact h4.2 i hi
/-- what only the reference's scratch rows tell apart -/
theorem mq_1 {τ τ' : St} (h : Mq τ τ') : τ'.2 1 = τ.2 1 := h.2 1 (by decide) (by decide)
/-- a treaty is taken: all in like it enough -/
def tkn (R : Nat → Int32) (t k : Nat) : Bool := match k with
  | 0 => true
  | k + 1 => tkn R t k && (!(decide (R (14 + 5 * k) = 1)) || decide (R 7 ≤ lk R k t))
