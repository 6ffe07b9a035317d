/-! ===== what only the scratch rows tell apart ===== -/
def SQ (σ σ' : St) : Prop := σ'.1 = σ.1 ∧ ∀ a, a ≠ 5 → (a ≠ 8 ∧ a ≠ 68 ∧ a ≠ 71) → σ'.2 a = σ.2 a
theorem SQ.rf (σ : St) : SQ σ σ := ⟨rfl, fun _ _ _ => rfl⟩
theorem SQ.tr {τ τ' τ'' : St} (h : SQ τ τ') (h' : SQ τ' τ'') : SQ τ τ'' := ⟨h'.1.trans h.1, fun a p q => (h'.2 a p q).trans (h.2 a p q)⟩
theorem SQ.c5 {σ σ' : St} (h : Cq 5 σ σ') : SQ σ σ' := ⟨h.1, fun a p _ => h.2 a p⟩
theorem SQ.c8 {σ σ' : St} (h : Cq 8 σ σ') : SQ σ σ' := ⟨h.1, fun a _ q => h.2 a q.1⟩
theorem SQ.x5 {o : Nat} {σ σ' : St} (h : Cq (xt o + 2) σ σ') : SQ σ σ' := ⟨h.1, fun a p q => h.2 a (by have := xt_or o; omega)⟩
theorem SQ.x8 {o : Nat} {σ σ' : St} (h : Cq (xt o + 3 + 2) σ σ') : SQ σ σ' := ⟨h.1, fun a p q => h.2 a (by have := xt_or o; omega)⟩
theorem sq_RA {σ σ' : St} (h : SQ σ σ') {o : Nat} {R : Nat → Int32} (ho : 9 ≤ o ∧ o ≤ 33) (hA : RA σ o R) : RA σ' o R := by
  unfold RA at hA ⊢
  rw [h.1, h.2 (o + 6) (by omega) (by omega)]
  exact ⟨hA.1, fun w j hw hj => by rw [h.2 _ (by omega) (by omega)]; exact hA.2 w j hw hj⟩
theorem sq_TX {σ σ' : St} (h : SQ σ σ') {o : Nat} {R : Nat → Int32} (hT : TX σ o R) : TX σ' o R := by
  obtain ⟨h1, h2, h3, h4, h5, h6⟩ := hT
  have hx := xt_or o
  refine ⟨h1, h2, ⟨by rw [h.1]; exact h3.1, fun i hi => ?_⟩, ⟨by rw [h.1]; exact h4.1, fun i hi => ?_⟩, by rw [h.1]; exact h5, by rw [h.1]; exact h6⟩
  · rw [h.2 (xt o + 1) (by omega) (by omega)]; exact h3.2 i hi
  · rw [h.2 (xt o + 3 + 1) (by omega) (by omega)]; exact h4.2 i hi
/-- what only the reference's scratch rows tell apart -/
theorem mq_1 {τ τ' : St} (h : Mq τ τ') : τ'.2 1 = τ.2 1 := h.2 1 (by decide) (by decide)
/-- a treaty is taken: all in like it enough -/
def tkn (R : Nat → Int32) (t k : Nat) : Bool := match k with
  | 0 => true
  | k + 1 => tkn R t k && (!(decide (R (14 + 5 * k) = 1)) || decide (R 7 ≤ lk R k t))
theorem tkn_no {R : Nat → Int32} {t k : Nat} (h : tkn R t k = false) : ∀ d, tkn R t (k + d) = false := by
  intro d
  induction d with
  | zero => exact h
  | succ d ih => rw [show k + (d + 1) = (k + d) + 1 by omega, tkn, ih]; rfl
def b01 (b : Bool) : Int32 := match b with
  | true => 1
  | false => 0
theorem Rp_isTaken_loop {R : Nat → Int32} {o N t : Nat} (ho : o = 15 ∨ o = 24) (hN : RN R N) (ht : t < 64) : ∀ (m k n : Nat) (σ : St), k + m = N → m < n → RA σ o R → TX σ o R → tkn R t k = true → okk (Rp_isTaken_L2 n o (nI t) (nI k) σ) (fun r σ' => r = b01 (tkn R t N) ∧ SQ σ σ') := by
  intro m
  induction m with
  | zero =>
    intro k n σ hk hn hA hT hy
    obtain ⟨n, rfl⟩ : ∃ z, n = z + 1 := ⟨n - 1, by omega⟩
    have hk : k = N := by omega
    rw [Rp_isTaken_L2, hA.1.2.2.1, hN.2.1, hk, if_pos (Int32.le_refl _), ← hk, hy]
    exact ok_some ⟨rfl, SQ.rf σ⟩
  | succ m ih =>
    intro k n σ hk hn hA hT hy
    obtain ⟨n, rfl⟩ : ∃ z, n = z + 1 := ⟨n - 1, by omega⟩
    have h6 := hN.1
    have e5 : σ.2 (o + 5) k = R (14 + 5 * k) := RA_at hA 4 (by decide) (show k < 6 by omega) (by omega) (by omega)
    rw [Rp_isTaken_L2, hA.1.2.2.1, hN.2.1, if_neg (nI_ge (show k < N by omega) (by omega)), inb_nI (show k < 6 by omega) (by omega), grd_t, nI_clamp (show k < 2 ^ 31 by omega), e5]
    by_cases hi : R (14 + 5 * k) = 1
    · rw [if_pos hi]
      refine ok_bnd (Rp_likes_ok ho (show k < 6 by omega) hA hT) (fun r s hq => ?_)
      have hs := SQ.x8 hq.2
      have hA2 := sq_RA hs (by omega) hA
      rw [hA2.1.2.2.2.2.2.2.2, hq.1]
      by_cases hb : R 7 ≤ lk R k t
      · rw [if_pos hb, nam_t, nI_lit1]
        exact ok_mono (ih (k + 1) n s (by omega) (by omega) hA2 (sq_TX hs hT) (by rw [tkn, hy, decide_eq_true hi, decide_eq_true hb]; rfl)) (fun r s h => ⟨h.1, hs.tr h.2⟩)
      · rw [if_neg hb]
        have hf : tkn R t (k + 1) = false := by rw [tkn, hy, decide_eq_true hi, decide_eq_false hb]; rfl
        have hf2 := tkn_no hf (N - (k + 1))
        rw [show k + 1 + (N - (k + 1)) = N by omega] at hf2
        rw [hf2]
        exact ok_some ⟨rfl, hs⟩
    · rw [if_neg hi, nam_t, nI_lit1]
      exact ih (k + 1) n σ (by omega) (by omega) hA hT (by rw [tkn, hy, decide_eq_false hi]; rfl)
theorem Rp_isTaken_ok {R : Nat → Int32} {o N t : Nat} (ho : o = 15 ∨ o = 24) (hN : RN R N) (ht : t < 64) {σ : St} (hA : RA σ o R) (hT : TX σ o R) : okk (Rp_isTaken o (nI t) σ) (fun r σ' => r = b01 (tkn R t N) ∧ SQ σ σ') := Rp_isTaken_loop ho hN ht N 0 1000 σ (by omega) (by have := hN.1; omega) hA hT rfl
theorem Mo_doesTake_ok {τ : St} {j t : Nat} (hj : j < 6) (ht : t < 64) (hT : TW (τ.2 1) 245) : okk (Mo_doesTake (nI j) (nI t) τ) (fun r τ' => r = b01 (decide (τ.2 1 7 ≤ lk (τ.2 1) j t)) ∧ Mq τ τ') := by
  rw [Mo_doesTake]
  refine ok_bnd (Mo_likesOf_ok hj ht hT) (fun r s hq => ?_)
  rw [show inb (7 : Int32) 366 = true from rfl, grd_t, show (7 : Int32).toNatClampNeg = 7 from by decide, mq_1 hq.2, hq.1]
  by_cases h : τ.2 1 7 ≤ lk (τ.2 1) j t
  · rw [if_neg (by rw [lt_i]; rw [le_i] at h; omega)]
    exact ok_some ⟨by rw [decide_eq_true h]; rfl, hq.2⟩
  · rw [if_pos (by rw [lt_i]; rw [le_i] at h; omega)]
    exact ok_some ⟨by rw [decide_eq_false h]; rfl, hq.2⟩
theorem Mo_isTaken_loop {R : Nat → Int32} {N t : Nat} (hN : RN R N) (ht : t < 64) (hT : TW R 245) : ∀ (m k n : Nat) (τ : St), k + m = N → m < n → τ.2 1 = R → okk (Mo_isTaken_L4 n (nI t) (b01 (tkn R t k)) (nI k) τ) (fun r τ' => r = b01 (tkn R t N) ∧ Mq τ τ') := by
  have hB : ∀ b, isB (b01 b) = true := fun b => by cases b <;> rfl
  intro m
  induction m with
  | zero =>
    intro k n τ hk hn h1
    obtain ⟨n, rfl⟩ : ∃ z, n = z + 1 := ⟨n - 1, by omega⟩
    have hk : k = N := by omega
    rw [Mo_isTaken_L4, show inb (2 : Int32) 366 = true from rfl, grd_t, show (2 : Int32).toNatClampNeg = 2 from by decide, h1, hN.2.1, hk, if_pos (Int32.le_refl _), hB, grd_t]
    exact ok_some ⟨rfl, Mq.rf τ⟩
  | succ m ih =>
    intro k n τ hk hn h1
    obtain ⟨n, rfl⟩ : ∃ z, n = z + 1 := ⟨n - 1, by omega⟩
    have h6 := hN.1
    rw [Mo_isTaken_L4, show inb (2 : Int32) 366 = true from rfl, grd_t, show (2 : Int32).toNatClampNeg = 2 from by decide, h1, hN.2.1, if_neg (nI_ge (show k < N by omega) (by omega))]
    cases hy : tkn R t k with
    | false =>
      have hf2 := tkn_no hy (N - k)
      rw [show k + (N - k) = N by omega] at hf2
      rw [hf2, show b01 false = 0 from rfl, if_pos rfl, show isB (0 : Int32) = true from rfl, grd_t]
      exact ok_some ⟨rfl, Mq.rf τ⟩
    | true =>
      rw [show b01 true = 1 from rfl, if_neg (by decide), Mo_isIn_eq (by omega), bnd_t, h1]
      by_cases hi : R (14 + 5 * k) = 1
      · rw [if_pos hi, if_neg (by decide)]
        rw [← h1] at hT
        refine ok_bnd (Mo_doesTake_ok (show k < 6 by omega) ht hT) (fun r s hq => ?_)
        rw [hq.1, h1]
        have hs1 : s.2 1 = R := (mq_1 hq.2).trans h1
        by_cases hb : R 7 ≤ lk R k t
        · rw [decide_eq_true hb, show b01 true = 1 from rfl, if_neg (by decide), nam_t, nI_lit1]
          have e : b01 (tkn R t (k + 1)) = 1 := by rw [tkn, hy, decide_eq_true hi, decide_eq_true hb]; rfl
          rw [← e]
          exact ok_mono (ih (k + 1) n s (by omega) (by omega) hs1) (fun r s' h => ⟨h.1, hq.2.tr h.2⟩)
        · rw [decide_eq_false hb, show b01 false = 0 from rfl, if_pos rfl, nam_t, nI_lit1]
          have e : b01 (tkn R t (k + 1)) = 0 := by rw [tkn, hy, decide_eq_true hi, decide_eq_false hb]; rfl
          rw [← e]
          exact ok_mono (ih (k + 1) n s (by omega) (by omega) hs1) (fun r s' h => ⟨h.1, hq.2.tr h.2⟩)
      · rw [if_neg hi, if_pos rfl, nam_t, nI_lit1]
        have e : b01 (tkn R t (k + 1)) = 1 := by rw [tkn, hy, decide_eq_false hi]; rfl
        rw [← e]
        exact ih (k + 1) n τ (by omega) (by omega) h1
theorem Mo_isTaken_ok {τ : St} {N t : Nat} (hN : RN (τ.2 1) N) (ht : t < 64) (hT : TW (τ.2 1) 245) : okk (Mo_isTaken (nI t) τ) (fun r τ' => r = b01 (tkn (τ.2 1) t N) ∧ Mq τ τ') := Mo_isTaken_loop hN ht hT N 0 1000 τ (by omega) (by have := hN.1; omega) rfl
