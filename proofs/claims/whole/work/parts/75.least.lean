/-! ===== the least liking of those in ===== -/
def ll (R : Nat → Int32) (t k : Nat) : Int32 := match k with
  | 0 => 99
  | k + 1 => if R (14 + 5 * k) = 1 then imn (ll R t k) (lk R k t) else ll R t k
theorem imn_le {x y : Int32} : imn x y ≤ x := by
  unfold imn
  rw [le_i]
  split
  · rename_i h; rw [lt_i] at h; omega
  · omega
theorem ll_99 {R : Nat → Int32} {t : Nat} : ∀ k : Nat, ll R t k ≤ 99 := by
  intro k
  induction k with
  | zero => exact Int32.le_refl _
  | succ k ih =>
    rw [ll]
    split
    · have := imn_le (x := ll R t k) (y := lk R k t)
      rw [le_i] at this ih ⊢
      omega
    · exact ih
theorem Rp_least_loop {R : Nat → Int32} {o N t : Nat} (ho : o = 15 ∨ o = 24) (hN : RN R N) : ∀ (m k n : Nat) (σ : St), k + m = N → m < n → RA σ o R → TX σ o R → okk (Rp_leastLiking_L5 n o (nI t) (ll R t k) (nI k) σ) (fun r σ' => r = ll R t N ∧ SQ σ σ') := by
  intro m
  induction m with
  | zero =>
    intro k n σ hk hn hA hT
    obtain ⟨n, rfl⟩ : ∃ z, n = z + 1 := ⟨n - 1, by omega⟩
    have hk : k = N := by omega
    rw [Rp_leastLiking_L5, hA.1.2.2.1, hN.2.1, hk, if_pos (Int32.le_refl _)]
    exact ok_some ⟨rfl, SQ.rf σ⟩
  | succ m ih =>
    intro k n σ hk hn hA hT
    obtain ⟨n, rfl⟩ : ∃ z, n = z + 1 := ⟨n - 1, by omega⟩
    have h6 := hN.1
    have e5 : σ.2 (o + 5) k = R (14 + 5 * k) := RA_at hA 4 (by decide) (show k < 6 by omega) (by omega) (by omega)
    rw [Rp_leastLiking_L5, hA.1.2.2.1, hN.2.1, if_neg (nI_ge (show k < N by omega) (by omega)), inb_nI (show k < 6 by omega) (by omega), grd_t, nI_clamp (show k < 2 ^ 31 by omega), e5]
    by_cases hi : R (14 + 5 * k) = 1
    · rw [if_pos hi]
      refine ok_bnd (Rp_likes_ok ho (show k < 6 by omega) hA hT) (fun r s hq => ?_)
      have hs := SQ.x8 hq.2
      rw [nam_t, nam_t, nI_lit1, hq.1]
      have e : ll R t (k + 1) = imn (ll R t k) (lk R k t) := by rw [ll, if_pos hi]
      rw [← e]
      exact ok_mono (ih (k + 1) n s (by omega) (by omega) (sq_RA hs (by omega) hA) (sq_TX hs hT)) (fun r s h => ⟨h.1, hs.tr h.2⟩)
    · rw [if_neg hi, nam_t, nI_lit1]
      have e : ll R t (k + 1) = ll R t k := by rw [ll, if_neg hi]
      rw [← e]
      exact ih (k + 1) n σ (by omega) (by omega) hA hT
theorem Rp_leastLiking_ok {R : Nat → Int32} {o N t : Nat} (ho : o = 15 ∨ o = 24) (hN : RN R N) {σ : St} (hA : RA σ o R) (hT : TX σ o R) : okk (Rp_leastLiking o (nI t) σ) (fun r σ' => r = ll R t N ∧ SQ σ σ') := Rp_least_loop ho hN N 0 1000 σ (by omega) (by have := hN.1; omega) hA hT
theorem Mo_least_loop {R : Nat → Int32} {N t : Nat} (hN : RN R N) (ht : t < 64) (hT : TW R 245) : ∀ (m k n : Nat) (τ : St), k + m = N → m < n → τ.2 1 = R → okk (Mo_leastLiking_L5 n (nI t) (ll R t k) (nI k) τ) (fun r τ' => r = ll R t N ∧ Mq τ τ') := by
  intro m
  induction m with
  | zero =>
    intro k n τ hk hn h1
    obtain ⟨n, rfl⟩ : ∃ z, n = z + 1 := ⟨n - 1, by omega⟩
    have hk : k = N := by omega
    rw [Mo_leastLiking_L5, show inb (2 : Int32) 366 = true from rfl, grd_t, show (2 : Int32).toNatClampNeg = 2 from by decide, h1, hN.2.1, hk, if_pos (Int32.le_refl _)]
    exact ok_some ⟨rfl, Mq.rf τ⟩
  | succ m ih =>
    intro k n τ hk hn h1
    obtain ⟨n, rfl⟩ : ∃ z, n = z + 1 := ⟨n - 1, by omega⟩
    have h6 := hN.1
    rw [Mo_leastLiking_L5, show inb (2 : Int32) 366 = true from rfl, grd_t, show (2 : Int32).toNatClampNeg = 2 from by decide, h1, hN.2.1, if_neg (nI_ge (show k < N by omega) (by omega)), Mo_isIn_eq (by omega), bnd_t, h1]
    by_cases hi : R (14 + 5 * k) = 1
    · rw [if_pos hi, if_neg (by decide)]
      rw [← h1] at hT
      refine ok_bnd (Mo_likesOf_ok (show k < 6 by omega) ht hT) (fun r s hq => ?_)
      rw [hq.1, h1]
      have hs1 : s.2 1 = R := (mq_1 hq.2).trans h1
      have e : ll R t (k + 1) = imn (ll R t k) (lk R k t) := by rw [ll, if_pos hi]
      by_cases hb : ll R t k ≤ lk R k t
      · rw [if_pos hb, nam_t, nI_lit1]
        have e2 : ll R t (k + 1) = ll R t k := by rw [e, imn, if_neg (by rw [lt_i]; rw [le_i] at hb; omega)]
        rw [← e2]
        exact ok_mono (ih (k + 1) n s (by omega) (by omega) hs1) (fun r s' h => ⟨h.1, hq.2.tr h.2⟩)
      · rw [if_neg hb, nam_t, nI_lit1]
        have e2 : ll R t (k + 1) = lk R k t := by rw [e, imn, if_pos (by rw [lt_i]; rw [le_i] at hb; omega)]
        rw [← e2]
        exact ok_mono (ih (k + 1) n s (by omega) (by omega) hs1) (fun r s' h => ⟨h.1, hq.2.tr h.2⟩)
    · rw [if_neg hi, if_pos rfl, if_pos (ll_99 k), nam_t, nI_lit1]
      have e : ll R t (k + 1) = ll R t k := by rw [ll, if_neg hi]
      rw [← e]
      exact ih (k + 1) n τ (by omega) (by omega) h1
theorem Mo_leastLiking_ok {τ : St} {N t : Nat} (hN : RN (τ.2 1) N) (ht : t < 64) (hT : TW (τ.2 1) 245) : okk (Mo_leastLiking (nI t) τ) (fun r τ' => r = ll (τ.2 1) t N ∧ Mq τ τ') := Mo_least_loop hN ht hT N 0 1000 τ (by omega) (by have := hN.1; omega) rfl
