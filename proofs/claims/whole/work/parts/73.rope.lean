/-! ===== ropes: what a rope of the class and the reference's row have in common ===== -/
def RA (σ : St) (o : Nat) (R : Nat → Int32) : Prop := (σ.1 o 10 = R 0 ∧ σ.1 o 14 = R 1 ∧ σ.1 o 9 = R 2 ∧ σ.1 o 11 = R 3 ∧ σ.1 o 13 = R 4 ∧ σ.2 (o + 6) 0 = R 5 ∧ σ.2 (o + 6) 1 = R 6 ∧ σ.1 o 12 = R 7) ∧ ∀ w j, w < 5 → j < 6 → σ.2 (o + 1 + w) j = R (10 + 5 * j + w)
theorem ix_of {j w : Nat} : ((10 : Int32) + 5 * nI j) + nI w = nI (10 + 5 * j + w) := by
  rw [show (10 : Int32) = nI 10 from rfl, show (5 : Int32) = nI 5 from rfl, pk_mul, nI_add, nI_add]
theorem Mo_of_eq {j w : Nat} (hj : j < 6) (hw : w < 5) (τ : St) : Mo_of (nI j) (nI w) τ = some (τ.2 1 (10 + 5 * j + w), τ) := by
  rw [Mo_of, ix_of, inb_nI (by omega) (by omega), grd_t, nI_clamp (by omega)]
theorem Mo_lets_eq {j w : Nat} {v : Int32} (hj : j < 6) (hw : w < 5) (τ : St) : Mo_lets (nI j) (nI w) v τ = some (0, sA τ 1 (10 + 5 * j + w) v) := by
  rw [Mo_lets, ix_of, inb_nI (by omega) (by omega), grd_t, nas_t, nI_clamp (by omega)]
theorem Mo_isIn_eq {j : Nat} (hj : j < 6) (τ : St) : Mo_isIn (nI j) τ = some (if τ.2 1 (14 + 5 * j) = 1 then 1 else 0, τ) := by
  rw [Mo_isIn, show (4 : Int32) = nI 4 from rfl, Mo_of_eq hj (by decide), bnd_t, show 10 + 5 * j + 4 = 14 + 5 * j by omega]
  split <;> rfl
/-- the set of those in, of the first k -/
def sset (R : Nat → Int32) (k : Nat) : Int32 := match k with
  | 0 => 0
  | k + 1 => sset R k ||| (if R (14 + 5 * k) = 1 then (1 : Int32) <<< (nI k &&& 31) else 0)
theorem Mo_allIn_loop {R : Nat → Int32} {N : Nat} (hN : N ≤ 6) (hR : R 2 = nI N) : ∀ (m k n : Nat) (τ : St), k + m = N → m < n → τ.2 1 = R → Mo_allIn_L4 n (sset R k) (nI k) τ = some (sset R N, τ) := by
  intro m
  induction m with
  | zero =>
    intro k n τ hk hn h1
    obtain ⟨n, rfl⟩ : ∃ z, n = z + 1 := ⟨n - 1, by omega⟩
    have hk : k = N := by omega
    rw [Mo_allIn_L4, show inb (2 : Int32) 366 = true from rfl, grd_t, show (2 : Int32).toNatClampNeg = 2 from by decide, h1, hR, hk, if_pos (Int32.le_refl _)]
  | succ m ih =>
    intro k n τ hk hn h1
    obtain ⟨n, rfl⟩ : ∃ z, n = z + 1 := ⟨n - 1, by omega⟩
    rw [Mo_allIn_L4, show inb (2 : Int32) 366 = true from rfl, grd_t, show (2 : Int32).toNatClampNeg = 2 from by decide, h1, hR, if_neg (nI_ge (show k < N by omega) (by omega)), Mo_isIn_eq (by omega), bnd_t, h1]
    by_cases hi : R (14 + 5 * k) = 1
    · rw [if_pos hi, if_neg (by decide), nam_t, nam_t, nI_lit1]
      have e : sset R (k + 1) = sset R k ||| (1 : Int32) <<< (nI k &&& 31) := by rw [sset, if_pos hi]
      rw [← e]
      exact ih (k + 1) n τ (by omega) (by omega) h1
    · rw [if_neg hi, if_pos rfl, nam_t, nam_t, nI_lit1]
      have e : sset R (k + 1) = sset R k ||| 0 := by rw [sset, if_neg hi]
      rw [← e]
      exact ih (k + 1) n τ (by omega) (by omega) h1
theorem Mo_allIn_eq {τ : St} {N : Nat} (hN : N ≤ 6) (hR : τ.2 1 2 = nI N) : Mo_allIn τ = some (sset (τ.2 1) N, τ) := Mo_allIn_loop hN hR N 0 1000 τ (by omega) (by omega) rfl
