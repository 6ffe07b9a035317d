/-! ===== ropes: what a rope of the class and the reference's row have in common ===== -/
def RA (σ : St) (o : Nat) (R : Nat → Int32) : Prop := (σ.1 o 10 = R 0 ∧ σ.1 o 14 = R 1 ∧ σ.1 o 9 = R 2 ∧ σ.1 o 11 = R 3 ∧ σ.1 o 13 = R 4 ∧ σ.2 (o + 6) 0 = R 5 ∧ σ.2 (o + 6) 1 = R 6 ∧ σ.1 o 12 = R 7) ∧ ∀ w j, w < 5 → j < 6 → σ.2 (o + 1 + w) j = R (10 + 5 * j + w)
theorem ix_of {j w : Nat} : ((10 : Int32) + 5 * nI j) + nI w = nI (10 + 5 * j + w) := by
  rw [show (10 : Int32) = nI 10 from rfl, show (5 : Int32) = nI 5 from rfl, pk_mul, nI_add, nI_add]
theorem Mo_of_eq {j w : Nat} (hj : j < 6) (hw : w < 5) (τ : St) : Mo_of (nI j) (nI w) τ = some (τ.2 1 (10 + 5 * j + w), τ) := by
  rw [Mo_of, ix_of, inb_nI (by omega) (by omega), grd_t, nI_clamp (by omega)]
theorem Mo_lets_eq {j w : Nat} {v : Int32} (hj : j < 6) (hw : w < 5) (τ : St) : Mo_lets (nI j) (nI w) v τ = some (0, sA τ 1 (10 + 5 * j + w) v) := by
  rw [Mo_lets, ix_of, inb_nI (by omega) (by omega), grd_t, nas_t, nI_clamp (by omega)]
theorem Mo_isIn_eq {j : Nat} (hj : j < 6) (τ : St) : Mo_isIn (nI j) τ = some (if τ.2 1 (14 + 5 * j) = 1 then 1 else 0, τ) := by
  rw [Mo_isIn, show (4 : Int32) = nI 4 from rfl, Mo_of_eq hj (by decide), bnd_t, show 10 + 5 * j + 4 = 14 + 5 * j by omega]
  split <;> rfl
/-- the set of those in, of the first k -/
def sset (R : Nat → Int32) (k : Nat) : Int32 := match k with
  | 0 => 0
  | k + 1 => sset R k ||| (if R (14 + 5 * k) = 1 then (1 : Int32) <<< (nI k &&& 31) else 0)
theorem Mo_allIn_loop {R : Nat → Int32} {N : Nat} (hN : N ≤ 6) (hR : R 2 = nI N) : ∀ (m k n : Nat) (τ : St), k + m = N → m < n → τ.2 1 = R → Mo_allIn_L4 n (sset R k) (nI k) τ = some (sset R N, τ) := by
  intro m
  induction m with
  | zero =>
    intro k n τ hk hn h1
    obtain ⟨n, rfl⟩ : ∃ z, n = z + 1 := ⟨n - 1, by omega⟩
    have hk : k = N := by omega
    rw [Mo_allIn_L4, show inb (2 : Int32) 366 = true from rfl, grd_t, show (2 : Int32).toNatClampNeg = 2 from by decide, h1, hR, hk, if_pos (Int32.le_refl _)]
  | succ m ih =>
    intro k n τ hk hn h1
    obtain ⟨n, rfl⟩ : ∃ z, n = z + 1 := ⟨n - 1, by omega⟩
    rw [Mo_allIn_L4, show inb (2 : Int32) 366 = true from rfl, grd_t, show (2 : Int32).toNatClampNeg = 2 from by decide, h1, hR, if_neg (nI_ge (show k < N by omega) (by omega)), Mo_isIn_eq (by omega), bnd_t, h1]
    by_cases hi : R (14 + 5 * k) = 1
    · rw [if_pos hi, if_neg (by decide), nam_t, nam_t, nI_lit1]
      have e : sset R (k + 1) = sset R k ||| (1 : Int32) <<< (nI k &&& 31) := by rw [sset, if_pos hi]
      rw [← e]
      exact ih (k + 1) n τ (by omega) (by omega) h1
    · rw [if_neg hi, if_pos rfl, nam_t, nam_t, nI_lit1]
      have e : sset R (k + 1) = sset R k ||| 0 := by rw [sset, if_neg hi]
      rw [← e]
      exact ih (k + 1) n τ (by omega) (by omega) h1
theorem Mo_allIn_eq {τ : St} {N : Nat} (hN : N ≤ 6) (hR : τ.2 1 2 = nI N) : Mo_allIn τ = some (sset (τ.2 1) N, τ) := Mo_allIn_loop hN hR N 0 1000 τ (by omega) (by omega) rfl
/-- what always holds of a row: how many jumpers, who is in -/
def RN (R : Nat → Int32) (N : Nat) : Prop := N ≤ 6 ∧ R 2 = nI N ∧ ∀ j, j < 6 → R (14 + 5 * j) = 0 ∨ R (14 + 5 * j) = 1
theorem Rp_setIn_loop {R : Nat → Int32} {o N : Nat} (hN : RN R N) {σ : St} (hA : RA σ o R) : ∀ (m k n : Nat), k + m = N → m < n → Rp_setIn_L4 n o (sset R k) (nI k) σ = some (sset R N, σ) := by
  obtain ⟨h6, hR, hin⟩ := hN
  have h9 : σ.1 o 9 = nI N := hA.1.2.2.1.trans hR
  intro m
  induction m with
  | zero =>
    intro k n hk hn
    obtain ⟨n, rfl⟩ : ∃ z, n = z + 1 := ⟨n - 1, by omega⟩
    have hk : k = N := by omega
    rw [Rp_setIn_L4, h9, hk, if_pos (Int32.le_refl _)]
  | succ m ih =>
    intro k n hk hn
    obtain ⟨n, rfl⟩ : ∃ z, n = z + 1 := ⟨n - 1, by omega⟩
    rw [Rp_setIn_L4, h9, if_neg (nI_ge (show k < N by omega) (by omega)), inb_nI (show k < 6 by omega) (by omega), grd_t, nam_t, nam_t, nI_lit1, nI_clamp (show k < 2 ^ 31 by omega)]
    have hv : σ.2 (o + 5) k = R (14 + 5 * k) := by
      have := hA.2 4 k (by omega) (by omega)
      rw [show o + 1 + 4 = o + 5 by omega, show 10 + 5 * k + 4 = 14 + 5 * k by omega] at this
      exact this
    have e : sset R (k + 1) = sset R k ||| (σ.2 (o + 5) k) <<< (nI k &&& 31) := by
      rw [sset, hv]
      rcases hin k (by omega) with q | q
      · rw [q, if_neg (by decide)]
        have hz : (0 : Int32) <<< (nI k &&& 31) = 0 := by
          have : ∀ k : Nat, k < 6 → (0 : Int32) <<< (nI k &&& 31) = 0 := by decide +kernel
          exact this k (by omega)
        rw [hz]
      · rw [q, if_pos rfl]
    rw [← e]
    exact ih (k + 1) n (by omega) (by omega)
theorem Rp_setIn_eq {R : Nat → Int32} {o N : Nat} (hN : RN R N) {σ : St} (hA : RA σ o R) : Rp_setIn o σ = some (sset R N, σ) := Rp_setIn_loop hN hA N 0 1000 (by omega) (by have := hN.1; omega)
/-- how many bits, as the JDK counts them -/
def bcv (x : Int32) : Int32 :=
  let y1 := x - (iush x 1 &&& 1431655765)
  let y2 := (y1 &&& 858993459) + (iush y1 2 &&& 858993459)
  let y3 := (y2 + iush y2 4) &&& 252645135
  let y4 := y3 + iush y3 8
  let y5 := y4 + iush y4 16
  y5 &&& 63
theorem In_bitCount_eq {x : Int32} {σ : St} : In_bitCount x σ = some (bcv x, σ) := rfl
theorem nz4 : nz (4 : Int32) = true := by decide
def wd (R : Nat → Int32) : Int32 := irm (R 0) 4
theorem Mo_word_eq {τ : St} : Mo_word τ = some (wd (τ.2 1), τ) := by
  rw [Mo_word, show inb (0 : Int32) 366 = true from rfl, grd_t, nz4, grd_t]
  rfl
theorem Rp_word_eq {R : Nat → Int32} {o : Nat} {σ : St} (hA : RA σ o R) : Rp_word o σ = some (wd R, σ) := by
  rw [Rp_word, nz4, grd_t, hA.1.1]
  rfl
/-- whether the rope turns -/
def tn (R : Nat → Int32) : Int32 := if R 5 ≤ 0 then 0 else if R 6 ≤ 0 then 0 else 1
theorem Mo_doesTurn_eq {τ : St} : Mo_doesTurn τ = some (tn (τ.2 1), τ) := by
  rw [Mo_doesTurn, show inb (5 : Int32) 366 = true from rfl, grd_t, show inb (6 : Int32) 366 = true from rfl, grd_t, show (5 : Int32).toNatClampNeg = 5 from by decide, show (6 : Int32).toNatClampNeg = 6 from by decide]
  unfold tn
  by_cases h : τ.2 1 5 ≤ 0
  · rw [if_pos h, if_pos h]
  · rw [if_neg h, if_neg h]
    by_cases h2 : τ.2 1 6 ≤ 0
    · rw [if_pos h2, if_pos h2]
    · rw [if_neg h2, if_neg h2]
theorem Rp_turns_eq {R : Nat → Int32} {o : Nat} {σ : St} (hA : RA σ o R) : Rp_turns o σ = some (tn R, σ) := by
  rw [Rp_turns, show inb (0 : Int32) 2 = true from rfl, grd_t, show inb (1 : Int32) 2 = true from rfl, grd_t, show (0 : Int32).toNatClampNeg = 0 from by decide, show (1 : Int32).toNatClampNeg = 1 from by decide, hA.1.2.2.2.2.2.1, hA.1.2.2.2.2.2.2.1]
  unfold tn
  by_cases h : R 5 ≤ 0
  · rw [if_pos h, if_pos h]
  · rw [if_neg h, if_neg h]
    by_cases h2 : R 6 ≤ 0
    · rw [if_pos h2, if_pos h2]
    · rw [if_neg h2, if_neg h2]
def blv (n : Nat) (c x : Int32) : Option Int32 := match n with
  | 0 => none
  | n + 1 => if x = 0 then some c else blv n (c + 1) (x &&& (x - 1))
theorem Mo_bits_bl {x0 : Int32} {τ : St} : ∀ (n : Nat) (c x : Int32), Mo_bits_L4 n x0 c x τ = (blv n c x).map (fun r => (r, τ)) := by
  intro n
  induction n with
  | zero => intro c x; rfl
  | succ n ih =>
    intro c x
    rw [Mo_bits_L4, blv]
    by_cases h : x = 0
    · rw [if_pos h, if_pos h]; rfl
    · rw [if_neg h, if_neg h, nam_t, nam_t, ih]
theorem blv_64 : ∀ x : Nat, x < 64 → blv 1000 0 (nI x) = some (bcv (nI x)) := by decide +kernel
theorem bcv_64 : ∀ x : Nat, x < 64 → ∃ y : Nat, y ≤ 6 ∧ bcv (nI x) = nI y := by
  have h : ∀ x : Nat, x < 64 → (List.range 7).any (fun y => decide (bcv (nI x) = nI y)) = true := by decide +kernel
  intro x hx
  obtain ⟨y, h1, h2⟩ := List.any_eq_true.mp (h x hx)
  exact ⟨y, by have := List.mem_range.mp h1; omega, of_decide_eq_true h2⟩
theorem Mo_bits_eq {x : Nat} (hx : x < 64) {τ : St} : Mo_bits (nI x) τ = some (bcv (nI x), τ) := by
  rw [Mo_bits, Mo_bits_bl, blv_64 x hx]
  rfl
theorem sset_64 {R : Nat → Int32} : ∀ N : Nat, N ≤ 6 → ∃ x : Nat, x < 2 ^ N ∧ sset R N = nI x := by
  intro N
  induction N with
  | zero => intro _; exact ⟨0, by decide, rfl⟩
  | succ N ih =>
    intro h
    obtain ⟨x, hx, he⟩ := ih (by omega)
    have hor : ∀ a b : Nat, nI a ||| nI b = nI (a ||| b) := fun a b => by
      apply Int32.toBitVec_inj.mp
      show BitVec.ofNat 32 a ||| BitVec.ofNat 32 b = BitVec.ofNat 32 (a ||| b)
      exact (BitVec.ofNat_or).symm
    have hs : ∀ k : Nat, k < 6 → (1 : Int32) <<< (nI k &&& 31) = nI (2 ^ k) := by decide +kernel
    rw [sset, he]
    have h2 : (2 : Nat) ^ (N + 1) = 2 ^ N + 2 ^ N := by rw [Nat.pow_succ]; omega
    by_cases hi : R (14 + 5 * N) = 1
    · rw [if_pos hi, hs N (by omega), hor]
      exact ⟨_, Nat.or_lt_two_pow (by omega) (by rw [h2]; have := Nat.two_pow_pos N; omega), rfl⟩
    · rw [if_neg hi, show (0 : Int32) = nI 0 from rfl, hor]
      exact ⟨_, Nat.or_lt_two_pow (by omega) (by have := Nat.two_pow_pos (N + 1); omega), rfl⟩
/-- how many are in -/
def hm (R : Nat → Int32) (N : Nat) : Int32 := bcv (sset R N)
theorem Rp_howManyIn_eq {R : Nat → Int32} {o N : Nat} (hN : RN R N) {σ : St} (hA : RA σ o R) : Rp_howManyIn o σ = some (hm R N, σ) := by
  rw [Rp_howManyIn, Rp_setIn_eq hN hA, bnd_t, In_bitCount_eq, bnd_t]
  rfl
theorem Mo_bits_sset {R : Nat → Int32} {N : Nat} (hN : N ≤ 6) {τ : St} : Mo_bits (sset R N) τ = some (hm R N, τ) := by
  obtain ⟨x, hx, he⟩ := sset_64 (R := R) N hN
  have h64 : x < 64 := Nat.lt_of_lt_of_le hx (Nat.pow_le_pow_right (by decide) hN)
  rw [hm, he, Mo_bits_eq h64]
def tk (R : Nat → Int32) (N j : Nat) : Int32 :=
  if R (10 + 5 * j) = 1 then 1 + wd R + 1 else if R (10 + 5 * j) = 2 then 1 + wd R else if R (10 + 5 * j) = 3 then 1 else if R (10 + 5 * j) = 4 then 1 + wd R + 1 + hm R N else if R (10 + 5 * j) = 5 then (1 + wd R) / 2 else if R (10 + 5 * j) = 6 then 2 * (1 + wd R) else 1 + wd R
theorem RA_at {σ : St} {o : Nat} {R : Nat → Int32} (hA : RA σ o R) (w : Nat) {j : Nat} (hw : w < 5) (hj : j < 6) {a i : Nat} (ha : a = o + 1 + w) (hi : i = 10 + 5 * j + w) : σ.2 a j = R i := by rw [ha, hi]; exact hA.2 w j hw hj
theorem Mo_takesOf_eq {τ : St} {N j : Nat} (hN : RN (τ.2 1) N) (hj : j < 6) : Mo_takesOf (nI j) τ = some (tk (τ.2 1) N j, τ) := by
  rw [Mo_takesOf, Mo_word_eq, bnd_t, nam_t, show (0 : Int32) = nI 0 from rfl, Mo_of_eq hj (by decide), bnd_t, Nat.add_zero, tk]
  split
  · rfl
  · split
    · rfl
    · split
      · rfl
      · split
        · rw [Mo_allIn_eq hN.1 hN.2.1, bnd_t, Mo_bits_sset hN.1, bnd_t]
        · split
          · rw [show nz (2 : Int32) = true from rfl, grd_t]
          · split <;> rfl
theorem Rp_takes_eq {R : Nat → Int32} {o N j : Nat} (hN : RN R N) (hj : j < 6) {σ : St} (hA : RA σ o R) : Rp_takes o (nI j) σ = some (tk R N j, σ) := by
  rw [Rp_takes, Rp_word_eq hA, bnd_t, nam_t, inb_nI hj (by decide), grd_t, nI_clamp (by omega), RA_at hA 0 (by decide) hj (i := 10 + 5 * j) (by omega) (by omega), tk]
  split
  · rfl
  · split
    · rfl
    · split
      · rfl
      · split
        · rw [Rp_howManyIn_eq hN hA, bnd_t]
        · split
          · rw [show nz (2 : Int32) = true from rfl, grd_t]
          · split <;> rfl
/-- where a rope's first text lies (of the ropes 15 and 24) -/
def xt (o : Nat) : Nat := if o = 24 then 66 else 3
theorem xt_or (o : Nat) : xt o = 3 ∨ xt o = 66 := by
  unfold xt
  split
  · exact Or.inr rfl
  · exact Or.inl rfl
/-- the texts in force of a rope o: the class's at xt o and 3 on, the reference's at 124 and 245 -/
def TX (σ : St) (o : Nat) (R : Nat → Int32) : Prop := TW R 124 ∧ TW R 245 ∧ TR σ (xt o) R 124 ∧ TR σ (xt o + 3) R 245 ∧ σ.1 (xt o) 0 = 20 ∧ σ.1 (xt o + 3) 0 = 99
def ct (R : Nat → Int32) (N j : Nat) : Int32 := clp 20 (gv R 124 (tk R N j) (wd R) (hm R N))
theorem rpx_n {o : Nat} (h : o = 15 ∨ o = 24) : rpx o = [xt o, xt o + 3] := by rcases h with rfl | rfl <;> rfl
theorem Mo_costsOf_ok {τ : St} {N j : Nat} (hN : RN (τ.2 1) N) (hj : j < 6) (hT : TW (τ.2 1) 124) : okk (Mo_costsOf (nI j) τ) (fun r τ' => r = ct (τ.2 1) N j ∧ Mq τ τ') := by
  rw [Mo_costsOf, Mo_takesOf_eq hN hj, bnd_t, Mo_word_eq, bnd_t, Mo_allIn_eq hN.1 hN.2.1, bnd_t, Mo_bits_sset hN.1, bnd_t]
  exact ok_bnd (Mo_gives0 hT) (fun r s h => ok_some h)
theorem Rp_costs_ok {R : Nat → Int32} {o N j : Nat} (ho : o = 15 ∨ o = 24) (hN : RN R N) (hj : j < 6) {σ : St} (hA : RA σ o R) (hT : TX σ o R) : okk (Rp_costs o (nI j) σ) (fun r σ' => r = ct R N j ∧ Cq (xt o + 2) σ σ') := by
  rw [Rp_costs, rpx_n ho, show inb (0 : Int32) ([xt o, xt o + 3] : List Nat).length = true from rfl, grd_t, wid_t, show ([xt o, xt o + 3] : List Nat).getD (0 : Int32).toNatClampNeg 0 = xt o from rfl, Rp_takes_eq hN hj hA, bnd_t, Rp_word_eq hA, bnd_t, Rp_howManyIn_eq hN hA, bnd_t]
  exact ok_bnd (Tx_gives_ok (mx := 20) (by decide) hT.2.2.2.2.1 hT.1 hT.2.2.1) (fun r s h => ok_some h)
theorem and_64 {t : Nat} (ht : t < 64) (y : Int32) : ∃ x : Nat, x < 64 ∧ nI t &&& y = nI x := by
  refine ⟨t &&& y.toBitVec.toNat, Nat.lt_of_le_of_lt Nat.and_le_left ht, ?_⟩
  apply Int32.toBitVec_inj.mp
  show BitVec.ofNat 32 t &&& y.toBitVec = BitVec.ofNat 32 (t &&& y.toBitVec.toNat)
  rw [BitVec.ofNat_and, BitVec.ofNat_toNat, BitVec.setWidth_eq]
def lp (R : Nat → Int32) (j t : Nat) : Int32 := 10 * bcv (nI t &&& (7 * R (11 + 5 * j) + 9))
def ln (R : Nat → Int32) (j t : Nat) : Int32 :=
  if R (10 + 5 * j) = 1 then 60 - lp R j t else if R (10 + 5 * j) = 2 then lp R j t + 5 * R (13 + 5 * j) else if R (10 + 5 * j) = 3 then 40 + irm (nI t) 5 else if R (10 + 5 * j) = 4 then 50 - lp R j t else if R (10 + 5 * j) = 5 then lp R j t + 5 * R (13 + 5 * j) + irm (R 0) 7 else if R (10 + 5 * j) = 6 then lp R j t / 2 + R (11 + 5 * j) else lp R j t
theorem Mo_leansOf_eq {τ : St} {j t : Nat} (hj : j < 6) (ht : t < 64) : Mo_leansOf (nI j) (nI t) τ = some (ln (τ.2 1) j t, τ) := by
  obtain ⟨x, hx, he⟩ := and_64 ht (7 * τ.2 1 (11 + 5 * j) + 9)
  have e1 : Mo_of (nI j) (1 : Int32) τ = some (τ.2 1 (11 + 5 * j), τ) := by rw [show 11 + 5 * j = 10 + 5 * j + 1 by omega]; exact Mo_of_eq hj (w := 1) (by decide) τ
  have e3 : Mo_of (nI j) (3 : Int32) τ = some (τ.2 1 (13 + 5 * j), τ) := by rw [show 13 + 5 * j = 10 + 5 * j + 3 by omega]; exact Mo_of_eq hj (w := 3) (by decide) τ
  rw [Mo_leansOf, e1, bnd_t, he, Mo_bits_eq hx, bnd_t, ← he, nam_t, e3, bnd_t, nam_t, show Mo_of (nI j) (0 : Int32) τ = some (τ.2 1 (10 + 5 * j), τ) from Mo_of_eq hj (w := 0) (by decide) τ, bnd_t, ln]
  split
  · rfl
  · split
    · rfl
    · split
      · rw [show nz (5 : Int32) = true from rfl, grd_t]
      · split
        · rfl
        · split
          · rw [show inb (0 : Int32) 366 = true from rfl, grd_t, show nz (7 : Int32) = true from rfl, grd_t]; rfl
          · split
            · rw [show nz (2 : Int32) = true from rfl, grd_t]; rfl
            · rfl
theorem sub_1050 (y : Int32) : (60 : Int32) - y - 10 = 50 - y := by
  rw [Int32.sub_sub, Int32.add_comm, ← Int32.sub_sub]
  rfl
theorem Rp_leans_eq {R : Nat → Int32} {o j t : Nat} (hj : j < 6) {σ : St} (hA : RA σ o R) : Rp_leans o (nI j) (nI t) σ = some (ln R j t, σ) := by
  have h5 : nz (5 : Int32) = true := rfl
  have h7 : nz (7 : Int32) = true := rfl
  have h2 : nz (2 : Int32) = true := rfl
  have hb : inb (nI j) 6 = true := inb_nI hj (by decide)
  have e2 : σ.2 (o + 2) j = R (11 + 5 * j) := RA_at hA 1 (by decide) hj (by omega) (by omega)
  have e1 : σ.2 (o + 1) j = R (10 + 5 * j) := RA_at hA 0 (by decide) hj (by omega) (by omega)
  have e4 : σ.2 (o + 4) j = R (13 + 5 * j) := RA_at hA 3 (by decide) hj (by omega) (by omega)
  rw [Rp_leans, hb, grd_t, In_bitCount_eq, bnd_t, nam_t, grd_t, nI_clamp (by omega), e1, e2, e4, hA.1.1, ln]
  split
  · rfl
  · split
    · rw [grd_t]; rfl
    · split
      · rw [h5, grd_t]
      · split
        · exact congrArg (fun z => some (z, σ)) (sub_1050 _)
        · split
          · rw [grd_t, h7, grd_t]; rfl
          · split
            · rw [h2, grd_t, grd_t]; rfl
            · rfl
def lk (R : Nat → Int32) (j t : Nat) : Int32 := clp 99 (gv R 245 (ln R j t) (nI t) (R (13 + 5 * j)))
theorem Mo_likesOf_ok {τ : St} {j t : Nat} (hj : j < 6) (ht : t < 64) (hT : TW (τ.2 1) 245) : okk (Mo_likesOf (nI j) (nI t) τ) (fun r τ' => r = lk (τ.2 1) j t ∧ Mq τ τ') := by
  have e3 : Mo_of (nI j) (3 : Int32) τ = some (τ.2 1 (13 + 5 * j), τ) := by rw [show 13 + 5 * j = 10 + 5 * j + 3 by omega]; exact Mo_of_eq hj (w := 3) (by decide) τ
  rw [Mo_likesOf, Mo_leansOf_eq hj ht, bnd_t, e3, bnd_t]
  exact ok_bnd (Mo_gives1 hT) (fun r s h => ok_some h)
theorem Rp_likes_ok {R : Nat → Int32} {o j t : Nat} (ho : o = 15 ∨ o = 24) (hj : j < 6) {σ : St} (hA : RA σ o R) (hT : TX σ o R) : okk (Rp_likes o (nI j) (nI t) σ) (fun r σ' => r = lk R j t ∧ Cq (xt o + 3 + 2) σ σ') := by
  have e4 : σ.2 (o + 4) j = R (13 + 5 * j) := RA_at hA 3 (by decide) hj (by omega) (by omega)
  rw [Rp_likes, rpx_n ho, show inb (1 : Int32) ([xt o, xt o + 3] : List Nat).length = true from rfl, grd_t, wid_t, show ([xt o, xt o + 3] : List Nat).getD (1 : Int32).toNatClampNeg 0 = xt o + 3 from rfl, Rp_leans_eq hj hA, bnd_t, inb_nI hj (by decide), grd_t, nI_clamp (by omega), e4]
  exact ok_bnd (Tx_gives_ok (mx := 99) (by decide) hT.2.2.2.2.2 hT.2.1 hT.2.2.2.1) (fun r s h => ok_some h)
