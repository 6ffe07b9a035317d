/-! ===== who alone is against, who balks ===== -/
theorem if00 {X Y : Option (Int32 × St)} : (if (0 : Int32) = (0 : Int32) then X else Y) = X := if_pos rfl
theorem if10 {X Y : Option (Int32 × St)} : (if (1 : Int32) = (0 : Int32) then X else Y) = Y := if_neg (by decide)
theorem if_bf {X Y : Option (Int32 × St)} : (if b01 false = (0 : Int32) then X else Y) = X := if_pos rfl
theorem if_bt {X Y : Option (Int32 × St)} : (if b01 true = (0 : Int32) then X else Y) = Y := if_neg (by decide)
theorem g2 : inb (2 : Int32) 366 = true := rfl
theorem z2 : (2 : Int32).toNatClampNeg = 2 := by decide
theorem nI_lit0 (k : Nat) : nI k + 0 = nI k := nI_add k 0
def ag (R : Nat → Int32) (t k : Nat) : Bool := decide (R (14 + 5 * k) = 1) && !decide (R 7 ≤ lk R k t)
def ac (R : Nat → Int32) (t k : Nat) : Nat := match k with
  | 0 => 0
  | k + 1 => if ag R t k = true then ac R t k + 1 else ac R t k
def al (R : Nat → Int32) (t k : Nat) : Int32 := match k with
  | 0 => -1
  | k + 1 => if ag R t k = true then nI k else al R t k
def wa (R : Nat → Int32) (N t : Nat) : Int32 := if ac R t N = 1 then al R t N else -1
theorem ac_mono {R : Nat → Int32} {t : Nat} (k : Nat) : ∀ d, ac R t k ≤ ac R t (k + d) := by
  intro d
  induction d with
  | zero => exact Nat.le_refl _
  | succ d ih =>
    rw [show k + (d + 1) = (k + d) + 1 by omega, ac]
    split <;> omega
theorem ac_le {R : Nat → Int32} {t : Nat} (k : Nat) : ac R t k ≤ k := by
  induction k with
  | zero => exact Nat.le_refl _
  | succ k ih => rw [ac]; split <;> omega
theorem al_neg {R : Nat → Int32} {t : Nat} : ∀ k, ac R t k = 0 → al R t k = -1 := by
  intro k
  induction k with
  | zero => intro _; rfl
  | succ k ih =>
    intro h
    rw [ac] at h
    rw [al]
    split at h
    · omega
    · rename_i q; rw [if_neg q]; exact ih h
theorem al_pos {R : Nat → Int32} {t : Nat} : ∀ k, ¬ ac R t k = 0 → ∃ j, j < k ∧ al R t k = nI j := by
  intro k
  induction k with
  | zero => intro h; exact absurd rfl h
  | succ k ih =>
    intro h
    rw [ac] at h
    rw [al]
    split at h
    · rename_i q; rw [if_pos q]; exact ⟨k, by omega, rfl⟩
    · rename_i q
      rw [if_neg q]
      obtain ⟨j, h1, h2⟩ := ih h
      exact ⟨j, by omega, h2⟩
theorem wa_cases {R : Nat → Int32} {N t : Nat} : wa R N t = -1 ∨ ∃ j, j < N ∧ wa R N t = nI j := by
  rw [wa]
  split
  · rename_i h; exact Or.inr (al_pos N (by omega))
  · exact Or.inl rfl
theorem Rp_only_loop {R : Nat → Int32} {o N t : Nat} (ho : o = 15 ∨ o = 24) (hN : RN R N) : ∀ (m k n : Nat) (σ : St), k + m = N → m < n → RA σ o R → TX σ o R → ac R t k ≤ 1 → okk (Rp_onlyAgainst_L4 n o (nI t) (al R t k) (nI k) σ) (fun r σ' => r = wa R N t ∧ SQ σ σ') := by
  intro m
  induction m with
  | zero =>
    intro k n σ hk hn hA hT h1
    obtain ⟨n, rfl⟩ : ∃ z, n = z + 1 := ⟨n - 1, by omega⟩
    have hk : k = N := by omega
    rw [hk] at h1 ⊢
    rw [Rp_onlyAgainst_L4, hA.1.2.2.1, hN.2.1, if_pos (Int32.le_refl _)]
    refine ok_some ⟨?_, SQ.rf σ⟩
    rw [wa]
    split
    · rfl
    · rename_i q; exact al_neg N (by omega)
  | succ m ih =>
    intro k n σ hk hn hA hT h1
    obtain ⟨n, rfl⟩ : ∃ z, n = z + 1 := ⟨n - 1, by omega⟩
    have h6 := hN.1
    have e5 : σ.2 (o + 5) k = R (14 + 5 * k) := RA_at hA 4 (by decide) (show k < 6 by omega) (by omega) (by omega)
    rw [Rp_onlyAgainst_L4, hA.1.2.2.1, hN.2.1, if_neg (nI_ge (show k < N by omega) (by omega)), inb_nI (show k < 6 by omega) (by omega), grd_t, nI_clamp (show k < 2 ^ 31 by omega), e5]
    by_cases hi : R (14 + 5 * k) = 1
    · rw [if_pos hi]
      refine ok_bnd (Rp_likes_ok ho (show k < 6 by omega) hA hT) (fun r s hq => ?_)
      have hs := SQ.x8 hq.2
      have hA2 := sq_RA hs (by omega) hA
      rw [hA2.1.2.2.2.2.2.2.2, hq.1]
      by_cases hb : R 7 ≤ lk R k t
      · have e : ag R t k = false := by rw [ag, decide_eq_true hi, decide_eq_true hb]; rfl
        have e1 : al R t (k + 1) = al R t k := by rw [al, e]; rfl
        have e2 : ac R t (k + 1) = ac R t k := by rw [ac, e]; rfl
        rw [if_pos hb, nam_t, nI_lit1, ← e1]
        exact ok_mono (ih (k + 1) n s (by omega) (by omega) hA2 (sq_TX hs hT) (by omega)) (fun r s h => ⟨h.1, hs.tr h.2⟩)
      · have e : ag R t k = true := by rw [ag, decide_eq_true hi, decide_eq_false hb]; rfl
        have e1 : al R t (k + 1) = nI k := by rw [al, e]; rfl
        have e2 : ac R t (k + 1) = ac R t k + 1 := by rw [ac, e]; rfl
        rw [if_neg hb]
        by_cases h0 : ac R t k = 0
        · rw [al_neg k h0, if_pos (by decide), nam_t, nI_lit1, ← e1]
          exact ok_mono (ih (k + 1) n s (by omega) (by omega) hA2 (sq_TX hs hT) (by omega)) (fun r s h => ⟨h.1, hs.tr h.2⟩)
        · obtain ⟨j, hj, he⟩ := al_pos k h0
          rw [he, if_neg (nI_pos (by omega))]
          refine ok_some ⟨?_, hs⟩
          have := ac_mono (R := R) (t := t) (k + 1) m
          rw [show k + 1 + m = N by omega] at this
          rw [wa, if_neg (by omega)]
    · have e : ag R t k = false := by rw [ag, decide_eq_false hi]; rfl
      have e1 : al R t (k + 1) = al R t k := by rw [al, e]; rfl
      have e2 : ac R t (k + 1) = ac R t k := by rw [ac, e]; rfl
      rw [if_neg hi, nam_t, nI_lit1, ← e1]
      exact ih (k + 1) n σ (by omega) (by omega) hA hT (by omega)
theorem Rp_onlyAgainst_ok {R : Nat → Int32} {o N t : Nat} (ho : o = 15 ∨ o = 24) (hN : RN R N) {σ : St} (hA : RA σ o R) (hT : TX σ o R) : okk (Rp_onlyAgainst o (nI t) σ) (fun r σ' => r = wa R N t ∧ SQ σ σ') := Rp_only_loop ho hN N 0 1000 σ (by omega) (by have := hN.1; omega) hA hT (Nat.zero_le _)
theorem Mo_alone_loop {R : Nat → Int32} {N t : Nat} (hN : RN R N) (ht : t < 64) (hT : TW R 245) : ∀ (m k n : Nat) (τ : St), k + m = N → m < n → τ.2 1 = R → okk (Mo_whoAlone_L7 n (nI t) (al R t k) (nI (ac R t k)) (nI k) τ) (fun r τ' => r = wa R N t ∧ Mq τ τ') := by
  intro m
  induction m with
  | zero =>
    intro k n τ hk hn h1
    obtain ⟨n, rfl⟩ : ∃ z, n = z + 1 := ⟨n - 1, by omega⟩
    have hk : k = N := by omega
    have hac := ac_le (R := R) (t := t) N
    have h6 := hN.1
    rw [Mo_whoAlone_L7, g2, grd_t, z2, h1, hN.2.1, hk, if_pos (Int32.le_refl _)]
    by_cases h : ac R t N = 1
    · rw [h, if_pos (show nI 1 = 1 from rfl)]
      exact ok_some ⟨by rw [wa, if_pos h], Mq.rf τ⟩
    · rw [if_neg (show ¬ nI (ac R t N) = 1 from fun q => h ((nI_eq (b := 1) (by omega) (by omega)).mp q))]
      exact ok_some ⟨by rw [wa, if_neg h], Mq.rf τ⟩
  | succ m ih =>
    intro k n τ hk hn h1
    obtain ⟨n, rfl⟩ : ∃ z, n = z + 1 := ⟨n - 1, by omega⟩
    have h6 := hN.1
    rw [Mo_whoAlone_L7, g2, grd_t, z2, h1, hN.2.1, if_neg (nI_ge (show k < N by omega) (by omega)), Mo_isIn_eq (by omega), bnd_t, h1]
    by_cases hi : R (14 + 5 * k) = 1
    · rw [if_pos hi, if10]
      rw [← h1] at hT
      refine ok_bnd (Mo_doesTake_ok (show k < 6 by omega) ht hT) (fun r s hq => ?_)
      rw [hq.1, h1]
      have hs1 : s.2 1 = R := (mq_1 hq.2).trans h1
      by_cases hb : R 7 ≤ lk R k t
      · have e : ag R t k = false := by rw [ag, decide_eq_true hi, decide_eq_true hb]; rfl
        have e1 : al R t (k + 1) = al R t k := by rw [al, e]; rfl
        have e2 : ac R t (k + 1) = ac R t k := by rw [ac, e]; rfl
        rw [decide_eq_true hb, if_bt, if00, if00, nam_t, nam_t, nI_lit1, nI_lit0, ← e1, ← e2]
        exact ok_mono (ih (k + 1) n s (by omega) (by omega) hs1) (fun r s' h => ⟨h.1, hq.2.tr h.2⟩)
      · have e : ag R t k = true := by rw [ag, decide_eq_true hi, decide_eq_false hb]; rfl
        have e1 : al R t (k + 1) = nI k := by rw [al, e]; rfl
        have e2 : ac R t (k + 1) = ac R t k + 1 := by rw [ac, e]; rfl
        rw [decide_eq_false hb, if_bf, if10, if10, nam_t, nam_t, nI_lit1, nI_lit1, ← e2]
        have e3 := ih (k + 1) n s (by omega) (by omega) hs1
        rw [e1] at e3
        exact ok_mono e3 (fun r s' h => ⟨h.1, hq.2.tr h.2⟩)
    · have e : ag R t k = false := by rw [ag, decide_eq_false hi]; rfl
      have e1 : al R t (k + 1) = al R t k := by rw [al, e]; rfl
      have e2 : ac R t (k + 1) = ac R t k := by rw [ac, e]; rfl
      rw [if_neg hi, if00, if00, if00, nam_t, nam_t, nI_lit1, nI_lit0, ← e1, ← e2]
      exact ih (k + 1) n τ (by omega) (by omega) h1
theorem Mo_whoAlone_ok {τ : St} {N t : Nat} (hN : RN (τ.2 1) N) (ht : t < 64) (hT : TW (τ.2 1) 245) : okk (Mo_whoAlone (nI t) τ) (fun r τ' => r = wa (τ.2 1) N t ∧ Mq τ τ') := Mo_alone_loop hN ht hT N 0 1000 τ (by omega) (by have := hN.1; omega) rfl
/-- on how many of the first T treaties one is alone against -/
def bc (R : Nat → Int32) (N j T : Nat) : Nat := match T with
  | 0 => 0
  | T + 1 => if wa R N T = nI j then bc R N j T + 1 else bc R N j T
theorem bc_le {R : Nat → Int32} {N j : Nat} (T : Nat) : bc R N j T ≤ T := by
  induction T with
  | zero => exact Nat.le_refl _
  | succ T ih => rw [bc]; split <;> omega
theorem Mo_balksOf_loop {R : Nat → Int32} {N j : Nat} (hN : RN R N) (hT : TW R 245) : ∀ (m k n : Nat) (τ : St), k + m = 64 → m < n → τ.2 1 = R → okk (Mo_balksOf_L4 n (nI j) (nI (bc R N j k)) (nI k) τ) (fun r τ' => r = nI (bc R N j 64) ∧ Mq τ τ') := by
  intro m
  induction m with
  | zero =>
    intro k n τ hk hn h1
    obtain ⟨n, rfl⟩ : ∃ z, n = z + 1 := ⟨n - 1, by omega⟩
    have hk : k = 64 := by omega
    rw [hk, Mo_balksOf_L4, if_pos (show (64 : Int32) ≤ nI 64 from Int32.le_refl _)]
    exact ok_some ⟨rfl, Mq.rf τ⟩
  | succ m ih =>
    intro k n τ hk hn h1
    obtain ⟨n, rfl⟩ : ∃ z, n = z + 1 := ⟨n - 1, by omega⟩
    rw [Mo_balksOf_L4, if_neg (show ¬ (64 : Int32) ≤ nI k from nI_ge (a := k) (b := 64) (by omega) (by omega))]
    rw [← h1] at hT hN
    refine ok_bnd (Mo_whoAlone_ok hN (show k < 64 by omega) hT) (fun r s hq => ?_)
    rw [hq.1, h1]
    have hs1 : s.2 1 = R := (mq_1 hq.2).trans h1
    by_cases h : wa R N k = nI j
    · have e : bc R N j (k + 1) = bc R N j k + 1 := by rw [bc, if_pos h]
      rw [if_pos h, nam_t, nam_t, nI_lit1, nI_lit1, ← e]
      exact ok_mono (ih (k + 1) n s (by omega) (by omega) hs1) (fun r s' h => ⟨h.1, hq.2.tr h.2⟩)
    · have e : bc R N j (k + 1) = bc R N j k := by rw [bc, if_neg h]
      rw [if_neg h, nam_t, nam_t, nI_lit1, nI_lit0, ← e]
      exact ok_mono (ih (k + 1) n s (by omega) (by omega) hs1) (fun r s' h => ⟨h.1, hq.2.tr h.2⟩)
theorem Mo_balksOf_ok {τ : St} {N j : Nat} (hN : RN (τ.2 1) N) (hT : TW (τ.2 1) 245) : okk (Mo_balksOf (nI j) τ) (fun r τ' => r = nI (bc (τ.2 1) N j 64) ∧ Mq τ τ') := Mo_balksOf_loop hN hT 64 0 1000 τ (by omega) (by omega) rfl
/-- who balks, of the first k -/
def bw (R : Nat → Int32) (N k : Nat) : Option Nat := match k with
  | 0 => none
  | k + 1 => if R (14 + 5 * k) = 1 then (match bw R N k with
    | none => some k
    | some w => if bc R N k 64 ≤ bc R N w 64 then some w else some k) else bw R N k
def bI (x : Option Nat) : Int32 := match x with
  | none => -1
  | some w => nI w
def bM (R : Nat → Int32) (N : Nat) (x : Option Nat) : Int32 := match x with
  | none => -1
  | some w => nI (bc R N w 64)
theorem bw_lt {R : Nat → Int32} {N : Nat} : ∀ (k w : Nat), bw R N k = some w → w < k := by
  intro k
  induction k with
  | zero => intro w h; cases h
  | succ k ih =>
    intro w h
    rw [bw] at h
    split at h
    · split at h
      · cases h; omega
      · rename_i v hv
        split at h
        · cases h; have := ih w hv; omega
        · cases h; omega
    · have := ih w h; omega
theorem bw_some {R : Nat → Int32} {N : Nat} : ∀ (k j : Nat), j < k → R (14 + 5 * j) = 1 → ∃ w, bw R N k = some w := by
  intro k
  induction k with
  | zero => intro j h; omega
  | succ k ih =>
    intro j hj h
    rw [bw]
    split
    · split
      · exact ⟨_, rfl⟩
      · split <;> exact ⟨_, rfl⟩
    · rename_i q
      have : j ≠ k := fun e => q (by rw [← e]; exact h)
      exact ih j (by omega) h
theorem bM_ge {R : Nat → Int32} {N : Nat} (x : Option Nat) : (-1 : Int32) ≤ bM R N x := by
  cases x with
  | none => exact Int32.le_refl _
  | some w =>
    have h := bc_le (R := R) (N := N) (j := w) 64
    rw [bM, le_i, nI_toInt (by omega), show (-1 : Int32).toInt = -1 from rfl]
    omega
theorem Mo_balks_loop {R : Nat → Int32} {N : Nat} {x1 : Int32} (hN : RN R N) (hT : TW R 245) : ∀ (m k n : Nat) (τ : St), k + m = N → m < n → τ.2 1 = R → okk (Mo_balks_L37 n x1 (bI (bw R N k)) (bM R N (bw R N k)) (nI k) τ) (fun r τ' => r = (if x1 = 0 then bI (bw R N N) else bM R N (bw R N N)) ∧ Mq τ τ') := by
  intro m
  induction m with
  | zero =>
    intro k n τ hk hn h1
    obtain ⟨n, rfl⟩ : ∃ z, n = z + 1 := ⟨n - 1, by omega⟩
    have hk : k = N := by omega
    rw [Mo_balks_L37, g2, grd_t, z2, h1, hN.2.1, hk, if_pos (Int32.le_refl _)]
    by_cases h : x1 = 0
    · rw [if_pos h, if_pos h]; exact ok_some ⟨rfl, Mq.rf τ⟩
    · rw [if_neg h, if_neg h]; exact ok_some ⟨rfl, Mq.rf τ⟩
  | succ m ih =>
    intro k n τ hk hn h1
    obtain ⟨n, rfl⟩ : ∃ z, n = z + 1 := ⟨n - 1, by omega⟩
    have h6 := hN.1
    rw [Mo_balks_L37, g2, grd_t, z2, h1, hN.2.1, if_neg (nI_ge (show k < N by omega) (by omega)), Mo_isIn_eq (by omega), bnd_t, h1]
    by_cases hi : R (14 + 5 * k) = 1
    · rw [if_pos hi, if10]
      have hN' := hN
      rw [← h1] at hT hN'
      refine ok_bnd (Mo_balksOf_ok hN' hT) (fun r s hq => ?_)
      rw [hq.1, h1]
      have hs1 : s.2 1 = R := (mq_1 hq.2).trans h1
      have hik := ih (k + 1) n s (by omega) (by omega) hs1
      cases hw : bw R N k with
      | none =>
        have e : bw R N (k + 1) = some k := by rw [bw, if_pos hi, hw]
        have hl := bc_le (R := R) (N := N) (j := k) 64
        have hle : ¬ nI (bc R N k 64) ≤ bM R N none := by rw [bM, le_i, nI_toInt (by omega), show (-1 : Int32).toInt = -1 from rfl]; omega
        rw [if_neg hle, if_neg hle, nam_t, nI_lit1]
        rw [e] at hik
        exact ok_mono hik (fun r s' h => ⟨h.1, hq.2.tr h.2⟩)
      | some w =>
        have hl := bc_le (R := R) (N := N) (j := k) 64
        have hl2 := bc_le (R := R) (N := N) (j := w) 64
        by_cases hc : bc R N k 64 ≤ bc R N w 64
        · have e : bw R N (k + 1) = some w := by rw [bw, if_pos hi, hw]; exact if_pos hc
          have hle : nI (bc R N k 64) ≤ bM R N (some w) := nI_le hc (by omega)
          rw [if_pos hle, if_pos hle, nam_t, nI_lit1]
          rw [e] at hik
          exact ok_mono hik (fun r s' h => ⟨h.1, hq.2.tr h.2⟩)
        · have e : bw R N (k + 1) = some k := by rw [bw, if_pos hi, hw]; exact if_neg hc
          have hle : ¬ nI (bc R N k 64) ≤ bM R N (some w) := nI_ge (by omega) (by omega)
          rw [if_neg hle, if_neg hle, nam_t, nI_lit1]
          rw [e] at hik
          exact ok_mono hik (fun r s' h => ⟨h.1, hq.2.tr h.2⟩)
    · have e : bw R N (k + 1) = bw R N k := by rw [bw, if_neg hi]
      rw [if_neg hi, if00, if_pos (bM_ge _), if_pos (bM_ge _), nam_t, nI_lit1, ← e]
      exact ih (k + 1) n τ (by omega) (by omega) h1
/-- what the class's whoBalks leaves alone -/
def SB (σ σ' : St) : Prop := σ'.1 = σ.1 ∧ ∀ a, a ≠ 5 → (a ≠ 8 ∧ a ≠ 68 ∧ a ≠ 71) → a ≠ 23 → σ'.2 a = σ.2 a
theorem SB.rf (σ : St) : SB σ σ := ⟨rfl, fun _ _ _ _ => rfl⟩
theorem SB.tr {τ τ' τ'' : St} (h : SB τ τ') (h' : SB τ' τ'') : SB τ τ'' := ⟨h'.1.trans h.1, fun a p q r => (h'.2 a p q r).trans (h.2 a p q r)⟩
theorem SB.sq {σ σ' : St} (h : SQ σ σ') : SB σ σ' := ⟨h.1, fun a p q _ => h.2 a p q⟩
theorem SB.put {σ : St} {i : Nat} {v : Int32} : SB σ (sA σ 23 i v) := ⟨rfl, fun a _ _ r => sA_ne r⟩
theorem sb_RA {σ σ' : St} (h : SB σ σ') {R : Nat → Int32} (hA : RA σ 15 R) : RA σ' 15 R := by
  unfold RA at hA ⊢
  rw [h.1, h.2 (15 + 6) (by omega) (by omega) (by omega)]
  exact ⟨hA.1, fun w j hw hj => by rw [h.2 _ (by omega) (by omega) (by omega)]; exact hA.2 w j hw hj⟩
theorem sb_TX {σ σ' : St} (h : SB σ σ') {R : Nat → Int32} (hT : TX σ 15 R) : TX σ' 15 R := by
  obtain ⟨h1, h2, h3, h4, h5, h6⟩ := hT
  refine ⟨h1, h2, ⟨by rw [h.1]; exact h3.1, fun i hi => ?_⟩, ⟨by rw [h.1]; exact h4.1, fun i hi => ?_⟩, by rw [h.1]; exact h5, by rw [h.1]; exact h6⟩
  · rw [h.2 (xt 15 + 1) (by have := xt_or 15; omega) (by have := xt_or 15; omega) (by have := xt_or 15; omega)]; exact h3.2 i hi
  · rw [h.2 (xt 15 + 3 + 1) (by have := xt_or 15; omega) (by have := xt_or 15; omega) (by have := xt_or 15; omega)]; exact h4.2 i hi
theorem Rp_wb61 {R : Nat → Int32} {N : Nat} (hN : RN R N) {σ : St} (hA : RA σ 15 R) (hb : ∀ j, j < N → σ.2 23 j = nI (bc R N j 64)) : ∀ (m k n : Nat), k + m = N → m < n → Rp_whoBalks_L61 n 15 (bI (bw R N k)) (nI k) σ = some (imx (bI (bw R N N)) 0, σ) := by
  have h6 := hN.1
  intro m
  induction m with
  | zero =>
    intro k n hk hn
    obtain ⟨n, rfl⟩ : ∃ z, n = z + 1 := ⟨n - 1, by omega⟩
    have hk : k = N := by omega
    rw [Rp_whoBalks_L61, hA.1.2.2.1, hN.2.1, hk, if_pos (Int32.le_refl _)]
  | succ m ih =>
    intro k n hk hn
    obtain ⟨n, rfl⟩ : ∃ z, n = z + 1 := ⟨n - 1, by omega⟩
    have e5 : σ.2 (15 + 5) k = R (14 + 5 * k) := RA_at hA 4 (by decide) (show k < 6 by omega) (by omega) (by omega)
    rw [Rp_whoBalks_L61, hA.1.2.2.1, hN.2.1, if_neg (nI_ge (show k < N by omega) (by omega)), inb_nI (show k < 6 by omega) (by omega), grd_t, nI_clamp (show k < 2 ^ 31 by omega), e5]
    have hik := ih (k + 1) n (by omega) (by omega)
    by_cases hi : R (14 + 5 * k) = 1
    · rw [if_pos hi]
      cases hw : bw R N k with
      | none =>
        have e : bw R N (k + 1) = some k := by rw [bw, if_pos hi, hw]
        rw [if_pos (show bI none < 0 by decide), nam_t, nI_lit1]
        rw [e] at hik
        exact hik
      | some w =>
        have hwk := bw_lt k w hw
        have hl := bc_le (R := R) (N := N) (j := k) 64
        have hl2 := bc_le (R := R) (N := N) (j := w) 64
        rw [show bI (some w) = nI w from rfl, if_neg (nI_pos (show w < 2 ^ 31 by omega)), grd_t, inb_nI (show w < 6 by omega) (by omega), grd_t, nI_clamp (show w < 2 ^ 31 by omega), show 15 + 8 = 23 from rfl, hb k (by omega), hb w (by omega)]
        by_cases hc : bc R N k 64 ≤ bc R N w 64
        · have e : bw R N (k + 1) = some w := by rw [bw, if_pos hi, hw]; exact if_pos hc
          rw [if_pos (nI_le hc (by omega)), nam_t, nI_lit1]
          rw [e] at hik
          exact hik
        · have e : bw R N (k + 1) = some k := by rw [bw, if_pos hi, hw]; exact if_neg hc
          rw [if_neg (nI_ge (by omega) (by omega)), nam_t, nI_lit1]
          rw [e] at hik
          exact hik
    · have e : bw R N (k + 1) = bw R N k := by rw [bw, if_neg hi]
      rw [if_neg hi, nam_t, nI_lit1, ← e]
      exact hik
theorem Rp_wb25 {R : Nat → Int32} {N : Nat} (hN : RN R N) : ∀ (m k n : Nat) (σ : St), k + m = 64 → m < n → RA σ 15 R → TX σ 15 R → (∀ j, j < N → σ.2 23 j = nI (bc R N j k)) → okk (Rp_whoBalks_L25 n 15 (nI k) σ) (fun r σ' => r = imx (bI (bw R N N)) 0 ∧ SB σ σ' ∧ ∀ j, j < N → σ'.2 23 j = nI (bc R N j 64)) := by
  have h6 := hN.1
  intro m
  induction m with
  | zero =>
    intro k n σ hk hn hA hT hb
    obtain ⟨n, rfl⟩ : ∃ z, n = z + 1 := ⟨n - 1, by omega⟩
    have hk : k = 64 := by omega
    rw [hk] at hb ⊢
    rw [Rp_whoBalks_L25, if_pos (show (64 : Int32) ≤ nI 64 from Int32.le_refl _)]
    exact ok_eq (Rp_wb61 hN hA hb N 0 1000 (by omega) (by omega)) ⟨rfl, SB.rf σ, hb⟩
  | succ m ih =>
    intro k n σ hk hn hA hT hb
    obtain ⟨n, rfl⟩ : ∃ z, n = z + 1 := ⟨n - 1, by omega⟩
    rw [Rp_whoBalks_L25, if_neg (show ¬ (64 : Int32) ≤ nI k from nI_ge (a := k) (b := 64) (by omega) (by omega))]
    refine ok_bnd (Rp_onlyAgainst_ok (t := k) (Or.inl rfl) hN hA hT) (fun r s hq => ?_)
    have hs := SB.sq hq.2
    have hb2 : ∀ j, j < N → s.2 23 j = nI (bc R N j k) := fun j hj => by rw [hq.2.2 23 (by decide) (by decide)]; exact hb j hj
    rw [hq.1]
    rcases wa_cases (R := R) (N := N) (t := k) with h | ⟨w, hw, h⟩
    · rw [h, if_pos (show (-1 : Int32) < 0 by decide), nam_t, nI_lit1]
      refine ok_mono (ih (k + 1) n s (by omega) (by omega) (sb_RA hs hA) (sb_TX hs hT) (fun j hj => ?_)) (fun r s' h => ⟨h.1, hs.tr h.2.1, h.2.2⟩)
      have : ¬ wa R N k = nI j := by
        rw [h]
        intro q
        have q2 : (-1 : Int32).toInt = (nI j).toInt := by rw [q]
        rw [nI_toInt (by omega), show (-1 : Int32).toInt = -1 from rfl] at q2
        omega
      rw [bc, if_neg this]
      exact hb2 j hj
    · rw [h, if_neg (nI_pos (show w < 2 ^ 31 by omega)), inb_nI (show w < 6 by omega) (by omega), grd_t, grd_t, nI_clamp (show w < 2 ^ 31 by omega), nas_t, nam_t, nI_lit1, show 15 + 8 = 23 from rfl, hb2 w hw, nI_lit1]
      have hs2 : SB s (sA s 23 w (nI (bc R N w k + 1))) := SB.put
      have hs3 := hs.tr hs2
      refine ok_mono (ih (k + 1) n _ (by omega) (by omega) (sb_RA hs3 hA) (sb_TX hs3 hT) (fun j hj => ?_)) (fun r s' h => ⟨h.1, hs3.tr h.2.1, h.2.2⟩)
      rw [sA_eq, bc]
      by_cases e : j = w
      · rw [e, upd_s, if_pos h]
      · rw [upd_n e, if_neg (by rw [h]; exact fun q => e ((nI_eq (by omega) (by omega)).mp q.symm))]
        exact hb2 j hj
theorem Rp_wb2 {R : Nat → Int32} {N : Nat} (hN : RN R N) : ∀ (m k n : Nat) (σ : St), k + m = N → m < n → RA σ 15 R → TX σ 15 R → (∀ j, j < k → σ.2 23 j = 0) → okk (Rp_whoBalks_L2 n 15 (nI k) σ) (fun r σ' => r = imx (bI (bw R N N)) 0 ∧ SB σ σ' ∧ ∀ j, j < N → σ'.2 23 j = nI (bc R N j 64)) := by
  have h6 := hN.1
  intro m
  induction m with
  | zero =>
    intro k n σ hk hn hA hT hb
    obtain ⟨n, rfl⟩ : ∃ z, n = z + 1 := ⟨n - 1, by omega⟩
    have hk : k = N := by omega
    rw [hk] at hb ⊢
    rw [Rp_whoBalks_L2, hA.1.2.2.1, hN.2.1, if_pos (Int32.le_refl _)]
    exact Rp_wb25 hN 64 0 1000 σ (by omega) (by omega) hA hT hb
  | succ m ih =>
    intro k n σ hk hn hA hT hb
    obtain ⟨n, rfl⟩ : ∃ z, n = z + 1 := ⟨n - 1, by omega⟩
    rw [Rp_whoBalks_L2, hA.1.2.2.1, hN.2.1, if_neg (nI_ge (show k < N by omega) (by omega)), inb_nI (show k < 6 by omega) (by omega), grd_t, nas_t, nam_t, nI_lit1, nI_clamp (show k < 2 ^ 31 by omega), show 15 + 8 = 23 from rfl]
    have hs2 : SB σ (sA σ 23 k 0) := SB.put
    refine ok_mono (ih (k + 1) n _ (by omega) (by omega) (sb_RA hs2 hA) (sb_TX hs2 hT) (fun j hj => ?_)) (fun r s' h => ⟨h.1, hs2.tr h.2.1, h.2.2⟩)
    rw [sA_eq]
    by_cases e : j = k
    · rw [e, upd_s]
    · rw [upd_n e]; exact hb j (by omega)
theorem Rp_whoBalks_ok {R : Nat → Int32} {N : Nat} (hN : RN R N) {σ : St} (hA : RA σ 15 R) (hT : TX σ 15 R) : okk (Rp_whoBalks 15 σ) (fun r σ' => r = imx (bI (bw R N N)) 0 ∧ SB σ σ' ∧ ∀ j, j < N → σ'.2 23 j = nI (bc R N j 64)) := Rp_wb2 hN N 0 1000 σ (by omega) (by have := hN.1; omega) hA hT (fun j hj => by omega)
/-- nobody is in, if the set is empty -/
theorem sset_some {R : Nat → Int32} : ∀ N, ¬ sset R N = 0 → ∃ j, j < N ∧ R (14 + 5 * j) = 1 := by
  intro N
  induction N with
  | zero => intro h; exact absurd rfl h
  | succ N ih =>
    intro h
    by_cases hi : R (14 + 5 * N) = 1
    · exact ⟨N, by omega, hi⟩
    · rw [sset, if_neg hi] at h
      have : ¬ sset R N = 0 := fun q => h (by rw [q]; rfl)
      obtain ⟨j, h1, h2⟩ := ih this
      exact ⟨j, by omega, h2⟩
theorem hm_0 {R : Nat → Int32} {N : Nat} (hN : N ≤ 6) : hm R N = 0 ↔ sset R N = 0 := by
  obtain ⟨x, hx, he⟩ := sset_64 (R := R) N hN
  have h64 : x < 64 := Nat.lt_of_lt_of_le hx (Nat.pow_le_pow_right (by decide) hN)
  have h : ∀ x : Nat, x < 64 → (bcv (nI x) = 0 ↔ nI x = 0) := by decide +kernel
  rw [hm, he]
  exact h x h64
theorem hm_le {R : Nat → Int32} {N : Nat} (hN : N ≤ 6) : hm R N ≤ 0 ↔ sset R N = 0 := by
  obtain ⟨x, hx, he⟩ := sset_64 (R := R) N hN
  have h64 : x < 64 := Nat.lt_of_lt_of_le hx (Nat.pow_le_pow_right (by decide) hN)
  have h : ∀ x : Nat, x < 64 → (bcv (nI x) ≤ 0 ↔ nI x = 0) := by decide +kernel
  rw [hm, he]
  exact h x h64
