/-! ===== a text at work: the reference's pile and the class's stack ===== -/
def Mq (τ τ' : St) : Prop := τ'.1 = τ.1 ∧ ∀ a, a ≠ 10 → a ≠ 11 → τ'.2 a = τ.2 a
theorem Mq.rf (τ : St) : Mq τ τ := ⟨rfl, fun _ _ _ => rfl⟩
theorem Mq.tr {τ τ' τ'' : St} (h : Mq τ τ') (h' : Mq τ' τ'') : Mq τ τ'' := ⟨h'.1.trans h.1, fun a p q => (h'.2 a p q).trans (h.2 a p q)⟩
theorem Mq.put {τ : St} {a i : Nat} {v : Int32} (h : a = 10 ∨ a = 11) : Mq τ (sA τ a i v) := ⟨rfl, fun b p q => sA_ne (by rcases h with rfl | rfl <;> assumption)⟩
def Cq (a0 : Nat) (σ σ' : St) : Prop := σ'.1 = σ.1 ∧ ∀ a, a ≠ a0 → σ'.2 a = σ.2 a
theorem Cq.rf (a0 : Nat) (σ : St) : Cq a0 σ σ := ⟨rfl, fun _ _ => rfl⟩
theorem Cq.tr {a0 : Nat} {τ τ' τ'' : St} (h : Cq a0 τ τ') (h' : Cq a0 τ' τ'') : Cq a0 τ τ'' := ⟨h'.1.trans h.1, fun a p => (h'.2 a p).trans (h.2 a p)⟩
theorem Cq.put {σ : St} {a i : Nat} {v : Int32} : Cq a σ (sA σ a i v) := ⟨rfl, fun b p => sA_ne p⟩
/-- the four kinds of a code that may stand there -/
theorem tdep_cases {c v : Int32} {d d1 : Nat} (h : tdep c v d = some d1) : (c = 1 ∧ 0 ≤ v ∧ d1 = d + 1) ∨ (c = 2 ∧ (v = 0 ∨ v = 1 ∨ v = 2) ∧ d1 = d + 1) ∨ (c = 3 ∧ 1 ≤ d ∧ d1 = d) ∨ (¬ c = 1 ∧ ¬ c = 2 ∧ ¬ c = 3 ∧ c ∈ signs ∧ 2 ≤ d ∧ d1 = d - 1) := by
  unfold tdep at h
  split at h
  · rename_i q
    split at h
    · rename_i q2; cases h; exact Or.inl ⟨q, q2, rfl⟩
    · cases h
  · rename_i q1
    split at h
    · rename_i q
      split at h
      · rename_i q2; cases h; exact Or.inr (Or.inl ⟨q, q2, rfl⟩)
      · cases h
    · rename_i q2
      split at h
      · rename_i q
        split at h
        · rename_i q3; cases h; exact Or.inr (Or.inr (Or.inl ⟨q, q3, rfl⟩))
        · cases h
      · rename_i q3
        split at h
        · rename_i q4
          split at h
          · rename_i q5; cases h; exact Or.inr (Or.inr (Or.inr ⟨q1, q2, q3, q4, q5, rfl⟩))
          · cases h
        · cases h
theorem len_one {st : List Int32} {d : Nat} (h : st.length = d) (hd : 1 ≤ d) : ∃ x r, st = x :: r ∧ r.length = d - 1 := by
  cases st with
  | nil => simp at h; omega
  | cons x r => exact ⟨x, r, rfl, by simp at h; omega⟩
theorem len_two {st : List Int32} {d : Nat} (h : st.length = d) (hd : 2 ≤ d) : ∃ y x r, st = y :: x :: r ∧ r.length = d - 2 := by
  obtain ⟨y, r1, rfl, h1⟩ := len_one h (by omega)
  obtain ⟨x, r, rfl, h2⟩ := len_one h1 (by omega)
  exact ⟨y, x, r, rfl, by omega⟩
theorem two_clamp {v : Int32} (h : v = 0 ∨ v = 1 ∨ v = 2) : inb v 3 = true ∧ v.toNatClampNeg < 3 := by
  rcases h with rfl | rfl | rfl <;> decide
theorem tstep_1 {f : Nat → Int32} {c v : Int32} {st : List Int32} (h : c = 1) : tstep f c v st = v :: st := by unfold tstep; rw [if_pos h]
theorem tstep_2 {f : Nat → Int32} {c v : Int32} {st : List Int32} (h : c = 2) : tstep f c v st = f v.toNatClampNeg :: st := by unfold tstep; rw [if_neg (by rw [h]; decide), if_pos h]
theorem tstep_3 {f : Nat → Int32} {c v x : Int32} {r : List Int32} (h : c = 3) : tstep f c v (x :: r) = (if x = 0 then 1 else 0) :: r := by unfold tstep; rw [if_neg (by rw [h]; decide), if_neg (by rw [h]; decide), if_pos h]
theorem tstep_4 {f : Nat → Int32} {c v x y : Int32} {r : List Int32} (h1 : ¬ c = 1) (h2 : ¬ c = 2) (h3 : ¬ c = 3) : tstep f c v (y :: x :: r) = two c x y :: r := by unfold tstep; rw [if_neg h1, if_neg h2, if_neg h3]
theorem mw_end {n : Nat} {x1 x2 x3 : Int32} {τ : St} (h1 : inb x1 366 = true) (h2 : τ.2 1 x1.toNatClampNeg ≤ x3) : Mo_works_L4 (n + 1) x1 x2 x3 τ = some (τ.2 11 0, τ) := by
  unfold Mo_works_L4
  rw [h1, grd_t, if_pos h2]
  rfl
theorem nam_t {x : Int32} {K : Int32 → Option (Int32 × St)} : nam x K = K x := rfl
theorem nas_t {x : St} {K : St → Option (Int32 × St)} : nas x K = K x := rfl
theorem wid_t {x : Nat} {K : Nat → Option (Int32 × St)} : wid x K = K x := rfl
theorem mw_push {n : Nat} {x1 x2 x3 : Int32} {τ : St} (h1 : inb x1 366 = true) (h2 : ¬ τ.2 1 x1.toNatClampNeg ≤ x3) (h3 : inb (x1 + 1 + x3) 366 = true) (h4 : inb (x1 + 61 + x3) 366 = true) (h5 : inb x2 60 = true) (hc : τ.2 1 (x1 + 1 + x3).toNatClampNeg = 1) : Mo_works_L4 (n + 1) x1 x2 x3 τ = Mo_works_L4 n x1 (x2 + 1) (x3 + 1) (sA τ 11 x2.toNatClampNeg (τ.2 1 (x1 + 61 + x3).toNatClampNeg)) := by
  rw [Mo_works_L4, h1, grd_t, if_neg h2, h3, grd_t, nam_t, if_pos hc, if_pos hc, h4, grd_t, h5, grd_t, nas_t, nam_t, nam_t]
theorem mw_named {n : Nat} {x1 x2 x3 : Int32} {τ : St} (h1 : inb x1 366 = true) (h2 : ¬ τ.2 1 x1.toNatClampNeg ≤ x3) (h3 : inb (x1 + 1 + x3) 366 = true) (h4 : inb (x1 + 61 + x3) 366 = true) (h5 : inb x2 60 = true) (hc : τ.2 1 (x1 + 1 + x3).toNatClampNeg = 2) (h6 : inb (τ.2 1 (x1 + 61 + x3).toNatClampNeg) 3 = true) : Mo_works_L4 (n + 1) x1 x2 x3 τ = Mo_works_L4 n x1 (x2 + 1) (x3 + 1) (sA τ 11 x2.toNatClampNeg (τ.2 10 (τ.2 1 (x1 + 61 + x3).toNatClampNeg).toNatClampNeg)) := by
  have g1 : ¬ τ.2 1 (x1 + 1 + x3).toNatClampNeg = 1 := by rw [hc]; decide
  rw [Mo_works_L4, h1, grd_t, if_neg h2, h3, grd_t, nam_t, if_neg g1, if_pos hc, if_neg g1, h4, grd_t, h6, grd_t, h5, grd_t, nas_t, nam_t, nam_t]
theorem mw_deny {n : Nat} {x1 x2 x3 : Int32} {τ : St} (h1 : inb x1 366 = true) (h2 : ¬ τ.2 1 x1.toNatClampNeg ≤ x3) (h3 : inb (x1 + 1 + x3) 366 = true) (h5 : inb (x2 - 1) 60 = true) (hc : τ.2 1 (x1 + 1 + x3).toNatClampNeg = 3) : Mo_works_L4 (n + 1) x1 x2 x3 τ = Mo_works_L4 n x1 x2 (x3 + 1) (sA τ 11 (x2 - 1).toNatClampNeg (if τ.2 11 (x2 - 1).toNatClampNeg = 0 then 1 else 0)) := by
  have g1 : ¬ τ.2 1 (x1 + 1 + x3).toNatClampNeg = 1 := by rw [hc]; decide
  have g2 : ¬ τ.2 1 (x1 + 1 + x3).toNatClampNeg = 2 := by rw [hc]; decide
  by_cases hx : τ.2 11 (x2 - 1).toNatClampNeg = 0
  · rw [if_pos hx, Mo_works_L4, h1, grd_t, if_neg h2, h3, grd_t, nam_t, if_neg g1, if_neg g2, if_pos hc, h5, grd_t, if_pos hx, grd_t, nas_t, nam_t]
  · rw [if_neg hx, Mo_works_L4, h1, grd_t, if_neg h2, h3, grd_t, nam_t, if_neg g1, if_neg g2, if_pos hc, h5, grd_t, if_neg hx, grd_t, nas_t, nam_t]
theorem mw_two {n : Nat} {x1 x2 x3 : Int32} {τ : St} (h1 : inb x1 366 = true) (h2 : ¬ τ.2 1 x1.toNatClampNeg ≤ x3) (h3 : inb (x1 + 1 + x3) 366 = true) (h5 : inb (x2 + (-1) - 1) 60 = true) (h6 : inb (x2 + (-1)) 60 = true) (g1 : ¬ τ.2 1 (x1 + 1 + x3).toNatClampNeg = 1) (g2 : ¬ τ.2 1 (x1 + 1 + x3).toNatClampNeg = 2) (g3 : ¬ τ.2 1 (x1 + 1 + x3).toNatClampNeg = 3) (hc : τ.2 1 (x1 + 1 + x3).toNatClampNeg ∈ signs) : Mo_works_L4 (n + 1) x1 x2 x3 τ = Mo_works_L4 n x1 (x2 + (-1)) (x3 + 1) (sA τ 11 (x2 + (-1) - 1).toNatClampNeg (two (τ.2 1 (x1 + 1 + x3).toNatClampNeg) (τ.2 11 (x2 + (-1) - 1).toNatClampNeg) (τ.2 11 (x2 + (-1)).toNatClampNeg))) := by
  rw [Mo_works_L4, h1, grd_t, if_neg h2, h3, grd_t, nam_t, if_neg g1, if_neg g2, if_neg g3, nam_t, h5, grd_t, h6, grd_t, Mo_twoOf_eq hc, bnd_t, grd_t, nas_t, nam_t]
theorem works_loop {R : Nat → Int32} {t len : Nat} {f : Nat → Int32} (ht : t + 121 ≤ 366) (hlen : len ≤ 60) (hR : R t = nI len) (hd : dpt R t len = some 1) : ∀ (m k n d : Nat) (τ : St) (st : List Int32), k + m = len → m < n → τ.2 1 = R → (∀ i, i < 3 → τ.2 10 i = f i) → stk R t f k = st → dpt R t k = some d → hold (τ.2 11) st → okk (Mo_works_L4 n (nI t) (nI d) (nI k) τ) (fun r τ' => stk R t f len = [r] ∧ Mq τ τ') := by
  intro m
  induction m with
  | zero =>
    intro k n d τ st hk hn h1 hf hs hdk hh
    obtain ⟨n, rfl⟩ : ∃ z, n = z + 1 := ⟨n - 1, by omega⟩
    have hk : k = len := by omega
    rw [hk] at hs hdk ⊢
    have e0 := (stk_len (f := f) hd).1
    rw [hs] at e0
    obtain ⟨x, r, rfl, hr⟩ := len_one e0 (Nat.le_refl 1)
    have hr0 : r = [] := List.length_eq_zero_iff.mp (by omega)
    rw [hr0] at hh hs
    rw [mw_end (inb_nI (by omega) (by omega)) (by rw [nI_clamp (by omega), h1, hR]; exact Int32.le_refl _)]
    exact ok_some ⟨by rw [hs, ← hh.1]; rfl, Mq.rf τ⟩
  | succ m ih =>
    intro k n d τ st hk hn h1 hf hs hdk hh
    obtain ⟨n, rfl⟩ : ∃ z, n = z + 1 := ⟨n - 1, by omega⟩
    have hkl : k < len := by omega
    obtain ⟨hl, hdk2⟩ := stk_len (f := f) hdk
    rw [hs] at hl
    obtain ⟨d1, hd1⟩ := dpt_pre hd (k + 1) (by omega)
    have hd1' := hd1
    unfold dpt at hd1'
    rw [hdk, Option.bind_some] at hd1'
    have ex : stk R t f (k + 1) = tstep f (R (t + 1 + k)) (R (t + 61 + k)) st := by rw [← hs]; rfl
    have a3 : nI t + 1 + nI k = nI (t + 1 + k) := by rw [nI_lit1, nI_add]
    have b3 : nI t + 61 + nI k = nI (t + 61 + k) := by rw [show (61 : Int32) = nI 61 from rfl, nI_add, nI_add]
    have z1 : inb (nI t) 366 = true := inb_nI (by omega) (by omega)
    have z2 : ¬ τ.2 1 (nI t).toNatClampNeg ≤ nI k := by rw [nI_clamp (by omega), h1, hR]; exact nI_ge hkl (by omega)
    have z3 : inb (nI t + 1 + nI k) 366 = true := by rw [a3]; exact inb_nI (by omega) (by omega)
    have z4 : inb (nI t + 61 + nI k) 366 = true := by rw [b3]; exact inb_nI (by omega) (by omega)
    have y3 : τ.2 1 (nI t + 1 + nI k).toNatClampNeg = R (t + 1 + k) := by rw [a3, nI_clamp (by omega), h1]
    have y4 : τ.2 1 (nI t + 61 + nI k).toNatClampNeg = R (t + 61 + k) := by rw [b3, nI_clamp (by omega), h1]
    have keep : ∀ i v, (sA τ 11 i v).2 1 = R := fun i v => (sA_ne (by decide)).trans h1
    have keepf : ∀ i v j, j < 3 → (sA τ 11 i v).2 10 j = f j := fun i v j hj => by rw [sA_ne (by decide)]; exact hf j hj
    have fin : ∀ (n d1 : Nat) (i : Nat) (v : Int32) (st1 : List Int32), m < n → stk R t f (k + 1) = st1 → dpt R t (k + 1) = some d1 → hold (upd (τ.2 11) i v) st1 → okk (Mo_works_L4 n (nI t) (nI d1) (nI (k + 1)) (sA τ 11 i v)) (fun r τ' => stk R t f len = [r] ∧ Mq τ τ') := fun n d1 i v st1 g1 g2 g3 g4 => ok_mono (ih (k + 1) n d1 _ st1 (by omega) g1 (keep i v) (keepf i v) g2 g3 (by rw [sA_eq]; exact g4)) (fun r s ⟨p, q⟩ => ⟨p, (Mq.put (Or.inr rfl)).tr q⟩)
    rcases tdep_cases hd1' with ⟨hc, hv, he⟩ | ⟨hc, hv, he⟩ | ⟨hc, hv, he⟩ | ⟨hc1, hc2, hc3, hc, hv, he⟩
    · rw [mw_push z1 z2 z3 z4 (inb_nI (by omega) (by omega)) (y3.trans hc), y4, nI_lit1, nI_lit1, nI_clamp (by omega)]
      rw [he] at hd1
      exact fin n _ _ _ _ (by omega) (ex.trans (tstep_1 hc)) hd1 (by rw [← hl]; exact hold_push hh)
    · obtain ⟨hb, hlt⟩ := two_clamp hv
      rw [mw_named z1 z2 z3 z4 (inb_nI (by omega) (by omega)) (y3.trans hc) (by rw [y4]; exact hb), y4, nI_lit1, nI_lit1, nI_clamp (show d < 2 ^ 31 by omega), hf _ hlt]
      rw [he] at hd1
      exact fin n _ _ _ _ (by omega) (ex.trans (tstep_2 hc)) hd1 (by rw [← hl]; exact hold_push hh)
    · obtain ⟨x, r, rfl, hr⟩ := len_one hl hv
      have e1 : nI d - 1 = nI r.length := by rw [hr]; exact pk_sub hv
      rw [mw_deny z1 z2 z3 (by rw [e1]; exact inb_nI (by omega) (by omega)) (y3.trans hc), e1, nI_lit1, nI_clamp (by omega), hh.1]
      rw [he] at hd1
      exact fin n _ _ _ _ (by omega) (ex.trans (tstep_3 hc)) hd1 ⟨upd_s, hold_upd hh.2 (Nat.le_refl _)⟩
    · obtain ⟨y, x, r, rfl, hr⟩ := len_two hl hv
      have e1 : nI d + (-1) = nI (r.length + 1) := by rw [show d = (r.length + 1) + 1 by omega]; exact pk_m1 _
      have e2 : nI (r.length + 1) - 1 = nI r.length := nI_pred _
      rw [mw_two z1 z2 z3 (by rw [e1, e2]; exact inb_nI (by omega) (by omega)) (by rw [e1]; exact inb_nI (by omega) (by omega)) (by rw [y3]; exact hc1) (by rw [y3]; exact hc2) (by rw [y3]; exact hc3) (by rw [y3]; exact hc), y3, e1, e2, nI_lit1, nI_clamp (show r.length < 2 ^ 31 by omega), nI_clamp (show r.length + 1 < 2 ^ 31 by omega)]
      have g1 : τ.2 11 r.length = x := hh.2.1
      have g2 : τ.2 11 (r.length + 1) = y := hh.1
      rw [g1, g2]
      rw [he, show d - 1 = r.length + 1 by omega] at hd1
      exact fin n _ _ _ _ (by omega) (ex.trans (tstep_4 hc1 hc2 hc3)) hd1 ⟨upd_s, hold_upd hh.2.2 (Nat.le_refl _)⟩
def mean (y a b c : Int32) : Int32 := if y = -3 then c else if y = -2 then b else if y = -1 then a else y
theorem Tx_meaning_eq {y a b c : Int32} {σ : St} : Tx_meaning y a b c σ = some (mean y a b c, σ) := by
  unfold Tx_meaning mean
  split
  · rfl
  · split
    · rfl
    · split <;> rfl
theorem tw_end {n o : Nat} {x1 x2 x3 x4 x5 : Int32} {σ : St} (h2 : σ.1 o 3 ≤ x5) : Tx_work_L6 (n + 1) o x1 x2 x3 x4 x5 σ = some (σ.2 (o + 2) 0, σ) := by
  rw [Tx_work_L6, if_pos h2]
  rfl
theorem tw_push {n o : Nat} {x1 x2 x3 x4 x5 : Int32} {σ : St} (h2 : ¬ σ.1 o 3 ≤ x5) (h3 : inb x5 60 = true) (hc : -3 ≤ σ.2 (o + 1) x5.toNatClampNeg) (h4 : ¬ 60 ≤ x4) (h5 : inb x4 60 = true) : Tx_work_L6 (n + 1) o x1 x2 x3 x4 x5 σ = Tx_work_L6 n o x1 x2 x3 (x4 + 1) (x5 + 1) (sA σ (o + 2) x4.toNatClampNeg (mean (σ.2 (o + 1) x5.toNatClampNeg) x1 x2 x3)) := by
  have g1 : ¬ σ.2 (o + 1) x5.toNatClampNeg = -33 := fun q => by rw [q] at hc; exact absurd hc (by decide)
  have g2 : ¬ σ.2 (o + 1) x5.toNatClampNeg < -3 := fun q => by rw [le_i] at hc; rw [lt_i] at q; omega
  rw [Tx_work_L6, if_neg h2, h3, grd_t, nam_t, if_neg g1, if_pos hc, if_neg g2, if_neg h4, Tx_meaning_eq, bnd_t, h5, grd_t, nas_t, nam_t, nam_t]
theorem tw_deny {n o : Nat} {x1 x2 x3 x4 x5 : Int32} {σ : St} (h2 : ¬ σ.1 o 3 ≤ x5) (h3 : inb x5 60 = true) (hc : σ.2 (o + 1) x5.toNatClampNeg = -33) (h4 : ¬ x4 < 1) (h5 : inb (x4 - 1) 60 = true) : Tx_work_L6 (n + 1) o x1 x2 x3 x4 x5 σ = Tx_work_L6 n o x1 x2 x3 x4 (x5 + 1) (sA σ (o + 2) (x4 - 1).toNatClampNeg (if σ.2 (o + 2) (x4 - 1).toNatClampNeg = 0 then 1 else 0)) := by
  by_cases hx : σ.2 (o + 2) (x4 - 1).toNatClampNeg = 0
  · rw [if_pos hx, Tx_work_L6, if_neg h2, h3, grd_t, nam_t, if_pos hc, if_neg h4, h5, grd_t, if_pos hx, grd_t, nas_t, nam_t]
  · rw [if_neg hx, Tx_work_L6, if_neg h2, h3, grd_t, nam_t, if_pos hc, if_neg h4, h5, grd_t, if_neg hx, grd_t, nas_t, nam_t]
theorem tw_two {n o : Nat} {x1 x2 x3 x4 x5 c : Int32} {σ : St} (h2 : ¬ σ.1 o 3 ≤ x5) (h3 : inb x5 60 = true) (hy : σ.2 (o + 1) x5.toNatClampNeg = -c) (hc : c ∈ signs) (h4 : ¬ x4 < 2) (h5 : inb (x4 + (-1) - 1) 60 = true) (h6 : inb (x4 + (-1)) 60 = true) : Tx_work_L6 (n + 1) o x1 x2 x3 x4 x5 σ = Tx_work_L6 n o x1 x2 x3 (x4 + (-1)) (x5 + 1) (sA σ (o + 2) (x4 + (-1) - 1).toNatClampNeg (two c (σ.2 (o + 2) (x4 + (-1) - 1).toNatClampNeg) (σ.2 (o + 2) (x4 + (-1)).toNatClampNeg))) := by
  have k : ¬ (-c = -33) ∧ ¬ (-3 ≤ -c) ∧ -(-c) = c := by
    simp only [signs, List.mem_cons, List.not_mem_nil, or_false] at hc
    rcases hc with rfl | rfl | rfl | rfl | rfl | rfl | rfl | rfl | rfl | rfl <;> decide
  have g1 : ¬ σ.2 (o + 1) x5.toNatClampNeg = -33 := by rw [hy]; exact k.1
  have g2 : ¬ -3 ≤ σ.2 (o + 1) x5.toNatClampNeg := by rw [hy]; exact k.2.1
  rw [Tx_work_L6, if_neg h2, h3, grd_t, nam_t, if_neg g1, if_neg g2, if_neg h4, nam_t, h5, grd_t, h6, grd_t, hy, k.2.2, Tx_join_eq hc, bnd_t, grd_t, nas_t, nam_t]
/-- a code of the class for an act of the reference -/
def crel (y c v : Int32) : Prop := (c = 1 ∧ y = v) ∨ (c = 2 ∧ y = -1 - v) ∨ (c = 3 ∧ y = -33) ∨ (c ∈ signs ∧ y = -c)
theorem not_signs {c : Int32} (h : c ∈ signs) : ¬ c = 1 ∧ ¬ c = 2 ∧ ¬ c = 3 := by
  simp only [signs, List.mem_cons, List.not_mem_nil, or_false] at h
  rcases h with rfl | rfl | rfl | rfl | rfl | rfl | rfl | rfl | rfl | rfl <;> decide
def fx (a b c : Int32) : Nat → Int32 := fun i => if i = 0 then a else if i = 1 then b else c
theorem mean_num {v a b c : Int32} (h : 0 ≤ v) : mean v a b c = v ∧ -3 ≤ v := by
  rw [le_i] at h
  have h0 : (0 : Int32).toInt = 0 := rfl
  have n : ∀ k : Int32, k.toInt < 0 → ¬ v = k := fun k hk q => by rw [q] at h; omega
  unfold mean
  rw [if_neg (n _ (by decide)), if_neg (n _ (by decide)), if_neg (n _ (by decide))]
  refine ⟨rfl, ?_⟩
  rw [le_i]
  have h3 : (-3 : Int32).toInt = -3 := rfl
  omega
theorem mean_name {v a b c : Int32} (h : v = 0 ∨ v = 1 ∨ v = 2) : mean (-1 - v) a b c = fx a b c v.toNatClampNeg ∧ -3 ≤ -1 - v := by
  have e0 : (-1 - 0 : Int32) = -1 := by decide
  have e1 : (-1 - 1 : Int32) = -2 := by decide
  have e2 : (-1 - 2 : Int32) = -3 := by decide
  have f0 : (0 : Int32).toNatClampNeg = 0 := by decide
  have f1 : (1 : Int32).toNatClampNeg = 1 := by decide
  have f2 : (2 : Int32).toNatClampNeg = 2 := by decide
  unfold mean fx
  rcases h with rfl | rfl | rfl
  · rw [e0, f0, if_neg (by decide), if_neg (by decide), if_pos rfl, if_pos rfl]
    exact ⟨rfl, by decide⟩
  · rw [e1, f1, if_neg (by decide), if_pos rfl, if_neg (by decide), if_pos rfl]
    exact ⟨rfl, by decide⟩
  · rw [e2, f2, if_pos rfl, if_neg (by decide), if_neg (by decide)]
    exact ⟨rfl, by decide⟩
theorem tw_loop {R : Nat → Int32} {o t len : Nat} {x1 x2 x3 : Int32} (hlen : len ≤ 60) (hd : dpt R t len = some 1) : ∀ (m k n d : Nat) (σ : St) (st : List Int32), k + m = len → m < n → σ.1 o 3 = nI len → (∀ i, i < len → crel (σ.2 (o + 1) i) (R (t + 1 + i)) (R (t + 61 + i))) → stk R t (fx x1 x2 x3) k = st → dpt R t k = some d → hold (σ.2 (o + 2)) st → okk (Tx_work_L6 n o x1 x2 x3 (nI d) (nI k) σ) (fun r σ' => stk R t (fx x1 x2 x3) len = [r] ∧ Cq (o + 2) σ σ') := by
  intro m
  induction m with
  | zero =>
    intro k n d σ st hk hn h1 hf hs hdk hh
    obtain ⟨n, rfl⟩ : ∃ z, n = z + 1 := ⟨n - 1, by omega⟩
    have hk : k = len := by omega
    rw [hk] at hs hdk ⊢
    have e0 := (stk_len (f := fx x1 x2 x3) hd).1
    rw [hs] at e0
    obtain ⟨x, r, rfl, hr⟩ := len_one e0 (Nat.le_refl 1)
    have hr0 : r = [] := List.length_eq_zero_iff.mp (by omega)
    rw [hr0] at hh hs
    rw [tw_end (by rw [h1]; exact Int32.le_refl _)]
    exact ok_some ⟨by rw [hs, ← hh.1]; rfl, Cq.rf _ σ⟩
  | succ m ih =>
    intro k n d σ st hk hn h1 hf hs hdk hh
    obtain ⟨n, rfl⟩ : ∃ z, n = z + 1 := ⟨n - 1, by omega⟩
    have hkl : k < len := by omega
    obtain ⟨hl, hdk2⟩ := stk_len (f := fx x1 x2 x3) hdk
    rw [hs] at hl
    obtain ⟨d1, hd1⟩ := dpt_pre hd (k + 1) (by omega)
    have hd1' := hd1
    unfold dpt at hd1'
    rw [hdk, Option.bind_some] at hd1'
    have ex : stk R t (fx x1 x2 x3) (k + 1) = tstep (fx x1 x2 x3) (R (t + 1 + k)) (R (t + 61 + k)) st := by rw [← hs]; rfl
    have z2 : ¬ σ.1 o 3 ≤ nI k := by rw [h1]; exact nI_ge hkl (by omega)
    have z3 : inb (nI k) 60 = true := inb_nI (by omega) (by omega)
    have zk : (nI k).toNatClampNeg = k := nI_clamp (by omega)
    have hcr := hf k hkl
    have fin : ∀ (n d1 : Nat) (i : Nat) (v : Int32) (st1 : List Int32), m < n → stk R t (fx x1 x2 x3) (k + 1) = st1 → dpt R t (k + 1) = some d1 → hold (upd (σ.2 (o + 2)) i v) st1 → okk (Tx_work_L6 n o x1 x2 x3 (nI d1) (nI (k + 1)) (sA σ (o + 2) i v)) (fun r σ' => stk R t (fx x1 x2 x3) len = [r] ∧ Cq (o + 2) σ σ') := fun n d1 i v st1 g1 g2 g3 g4 => ok_mono (ih (k + 1) n d1 _ st1 (by omega) g1 h1 (fun j hj => by rw [sA_ne (by omega)]; exact hf j hj) g2 g3 (by rw [sA_eq]; exact g4)) (fun r s ⟨p, q⟩ => ⟨p, Cq.put.tr q⟩)
    have h60 : ∀ z, z < 60 → ¬ (60 : Int32) ≤ nI z := fun z hz => nI_ge (a := z) (b := 60) hz (by omega)
    rcases tdep_cases hd1' with ⟨hc, hv, he⟩ | ⟨hc, hv, he⟩ | ⟨hc, hv, he⟩ | ⟨hc1, hc2, hc3, hc, hv, he⟩
    · have hy : σ.2 (o + 1) k = R (t + 61 + k) := by
        rcases hcr with ⟨-, q⟩ | ⟨q, -⟩ | ⟨q, -⟩ | ⟨q, -⟩
        · exact q
        · rw [hc] at q; exact absurd q (by decide)
        · rw [hc] at q; exact absurd q (by decide)
        · exact absurd hc (not_signs q).1
      obtain ⟨m1, m2⟩ := mean_num (a := x1) (b := x2) (c := x3) hv
      rw [tw_push z2 z3 (by rw [zk, hy]; exact m2) (h60 d (by omega)) (inb_nI (by omega) (by omega)), zk, hy, m1, nI_lit1, nI_lit1, nI_clamp (show d < 2 ^ 31 by omega)]
      rw [he] at hd1
      exact fin n _ _ _ _ (by omega) (ex.trans (tstep_1 hc)) hd1 (by rw [← hl]; exact hold_push hh)
    · have hy : σ.2 (o + 1) k = -1 - R (t + 61 + k) := by
        rcases hcr with ⟨q, -⟩ | ⟨-, q⟩ | ⟨q, -⟩ | ⟨q, -⟩
        · rw [hc] at q; exact absurd q (by decide)
        · exact q
        · rw [hc] at q; exact absurd q (by decide)
        · exact absurd hc (not_signs q).2.1
      obtain ⟨m1, m2⟩ := mean_name (a := x1) (b := x2) (c := x3) hv
      rw [tw_push z2 z3 (by rw [zk, hy]; exact m2) (h60 d (by omega)) (inb_nI (by omega) (by omega)), zk, hy, m1, nI_lit1, nI_lit1, nI_clamp (show d < 2 ^ 31 by omega)]
      rw [he] at hd1
      exact fin n _ _ _ _ (by omega) (ex.trans (tstep_2 hc)) hd1 (by rw [← hl]; exact hold_push hh)
    · have hy : σ.2 (o + 1) k = -33 := by
        rcases hcr with ⟨q, -⟩ | ⟨q, -⟩ | ⟨-, q⟩ | ⟨q, -⟩
        · rw [hc] at q; exact absurd q (by decide)
        · rw [hc] at q; exact absurd q (by decide)
        · exact q
        · exact absurd hc (not_signs q).2.2
      obtain ⟨x, r, rfl, hr⟩ := len_one hl hv
      have e1 : nI d - 1 = nI r.length := by rw [hr]; exact pk_sub hv
      rw [tw_deny z2 z3 (by rw [zk]; exact hy) (nI_nlt (a := d) (b := 1) hv (by omega)) (by rw [e1]; exact inb_nI (by omega) (by omega)), e1, nI_lit1, nI_clamp (show r.length < 2 ^ 31 by omega), hh.1]
      rw [he] at hd1
      exact fin n _ _ _ _ (by omega) (ex.trans (tstep_3 hc)) hd1 ⟨upd_s, hold_upd hh.2 (Nat.le_refl _)⟩
    · have hy : σ.2 (o + 1) k = -R (t + 1 + k) := by
        rcases hcr with ⟨q, -⟩ | ⟨q, -⟩ | ⟨q, -⟩ | ⟨-, q⟩
        · exact absurd q hc1
        · exact absurd q hc2
        · exact absurd q hc3
        · exact q
      obtain ⟨y, x, r, rfl, hr⟩ := len_two hl hv
      have e1 : nI d + (-1) = nI (r.length + 1) := by rw [show d = (r.length + 1) + 1 by omega]; exact pk_m1 _
      have e2 : nI (r.length + 1) - 1 = nI r.length := nI_pred _
      rw [tw_two (c := R (t + 1 + k)) z2 z3 (by rw [zk]; exact hy) hc (nI_nlt (a := d) (b := 2) hv (by omega)) (by rw [e1, e2]; exact inb_nI (by omega) (by omega)) (by rw [e1]; exact inb_nI (by omega) (by omega)), e1, e2, nI_lit1, nI_clamp (show r.length < 2 ^ 31 by omega), nI_clamp (show r.length + 1 < 2 ^ 31 by omega)]
      have g1 : σ.2 (o + 2) r.length = x := hh.2.1
      have g2 : σ.2 (o + 2) (r.length + 1) = y := hh.1
      rw [g1, g2]
      rw [he, show d - 1 = r.length + 1 by omega] at hd1
      exact fin n _ _ _ _ (by omega) (ex.trans (tstep_4 hc1 hc2 hc3)) hd1 ⟨upd_s, hold_upd hh.2.2 (Nat.le_refl _)⟩
