/-! ===== a text at work: the reference's pile and the class's stack ===== -/
def Mq (τ τ' : St) : Prop := τ'.1 = τ.1 ∧ ∀ a, a ≠ 10 → a ≠ 11 → τ'.2 a = τ.2 a
theorem Mq.rf (τ : St) : Mq τ τ := ⟨rfl, fun _ _ _ => rfl⟩
theorem Mq.tr {τ τ' τ'' : St} (h : Mq τ τ') (h' : Mq τ' τ'') : Mq τ τ'' := ⟨h'.1.trans h.1, fun a p q => (h'.2 a p q).trans (h.2 a p q)⟩
theorem Mq.put {τ : St} {a i : Nat} {v : Int32} (h : a = 10 ∨ a = 11) : Mq τ (sA τ a i v) := ⟨rfl, fun b p q => sA_ne (by rcases h with rfl | rfl <;> assumption)⟩
def Cq (a0 : Nat) (σ σ' : St) : Prop := σ'.1 = σ.1 ∧ ∀ a, a ≠ a0 → σ'.2 a = σ.2 a
theorem Cq.rf (a0 : Nat) (σ : St) : Cq a0 σ σ := ⟨rfl, fun _ _ => rfl⟩
theorem Cq.tr {a0 : Nat} {τ τ' τ'' : St} (h : Cq a0 τ τ') (h' : Cq a0 τ' τ'') : Cq a0 τ τ'' := ⟨h'.1.trans h.1, fun a p => (h'.2 a p).trans (h.2 a p)⟩
theorem Cq.put {σ : St} {a i : Nat} {v : Int32} : Cq a σ (sA σ a i v) := ⟨rfl, fun b p => sA_ne p⟩
/-- the four kinds of a code that may stand there -/
theorem tdep_cases {c v : Int32} {d d1 : Nat} (h : tdep c v d = some d1) : (c = 1 ∧ 0 ≤ v ∧ d1 = d + 1) ∨ (c = 2 ∧ (v = 0 ∨ v = 1 ∨ v = 2) ∧ d1 = d + 1) ∨ (c = 3 ∧ 1 ≤ d ∧ d1 = d) ∨ (¬ c = 1 ∧ ¬ c = 2 ∧ ¬ c = 3 ∧ c ∈ signs ∧ 2 ≤ d ∧ d1 = d - 1) := by
  unfold tdep at h
  split at h
  · rename_i q
    split at h
    · rename_i q2; cases h; exact Or.inl ⟨q, q2, rfl⟩
    · cases h
  · rename_i q1
    split at h
    · rename_i q
      split at h
      · rename_i q2; cases h; exact Or.inr (Or.inl ⟨q, q2, rfl⟩)
      · cases h
    · rename_i q2
      split at h
      · rename_i q
        split at h
        · rename_i q3; cases h; exact Or.inr (Or.inr (Or.inl ⟨q, q3, rfl⟩))
        · cases h
      · rename_i q3
        split at h
        · rename_i q4
          split at h
          · rename_i q5; cases h; exact Or.inr (Or.inr (Or.inr ⟨q1, q2, q3, q4, q5, rfl⟩))
          · cases h
        · cases h
theorem len_one {st : List Int32} {d : Nat} (h : st.length = d) (hd : 1 ≤ d) : ∃ x r, st = x :: r ∧ r.length = d - 1 := by
  cases st with
  | nil => simp at h; omega
  | cons x r => exact ⟨x, r, rfl, by simp at h; omega⟩
theorem len_two {st : List Int32} {d : Nat} (h : st.length = d) (hd : 2 ≤ d) : ∃ y x r, st = y :: x :: r ∧ r.length = d - 2 := by
  obtain ⟨y, r1, rfl, h1⟩ := len_one h (by omega)
  obtain ⟨x, r, rfl, h2⟩ := len_one h1 (by omega)
  exact ⟨y, x, r, rfl, by omega⟩
theorem two_clamp {v : Int32} (h : v = 0 ∨ v = 1 ∨ v = 2) : inb v 3 = true ∧ v.toNatClampNeg < 3 := by
  rcases h with rfl | rfl | rfl <;> decide
set_option maxHeartbeats 2000000 in
theorem works_loop {R : Nat → Int32} {t len : Nat} {f : Nat → Int32} (ht : t + 121 ≤ 366) (hlen : len ≤ 60) (hR : R t = nI len) (hd : dpt R t len = some 1) : ∀ (m k n d : Nat) (τ : St) (st : List Int32), k + m = len → m < n → τ.2 1 = R → (∀ i, i < 3 → τ.2 10 i = f i) → stk R t f k = st → dpt R t k = some d → hold (τ.2 11) st → okk (Mo_works_L4 n (nI t) (nI d) (nI k) τ) (fun r τ' => stk R t f len = [r] ∧ Mq τ τ') := by
  intro m
  induction m with
  | zero =>
    intro k n d τ st hk hn h1 hf hs hdk hh
    obtain ⟨n, rfl⟩ : ∃ z, n = z + 1 := ⟨n - 1, by omega⟩
    have hk : k = len := by omega
    subst hk
    rw [hd] at hdk
    cases hdk
    unfold Mo_works_L4
    have e0 := (stk_len (f := f) hd).1
    rw [hs] at e0
    obtain ⟨x, r, rfl, hr⟩ := len_one e0 (Nat.le_refl 1)
    have hr0 : r = [] := List.length_eq_zero_iff.mp (by omega)
    subst hr0
    rw [inb_nI (by omega) (by omega), grd_t, nI_clamp (by omega), h1, hR, if_pos (Int32.le_refl _)]
    exact ⟨x, τ, by rw [show inb (0 : Int32) 60 = true from rfl, grd_t]; exact congrArg (fun z => some (z, τ)) hh.1, hs, Mq.rf τ⟩
  | succ m ih =>
    intro k n d τ st hk hn h1 hf hs hdk hh
    obtain ⟨n, rfl⟩ : ∃ z, n = z + 1 := ⟨n - 1, by omega⟩
    have hkl : k < len := by omega
    obtain ⟨hl, hdk2⟩ := stk_len (f := f) hdk
    rw [hs] at hl
    obtain ⟨d1, hd1⟩ := dpt_pre hd (k + 1) (by omega)
    have hd1' := hd1
    unfold dpt at hd1'
    rw [hdk, Option.bind_some] at hd1'
    have ex : stk R t f (k + 1) = tstep f (R (t + 1 + k)) (R (t + 61 + k)) st := by rw [← hs]; rfl
    unfold Mo_works_L4
    rw [inb_nI (show t < 366 by omega) (by omega), grd_t, nI_clamp (show t < 2 ^ 31 by omega), h1, hR, if_neg (nI_ge hkl (by omega))]
    have a3 : nI t + 1 + nI k = nI (t + 1 + k) := by rw [nI_lit1, nI_add]
    have b3 : nI t + 61 + nI k = nI (t + 61 + k) := by rw [show (61 : Int32) = nI 61 from rfl, nI_add, nI_add]
    have c1 : ∀ j, nI j + 1 = nI (j + 1) := nI_lit1
    rw [a3, b3, inb_nI (show t + 1 + k < 366 by omega) (by omega), inb_nI (show t + 61 + k < 366 by omega) (by omega), nI_clamp (show t + 1 + k < 2 ^ 31 by omega), nI_clamp (show t + 61 + k < 2 ^ 31 by omega)]
    simp only [grd_t, nam, nas, c1]
    rcases tdep_cases hd1' with ⟨hc, hv, he⟩ | ⟨hc, hv, he⟩ | ⟨hc, hv, he⟩ | ⟨hc1, hc2, hc3, hc, hv, he⟩ <;> obtain rfl := he.symm
    · rw [if_pos hc, if_pos hc, inb_nI (show d < 60 by omega) (by omega), grd_t, nI_clamp (show d < 2 ^ 31 by omega)]
      refine ok_mono (ih (k + 1) n (d + 1) _ (R (t + 61 + k) :: st) (by omega) (by omega) ((sA_ne (by decide)).trans h1) (fun i hi => by rw [sA_ne (by decide)]; exact hf i hi) (by rw [ex, tstep, if_pos hc]) hd1 (by rw [sA_eq, ← hl]; exact hold_push hh)) (fun r s ⟨p, q⟩ => ⟨p, (Mq.put (Or.inr rfl)).tr q⟩)
    · obtain ⟨hb, hlt⟩ := two_clamp hv
      rw [if_neg (by rw [hc]; decide), if_pos hc, if_neg (by rw [hc]; decide), hb, grd_t, inb_nI (show d < 60 by omega) (by omega), grd_t, nI_clamp (show d < 2 ^ 31 by omega), hf _ hlt]
      refine ok_mono (ih (k + 1) n (d + 1) _ (f (R (t + 61 + k)).toNatClampNeg :: st) (by omega) (by omega) ((sA_ne (by decide)).trans h1) (fun i hi => by rw [sA_ne (by decide)]; exact hf i hi) (by rw [ex, tstep, if_neg (by rw [hc]; decide), if_pos hc]) hd1 (by rw [sA_eq, ← hl]; exact hold_push hh)) (fun r s ⟨p, q⟩ => ⟨p, (Mq.put (Or.inr rfl)).tr q⟩)
    · obtain ⟨x, r, rfl, hr⟩ := len_one hl hv
      have e1 : nI d - 1 = nI r.length := by rw [hr]; exact pk_sub hv
      have ex2 : stk R t f (k + 1) = (if x = 0 then 1 else 0) :: r := by rw [ex, tstep, if_neg (by rw [hc]; decide), if_neg (by rw [hc]; decide), if_pos hc]
      rw [if_neg (by rw [hc]; decide), if_neg (by rw [hc]; decide), if_pos hc, e1, inb_nI (show r.length < 60 by omega) (by omega), nI_clamp (show r.length < 2 ^ 31 by omega), grd_t, grd_t, grd_t, hh.1]
      have hold2 : ∀ w : Int32, hold ((sA τ 11 r.length w).2 11) (w :: r) := fun w => by rw [sA_eq]; exact ⟨upd_s, hold_upd hh.2 (Nat.le_refl _)⟩
      by_cases hx : x = 0
      · rw [if_pos hx]
        rw [if_pos hx] at ex2
        exact ok_mono (ih (k + 1) n d _ (1 :: r) (by omega) (by omega) ((sA_ne (by decide)).trans h1) (fun i hi => by rw [sA_ne (by decide)]; exact hf i hi) ex2 hd1 (hold2 1)) (fun r s ⟨p, q⟩ => ⟨p, (Mq.put (Or.inr rfl)).tr q⟩)
      · rw [if_neg hx]
        rw [if_neg hx] at ex2
        exact ok_mono (ih (k + 1) n d _ (0 :: r) (by omega) (by omega) ((sA_ne (by decide)).trans h1) (fun i hi => by rw [sA_ne (by decide)]; exact hf i hi) ex2 hd1 (hold2 0)) (fun r s ⟨p, q⟩ => ⟨p, (Mq.put (Or.inr rfl)).tr q⟩)
    · obtain ⟨y, x, r, rfl, hr⟩ := len_two hl hv
      have e1 : nI d + (-1) = nI (r.length + 1) := by rw [show d = (r.length + 1) + 1 by omega]; exact pk_m1 _
      have e2 : nI (r.length + 1) - 1 = nI r.length := nI_pred _
      have ex2 : stk R t f (k + 1) = two (R (t + 1 + k)) x y :: r := by rw [ex, tstep, if_neg hc1, if_neg hc2, if_neg hc3]
      rw [if_neg hc1, if_neg hc2, if_neg hc3, e1, e2, inb_nI (show r.length < 60 by omega) (by omega), inb_nI (show r.length + 1 < 60 by omega) (by omega), nI_clamp (show r.length < 2 ^ 31 by omega), nI_clamp (show r.length + 1 < 2 ^ 31 by omega), grd_t, grd_t, Mo_twoOf_eq hc, bnd_t, grd_t]
      have g1 : τ.2 11 r.length = x := hh.2.1
      have g2 : τ.2 11 (r.length + 1) = y := hh.1
      rw [g1, g2]
      have hd2 : d - 1 = r.length + 1 := by omega
      rw [hd2] at hd1
      exact ok_mono (ih (k + 1) n (r.length + 1) _ (two (R (t + 1 + k)) x y :: r) (by omega) (by omega) ((sA_ne (by decide)).trans h1) (fun i hi => by rw [sA_ne (by decide)]; exact hf i hi) ex2 hd1 (by rw [sA_eq]; exact ⟨upd_s, hold_upd hh.2.2 (Nat.le_refl _)⟩)) (fun r s ⟨p, q⟩ => ⟨p, (Mq.put (Or.inr rfl)).tr q⟩)
