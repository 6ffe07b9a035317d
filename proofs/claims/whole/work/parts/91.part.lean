/-! ===== names, numbers, what a ! or a ( opens ===== -/
def nm (u : Nat) (c : Int32) : Int32 := if u = 0 then (if c = 99 then 0 else if c = 98 then 1 else if c = 112 then 2 else -1) else (if c = 108 then 0 else if c = 116 then 1 else if c = 115 then 2 else -1)
theorem nm_cases {u : Nat} {c : Int32} : nm u c = -1 ∨ ((nm u c = 0 ∨ nm u c = 1 ∨ nm u c = 2) ∧ ¬ c = -1) := by
  unfold nm
  split
  · split
    · rename_i q; exact Or.inr ⟨Or.inl rfl, by rw [q]; decide⟩
    · split
      · rename_i q; exact Or.inr ⟨Or.inr (Or.inl rfl), by rw [q]; decide⟩
      · split
        · rename_i q; exact Or.inr ⟨Or.inr (Or.inr rfl), by rw [q]; decide⟩
        · exact Or.inl rfl
  · split
    · rename_i q; exact Or.inr ⟨Or.inl rfl, by rw [q]; decide⟩
    · split
      · rename_i q; exact Or.inr ⟨Or.inr (Or.inl rfl), by rw [q]; decide⟩
      · split
        · rename_i q; exact Or.inr ⟨Or.inr (Or.inr rfl), by rw [q]; decide⟩
        · exact Or.inl rfl
theorem nxt_step {G : Gt} {op p n i : Nat} {a b c : Int32} {σ τ : St} (h : PG G op p σ τ) (hf : σ.1 46 6 = 0) (hu : σ.1 46 5 = a) (hi : i < 3) (hb : a * 3 + nI i = b) (hb6 : ¬ 6 ≤ b) (hbi : inb b 6 = true) (hc : tbN.getD b.toNatClampNeg 0 = c) (hn : ¬ c = -1) : Rd_nextName_L2 (n + 1) (nI i) σ = if cur G p = c then some (nI i, σ) else Rd_nextName_L2 n (nI (i + 1)) σ := by
  rw [Rd_nextName_L2, if_neg (show ¬ (3 : Int32) ≤ nI i from nI_ge (b := 3) hi (by decide)), hu, hb, nam_t, if_neg hb6, hbi, grd_t, hc, isNext_ok h hf hn, bnd_t]
  by_cases e : cur G p = c
  · rw [decide_eq_true e, if_bt, if_pos e]
  · rw [decide_eq_false e, if_bf, if_neg e, nam_t, nI_lit1]
theorem nxt_end {n : Nat} {σ : St} : Rd_nextName_L2 (n + 1) (nI 3) σ = some (-1, σ) := by
  rw [Rd_nextName_L2, if_pos (show (3 : Int32) ≤ nI 3 from Int32.le_refl _)]
theorem nextName_ok {G : Gt} {op p : Nat} {σ τ : St} (h : PG G op p σ τ) (hf : σ.1 46 6 = 0) : Rd_nextName σ = some (nm G.2.2.1 (cur G p), σ) := by
  have hu := h.1.2.2.2.2.1
  have h2 := h.1.2.1
  have e : Rd_nextName σ = Rd_nextName_L2 (996 + 4) (nI 0) σ := rfl
  rw [e]
  rcases (show G.2.2.1 = 0 ∨ G.2.2.1 = 1 by omega) with u | u
  · rw [u] at hu ⊢
    rw [nxt_step h hf hu (i := 0) (b := 0) (c := 99) (by decide) (by decide) (by decide) rfl (by decide) (by decide), nxt_step h hf hu (i := 1) (b := 1) (c := 98) (by decide) (by decide) (by decide) rfl (by decide) (by decide), nxt_step h hf hu (i := 2) (b := 2) (c := 112) (by decide) (by decide) (by decide) rfl (by decide) (by decide), nxt_end, nm, if_pos rfl]
    by_cases e1 : cur G p = 99
    · rw [if_pos e1, if_pos e1]; rfl
    rw [if_neg e1, if_neg e1]
    by_cases e2 : cur G p = 98
    · rw [if_pos e2, if_pos e2]; rfl
    rw [if_neg e2, if_neg e2]
    by_cases e3 : cur G p = 112
    · rw [if_pos e3, if_pos e3]; rfl
    rw [if_neg e3, if_neg e3]
  · rw [u] at hu ⊢
    rw [nxt_step h hf hu (i := 0) (b := 3) (c := 108) (by decide) (by decide) (by decide) rfl (by decide) (by decide), nxt_step h hf hu (i := 1) (b := 4) (c := 116) (by decide) (by decide) (by decide) rfl (by decide) (by decide), nxt_step h hf hu (i := 2) (b := 5) (c := 115) (by decide) (by decide) (by decide) rfl (by decide) (by decide), nxt_end, nm, if_neg (show ¬ (1 : Nat) = 0 by decide)]
    by_cases e1 : cur G p = 108
    · rw [if_pos e1, if_pos e1]; rfl
    rw [if_neg e1, if_neg e1]
    by_cases e2 : cur G p = 116
    · rw [if_pos e2, if_pos e2]; rfl
    rw [if_neg e2, if_neg e2]
    by_cases e3 : cur G p = 115
    · rw [if_pos e3, if_pos e3]; rfl
    rw [if_neg e3, if_neg e3]
theorem nameOf_eq {u : Nat} {c : Int32} {τ : St} (hu : τ.1 0 16 = nI u) (h2 : u < 2) : Mo_nameOf c τ = some (nm u c, τ) := by
  rcases (show u = 0 ∨ u = 1 by omega) with rfl | rfl
  · have k0 : nI 0 = 0 := rfl
    have k1 : ¬ nI 0 = 1 := by decide
    by_cases e1 : c = 98
    · subst e1; rw [Mo_nameOf, hu]; rfl
    by_cases e2 : c = 99
    · subst e2; rw [Mo_nameOf, hu]; rfl
    by_cases e3 : c = 112
    · subst e3; rw [Mo_nameOf, hu]; rfl
    have e : nm 0 c = -1 := by rw [nm, if_pos rfl, if_neg e2, if_neg e1, if_neg e3]
    rw [Mo_nameOf, hu, e, if_neg e1, if_neg e2, if_neg e3, if_neg k1]
    simp only [ite_self]
  · have k0 : ¬ nI 1 = 0 := by decide
    by_cases e1 : c = 108
    · subst e1; rw [Mo_nameOf, hu]; rfl
    by_cases e2 : c = 116
    · subst e2; rw [Mo_nameOf, hu]; rfl
    by_cases e3 : c = 115
    · subst e3; rw [Mo_nameOf, hu]; rfl
    have e : nm 1 c = -1 := by rw [nm, if_neg (show ¬ (1 : Nat) = 0 by decide), if_neg e1, if_neg e2, if_neg e3]
    rw [Mo_nameOf, hu, e, if_neg k0, if_neg e1, if_neg e3, if_neg e2]
    simp only [ite_self]
theorem isDigit_ok {G : Gt} {op p : Nat} {σ τ : St} (h : PG G op p σ τ) (hf : σ.1 46 6 = 0) : Rd_isDigit σ = some (b01 (wi (cur G p) 48 57), σ) := by
  obtain ⟨⟨a1, a2, a3, a4, a5, a6, a7⟩, -, b1, b2, b3, b4⟩ := h
  rw [Rd_isDigit, hf, if00, a3, b2, cur]
  by_cases q : p < G.2.1
  · rw [if_neg (nI_ge q (by omega)), if_pos q, inb_nI (show p < 60 by omega) (by decide), grd_t, grd_t, nI_clamp (by omega), (a7 p (by omega)).1]
    by_cases e : G.1 p < 48
    · rw [if_pos e, wi_no1 e]; rfl
    · rw [if_neg e]
      by_cases e2 : (57 : Int32) < G.1 p
      · rw [if_pos e2, wi_no2 e2]; rfl
      · rw [if_neg e2, wi_yes e e2]; rfl
  · rw [if_pos (nI_le (by omega) (by omega)), if_neg q, show wi (-1) 48 57 = false by decide]; rfl
theorem dig_in {c : Int32} (h : wi c 48 57 = true) : ∃ b, 48 ≤ b ∧ b ≤ 57 ∧ c = nI b := by
  rw [wi, Bool.and_eq_true] at h
  have h1 := of_decide_eq_true h.1
  have h2 := of_decide_eq_true h.2
  rw [le_i, show (48 : Int32).toInt = 48 from rfl] at h1
  rw [le_i, show (57 : Int32).toInt = 57 from rfl] at h2
  obtain ⟨b, hb, rfl⟩ := nI_of (x := c) (by rw [lt_i, show (0 : Int32).toInt = 0 from rfl]; omega)
  rw [nI_toInt hb] at h1 h2
  exact ⟨b, by omega, by omega, rfl⟩
theorem PQ_b0 {G : Gt} {op p n d : Nat} {σ τ : St} (h : PQ G op p n d σ τ) : PQ G op p n d σ (sF τ 0 15 0) := by
  obtain ⟨h1, h2, y1, y2, y3, y4, y5, y6⟩ := h
  refine ⟨PG_to h1 (PFc.rf σ) (PFm.f (by decide)) h1.2.2.1 h1.2.2.2.1 ?_ ?_, h2, y1, ?_, y3, ?_, y5, y6⟩
  · rw [sF_eq, if_neg (by decide)]; exact h1.2.2.2.2.1
  · rw [sF_eq, if_neg (by decide)]; exact h1.2.2.2.2.2
  · rw [sF_eq, if_pos rfl]
  · rw [sF_eq, if_neg (by decide)]; exact y4
theorem num_end {G : Gt} {op p n d v : Nat} {σ τ : St} (h : PQ G op p n d σ τ) (hn : n + 1 ≤ p) (hv : v < 2 ^ 31) : s2 (bnd (Rd_write (nI v) σ) (fun _ s => some (0, s))) (nas (sF τ 0 15 0) (fun t => bnd (Mo_lays 1 (nI v) t) (fun _ s => some (0, s)))) (fun _ σ' _ τ' => ∃ p', p ≤ p' ∧ PQ G op p' (n + 1) (d + 1) σ' τ') := by
  rw [nas_t]
  refine s2_bnd (wr_2 (d' := d + 1) (PQ_b0 h) hn (Or.inl ⟨rfl, rfl⟩) ?_) (fun r s q t k => s2_some ⟨p, Nat.le_refl _, k⟩)
  rw [tdep, if_pos rfl, if_pos (nI_pos' hv)]
theorem num_loop {G : Gt} {op n d : Nat} : ∀ (m i v f f' p : Nat) (σ τ : St), i + m = 4 → m < f → m < f' → 1 ≤ i → v < 10 ^ i → n + 1 ≤ p → PQ G op p n d σ τ → s2 (Rd_readNumber_L4 f (nI v) (nI i) σ) (Mo_number_L4 f' (nI v) (nI i) τ) (fun _ σ' _ τ' => ∃ p', p ≤ p' ∧ PQ G op p' (n + 1) (d + 1) σ' τ') := by
  intro m
  induction m with
  | zero =>
    intro i v f f' p σ τ hi hf hf' h1 hv hn h
    obtain ⟨f, rfl⟩ : ∃ z, f = z + 1 := ⟨f - 1, by omega⟩
    obtain ⟨f', rfl⟩ : ∃ z, f' = z + 1 := ⟨f' - 1, by omega⟩
    have hi : i = 4 := by omega
    subst hi
    rw [Rd_readNumber_L4, Mo_number_L4, if_pos (show (4 : Int32) ≤ nI 4 from Int32.le_refl _), if_pos (show (4 : Int32) ≤ nI 4 from Int32.le_refl _), if_neg (show ¬ nI 4 = 0 by decide)]
    exact num_end h hn (by omega)
  | succ m ih =>
    intro i v f f' p σ τ hi hf hf' h1 hv hn h
    obtain ⟨f, rfl⟩ : ∃ z, f = z + 1 := ⟨f - 1, by omega⟩
    obtain ⟨f', rfl⟩ : ∃ z, f' = z + 1 := ⟨f' - 1, by omega⟩
    have hv4 : v < 10 ^ 4 := Nat.lt_of_lt_of_le hv (Nat.pow_le_pow_right (by decide) (by omega))
    have hi4 : ¬ (4 : Int32) ≤ nI i := nI_ge (b := 4) (by omega) (by decide)
    have hi0 : ¬ nI i = 0 := nI_ne0 (by omega) (by omega)
    rw [Rd_readNumber_L4, Mo_number_L4, if_neg hi4, if_neg hi4, isDigit_ok h.1 h.2.2.1, bnd_t, Mo_look_eq h.1, bnd_t, Mo_in_eq, bnd_t]
    cases hd : wi (cur G p) 48 57 with
    | false =>
      rw [if_bf, if_bf, if_neg hi0]
      exact num_end h hn (by omega)
    | true =>
      obtain ⟨b, hb1, hb2, hbe⟩ := dig_in hd
      have hne : ¬ cur G p = -1 := fun q => by rw [q] at hd; exact absurd hd (by decide)
      obtain ⟨k1, k2⟩ := byte_at h.1 rfl hne
      obtain ⟨hp, -⟩ := cur_in rfl hne
      have e1 : nI v * 10 + nI b - 48 = nI (v * 10 + b - 48) := by
        rw [show (10 : Int32) = nI 10 from rfl, show (48 : Int32) = nI 48 from rfl, pk_mul, nI_add, pk_sub (by omega)]
      have e2 : (10 : Int32) * nI v + nI b - 48 = nI (v * 10 + b - 48) := by rw [Int32.mul_comm, e1]
      rw [if_bt, if_bt, k1, grd_t, nam_t, nas_t, nam_t, k2, hbe, e1, nI_lit1, Mo_look_eq h.1, bnd_t, nam_t, nas_t, nam_t, hbe, e2]
      have hp10 : 10 ^ (i + 1) = 10 ^ i * 10 := Nat.pow_succ ..
      refine s2_mono (ih (i + 1) (v * 10 + b - 48) f f' (p + 1) _ _ (by omega) (by omega) (by omega) (by omega) (by omega) (by omega) (PQ_adv h hp)) (fun _ s _ t y => ?_)
      obtain ⟨p', y1, y2⟩ := y
      exact ⟨p', by omega, y2⟩
theorem number_2 {G : Gt} {op p n d : Nat} {σ τ : St} (h : PQ G op p n d σ τ) (hd : wi (cur G p) 48 57 = true) : s2 (Rd_readNumber σ) (Mo_number τ) (Po G op p n d) := by
  have e1 : Rd_readNumber σ = Rd_readNumber_L4 (999 + 1) 0 0 σ := rfl
  have e2 : Mo_number τ = Mo_number_L4 (999 + 1) 0 0 τ := rfl
  obtain ⟨b, hb1, hb2, hbe⟩ := dig_in hd
  have hne : ¬ cur G p = -1 := fun q => by rw [q] at hd; exact absurd hd (by decide)
  obtain ⟨k1, k2⟩ := byte_at h.1 rfl hne
  obtain ⟨hp, -⟩ := cur_in rfl hne
  have e3 : (0 : Int32) * 10 + nI b - 48 = nI (b - 48) := by
    rw [Int32.zero_mul, Int32.zero_add, show (48 : Int32) = nI 48 from rfl, pk_sub hb1]
  have e4 : (10 : Int32) * 0 + nI b - 48 = nI (b - 48) := by rw [Int32.mul_comm, e3]
  have hnp := h.2.1
  rw [e1, e2, Rd_readNumber_L4, Mo_number_L4, if_neg (show ¬ (4 : Int32) ≤ 0 by decide), if_neg (show ¬ (4 : Int32) ≤ 0 by decide), isDigit_ok h.1 h.2.2.1, bnd_t, Mo_look_eq h.1, bnd_t, Mo_in_eq, bnd_t, hd, if_bt, if_bt, k1, grd_t, nam_t, nas_t, nam_t, k2, hbe, e3, Mo_look_eq h.1, bnd_t, nam_t, nas_t, nam_t, hbe, e4, show (0 : Int32) + 1 = nI 1 by decide]
  refine s2_mono (num_loop (n := n) (d := d) 3 1 (b - 48) 999 999 (p + 1) _ _ (by omega) (by omega) (by omega) (by omega) (by omega) (by omega) (PQ_adv h hp)) (fun _ s _ t y => ?_)
  obtain ⟨p', y1, y2⟩ := y
  exact Or.inl ⟨p', n + 1, by omega, by omega, y2⟩
theorem fail_2 {G : Gt} {op p n d : Nat} {σ τ : St} (h : PQ G op p n d σ τ) : PE G op (sF σ 46 6 1) (sF τ 0 15 1) := by
  obtain ⟨h1, h2, y1, y2, y3, y4, y5, y6⟩ := h
  have hL := h1.1.1
  have hp := h1.2.2.1
  refine ⟨p, PG_to h1 (PFc.f (by decide)) (PFm.f (by decide)) hp ?_ ?_ ?_, ?_, ?_, ⟨n, by omega, ?_⟩, n, by omega, ?_⟩
  · rw [sF_eq, if_neg (by decide)]; exact h1.2.2.2.1
  · rw [sF_eq, if_neg (by decide)]; exact h1.2.2.2.2.1
  · rw [sF_eq, if_neg (by decide)]; exact h1.2.2.2.2.2
  · rw [sF_eq, if_pos rfl]
  · rw [sF_eq, if_pos rfl]
  · rw [sF_eq, if_neg (by decide)]; exact y3
  · rw [sF_eq, if_neg (by decide)]; exact y4
/-- the reference's number where none stands: bad, and one act more, if there is room -/
theorem nonum {G : Gt} {op p n d : Nat} {σ τ : St} (h : PQ G op p n d σ τ) (hd : wi (cur G p) 48 57 = false) : okk (Mo_number τ) (fun _ τ' => PE G op (sF σ 46 6 1) τ') := by
  have e2 : Mo_number τ = Mo_number_L4 (999 + 1) 0 0 τ := rfl
  rw [e2, Mo_number_L4, if_neg (show ¬ (4 : Int32) ≤ 0 by decide), Mo_look_eq h.1, bnd_t, Mo_in_eq, bnd_t, hd, if_bf, if00, nas_t]
  have hf := fail_2 h
  obtain ⟨r, s, q, t, k1, k2, k3⟩ := PE_write (y := 0) (c := 1) (v := 0) hf
  obtain ⟨p', f1, f2, f3, f4, f5⟩ := hf
  obtain ⟨p'', g1, g2, g3, g4, g5⟩ := k3
  obtain ⟨b, hb, hbe⟩ := f5
  refine ok_bnd (Q := fun _ t' => t' = t) ⟨q, t, k2, rfl⟩ (fun _ t' e => ok_some ?_)
  subst e
  have hpe : p' = p'' := by
    have z1 := f1.2.2.2.2.1
    have z2 := g1.2.2.2.2.1
    have z3 : t'.1 0 13 = (sF τ 0 15 1).1 0 13 := by
      by_cases e : b = 60
      · have := k2
        rw [Mo_lays, hbe, e, if_pos (show (60 : Int32) ≤ nI 60 from Int32.le_refl _)] at this
        cases this; rfl
      · rw [Mo_lays_eq hbe (by omega)] at k2
        cases k2
        rw [sF_eq, if_neg (by decide)]; rfl
    have y1 := f1.1.1
    have y2 := f1.2.2.1
    have y3 := g1.2.2.1
    exact (nI_eq (by omega) (by omega)).mp (z1.symm.trans (z3.symm.trans z2))
  have hm : PFm (sF τ 0 15 1) t' := by
    by_cases e : b = 60
    · have := k2
      rw [Mo_lays, hbe, e, if_pos (show (60 : Int32) ≤ nI 60 from Int32.le_refl _)] at this
      cases this; exact PFm.rf _
    · rw [Mo_lays_eq hbe (by omega)] at k2
      cases k2
      exact ((PFm.a (by decide)).tr (PFm.a (by decide))).tr (PFm.f (by decide))
  refine ⟨p', PG_to f1 (PFc.rf _) hm f1.2.2.1 f1.2.2.2.1 ?_ g1.2.2.2.2.2, f2, g3, f4, g5⟩
  rw [hpe]; exact g1.2.2.2.2.1
theorem cur_dig {G : Gt} {p : Nat} {c : Int32} (h : cur G p = c) (hc : wi c 48 57 = false) : wi (cur G p) 48 57 = false := by rw [h]; exact hc
theorem nm_33 {u : Nat} : nm u 33 = -1 := by unfold nm; split <;> rfl
theorem nm_40 {u : Nat} : nm u 40 = -1 := by unfold nm; split <;> rfl
/-- the open count, up and down -/
theorem PQ_op {G : Gt} {op op' p n d : Nat} {σ τ : St} (h : PQ G op p n d σ τ) : PQ G op' p n d σ (sF τ 0 14 (nI op')) := by
  obtain ⟨h1, h2, y1, y2, y3, y4, y5, y6⟩ := h
  refine ⟨PG_to h1 (PFc.rf σ) (PFm.f (by decide)) h1.2.2.1 h1.2.2.2.1 ?_ ?_, h2, y1, ?_, y3, ?_, y5, y6⟩
  · rw [sF_eq, if_neg (by decide)]; exact h1.2.2.2.2.1
  · rw [sF_eq, if_pos rfl]
  · rw [sF_eq, if_neg (by decide)]; exact y2
  · rw [sF_eq, if_neg (by decide)]; exact y4
theorem PE_op {G : Gt} {op op' : Nat} {σ τ : St} (h : PE G op σ τ) : PE G op' σ (sF τ 0 14 (nI op')) := by
  obtain ⟨p, h1, n1, n2, n3, n4⟩ := h
  refine ⟨p, PG_to h1 (PFc.rf σ) (PFm.f (by decide)) h1.2.2.1 h1.2.2.2.1 ?_ ?_, n1, ?_, n3, ?_⟩
  · rw [sF_eq, if_neg (by decide)]; exact h1.2.2.2.2.1
  · rw [sF_eq, if_pos rfl]
  · rw [sF_eq, if_neg (by decide)]; exact n2
  · rw [sF_eq, if_neg (by decide)]; exact n4
theorem PE_again {G : Gt} {op : Nat} {σ τ : St} (h : PE G op σ τ) : PE G op (sF σ 46 6 1) (sF (sF τ 0 15 1) 0 13 ((sF τ 0 15 1).1 0 13 + 0)) := by
  obtain ⟨p, h1, n1, n2, n3, n4⟩ := h
  refine ⟨p, PG_to h1 (PFc.f (by decide)) ((PFm.f (by decide)).tr (PFm.f (by decide))) h1.2.2.1 ?_ ?_ ?_, ?_, ?_, ?_, ?_⟩
  · rw [sF_eq, if_neg (by decide)]; exact h1.2.2.2.1
  · rw [sF_eq, if_pos rfl, sF_eq, if_neg (by decide), Int32.add_zero]; exact h1.2.2.2.2.1
  · rw [sF_eq, if_neg (by decide), sF_eq, if_neg (by decide)]; exact h1.2.2.2.2.2
  · rw [sF_eq, if_pos rfl]
  · rw [sF_eq, if_neg (by decide), sF_eq, if_pos rfl]
  · rw [sF_eq, if_neg (by decide)]; exact n3
  · rw [sF_eq, if_neg (by decide), sF_eq, if_neg (by decide)]; exact n4
theorem sF_id {σ : St} {o k : Nat} {v : Int32} (h : σ.1 o k = v) : sF σ o k v = σ := by
  unfold sF
  refine Prod.ext (funext fun o' => funext fun k' => ?_) rfl
  show (if o' = o ∧ k' = k then v else σ.1 o' k') = σ.1 o' k'
  by_cases e : o' = o ∧ k' = k
  · rw [if_pos e, e.1, e.2, h]
  · rw [if_neg e]
theorem s2_rs {x y : Option (Int32 × St)} {P Q : Int32 → St → Int32 → St → Prop} (h : s2 x y P) (k : ∀ r σ q τ, P r σ q τ → Q r σ 0 τ) : s2 x (bnd y (fun _ s => some (0, s))) Q := by
  obtain ⟨r, σ, q, τ, h1, rfl, h3⟩ := h
  exact ⟨r, σ, 0, τ, h1, rfl, k r σ q τ h3⟩
/-- a ) or none, as the reference reads it -/
def clR (τ : St) : Option (Int32 × St) := if τ.1 0 15 = 0 then bnd (Mo_look τ) (fun r10 σ11 => if r10 = 41 then nas (sF σ11 0 15 0) (fun σ12 => if σ12.1 0 15 = 0 then nas (sF σ12 0 13 (σ12.1 0 13 + 1)) (fun σ13 => nas (sF σ13 0 14 (σ13.1 0 14 - 1)) (fun σ14 => some (0, σ14))) else nas (sF σ12 0 13 (σ12.1 0 13 + 0)) (fun σ15 => nas (sF σ15 0 14 (σ15.1 0 14 - 1)) (fun σ16 => some (0, σ16)))) else nas (sF σ11 0 15 1) (fun σ17 => if σ17.1 0 15 = 0 then nas (sF σ17 0 13 (σ17.1 0 13 + 1)) (fun σ18 => nas (sF σ18 0 14 (σ18.1 0 14 - 1)) (fun σ19 => some (0, σ19))) else nas (sF σ17 0 13 (σ17.1 0 13 + 0)) (fun σ20 => nas (sF σ20 0 14 (σ20.1 0 14 - 1)) (fun σ21 => some (0, σ21))))) else nas (sF τ 0 15 1) (fun σ5 => if σ5.1 0 15 = 0 then nas (sF σ5 0 13 (σ5.1 0 13 + 1)) (fun σ6 => nas (sF σ6 0 14 (σ6.1 0 14 - 1)) (fun σ7 => some (0, σ7))) else nas (sF σ5 0 13 (σ5.1 0 13 + 0)) (fun σ8 => nas (sF σ8 0 14 (σ8.1 0 14 - 1)) (fun σ9 => some (0, σ9))))
theorem down_eq {op : Nat} (t : St) (e : t.1 0 14 = nI (op + 1)) : sF t 0 14 (t.1 0 14 - 1) = sF t 0 14 (nI op) := by rw [e, nI_pred]
theorem close_y {G : Gt} {op p n d : Nat} {σ τ : St} (h : PQ G (op + 1) p n d σ τ) : s2 (bnd (Rd_close σ) (fun _ s => some (0, s))) (clR τ) (fun _ σ' _ τ' => PQ G op (p + 1) n d σ' τ' ∨ PE G op σ' τ') := by
  rw [clR, h.2.2.2.1, if00, Mo_look_eq h.1, bnd_t, Rd_close, isNext_ok h.1 h.2.2.1 (by decide), bnd_t]
  by_cases hc : cur G p = 41
  · obtain ⟨hp, -⟩ := cur_in hc (by decide)
    have h2 := PQ_adv (PQ_b0 h) hp
    rw [decide_eq_true hc, if_bt, nas_t, bnd_t, if_pos hc, nas_t, sF_eq, if_pos rfl, if00, nas_t, nas_t, down_eq _ h2.1.2.2.2.2.2]
    exact s2_some (Or.inl (PQ_op h2))
  · have hf := fail_2 h
    rw [decide_eq_false hc, if_bf, nas_t, bnd_t, if_neg hc, nas_t, sF_eq, if_pos rfl, if10, nas_t, nas_t, Int32.add_zero, sF_id (σ := sF τ 0 15 1) (o := 0) (k := 13) rfl, down_eq _ hf.choose_spec.1.2.2.2.2.2]
    exact s2_some (Or.inr (PE_op hf))
theorem close_n {G : Gt} {op : Nat} {σ τ : St} (h : PE G (op + 1) σ τ) : s2 (bnd (Rd_close σ) (fun _ s => some (0, s))) (clR τ) (fun _ σ' _ τ' => PE G op σ' τ') := by
  obtain ⟨p', e1, e2, e3, e4⟩ := id h
  have h2 := PE_again h
  rw [clR, e3, if10, Rd_close, isNext_no e2, bnd_t, if00, nas_t, bnd_t, nas_t, sF_eq, if_pos rfl, if10, nas_t, nas_t, down_eq _ h2.choose_spec.1.2.2.2.2.2]
  exact s2_some (PE_op h2)
theorem part_2 {G : Gt} {op p n d : Nat} {rC rM rR : Nat → Int32 → St → Option (Int32 × St)} {σ τ : St} (hop : op ≤ 5) (hM : ∀ b t, rM 6 b t = Mo_opens rR b t) (h5 : op < 5 → ∀ p n d σ τ, PQ G (op + 1) p n d σ τ → s2 (rC 5 (nI (op + 1)) σ) (rR 5 0 τ) (Po G (op + 1) p n d)) (h0 : op < 5 → ∀ p n d σ τ, PQ G (op + 1) p n d σ τ → s2 (rC 0 (nI (op + 1)) σ) (rR 0 0 τ) (Po G (op + 1) p n d)) (h : PQ G op p n d σ τ) : s2 (Rd_readPart rC (nI op) σ) (Mo_one rM τ) (Po G op p n d) := by
  have hu := h.1.1.2.2.2.2.2.1
  have hnp := h.2.1
  rw [Rd_readPart, Mo_one, nextName_ok h.1 h.2.2.1, bnd_t, Mo_look_eq h.1, bnd_t, nameOf_eq hu h.1.1.2.1, bnd_t]
  rcases nm_cases (u := G.2.2.1) (c := cur G p) with hm | ⟨hm, hne⟩
  · rw [hm, if_pos (show (-1 : Int32) < 0 by decide), if_pos (show (-1 : Int32) < 0 by decide), isDigit_ok h.1 h.2.2.1, bnd_t]
    by_cases c33 : cur G p = 33
    · rw [cur_dig c33 (by decide), if_bf, if_pos c33, hM, Mo_opens, h.1.2.2.2.2.2]
      by_cases o5 : op = 5
      · rw [o5, if_pos (show (5 : Int32) ≤ nI 5 from Int32.le_refl _), if_pos (show (5 : Int32) ≤ nI 5 from Int32.le_refl _), nas_t, if_pos (show nI 5 = 5 from rfl), nas_t, bnd_t]
        rw [o5] at h
        exact s2_some (Or.inr (fail_2 h))
      · have n5 : ¬ (5 : Int32) ≤ nI op := nI_ge (b := 5) (by omega) (by decide)
        have n5' : ¬ nI op = 5 := fun q => o5 ((nI_eq (b := 5) (by omega) (by decide)).mp q)
        obtain ⟨hp, -⟩ := cur_in c33 (by decide)
        have hA := PQ_adv (PQ_op (op' := op + 1) h) hp
        rw [if_neg n5, isNext_ok h.1 h.2.2.1 (by decide), bnd_t, decide_eq_true c33, if_bt, nas_t, if_neg n5', nas_t, nas_t, if_pos c33, nI_lit1, bnd_bnd]
        refine s2_bnd (h5 (by omega) _ _ _ _ _ hA) (fun r s q t k => ?_)
        rw [bnd_bnd]
        rcases k with ⟨p', n', k1, k2, k3⟩ | k
        · refine s2_bnd (wr_2 (y := -33) (c := 3) (v := 0) (d' := d + 1) k3 (by omega) (Or.inr (Or.inr (Or.inl ⟨rfl, rfl⟩))) ?_) (fun r s q t y => ?_)
          · rw [tdep, if_neg (by decide), if_neg (by decide), if_pos rfl, if_pos (by omega)]
          · rw [nas_t, bnd_t, y.1.2.2.2.2.2, nI_pred]
            exact s2_some (Or.inl ⟨p', n' + 1, by omega, by omega, PQ_op y⟩)
        · refine s2_bnd (PE_write (y := -33) (c := 3) (v := 0) k) (fun r s q t y => ?_)
          rw [nas_t, bnd_t, y.choose_spec.1.2.2.2.2.2, nI_pred]
          exact s2_some (Or.inr (PE_op y))
    · by_cases c40 : cur G p = 40
      · rw [cur_dig c40 (by decide), if_bf, if_neg c33, if_pos c40, hM, Mo_opens, h.1.2.2.2.2.2]
        by_cases o5 : op = 5
        · rw [o5, if_pos (show (5 : Int32) ≤ nI 5 from Int32.le_refl _), if_pos (show (5 : Int32) ≤ nI 5 from Int32.le_refl _), nas_t, if_pos (show nI 5 = 5 from rfl), nas_t, bnd_t]
          rw [o5] at h
          exact s2_some (Or.inr (fail_2 h))
        · have n5 : ¬ (5 : Int32) ≤ nI op := nI_ge (b := 5) (by omega) (by decide)
          have n5' : ¬ nI op = 5 := fun q => o5 ((nI_eq (b := 5) (by omega) (by decide)).mp q)
          obtain ⟨hp, -⟩ := cur_in c40 (by decide)
          have hA := PQ_adv (PQ_op (op' := op + 1) h) hp
          rw [if_neg n5, isNext_ok h.1 h.2.2.1 (by decide), bnd_t, decide_eq_false c33, if_bf, if_neg n5, isNext_ok h.1 h.2.2.1 (by decide), bnd_t, decide_eq_true c40, if_bt, nas_t, if_neg n5', nas_t, nas_t, if_neg c33, nI_lit1, bnd_bnd]
          refine s2_bnd (h0 (by omega) _ _ _ _ _ hA) (fun r s q t k => ?_)
          rcases k with ⟨p', n', k1, k2, k3⟩ | k
          · refine s2_rs (close_y (op := op) k3) (fun r s q t y => ?_)
            rcases y with y | y
            · exact Or.inl ⟨p' + 1, n', by omega, by omega, y⟩
            · exact Or.inr y
          · exact s2_rs (close_n (op := op) k) (fun r s q t y => Or.inr y)
      · rw [if_neg c33, if_neg c40]
        cases hd : wi (cur G p) 48 57 with
        | true =>
          rw [if_bt]
          exact s2_bnd (number_2 h hd) (fun r s q t k => s2_some k)
        | false =>
          rw [if_bf]
          have hN := nonum h hd
          have hend : s2 (nas (sF σ 46 6 1) (fun s => some (0, s))) (bnd (Mo_number τ) (fun _ s => some (0, s))) (Po G op p n d) := by
            rw [nas_t]
            exact s2_r hN (fun _ t k => s2_some (Or.inr k))
          by_cases n5 : (5 : Int32) ≤ nI op
          · rw [if_pos n5, if_pos n5]; exact hend
          · rw [if_neg n5, isNext_ok h.1 h.2.2.1 (by decide), bnd_t, decide_eq_false c33, if_bf, if_neg n5, isNext_ok h.1 h.2.2.1 (by decide), bnd_t, decide_eq_false c40, if_bf]
            exact hend
  · have hnn : ¬ nm G.2.2.1 (cur G p) < 0 := by rcases hm with e | e | e <;> (rw [e]; decide)
    obtain ⟨hp, -⟩ := cur_in rfl hne
    rw [if_neg hnn, if_neg hnn, nas_t, nas_t]
    refine s2_bnd (wr_2 (d' := d + 1) (PQ_adv h hp) (by omega) (Or.inr (Or.inl ⟨rfl, rfl⟩)) ?_) (fun r s q t y => s2_some (Or.inl ⟨p + 1, n + 1, by omega, by omega, y⟩))
    rw [tdep, if_neg (by decide), if_pos rfl, if_pos hm]
