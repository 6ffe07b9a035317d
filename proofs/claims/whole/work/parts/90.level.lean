/-! ===== the levels of the parsers ===== -/
theorem and_loop {G : Gt} {op : Nat} {x1 : Int32} {rC rR : Nat → Int32 → St → Option (Int32 × St)} (hrec : ∀ p n d σ τ, PQ G op p n d σ τ → s2 (rC 2 x1 σ) (rR 2 0 τ) (Po G op p n d)) : ∀ (m p n d i f f' : Nat) (σ τ : St), 60 - p ≤ m → m < f → m < f' → i ≤ p → (PQ G op p n (d + 1) σ τ ∨ PE G op σ τ) → s2 (Rd_readAnd_L7 rC f x1 (nI i) σ) (Mo_all_L4 rR f' τ) (Pl G op p n (d + 1)) := by
  intro m
  induction m with
  | zero =>
    intro p n d i f f' σ τ hm hf hf' hi h
    obtain ⟨f, rfl⟩ : ∃ z, f = z + 1 := ⟨f - 1, by omega⟩
    obtain ⟨f', rfl⟩ : ∃ z, f' = z + 1 := ⟨f' - 1, by omega⟩
    rcases h with h | h
    · have hp := h.1.2.2.1
      have ht := h.1.1.1
      have hcur := tape_60 h.1 (by omega) 38 (by decide)
      rw [Rd_readAnd_L7, Mo_all_L4, h.2.2.2.1, if00, Mo_look_eq h.1, bnd_t, if_neg hcur]
      by_cases q : (60 : Int32) ≤ nI i
      · rw [if_pos q]; exact s2_some (Or.inl ⟨p, n, Nat.le_refl _, Nat.le_refl _, h⟩)
      · rw [if_neg q, isNext_ok h.1 h.2.2.1 (by decide), bnd_t, decide_eq_false hcur, if_bf]
        exact s2_some (Or.inl ⟨p, n, Nat.le_refl _, Nat.le_refl _, h⟩)
    · obtain ⟨p', e1, e2, e3, -⟩ := id h
      rw [Rd_readAnd_L7, Mo_all_L4, e3, if10]
      by_cases q : (60 : Int32) ≤ nI i
      · rw [if_pos q]; exact s2_some (Or.inr h)
      · rw [if_neg q, isNext_no e2, bnd_t, if00]; exact s2_some (Or.inr h)
  | succ m ih =>
    intro p n d i f f' σ τ hm hf hf' hi h
    obtain ⟨f, rfl⟩ : ∃ z, f = z + 1 := ⟨f - 1, by omega⟩
    obtain ⟨f', rfl⟩ : ∃ z, f' = z + 1 := ⟨f' - 1, by omega⟩
    rcases h with h | h
    · rw [Rd_readAnd_L7, Mo_all_L4, h.2.2.2.1, if00, Mo_look_eq h.1, bnd_t]
      by_cases hc : cur G p = 38
      · obtain ⟨hp, -⟩ := cur_in hc (by decide)
        have hL := h.1.1.1
        rw [if_neg (show ¬ (60 : Int32) ≤ nI i from nI_ge (b := 60) (by omega) (by decide)), isNext_ok h.1 h.2.2.1 (by decide), bnd_t, decide_eq_true hc, if_bt, if_pos hc, nas_t, nas_t]
        refine sg_2 (fC := fun s => rC 2 x1 s) (fR := fun s => rR 2 0 s) (KC := fun s => nam (nI i + 1) (fun y => Rd_readAnd_L7 rC f x1 y s)) (KR := fun s => Mo_all_L4 rR f' s) hrec h hc (by decide) (by decide) (fun s t k => ?_)
        rw [nam_t, nI_lit1]
        rcases k with ⟨p', n', k1, k2, k3⟩ | k
        · exact s2_mono (ih p' n' d (i + 1) f f' s t (by omega) (by omega) (by omega) (by omega) (Or.inl k3)) (fun _ _ _ _ y => Pl_of (by omega) (by omega) y)
        · exact s2_mono (ih (p + 1) (n + 1) d (i + 1) f f' s t (by omega) (by omega) (by omega) (by omega) (Or.inr k)) (fun _ _ _ _ y => Pl_of (by omega) (by omega) y)
      · rw [if_neg hc]
        by_cases q : (60 : Int32) ≤ nI i
        · rw [if_pos q]; exact s2_some (Or.inl ⟨p, n, Nat.le_refl _, Nat.le_refl _, h⟩)
        · rw [if_neg q, isNext_ok h.1 h.2.2.1 (by decide), bnd_t, decide_eq_false hc, if_bf]
          exact s2_some (Or.inl ⟨p, n, Nat.le_refl _, Nat.le_refl _, h⟩)
    · obtain ⟨p', e1, e2, e3, -⟩ := id h
      rw [Rd_readAnd_L7, Mo_all_L4, e3, if10]
      by_cases q : (60 : Int32) ≤ nI i
      · rw [if_pos q]; exact s2_some (Or.inr h)
      · rw [if_neg q, isNext_no e2, bnd_t, if00]; exact s2_some (Or.inr h)
theorem sum_loop {G : Gt} {op : Nat} {x1 : Int32} {rC rR : Nat → Int32 → St → Option (Int32 × St)} (hrec : ∀ p n d σ τ, PQ G op p n d σ τ → s2 (rC 4 x1 σ) (rR 4 0 τ) (Po G op p n d)) : ∀ (m p n d i f f' : Nat) (σ τ : St), 60 - p ≤ m → m < f → m < f' → i ≤ p → (PQ G op p n (d + 1) σ τ ∨ PE G op σ τ) → s2 (Rd_readSum_L7 rC f x1 (nI i) σ) (Mo_sum_L4 rR f' τ) (Pl G op p n (d + 1)) := by
  intro m
  induction m with
  | zero =>
    intro p n d i f f' σ τ hm hf hf' hi h
    obtain ⟨f, rfl⟩ : ∃ z, f = z + 1 := ⟨f - 1, by omega⟩
    obtain ⟨f', rfl⟩ : ∃ z, f' = z + 1 := ⟨f' - 1, by omega⟩
    rcases h with h | h
    · have hp := h.1.2.2.1
      have ht := h.1.1.1
      have n43 := tape_60 h.1 (by omega) 43 (by decide)
      have n45 := tape_60 h.1 (by omega) 45 (by decide)
      rw [Rd_readSum_L7, Mo_sum_L4, h.2.2.2.1, if00, Mo_look_eq h.1, bnd_t]
      rw [if_neg n43, Mo_look_eq h.1, bnd_t, if_neg n45]
      by_cases q : (60 : Int32) ≤ nI i
      · rw [if_pos q]; exact s2_some (Or.inl ⟨p, n, Nat.le_refl _, Nat.le_refl _, h⟩)
      · rw [if_neg q, isNext_ok h.1 h.2.2.1 (by decide), bnd_t, decide_eq_false n43, if_bf, isNext_ok h.1 h.2.2.1 (by decide), bnd_t, decide_eq_false n45, if_bf]
        exact s2_some (Or.inl ⟨p, n, Nat.le_refl _, Nat.le_refl _, h⟩)
    · obtain ⟨p', e1, e2, e3, -⟩ := id h
      rw [Rd_readSum_L7, Mo_sum_L4, e3, if10]
      by_cases q : (60 : Int32) ≤ nI i
      · rw [if_pos q]; exact s2_some (Or.inr h)
      · rw [if_neg q, isNext_no e2, bnd_t, if00, isNext_no e2, bnd_t, if00]; exact s2_some (Or.inr h)
  | succ m ih =>
    intro p n d i f f' σ τ hm hf hf' hi h
    obtain ⟨f, rfl⟩ : ∃ z, f = z + 1 := ⟨f - 1, by omega⟩
    obtain ⟨f', rfl⟩ : ∃ z, f' = z + 1 := ⟨f' - 1, by omega⟩
    rcases h with h | h
    · have hgo : ∀ s t, (∃ p' n', p < p' ∧ n' + p ≤ n + p' ∧ PQ G op p' n' (d + 1) s t) ∨ PE G op s t → s2 (nam (nI i + 1) (fun y => Rd_readSum_L7 rC f x1 y s)) (Mo_sum_L4 rR f' t) (Pl G op p n (d + 1)) := fun s t k => by
        rw [nam_t, nI_lit1]
        rcases k with ⟨p', n', k1, k2, k3⟩ | k
        · exact s2_mono (ih p' n' d (i + 1) f f' s t (by omega) (by omega) (by omega) (by omega) (Or.inl k3)) (fun _ _ _ _ y => Pl_of (by omega) (by omega) y)
        · exact s2_mono (ih (p + 1) (n + 1) d (i + 1) f f' s t (by omega) (by omega) (by omega) (by omega) (Or.inr k)) (fun _ _ _ _ y => Pl_of (by omega) (by omega) y)
      have hL := h.1.1.1
      rw [Rd_readSum_L7, Mo_sum_L4, h.2.2.2.1, if00, Mo_look_eq h.1, bnd_t]
      by_cases n43 : cur G p = 43
      · obtain ⟨hp, -⟩ := cur_in n43 (by decide)
        obtain ⟨b1, b2⟩ := byte_at h.1 n43 (by decide)
        rw [if_neg (show ¬ (60 : Int32) ≤ nI i from nI_ge (b := 60) (by omega) (by decide)), isNext_ok h.1 h.2.2.1 (by decide), bnd_t, decide_eq_true n43, if_bt, b1, grd_t, nam_t, b2, nas_t, if_pos n43, Mo_look_eq h.1, bnd_t, n43, nas_t]
        exact sg_2 (fC := fun s => rC 4 x1 s) (fR := fun s => rR 4 0 s) (KC := fun s => nam (nI i + 1) (fun y => Rd_readSum_L7 rC f x1 y s)) (KR := fun s => Mo_sum_L4 rR f' s) hrec h n43 (by decide) (by decide) hgo
      by_cases n45 : cur G p = 45
      · obtain ⟨hp, -⟩ := cur_in n45 (by decide)
        obtain ⟨b1, b2⟩ := byte_at h.1 n45 (by decide)
        rw [if_neg (show ¬ (60 : Int32) ≤ nI i from nI_ge (b := 60) (by omega) (by decide)), isNext_ok h.1 h.2.2.1 (by decide), bnd_t, decide_eq_false n43, if_bf, isNext_ok h.1 h.2.2.1 (by decide), bnd_t, decide_eq_true n45, if_bt, b1, grd_t, nam_t, b2, nas_t, if_neg n43, Mo_look_eq h.1, bnd_t, if_pos n45, Mo_look_eq h.1, bnd_t, n45, nas_t]
        exact sg_2 (fC := fun s => rC 4 x1 s) (fR := fun s => rR 4 0 s) (KC := fun s => nam (nI i + 1) (fun y => Rd_readSum_L7 rC f x1 y s)) (KR := fun s => Mo_sum_L4 rR f' s) hrec h n45 (by decide) (by decide) hgo
      rw [if_neg n43, Mo_look_eq h.1, bnd_t, if_neg n45]
      by_cases q : (60 : Int32) ≤ nI i
      · rw [if_pos q]; exact s2_some (Or.inl ⟨p, n, Nat.le_refl _, Nat.le_refl _, h⟩)
      · rw [if_neg q, isNext_ok h.1 h.2.2.1 (by decide), bnd_t, decide_eq_false n43, if_bf, isNext_ok h.1 h.2.2.1 (by decide), bnd_t, decide_eq_false n45, if_bf]
        exact s2_some (Or.inl ⟨p, n, Nat.le_refl _, Nat.le_refl _, h⟩)
    · obtain ⟨p', e1, e2, e3, -⟩ := id h
      rw [Rd_readSum_L7, Mo_sum_L4, e3, if10]
      by_cases q : (60 : Int32) ≤ nI i
      · rw [if_pos q]; exact s2_some (Or.inr h)
      · rw [if_neg q, isNext_no e2, bnd_t, if00, isNext_no e2, bnd_t, if00]; exact s2_some (Or.inr h)
theorem prod_loop {G : Gt} {op : Nat} {x1 : Int32} {rC rR : Nat → Int32 → St → Option (Int32 × St)} (hrec : ∀ p n d σ τ, PQ G op p n d σ τ → s2 (rC 5 x1 σ) (rR 5 0 τ) (Po G op p n d)) : ∀ (m p n d i f f' : Nat) (σ τ : St), 60 - p ≤ m → m < f → m < f' → i ≤ p → (PQ G op p n (d + 1) σ τ ∨ PE G op σ τ) → s2 (Rd_readProduct_L7 rC f x1 (nI i) σ) (Mo_times_L4 rR f' τ) (Pl G op p n (d + 1)) := by
  intro m
  induction m with
  | zero =>
    intro p n d i f f' σ τ hm hf hf' hi h
    obtain ⟨f, rfl⟩ : ∃ z, f = z + 1 := ⟨f - 1, by omega⟩
    obtain ⟨f', rfl⟩ : ∃ z, f' = z + 1 := ⟨f' - 1, by omega⟩
    rcases h with h | h
    · have hp := h.1.2.2.1
      have ht := h.1.1.1
      have n42 := tape_60 h.1 (by omega) 42 (by decide)
      have n47 := tape_60 h.1 (by omega) 47 (by decide)
      have n37 := tape_60 h.1 (by omega) 37 (by decide)
      rw [Rd_readProduct_L7, Mo_times_L4, h.2.2.2.1, if00, Mo_look_eq h.1, bnd_t]
      rw [if_neg n42, Mo_look_eq h.1, bnd_t, if_neg n47, Mo_look_eq h.1, bnd_t, if_neg n37]
      by_cases q : (60 : Int32) ≤ nI i
      · rw [if_pos q]; exact s2_some (Or.inl ⟨p, n, Nat.le_refl _, Nat.le_refl _, h⟩)
      · rw [if_neg q, isNext_ok h.1 h.2.2.1 (by decide), bnd_t, decide_eq_false n42, if_bf, isNext_ok h.1 h.2.2.1 (by decide), bnd_t, decide_eq_false n47, if_bf, isNext_ok h.1 h.2.2.1 (by decide), bnd_t, decide_eq_false n37, if_bf]
        exact s2_some (Or.inl ⟨p, n, Nat.le_refl _, Nat.le_refl _, h⟩)
    · obtain ⟨p', e1, e2, e3, -⟩ := id h
      rw [Rd_readProduct_L7, Mo_times_L4, e3, if10]
      by_cases q : (60 : Int32) ≤ nI i
      · rw [if_pos q]; exact s2_some (Or.inr h)
      · rw [if_neg q, isNext_no e2, bnd_t, if00, isNext_no e2, bnd_t, if00, isNext_no e2, bnd_t, if00]; exact s2_some (Or.inr h)
  | succ m ih =>
    intro p n d i f f' σ τ hm hf hf' hi h
    obtain ⟨f, rfl⟩ : ∃ z, f = z + 1 := ⟨f - 1, by omega⟩
    obtain ⟨f', rfl⟩ : ∃ z, f' = z + 1 := ⟨f' - 1, by omega⟩
    rcases h with h | h
    · have hgo : ∀ s t, (∃ p' n', p < p' ∧ n' + p ≤ n + p' ∧ PQ G op p' n' (d + 1) s t) ∨ PE G op s t → s2 (nam (nI i + 1) (fun y => Rd_readProduct_L7 rC f x1 y s)) (Mo_times_L4 rR f' t) (Pl G op p n (d + 1)) := fun s t k => by
        rw [nam_t, nI_lit1]
        rcases k with ⟨p', n', k1, k2, k3⟩ | k
        · exact s2_mono (ih p' n' d (i + 1) f f' s t (by omega) (by omega) (by omega) (by omega) (Or.inl k3)) (fun _ _ _ _ y => Pl_of (by omega) (by omega) y)
        · exact s2_mono (ih (p + 1) (n + 1) d (i + 1) f f' s t (by omega) (by omega) (by omega) (by omega) (Or.inr k)) (fun _ _ _ _ y => Pl_of (by omega) (by omega) y)
      have hL := h.1.1.1
      rw [Rd_readProduct_L7, Mo_times_L4, h.2.2.2.1, if00, Mo_look_eq h.1, bnd_t]
      by_cases n42 : cur G p = 42
      · obtain ⟨hp, -⟩ := cur_in n42 (by decide)
        obtain ⟨b1, b2⟩ := byte_at h.1 n42 (by decide)
        rw [if_neg (show ¬ (60 : Int32) ≤ nI i from nI_ge (b := 60) (by omega) (by decide)), isNext_ok h.1 h.2.2.1 (by decide), bnd_t, decide_eq_true n42, if_bt, b1, grd_t, nam_t, b2, nas_t, if_pos n42, Mo_look_eq h.1, bnd_t, n42, nas_t]
        exact sg_2 (fC := fun s => rC 5 x1 s) (fR := fun s => rR 5 0 s) (KC := fun s => nam (nI i + 1) (fun y => Rd_readProduct_L7 rC f x1 y s)) (KR := fun s => Mo_times_L4 rR f' s) hrec h n42 (by decide) (by decide) hgo
      by_cases n47 : cur G p = 47
      · obtain ⟨hp, -⟩ := cur_in n47 (by decide)
        obtain ⟨b1, b2⟩ := byte_at h.1 n47 (by decide)
        rw [if_neg (show ¬ (60 : Int32) ≤ nI i from nI_ge (b := 60) (by omega) (by decide)), isNext_ok h.1 h.2.2.1 (by decide), bnd_t, decide_eq_false n42, if_bf, isNext_ok h.1 h.2.2.1 (by decide), bnd_t, decide_eq_true n47, if_bt, b1, grd_t, nam_t, b2, nas_t, if_neg n42, Mo_look_eq h.1, bnd_t, if_pos n47, Mo_look_eq h.1, bnd_t, n47, nas_t]
        exact sg_2 (fC := fun s => rC 5 x1 s) (fR := fun s => rR 5 0 s) (KC := fun s => nam (nI i + 1) (fun y => Rd_readProduct_L7 rC f x1 y s)) (KR := fun s => Mo_times_L4 rR f' s) hrec h n47 (by decide) (by decide) hgo
      by_cases n37 : cur G p = 37
      · obtain ⟨hp, -⟩ := cur_in n37 (by decide)
        obtain ⟨b1, b2⟩ := byte_at h.1 n37 (by decide)
        rw [if_neg (show ¬ (60 : Int32) ≤ nI i from nI_ge (b := 60) (by omega) (by decide)), isNext_ok h.1 h.2.2.1 (by decide), bnd_t, decide_eq_false n42, if_bf, isNext_ok h.1 h.2.2.1 (by decide), bnd_t, decide_eq_false n47, if_bf, isNext_ok h.1 h.2.2.1 (by decide), bnd_t, decide_eq_true n37, if_bt, b1, grd_t, nam_t, b2, nas_t, if_neg n42, Mo_look_eq h.1, bnd_t, if_neg n47, Mo_look_eq h.1, bnd_t, if_pos n37, Mo_look_eq h.1, bnd_t, n37, nas_t]
        exact sg_2 (fC := fun s => rC 5 x1 s) (fR := fun s => rR 5 0 s) (KC := fun s => nam (nI i + 1) (fun y => Rd_readProduct_L7 rC f x1 y s)) (KR := fun s => Mo_times_L4 rR f' s) hrec h n37 (by decide) (by decide) hgo
      rw [if_neg n42, Mo_look_eq h.1, bnd_t, if_neg n47, Mo_look_eq h.1, bnd_t, if_neg n37]
      by_cases q : (60 : Int32) ≤ nI i
      · rw [if_pos q]; exact s2_some (Or.inl ⟨p, n, Nat.le_refl _, Nat.le_refl _, h⟩)
      · rw [if_neg q, isNext_ok h.1 h.2.2.1 (by decide), bnd_t, decide_eq_false n42, if_bf, isNext_ok h.1 h.2.2.1 (by decide), bnd_t, decide_eq_false n47, if_bf, isNext_ok h.1 h.2.2.1 (by decide), bnd_t, decide_eq_false n37, if_bf]
        exact s2_some (Or.inl ⟨p, n, Nat.le_refl _, Nat.le_refl _, h⟩)
    · obtain ⟨p', e1, e2, e3, -⟩ := id h
      rw [Rd_readProduct_L7, Mo_times_L4, e3, if10]
      by_cases q : (60 : Int32) ≤ nI i
      · rw [if_pos q]; exact s2_some (Or.inr h)
      · rw [if_neg q, isNext_no e2, bnd_t, if00, isNext_no e2, bnd_t, if00, isNext_no e2, bnd_t, if00]; exact s2_some (Or.inr h)
theorem like_2 {G : Gt} {op p n d : Nat} {x1 : Int32} {rC rR : Nat → Int32 → St → Option (Int32 × St)} {σ τ : St} (hrec : ∀ p n d σ τ, PQ G op p n d σ τ → s2 (rC 3 x1 σ) (rR 3 0 τ) (Po G op p n d)) (h : PQ G op p n d σ τ) : s2 (Rd_readLikeness rC x1 σ) (Mo_compares rR τ) (Po G op p n d) := by
  rw [Rd_readLikeness, Mo_compares]
  refine s2_bnd (hrec _ _ _ _ _ h) (fun r s q t k => ?_)
  rcases k with ⟨p', n', k1, k2, k3⟩ | k
  · have hgo : ∀ s t, (∃ p'' n'', p' < p'' ∧ n'' + p' ≤ n' + p'' ∧ PQ G op p'' n'' (d + 1) s t) ∨ PE G op s t → s2 (some (0, s)) (some (0, t)) (Po G op p n d) := fun s t y => by
      rcases y with ⟨p'', n'', y1, y2, y3⟩ | y
      · exact s2_some (Or.inl ⟨p'', n'', by omega, by omega, y3⟩)
      · exact s2_some (Or.inr y)
    rw [Mo_look_eq k3.1, bnd_t, k3.2.2.2.1, if00]
    by_cases n60 : cur G p' = 60
    · obtain ⟨b1, b2⟩ := byte_at k3.1 n60 (by decide)
      rw [isNext_ok k3.1 k3.2.2.1 (by decide), bnd_t, decide_eq_true n60, if_bt, b1, grd_t, nam_t, b2, nas_t, if_pos n60, n60, nas_t]
      exact sg_2 (fC := fun s => rC 3 x1 s) (fR := fun s => rR 3 0 s) (KC := fun s => some (0, s)) (KR := fun s => some (0, s)) hrec k3 n60 (by decide) (by decide) hgo
    by_cases n61 : cur G p' = 61
    · obtain ⟨b1, b2⟩ := byte_at k3.1 n61 (by decide)
      rw [isNext_ok k3.1 k3.2.2.1 (by decide), bnd_t, decide_eq_false n60, if_bf, isNext_ok k3.1 k3.2.2.1 (by decide), bnd_t, decide_eq_true n61, if_bt, b1, grd_t, nam_t, b2, nas_t, if_neg n60, if_pos n61, n61, nas_t]
      exact sg_2 (fC := fun s => rC 3 x1 s) (fR := fun s => rR 3 0 s) (KC := fun s => some (0, s)) (KR := fun s => some (0, s)) hrec k3 n61 (by decide) (by decide) hgo
    by_cases n62 : cur G p' = 62
    · obtain ⟨b1, b2⟩ := byte_at k3.1 n62 (by decide)
      rw [isNext_ok k3.1 k3.2.2.1 (by decide), bnd_t, decide_eq_false n60, if_bf, isNext_ok k3.1 k3.2.2.1 (by decide), bnd_t, decide_eq_false n61, if_bf, isNext_ok k3.1 k3.2.2.1 (by decide), bnd_t, decide_eq_true n62, if_bt, b1, grd_t, nam_t, b2, nas_t, if_neg n60, if_neg n61, if_pos n62, n62, nas_t]
      exact sg_2 (fC := fun s => rC 3 x1 s) (fR := fun s => rR 3 0 s) (KC := fun s => some (0, s)) (KR := fun s => some (0, s)) hrec k3 n62 (by decide) (by decide) hgo
    rw [isNext_ok k3.1 k3.2.2.1 (by decide), bnd_t, decide_eq_false n60, if_bf, isNext_ok k3.1 k3.2.2.1 (by decide), bnd_t, decide_eq_false n61, if_bf, isNext_ok k3.1 k3.2.2.1 (by decide), bnd_t, decide_eq_false n62, if_bf, if_neg n60, if_neg n61, if_neg n62]
    exact s2_some (Or.inl ⟨p', n', k1, k2, k3⟩)
  · obtain ⟨p', e1, e2, e3, -⟩ := id k
    rw [Mo_look_eq e1, bnd_t, e3, if10, isNext_no e2, bnd_t, if00, isNext_no e2, bnd_t, if00, isNext_no e2, bnd_t, if00]
    exact s2_some (Or.inr k)
