/-! ===== the two parsers, side by side ===== -/
def dp (A W : Nat → Int32) (k : Nat) : Option Nat := match k with
  | 0 => some 0
  | k + 1 => (dp A W k).bind (tdep (A k) (W k))
theorem dp_congr {A W A' W' : Nat → Int32} : ∀ k, (∀ i, i < k → A' i = A i ∧ W' i = W i) → dp A' W' k = dp A W k := by
  intro k
  induction k with
  | zero => intro _; rfl
  | succ k ih =>
    intro h
    rw [dp, dp, ih (fun i hi => h i (by omega)), (h k (by omega)).1, (h k (by omega)).2]
abbrev Gt : Type := (Nat → Int32) × Nat × Nat × St × St
def PFc (σ0 σ : St) : Prop := (∀ o k, (o = 46 → k ≠ 1 ∧ k ≠ 4 ∧ k ≠ 6) → σ.1 o k = σ0.1 o k) ∧ ∀ a, a ≠ 47 → σ.2 a = σ0.2 a
def PFm (τ0 τ : St) : Prop := (∀ o k, (o = 0 → k < 12 ∨ 15 < k) → τ.1 o k = τ0.1 o k) ∧ ∀ a, a ≠ 8 → a ≠ 9 → τ.2 a = τ0.2 a
theorem PFc.rf (σ : St) : PFc σ σ := ⟨fun _ _ _ => rfl, fun _ _ => rfl⟩
theorem PFm.rf (σ : St) : PFm σ σ := ⟨fun _ _ _ => rfl, fun _ _ _ => rfl⟩
theorem PFc.tr {σ σ' σ'' : St} (h : PFc σ σ') (h' : PFc σ' σ'') : PFc σ σ'' := ⟨fun o k p => (h'.1 o k p).trans (h.1 o k p), fun a p => (h'.2 a p).trans (h.2 a p)⟩
theorem PFm.tr {σ σ' σ'' : St} (h : PFm σ σ') (h' : PFm σ' σ'') : PFm σ σ'' := ⟨fun o k p => (h'.1 o k p).trans (h.1 o k p), fun a p q => (h'.2 a p q).trans (h.2 a p q)⟩
theorem PFc.f {σ : St} {k : Nat} {v : Int32} (h : k = 1 ∨ k = 4 ∨ k = 6) : PFc σ (sF σ 46 k v) := by
  refine ⟨fun o j p => ?_, fun _ _ => rfl⟩
  by_cases e : o = 46
  · rw [e, sF_eq, if_neg (by have := p e; omega)]
  · rw [sF_ne e]
theorem PFc.a {σ : St} {i : Nat} {v : Int32} : PFc σ (sA σ 47 i v) := ⟨fun _ _ _ => rfl, fun a p => sA_ne p⟩
theorem PFm.f {σ : St} {k : Nat} {v : Int32} (h : 12 ≤ k ∧ k ≤ 15) : PFm σ (sF σ 0 k v) := by
  refine ⟨fun o j p => ?_, fun _ _ _ => rfl⟩
  by_cases e : o = 0
  · rw [e, sF_eq, if_neg (by have := p e; omega)]
  · rw [sF_ne e]
theorem PFm.a {σ : St} {b i : Nat} {v : Int32} (h : b = 8 ∨ b = 9) : PFm σ (sA σ b i v) := ⟨fun _ _ _ => rfl, fun a p q => sA_ne (by rcases h with rfl | rfl <;> assumption)⟩
/-- what both hold while they read: the bytes, their number, the use -/
def PB (G : Gt) (σ τ : St) : Prop := G.2.1 ≤ 60 ∧ G.2.2.1 < 2 ∧ σ.1 46 3 = nI G.2.1 ∧ τ.2 1 8 = nI G.2.1 ∧ σ.1 46 5 = nI G.2.2.1 ∧ τ.1 0 16 = nI G.2.2.1 ∧ ∀ i, i < 60 → σ.2 48 i = G.1 i ∧ τ.2 1 (40 + i) = G.1 i
def PG (G : Gt) (op p : Nat) (σ τ : St) : Prop := PB G σ τ ∧ (PFc G.2.2.2.1 σ ∧ PFm G.2.2.2.2 τ) ∧ p ≤ G.2.1 ∧ σ.1 46 4 = nI p ∧ τ.1 0 13 = nI p ∧ τ.1 0 14 = nI op
def PY (n d : Nat) (σ τ : St) : Prop := σ.1 46 6 = 0 ∧ τ.1 0 15 = 0 ∧ σ.1 46 1 = nI n ∧ τ.1 0 12 = nI n ∧ (∀ i, i < n → crel (σ.2 47 i) (τ.2 8 i) (τ.2 9 i)) ∧ dp (τ.2 8) (τ.2 9) n = some d
def PN (σ τ : St) : Prop := σ.1 46 6 = 1 ∧ τ.1 0 15 = 1 ∧ (∃ a, a ≤ 60 ∧ σ.1 46 1 = nI a) ∧ ∃ b, b ≤ 60 ∧ τ.1 0 12 = nI b
def PQ (G : Gt) (op p n d : Nat) (σ τ : St) : Prop := PG G op p σ τ ∧ n ≤ p ∧ PY n d σ τ
def PE (G : Gt) (op : Nat) (σ τ : St) : Prop := ∃ p, PG G op p σ τ ∧ PN σ τ
def Po (G : Gt) (op p n d : Nat) : Int32 → St → Int32 → St → Prop := fun _ σ _ τ => (∃ p' n', p < p' ∧ n' + p ≤ n + p' ∧ PQ G op p' n' (d + 1) σ τ) ∨ PE G op σ τ
def Pl (G : Gt) (op p n d : Nat) : Int32 → St → Int32 → St → Prop := fun _ σ _ τ => (∃ p' n', p ≤ p' ∧ n' + p ≤ n + p' ∧ PQ G op p' n' d σ τ) ∨ PE G op σ τ
theorem PG_to {G : Gt} {op op' p p' : Nat} {σ τ σ' τ' : St} (h : PG G op p σ τ) (c : PFc σ σ') (m : PFm τ τ') (hp : p' ≤ G.2.1) (h1 : σ'.1 46 4 = nI p') (h2 : τ'.1 0 13 = nI p') (h3 : τ'.1 0 14 = nI op') : PG G op' p' σ' τ' := by
  obtain ⟨⟨a1, a2, a3, a4, a5, a6, a7⟩, ⟨b1, b2⟩, -, -, -, -⟩ := h
  refine ⟨⟨a1, a2, ?_, ?_, ?_, ?_, fun i hi => ⟨?_, ?_⟩⟩, ⟨b1.tr c, b2.tr m⟩, hp, h1, h2, h3⟩
  · rw [c.1 46 3 (by omega)]; exact a3
  · rw [m.2 1 (by decide) (by decide)]; exact a4
  · rw [c.1 46 5 (by omega)]; exact a5
  · rw [m.1 0 16 (by omega)]; exact a6
  · rw [c.2 48 (by decide)]; exact (a7 i hi).1
  · rw [m.2 1 (by decide) (by decide)]; exact (a7 i hi).2
def cur (G : Gt) (p : Nat) : Int32 := if p < G.2.1 then G.1 p else -1
theorem cur_in {G : Gt} {p : Nat} {c : Int32} (h : cur G p = c) (hc : ¬ c = -1) : p < G.2.1 ∧ G.1 p = c := by
  unfold cur at h
  split at h
  · rename_i q; exact ⟨q, h⟩
  · exact absurd h.symm hc
theorem Mo_look_eq {G : Gt} {op p : Nat} {σ τ : St} (h : PG G op p σ τ) : Mo_look τ = some (cur G p, τ) := by
  obtain ⟨⟨a1, a2, a3, a4, a5, a6, a7⟩, -, b1, b2, b3, b4⟩ := h
  rw [Mo_look, g8, grd_t, z8, a4, b3, cur]
  by_cases q : p < G.2.1
  · rw [if_neg (nI_ge q (by omega)), if_pos q, show (40 : Int32) + nI p = nI (40 + p) from nI_add 40 p, inb_nI (show 40 + p < 366 by omega) (by decide), grd_t, nI_clamp (by omega), (a7 p (by omega)).2]
  · rw [if_pos (nI_le (by omega) (by omega)), if_neg q]
theorem isNext_ok {G : Gt} {op p : Nat} {c : Int32} {σ τ : St} (h : PG G op p σ τ) (hf : σ.1 46 6 = 0) (hc : ¬ c = -1) : Rd_isNext c σ = some (b01 (decide (cur G p = c)), σ) := by
  obtain ⟨⟨a1, a2, a3, a4, a5, a6, a7⟩, -, b1, b2, b3, b4⟩ := h
  rw [Rd_isNext, hf, if00, a3, b2, cur]
  by_cases q : p < G.2.1
  · rw [if_neg (nI_ge q (by omega)), if_pos q, inb_nI (show p < 60 by omega) (by decide), grd_t, nI_clamp (by omega), (a7 p (by omega)).1]
    by_cases e : G.1 p = c
    · rw [if_pos e, decide_eq_true e]; rfl
    · rw [if_neg e, decide_eq_false e]; rfl
  · rw [if_pos (nI_le (by omega) (by omega)), if_neg q, decide_eq_false (fun x => hc x.symm)]; rfl
theorem isNext_no {c : Int32} {σ : St} (hf : σ.1 46 6 = 1) : Rd_isNext c σ = some (0, σ) := by
  rw [Rd_isNext, hf, if10]
theorem byte_at {G : Gt} {op p : Nat} {c : Int32} {σ τ : St} (h : PG G op p σ τ) (hc : cur G p = c) (hn : ¬ c = -1) : inb (σ.1 46 4) 60 = true ∧ σ.2 48 (σ.1 46 4).toNatClampNeg = c := by
  obtain ⟨⟨a1, a2, a3, a4, a5, a6, a7⟩, -, b1, b2, b3, b4⟩ := h
  obtain ⟨q1, q2⟩ := cur_in hc hn
  rw [b2, nI_clamp (by omega)]
  exact ⟨inb_nI (by omega) (by decide), by rw [(a7 p (by omega)).1]; exact q2⟩
/-- one byte on -/
theorem PQ_adv {G : Gt} {op p n d : Nat} {σ τ : St} (h : PQ G op p n d σ τ) (hp : p < G.2.1) : PQ G op (p + 1) n d (sF σ 46 4 (σ.1 46 4 + 1)) (sF τ 0 13 (τ.1 0 13 + 1)) := by
  obtain ⟨h1, h2, y1, y2, y3, y4, y5, y6⟩ := h
  refine ⟨PG_to h1 (PFc.f (by decide)) (PFm.f (by decide)) hp ?_ ?_ ?_, by omega, ?_, ?_, ?_, ?_, y5, y6⟩
  · rw [sF_eq, if_pos rfl, h1.2.2.2.1, nI_lit1]
  · rw [sF_eq, if_pos rfl, h1.2.2.2.2.1, nI_lit1]
  · rw [sF_eq, if_neg (by decide)]; exact h1.2.2.2.2.2
  · rw [sF_eq, if_neg (by decide)]; exact y1
  · rw [sF_eq, if_neg (by decide)]; exact y2
  · rw [sF_eq, if_neg (by decide)]; exact y3
  · rw [sF_eq, if_neg (by decide)]; exact y4
theorem Rd_write_eq {n : Nat} {y : Int32} {σ : St} (h : σ.1 46 1 = nI n) (hn : n < 60) : Rd_write y σ = some (0, sF (sA σ 47 n y) 46 1 (nI (n + 1))) := by
  rw [Rd_write, h, if_neg (show ¬ (60 : Int32) ≤ nI n from nI_ge (b := 60) hn (by decide)), inb_nI hn (by decide), grd_t, nas_t, nas_t, sA1, h, nI_lit1, nI_clamp (by omega)]
theorem Mo_lays_eq {n : Nat} {c v : Int32} {τ : St} (h : τ.1 0 12 = nI n) (hn : n < 60) : Mo_lays c v τ = some (0, sF (sA (sA τ 8 n c) 9 n v) 0 12 (nI (n + 1))) := by
  rw [Mo_lays, h, if_neg (show ¬ (60 : Int32) ≤ nI n from nI_ge (b := 60) hn (by decide)), inb_nI hn (by decide), grd_t, nas_t, sA1, h, inb_nI hn (by decide), grd_t, nas_t, nas_t, sA1, sA1, h, nI_lit1, nI_clamp (by omega)]
/-- a code is written on both sides -/
theorem wr_2 {G : Gt} {op p n d d' : Nat} {y c v : Int32} {σ τ : St} (h : PQ G op p n d σ τ) (hn : n + 1 ≤ p) (hc : crel y c v) (hd : tdep c v d = some d') : s2 (Rd_write y σ) (Mo_lays c v τ) (fun _ σ' _ τ' => PQ G op p (n + 1) d' σ' τ') := by
  obtain ⟨h1, h2, y1, y2, y3, y4, y5, y6⟩ := h
  have hL := h1.1.1
  have hp := h1.2.2.1
  rw [Rd_write_eq y3 (by omega), Mo_lays_eq y4 (by omega)]
  refine s2_some ⟨PG_to h1 (PFc.a.tr (PFc.f (by decide))) (((PFm.a (by decide)).tr (PFm.a (by decide))).tr (PFm.f (by decide))) hp ?_ ?_ ?_, hn, ?_, ?_, ?_, ?_, ?_, ?_⟩
  · rw [sF_eq, if_neg (by decide)]; exact h1.2.2.2.1
  · rw [sF_eq, if_neg (by decide)]; exact h1.2.2.2.2.1
  · rw [sF_eq, if_neg (by decide)]; exact h1.2.2.2.2.2
  · rw [sF_eq, if_neg (by decide)]; exact y1
  · rw [sF_eq, if_neg (by decide)]; exact y2
  · rw [sF_eq, if_pos rfl]
  · rw [sF_eq, if_pos rfl]
  · intro i hi
    rw [sF2, sF2, sA_eq, sA_ne (show 8 ≠ 9 by decide), sA_eq, sA_eq, sA_ne (show 9 ≠ 8 by decide)]
    by_cases e : i = n
    · rw [e, upd_s, upd_s, upd_s]; exact hc
    · rw [upd_n e, upd_n e, upd_n e]; exact y5 i (by omega)
  · rw [sF2, sA_ne (show 8 ≠ 9 by decide), sA_eq, sA_eq, sA_ne (show 9 ≠ 8 by decide), dp, dp_congr (A := τ.2 8) (W := τ.2 9) n (fun i hi => ⟨upd_n (by omega), upd_n (by omega)⟩), y6, upd_s, upd_s]
    exact hd
theorem PE_write {G : Gt} {op : Nat} {y c v : Int32} {σ τ : St} (h : PE G op σ τ) : s2 (Rd_write y σ) (Mo_lays c v τ) (fun _ σ' _ τ' => PE G op σ' τ') := by
  obtain ⟨p, h1, n1, n2, ⟨a, ha, hae⟩, ⟨b, hb, hbe⟩⟩ := h
  have hp := h1.2.2.1
  have w1 : ∃ σ' r, Rd_write y σ = some (r, σ') ∧ PFc σ σ' ∧ σ'.1 46 4 = σ.1 46 4 ∧ σ'.1 46 6 = σ.1 46 6 ∧ ∃ a, a ≤ 60 ∧ σ'.1 46 1 = nI a := by
    by_cases e : a = 60
    · refine ⟨σ, 0, ?_, PFc.rf σ, rfl, rfl, a, ha, hae⟩
      rw [Rd_write, hae, e, if_pos (show (60 : Int32) ≤ nI 60 from Int32.le_refl _)]
    · refine ⟨_, 0, Rd_write_eq hae (by omega), PFc.a.tr (PFc.f (by decide)), ?_, ?_, a + 1, by omega, ?_⟩
      · rw [sF_eq, if_neg (by decide)]; rfl
      · rw [sF_eq, if_neg (by decide)]; rfl
      · rw [sF_eq, if_pos rfl]
  have w2 : ∃ τ' r, Mo_lays c v τ = some (r, τ') ∧ PFm τ τ' ∧ τ'.1 0 13 = τ.1 0 13 ∧ τ'.1 0 14 = τ.1 0 14 ∧ τ'.1 0 15 = τ.1 0 15 ∧ ∃ b, b ≤ 60 ∧ τ'.1 0 12 = nI b := by
    by_cases e : b = 60
    · refine ⟨τ, 0, ?_, PFm.rf τ, rfl, rfl, rfl, b, hb, hbe⟩
      rw [Mo_lays, hbe, e, if_pos (show (60 : Int32) ≤ nI 60 from Int32.le_refl _)]
    · refine ⟨_, 0, Mo_lays_eq hbe (by omega), ((PFm.a (by decide)).tr (PFm.a (by decide))).tr (PFm.f (by decide)), ?_, ?_, ?_, b + 1, by omega, ?_⟩
      · rw [sF_eq, if_neg (by decide)]; rfl
      · rw [sF_eq, if_neg (by decide)]; rfl
      · rw [sF_eq, if_neg (by decide)]; rfl
      · rw [sF_eq, if_pos rfl]
  obtain ⟨σ', r, q1, q2, q3, q4, q5⟩ := w1
  obtain ⟨τ', u, k1, k2, k3, k4, k5, k6⟩ := w2
  refine ⟨r, σ', u, τ', q1, k1, p, PG_to h1 q2 k2 hp ?_ ?_ ?_, ?_, ?_, q5, k6⟩
  · rw [q3]; exact h1.2.2.2.1
  · rw [k3]; exact h1.2.2.2.2.1
  · rw [k4]; exact h1.2.2.2.2.2
  · rw [q4]; exact n1
  · rw [k5]; exact n2
theorem signs_tdep {c : Int32} {d : Nat} (hc : c ∈ signs) (hd : 2 ≤ d) : tdep c 0 d = some (d - 1) := by
  obtain ⟨n1, n2, n3⟩ := not_signs hc
  rw [tdep, if_neg n1, if_neg n2, if_neg n3, if_pos hc, if_pos hd]
/-- a sign between two: the next operand, the sign's code -/
theorem sg_2 {G : Gt} {op p n d : Nat} {c : Int32} {fC fR : St → Option (Int32 × St)} {KC KR : St → Option (Int32 × St)} {Q : Int32 → St → Int32 → St → Prop} {σ τ : St} (hrec : ∀ p n d σ τ, PQ G op p n d σ τ → s2 (fC σ) (fR τ) (Po G op p n d)) (h : PQ G op p n (d + 1) σ τ) (hc : cur G p = c) (hn : ¬ c = -1) (hs : c ∈ signs) (hK : ∀ σ' τ', (∃ p' n', p < p' ∧ n' + p ≤ n + p' ∧ PQ G op p' n' (d + 1) σ' τ') ∨ PE G op σ' τ' → s2 (KC σ') (KR τ') Q) : s2 (bnd (fC (sF σ 46 4 (σ.1 46 4 + 1))) (fun _ s => bnd (Rd_write (-c) s) (fun _ s => KC s))) (bnd (fR (sF τ 0 13 (τ.1 0 13 + 1))) (fun _ s => bnd (Mo_lays c 0 s) (fun _ s => KR s))) Q := by
  obtain ⟨hp, -⟩ := cur_in hc hn
  refine s2_bnd (hrec _ _ _ _ _ (PQ_adv h hp)) (fun r s q t k => ?_)
  have hnp := h.2.1
  rcases k with ⟨p', n', k1, k2, k3⟩ | k
  · refine s2_bnd (wr_2 (d' := d + 1) k3 (by omega) (Or.inr (Or.inr (Or.inr ⟨hs, rfl⟩))) (signs_tdep hs (by omega))) (fun r s q t k4 => ?_)
    exact hK s t (Or.inl ⟨p', n' + 1, by omega, by omega, k4⟩)
  · refine s2_bnd (PE_write k) (fun r s q t k4 => ?_)
    exact hK s t (Or.inr k4)
theorem Pl_of {G : Gt} {op p p1 n n1 d : Nat} (h1 : p ≤ p1) (h2 : n1 + p ≤ n + p1) {r q : Int32} {σ τ : St} (h : Pl G op p1 n1 d r σ q τ) : Pl G op p n d r σ q τ := by
  rcases h with ⟨p', n', k1, k2, k3⟩ | k
  · exact Or.inl ⟨p', n', by omega, by omega, k3⟩
  · exact Or.inr k
theorem Po_of {G : Gt} {op p p1 n n1 d : Nat} (h1 : p < p1) (h2 : n1 + p ≤ n + p1) {r q : Int32} {σ τ : St} (h : Pl G op p1 n1 (d + 1) r σ q τ) : Po G op p n d r σ q τ := by
  rcases h with ⟨p', n', k1, k2, k3⟩ | k
  · exact Or.inl ⟨p', n', by omega, by omega, k3⟩
  · exact Or.inr k
theorem tape_60 {G : Gt} {op p : Nat} {σ τ : St} (h : PG G op p σ τ) (hp : ¬ p < 60) (c : Int32) (hc : ¬ c = -1) : ¬ cur G p = c := by
  intro q
  obtain ⟨q1, -⟩ := cur_in q hc
  have := h.1.1
  omega
theorem or_loop {G : Gt} {op : Nat} {x1 : Int32} {rC rR : Nat → Int32 → St → Option (Int32 × St)} (hrec : ∀ p n d σ τ, PQ G op p n d σ τ → s2 (rC 1 x1 σ) (rR 1 0 τ) (Po G op p n d)) : ∀ (m p n d i f f' : Nat) (σ τ : St), 60 - p ≤ m → m < f → m < f' → i ≤ p → (PQ G op p n (d + 1) σ τ ∨ PE G op σ τ) → s2 (Rd_readOr_L7 rC f x1 (nI i) σ) (Mo_any_L4 rR f' τ) (Pl G op p n (d + 1)) := by
  intro m
  induction m with
  | zero =>
    intro p n d i f f' σ τ hm hf hf' hi h
    obtain ⟨f, rfl⟩ : ∃ z, f = z + 1 := ⟨f - 1, by omega⟩
    obtain ⟨f', rfl⟩ : ∃ z, f' = z + 1 := ⟨f' - 1, by omega⟩
    rcases h with h | h
    · have hp := h.1.2.2.1
      have ht := h.1.1.1
      have hcur := tape_60 h.1 (by omega) 124 (by decide)
      rw [Rd_readOr_L7, Mo_any_L4, h.2.2.2.1, if00, Mo_look_eq h.1, bnd_t, if_neg hcur]
      by_cases q : (60 : Int32) ≤ nI i
      · rw [if_pos q]; exact s2_some (Or.inl ⟨p, n, Nat.le_refl _, Nat.le_refl _, h⟩)
      · rw [if_neg q, isNext_ok h.1 h.2.2.1 (by decide), bnd_t, decide_eq_false hcur, if_bf]
        exact s2_some (Or.inl ⟨p, n, Nat.le_refl _, Nat.le_refl _, h⟩)
    · obtain ⟨p', e1, e2, e3, -⟩ := id h
      rw [Rd_readOr_L7, Mo_any_L4, e3, if10]
      by_cases q : (60 : Int32) ≤ nI i
      · rw [if_pos q]; exact s2_some (Or.inr h)
      · rw [if_neg q, isNext_no e2, bnd_t, if00]; exact s2_some (Or.inr h)
  | succ m ih =>
    intro p n d i f f' σ τ hm hf hf' hi h
    obtain ⟨f, rfl⟩ : ∃ z, f = z + 1 := ⟨f - 1, by omega⟩
    obtain ⟨f', rfl⟩ : ∃ z, f' = z + 1 := ⟨f' - 1, by omega⟩
    rcases h with h | h
    · rw [Rd_readOr_L7, Mo_any_L4, h.2.2.2.1, if00, Mo_look_eq h.1, bnd_t]
      by_cases hc : cur G p = 124
      · obtain ⟨hp, -⟩ := cur_in hc (by decide)
        have hL := h.1.1.1
        rw [if_neg (show ¬ (60 : Int32) ≤ nI i from nI_ge (b := 60) (by omega) (by decide)), isNext_ok h.1 h.2.2.1 (by decide), bnd_t, decide_eq_true hc, if_bt, if_pos hc, nas_t, nas_t]
        refine sg_2 (fC := fun s => rC 1 x1 s) (fR := fun s => rR 1 0 s) (KC := fun s => nam (nI i + 1) (fun y => Rd_readOr_L7 rC f x1 y s)) (KR := fun s => Mo_any_L4 rR f' s) hrec h hc (by decide) (by decide) (fun s t k => ?_)
        rw [nam_t, nI_lit1]
        rcases k with ⟨p', n', k1, k2, k3⟩ | k
        · exact s2_mono (ih p' n' d (i + 1) f f' s t (by omega) (by omega) (by omega) (by omega) (Or.inl k3)) (fun _ _ _ _ y => Pl_of (by omega) (by omega) y)
        · exact s2_mono (ih (p + 1) (n + 1) d (i + 1) f f' s t (by omega) (by omega) (by omega) (by omega) (Or.inr k)) (fun _ _ _ _ y => Pl_of (by omega) (by omega) y)
      · rw [if_neg hc]
        by_cases q : (60 : Int32) ≤ nI i
        · rw [if_pos q]; exact s2_some (Or.inl ⟨p, n, Nat.le_refl _, Nat.le_refl _, h⟩)
        · rw [if_neg q, isNext_ok h.1 h.2.2.1 (by decide), bnd_t, decide_eq_false hc, if_bf]
          exact s2_some (Or.inl ⟨p, n, Nat.le_refl _, Nat.le_refl _, h⟩)
    · obtain ⟨p', e1, e2, e3, -⟩ := id h
      rw [Rd_readOr_L7, Mo_any_L4, e3, if10]
      by_cases q : (60 : Int32) ≤ nI i
      · rw [if_pos q]; exact s2_some (Or.inr h)
      · rw [if_neg q, isNext_no e2, bnd_t, if00]; exact s2_some (Or.inr h)
