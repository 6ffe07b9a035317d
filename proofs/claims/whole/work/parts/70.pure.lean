/-! ===== the pure side: no machine from here on ===== -/
def okk (x : Option (Int32 × St)) (P : Int32 → St → Prop) : Prop := ∃ r s, x = some (r, s) ∧ P r s
theorem ok_some {r : Int32} {s : St} {P : Int32 → St → Prop} (h : P r s) : okk (some (r, s)) P := ⟨r, s, rfl, h⟩
theorem ok_grd {b : Bool} {X : Option (Int32 × St)} {P : Int32 → St → Prop} (hb : b = true) (h : okk X P) : okk (grd b X) P := by subst hb; exact h
theorem ok_bnd {x : Option (Int32 × St)} {K : Int32 → St → Option (Int32 × St)} {Q P : Int32 → St → Prop} (h : okk x Q) (k : ∀ r s, Q r s → okk (K r s) P) : okk (bnd x K) P := by
  obtain ⟨r, s, rfl, hq⟩ := h
  exact k r s hq
theorem ok_nam {x : Int32} {K : Int32 → Option (Int32 × St)} {P : Int32 → St → Prop} (h : okk (K x) P) : okk (nam x K) P := h
theorem ok_nas {x : St} {K : St → Option (Int32 × St)} {P : Int32 → St → Prop} (h : okk (K x) P) : okk (nas x K) P := h
theorem ok_wid {x : Nat} {K : Nat → Option (Int32 × St)} {P : Int32 → St → Prop} (h : okk (K x) P) : okk (wid x K) P := h
theorem ok_if {c : Prop} [Decidable c] {X Y : Option (Int32 × St)} {P : Int32 → St → Prop} (h1 : c → okk X P) (h2 : ¬ c → okk Y P) : okk (if c then X else Y) P := by
  by_cases h : c
  · rw [if_pos h]; exact h1 h
  · rw [if_neg h]; exact h2 h
theorem ok_mono {x : Option (Int32 × St)} {P Q : Int32 → St → Prop} (h : okk x P) (k : ∀ r s, P r s → Q r s) : okk x Q := by
  obtain ⟨r, s, h1, h2⟩ := h
  exact ⟨r, s, h1, k r s h2⟩
theorem ok_eq {x : Option (Int32 × St)} {r : Int32} {s : St} {P : Int32 → St → Prop} (h : x = some (r, s)) (p : P r s) : okk x P := ⟨r, s, h, p⟩
theorem grd_t {X : Option (Int32 × St)} : grd true X = X := rfl
theorem bnd_t {r : Int32} {s : St} {K : Int32 → St → Option (Int32 × St)} : bnd (some (r, s)) K = K r s := rfl
theorem inb_nI {j n : Nat} (h : j < n) (hn : n < 2 ^ 31) : inb (nI j) n = true := decide_eq_true (by rw [nI_toInt (by omega)]; omega)
theorem nI_lit1 (k : Nat) : nI k + 1 = nI (k + 1) := nI_add k 1
theorem sA1 {σ : St} {a i : Nat} {v : Int32} : (sA σ a i v).1 = σ.1 := rfl
theorem sF2 {σ : St} {o k : Nat} {v : Int32} : (sF σ o k v).2 = σ.2 := rfl
theorem sA_ne {σ : St} {a b i : Nat} {v : Int32} (h : b ≠ a) : (sA σ a i v).2 b = σ.2 b := by funext j; simp [sA, h]
theorem sA_eq {σ : St} {a i : Nat} {v : Int32} : (sA σ a i v).2 a = upd (σ.2 a) i v := by funext j; simp [sA, upd]
theorem sF_ne {σ : St} {o p k : Nat} {v : Int32} (h : p ≠ o) : (sF σ o k v).1 p = σ.1 p := by funext j; simp [sF, h]
theorem sF_eq {σ : St} {o k j : Nat} {v : Int32} : (sF σ o k v).1 o j = if j = k then v else σ.1 o j := by simp [sF]
theorem upd_s {f : Nat → Int32} {k : Nat} {v : Int32} : upd f k v k = v := by simp [upd]
theorem upd_n {f : Nat → Int32} {k j : Nat} {v : Int32} (h : j ≠ k) : upd f k v j = f j := by simp [upd, h]
theorem le_i {a b : Int32} : a ≤ b ↔ a.toInt ≤ b.toInt := Int32.le_iff_toInt_le
theorem lt_i {a b : Int32} : a < b ↔ a.toInt < b.toInt := Int32.lt_iff_toInt_lt
/-! texts: a row of codes works on a pile -/
def two (sign a b : Int32) : Int32 :=
  if sign = 37 then (if b = 0 then 0 else irm a b) else if sign = 38 then (if a = 0 then 0 else if b = 0 then 0 else 1) else if sign = 42 then a * b else if sign = 43 then a + b else if sign = 45 then a - b else if sign = 47 then (if b = 0 then 0 else a / b) else if sign = 60 then (if b ≤ a then 0 else 1) else if sign = 61 then (if a = b then 1 else 0) else if sign = 62 then (if a ≤ b then 0 else 1) else if a = 0 then (if b = 0 then 0 else 1) else 1
def signs : List Int32 := [37, 38, 42, 43, 45, 47, 60, 61, 62, 124]
theorem nz_of {b : Int32} (h : ¬ b = 0) : nz b = true := decide_eq_true h
set_option maxHeartbeats 2000000 in
theorem Mo_twoOf_eq {sign a b : Int32} (h : sign ∈ signs) (τ : St) : Mo_twoOf sign a b τ = some (two sign a b, τ) := by
  simp only [signs, List.mem_cons, List.not_mem_nil, or_false] at h
  rcases h with rfl | rfl | rfl | rfl | rfl | rfl | rfl | rfl | rfl | rfl
  all_goals
    unfold Mo_twoOf two
    simp (decide := true) only [if_true, if_false]
    try split <;> try split <;> try split
    all_goals first | rfl | simp_all [nz_of, grd_t] | skip
set_option maxHeartbeats 2000000 in
theorem Tx_join_eq {sign a b : Int32} (h : sign ∈ signs) (σ : St) : Tx_join sign a b σ = some (two sign a b, σ) := by
  simp only [signs, List.mem_cons, List.not_mem_nil, or_false] at h
  rcases h with rfl | rfl | rfl | rfl | rfl | rfl | rfl | rfl | rfl | rfl
  all_goals
    unfold Tx_join two
    simp (decide := true) only [if_true, if_false]
    try split <;> try split <;> try split
    all_goals first | rfl | simp_all [nz_of, grd_t] | skip
def hold (a : Nat → Int32) (st : List Int32) : Prop := match st with
  | [] => True
  | x :: r => a r.length = x ∧ hold a r
theorem hold_upd {a : Nat → Int32} {st : List Int32} {i : Nat} {v : Int32} (h : hold a st) (hi : st.length ≤ i) : hold (upd a i v) st := by
  induction st with
  | nil => trivial
  | cons x r ih =>
    simp only [List.length_cons] at hi
    exact ⟨by rw [upd_n (by omega)]; exact h.1, ih h.2 (by omega)⟩
theorem hold_push {a : Nat → Int32} {st : List Int32} {v : Int32} (h : hold a st) : hold (upd a st.length v) (v :: st) := ⟨upd_s, hold_upd h (Nat.le_refl _)⟩
def tstep (f : Nat → Int32) (c v : Int32) (st : List Int32) : List Int32 :=
  if c = 1 then v :: st else if c = 2 then f v.toNatClampNeg :: st else if c = 3 then (match st with
    | x :: r => (if x = 0 then 1 else 0) :: r
    | [] => []) else (match st with
    | y :: x :: r => two c x y :: r
    | r => r)
def tdep (c v : Int32) (n : Nat) : Option Nat :=
  if c = 1 then (if 0 ≤ v then some (n + 1) else none) else if c = 2 then (if v = 0 ∨ v = 1 ∨ v = 2 then some (n + 1) else none) else if c = 3 then (if 1 ≤ n then some n else none) else if c ∈ signs then (if 2 ≤ n then some (n - 1) else none) else none
def stk (R : Nat → Int32) (t : Nat) (f : Nat → Int32) (k : Nat) : List Int32 := match k with
  | 0 => []
  | k + 1 => tstep f (R (t + 1 + k)) (R (t + 61 + k)) (stk R t f k)
def dpt (R : Nat → Int32) (t : Nat) (k : Nat) : Option Nat := match k with
  | 0 => some 0
  | k + 1 => (dpt R t k).bind (tdep (R (t + 1 + k)) (R (t + 61 + k)))
theorem stk_len {R : Nat → Int32} {t : Nat} {f : Nat → Int32} : ∀ {k d : Nat}, dpt R t k = some d → (stk R t f k).length = d ∧ d ≤ k := by
  intro k
  induction k with
  | zero => intro d h; cases h; exact ⟨rfl, Nat.le_refl _⟩
  | succ k ih =>
    intro d h
    unfold dpt at h
    obtain ⟨d0, h0, h1⟩ := Option.bind_eq_some_iff.mp h
    obtain ⟨e1, e2⟩ := ih h0
    unfold stk tstep
    unfold tdep at h1
    split at h1
    · rename_i q
      split at h1
      · cases h1
        rw [if_pos q]
        exact ⟨by simp [e1], by omega⟩
      · cases h1
    · rename_i q1
      rw [if_neg q1]
      split at h1
      · rename_i q
        split at h1
        · cases h1
          rw [if_pos q]
          exact ⟨by simp [e1], by omega⟩
        · cases h1
      · rename_i q2
        rw [if_neg q2]
        split at h1
        · rename_i q
          rw [if_pos q]
          split at h1
          · cases h1
            rename_i hd
            cases hs : stk R t f k with
            | nil => rw [hs] at e1; simp at e1; omega
            | cons x r => rw [hs] at e1; exact ⟨by simpa using e1, by omega⟩
          · cases h1
        · rename_i q3
          rw [if_neg q3]
          split at h1
          · split at h1
            · cases h1
              rename_i hd
              cases hs : stk R t f k with
              | nil => rw [hs] at e1; simp at e1; omega
              | cons x r =>
                cases r with
                | nil => rw [hs] at e1; simp at e1; omega
                | cons y r => rw [hs] at e1; simp at e1; exact ⟨by simp; omega, by omega⟩
            · cases h1
          · cases h1
theorem dpt_pre {R : Nat → Int32} {t n d : Nat} (h : dpt R t n = some d) : ∀ k, k ≤ n → ∃ d', dpt R t k = some d' := by
  induction n generalizing d with
  | zero => intro k hk; rw [Nat.le_zero.mp hk]; exact ⟨d, h⟩
  | succ n ih =>
    intro k hk
    rcases Nat.lt_or_ge k (n + 1) with q | q
    · unfold dpt at h
      obtain ⟨d0, h0, -⟩ := Option.bind_eq_some_iff.mp h
      exact ih h0 k (by omega)
    · rw [show k = n + 1 by omega]; exact ⟨d, h⟩
