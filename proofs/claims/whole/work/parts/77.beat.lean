/-! ===== a beat ===== -/
theorem Mo_of0 {j : Nat} (hj : j < 6) (τ : St) : Mo_of (nI j) 0 τ = some (τ.2 1 (10 + 5 * j), τ) := Mo_of_eq hj (w := 0) (by decide) τ
theorem Mo_of1 {j : Nat} (hj : j < 6) (τ : St) : Mo_of (nI j) 1 τ = some (τ.2 1 (11 + 5 * j), τ) := (Mo_of_eq hj (w := 1) (by decide) τ).trans (by rw [show 10 + 5 * j + 1 = 11 + 5 * j by omega])
theorem Mo_of2 {j : Nat} (hj : j < 6) (τ : St) : Mo_of (nI j) 2 τ = some (τ.2 1 (12 + 5 * j), τ) := (Mo_of_eq hj (w := 2) (by decide) τ).trans (by rw [show 10 + 5 * j + 2 = 12 + 5 * j by omega])
theorem Mo_of3 {j : Nat} (hj : j < 6) (τ : St) : Mo_of (nI j) 3 τ = some (τ.2 1 (13 + 5 * j), τ) := (Mo_of_eq hj (w := 3) (by decide) τ).trans (by rw [show 10 + 5 * j + 3 = 13 + 5 * j by omega])
theorem Mo_of4 {j : Nat} (hj : j < 6) (τ : St) : Mo_of (nI j) 4 τ = some (τ.2 1 (14 + 5 * j), τ) := (Mo_of_eq hj (w := 4) (by decide) τ).trans (by rw [show 10 + 5 * j + 4 = 14 + 5 * j by omega])
theorem Mo_lets0 {j : Nat} {v : Int32} (hj : j < 6) (τ : St) : Mo_lets (nI j) 0 v τ = some (0, sA τ 1 (10 + 5 * j) v) := Mo_lets_eq hj (w := 0) (by decide) τ
theorem Mo_lets1 {j : Nat} {v : Int32} (hj : j < 6) (τ : St) : Mo_lets (nI j) 1 v τ = some (0, sA τ 1 (11 + 5 * j) v) := (Mo_lets_eq hj (w := 1) (by decide) τ).trans (by rw [show 10 + 5 * j + 1 = 11 + 5 * j by omega])
theorem Mo_lets2 {j : Nat} {v : Int32} (hj : j < 6) (τ : St) : Mo_lets (nI j) 2 v τ = some (0, sA τ 1 (12 + 5 * j) v) := (Mo_lets_eq hj (w := 2) (by decide) τ).trans (by rw [show 10 + 5 * j + 2 = 12 + 5 * j by omega])
theorem Mo_lets3 {j : Nat} {v : Int32} (hj : j < 6) (τ : St) : Mo_lets (nI j) 3 v τ = some (0, sA τ 1 (13 + 5 * j) v) := (Mo_lets_eq hj (w := 3) (by decide) τ).trans (by rw [show 10 + 5 * j + 3 = 13 + 5 * j by omega])
theorem Mo_lets4 {j : Nat} {v : Int32} (hj : j < 6) (τ : St) : Mo_lets (nI j) 4 v τ = some (0, sA τ 1 (14 + 5 * j) v) := (Mo_lets_eq hj (w := 4) (by decide) τ).trans (by rw [show 10 + 5 * j + 4 = 14 + 5 * j by omega])
theorem upd_id {f : Nat → Int32} {k : Nat} {v : Int32} (h : f k = v) : upd f k v = f := by
  funext j
  by_cases e : j = k
  · rw [e, upd_s, h]
  · rw [upd_n e]
theorem RA_put {σ : St} {o : Nat} {R : Nat → Int32} (hA : RA σ o R) (w : Nat) {j a i : Nat} (v : Int32) (hw : w < 5) (hj : j < 6) (ha : a = o + 1 + w) (hi : i = 10 + 5 * j + w) : RA (sA σ a j v) o (upd R i v) := by
  subst ha hi
  obtain ⟨⟨h1, h2, h3, h4, h5, h6, h7, h8⟩, h9⟩ := hA
  refine ⟨⟨?_, ?_, ?_, ?_, ?_, ?_, ?_, ?_⟩, ?_⟩
  · rw [upd_n (by omega)]; exact h1
  · rw [upd_n (by omega)]; exact h2
  · rw [upd_n (by omega)]; exact h3
  · rw [upd_n (by omega)]; exact h4
  · rw [upd_n (by omega)]; exact h5
  · rw [upd_n (by omega), sA_ne (by omega)]; exact h6
  · rw [upd_n (by omega), sA_ne (by omega)]; exact h7
  · rw [upd_n (by omega)]; exact h8
  · intro w' j' hw' hj'
    by_cases e : w' = w
    · subst e
      rw [sA_eq]
      by_cases e2 : j' = j
      · subst e2; rw [upd_s, upd_s]
      · rw [upd_n e2, upd_n (by omega)]; exact h9 w' j' hw' hj'
    · rw [sA_ne (by omega), upd_n (by omega)]; exact h9 w' j' hw' hj'
theorem RA_arm {σ : St} {o : Nat} {R : Nat → Int32} (hA : RA σ o R) {j a i : Nat} (v : Int32) (hj : j < 2) (ha : a = o + 6) (hi : i = 5 + j) : RA (sA σ a j v) o (upd R i v) := by
  subst ha hi
  obtain ⟨⟨h1, h2, h3, h4, h5, h6, h7, h8⟩, h9⟩ := hA
  refine ⟨⟨?_, ?_, ?_, ?_, ?_, ?_, ?_, ?_⟩, ?_⟩
  · rw [upd_n (by omega)]; exact h1
  · rw [upd_n (by omega)]; exact h2
  · rw [upd_n (by omega)]; exact h3
  · rw [upd_n (by omega)]; exact h4
  · rw [upd_n (by omega)]; exact h5
  · rw [sA_eq]
    by_cases e : j = 0
    · subst e; rw [upd_s, upd_s]
    · rw [upd_n (by omega), upd_n (by omega)]; exact h6
  · rw [sA_eq]
    by_cases e : j = 1
    · subst e; rw [upd_s, upd_s]
    · rw [upd_n (by omega), upd_n (by omega)]; exact h7
  · rw [upd_n (by omega)]; exact h8
  · intro w' j' hw' hj'
    rw [sA_ne (by omega), upd_n (by omega)]; exact h9 w' j' hw' hj'
theorem RA_beat {σ : St} {o : Nat} {R : Nat → Int32} (hA : RA σ o R) (v : Int32) : RA (sF σ o 10 v) o (upd R 0 v) := by
  obtain ⟨⟨h1, h2, h3, h4, h5, h6, h7, h8⟩, h9⟩ := hA
  refine ⟨⟨?_, ?_, ?_, ?_, ?_, ?_, ?_, ?_⟩, ?_⟩
  · rw [sF_eq, if_pos rfl, upd_s]
  · rw [sF_eq, if_neg (by decide), upd_n (by decide)]; exact h2
  · rw [sF_eq, if_neg (by decide), upd_n (by decide)]; exact h3
  · rw [sF_eq, if_neg (by decide), upd_n (by decide)]; exact h4
  · rw [sF_eq, if_neg (by decide), upd_n (by decide)]; exact h5
  · rw [upd_n (by decide)]; exact h6
  · rw [upd_n (by decide)]; exact h7
  · rw [sF_eq, if_neg (by decide), upd_n (by decide)]; exact h8
  · intro w' j' hw' hj'
    rw [upd_n (by omega)]; exact h9 w' j' hw' hj'
theorem RA_miss {σ : St} {o : Nat} {R : Nat → Int32} (hA : RA σ o R) (v : Int32) : RA (sF σ o 13 v) o (upd R 4 v) := by
  obtain ⟨⟨h1, h2, h3, h4, h5, h6, h7, h8⟩, h9⟩ := hA
  refine ⟨⟨?_, ?_, ?_, ?_, ?_, ?_, ?_, ?_⟩, ?_⟩
  · rw [sF_eq, if_neg (by decide), upd_n (by decide)]; exact h1
  · rw [sF_eq, if_neg (by decide), upd_n (by decide)]; exact h2
  · rw [sF_eq, if_neg (by decide), upd_n (by decide)]; exact h3
  · rw [sF_eq, if_neg (by decide), upd_n (by decide)]; exact h4
  · rw [sF_eq, if_pos rfl, upd_s]
  · rw [upd_n (by decide)]; exact h6
  · rw [upd_n (by decide)]; exact h7
  · rw [sF_eq, if_neg (by decide), upd_n (by decide)]; exact h8
  · intro w' j' hw' hj'
    rw [upd_n (by omega)]; exact h9 w' j' hw' hj'
theorem RA_treaty {σ : St} {o : Nat} {R : Nat → Int32} (hA : RA σ o R) (v : Int32) : RA (sF σ o 11 v) o (upd R 3 v) := by
  obtain ⟨⟨h1, h2, h3, h4, h5, h6, h7, h8⟩, h9⟩ := hA
  refine ⟨⟨?_, ?_, ?_, ?_, ?_, ?_, ?_, ?_⟩, ?_⟩
  · rw [sF_eq, if_neg (by decide), upd_n (by decide)]; exact h1
  · rw [sF_eq, if_neg (by decide), upd_n (by decide)]; exact h2
  · rw [sF_eq, if_neg (by decide), upd_n (by decide)]; exact h3
  · rw [sF_eq, if_pos rfl, upd_s]
  · rw [sF_eq, if_neg (by decide), upd_n (by decide)]; exact h5
  · rw [upd_n (by decide)]; exact h6
  · rw [upd_n (by decide)]; exact h7
  · rw [sF_eq, if_neg (by decide), upd_n (by decide)]; exact h8
  · intro w' j' hw' hj'
    rw [upd_n (by omega)]; exact h9 w' j' hw' hj'
theorem RA_z {σ : St} {o : Nat} {R : Nat → Int32} (hA : RA σ o R) (v : Int32) : RA (sF σ o 14 v) o (upd R 1 v) := by
  obtain ⟨⟨h1, h2, h3, h4, h5, h6, h7, h8⟩, h9⟩ := hA
  refine ⟨⟨?_, ?_, ?_, ?_, ?_, ?_, ?_, ?_⟩, ?_⟩
  · rw [sF_eq, if_neg (by decide), upd_n (by decide)]; exact h1
  · rw [sF_eq, if_pos rfl, upd_s]
  · rw [sF_eq, if_neg (by decide), upd_n (by decide)]; exact h3
  · rw [sF_eq, if_neg (by decide), upd_n (by decide)]; exact h4
  · rw [sF_eq, if_neg (by decide), upd_n (by decide)]; exact h5
  · rw [upd_n (by decide)]; exact h6
  · rw [upd_n (by decide)]; exact h7
  · rw [sF_eq, if_neg (by decide), upd_n (by decide)]; exact h8
  · intro w' j' hw' hj'
    rw [upd_n (by omega)]; exact h9 w' j' hw' hj'
theorem RA_bar {σ : St} {o : Nat} {R : Nat → Int32} (hA : RA σ o R) (v : Int32) : RA (sF σ o 12 v) o (upd R 7 v) := by
  obtain ⟨⟨h1, h2, h3, h4, h5, h6, h7, h8⟩, h9⟩ := hA
  refine ⟨⟨?_, ?_, ?_, ?_, ?_, ?_, ?_, ?_⟩, ?_⟩
  · rw [sF_eq, if_neg (by decide), upd_n (by decide)]; exact h1
  · rw [sF_eq, if_neg (by decide), upd_n (by decide)]; exact h2
  · rw [sF_eq, if_neg (by decide), upd_n (by decide)]; exact h3
  · rw [sF_eq, if_neg (by decide), upd_n (by decide)]; exact h4
  · rw [sF_eq, if_neg (by decide), upd_n (by decide)]; exact h5
  · rw [upd_n (by decide)]; exact h6
  · rw [upd_n (by decide)]; exact h7
  · rw [sF_eq, if_pos rfl, upd_s]
  · intro w' j' hw' hj'
    rw [upd_n (by omega)]; exact h9 w' j' hw' hj'
theorem RA_many {σ : St} {o : Nat} {R : Nat → Int32} (hA : RA σ o R) (v : Int32) : RA (sF σ o 9 v) o (upd R 2 v) := by
  obtain ⟨⟨h1, h2, h3, h4, h5, h6, h7, h8⟩, h9⟩ := hA
  refine ⟨⟨?_, ?_, ?_, ?_, ?_, ?_, ?_, ?_⟩, ?_⟩
  · rw [sF_eq, if_neg (by decide), upd_n (by decide)]; exact h1
  · rw [sF_eq, if_neg (by decide), upd_n (by decide)]; exact h2
  · rw [sF_eq, if_pos rfl, upd_s]
  · rw [sF_eq, if_neg (by decide), upd_n (by decide)]; exact h4
  · rw [sF_eq, if_neg (by decide), upd_n (by decide)]; exact h5
  · rw [upd_n (by decide)]; exact h6
  · rw [upd_n (by decide)]; exact h7
  · rw [sF_eq, if_neg (by decide), upd_n (by decide)]; exact h8
  · intro w' j' hw' hj'
    rw [upd_n (by omega)]; exact h9 w' j' hw' hj'
/-- bounds that always hold: breath, misses -/
def RB (R : Nat → Int32) : Prop := (∀ j, j < 6 → ∃ b, b ≤ 99 ∧ R (12 + 5 * j) = nI b) ∧ ∃ x, x ≤ 99999 ∧ R 4 = nI x
theorem clp_nI {m : Nat} (hm : m < 2 ^ 31) (v : Int32) : ∃ c, c ≤ m ∧ clp (nI m) v = nI c := by
  unfold clp
  by_cases h1 : 0 ≤ v
  · rw [if_pos h1]
    by_cases h2 : v ≤ nI m
    · rw [if_pos h2]
      rw [le_i, show (0 : Int32).toInt = 0 from rfl] at h1
      obtain ⟨j, hj, he⟩ := nI_of (x := v) (by rw [lt_i, show (0 : Int32).toInt = 0 from rfl]; omega)
      exact ⟨j, by rw [he] at h2; exact (nI_leI hj hm).mp h2, he⟩
    · rw [if_neg h2]; exact ⟨m, Nat.le_refl _, rfl⟩
  · rw [if_neg h1]; exact ⟨0, Nat.zero_le _, rfl⟩
theorem clp_in {m n : Nat} (hm : m < 2 ^ 31) (hn : n < 2 ^ 31) : clp (nI m) (nI n) = nI (min m n) := by
  unfold clp
  rw [if_pos (nI_pos' hn)]
  by_cases h : n ≤ m
  · rw [if_pos (nI_le h hm), Nat.min_eq_right h]
  · rw [if_neg (nI_ge (by omega) hn), Nat.min_eq_left (by omega)]
theorem imn_in {m n : Nat} (hm : m < 2 ^ 31) (hn : n < 2 ^ 31) : imn (nI m) (nI n) = nI (min m n) := by
  unfold imn
  by_cases h : n < m
  · rw [if_pos (nI_lt h hm), Nat.min_eq_right (by omega)]
  · rw [if_neg (nI_nlt (by omega) hn), Nat.min_eq_left (by omega)]
def sk (c : Int32) (R : Nat → Int32) (j : Nat) : Nat → Int32 := if R (14 + 5 * j) = 1 then (if c ≤ R (12 + 5 * j) then upd R (12 + 5 * j) (R (12 + 5 * j) - c) else upd R (14 + 5 * j) 0) else upd R (12 + 5 * j) (clp 99 (R (12 + 5 * j) + 1))
def skm (c : Int32) (R : Nat → Int32) (j : Nat) : Bool := decide (R (14 + 5 * j) = 1) && !decide (c ≤ R (12 + 5 * j))
/-- what of a row no beat touches -/
def RO (R S : Nat → Int32) : Prop := (S 2 = R 2 ∧ S 8 = R 8 ∧ S 9 = R 9) ∧ (∀ i, 40 ≤ i → S i = R i) ∧ ∀ j, j < 6 → S (10 + 5 * j) = R (10 + 5 * j)
theorem RO.rf (R : Nat → Int32) : RO R R := ⟨⟨rfl, rfl, rfl⟩, fun _ _ => rfl, fun _ _ => rfl⟩
theorem RO.tr {R S T : Nat → Int32} (h : RO R S) (h' : RO S T) : RO R T := ⟨⟨h'.1.1.trans h.1.1, h'.1.2.1.trans h.1.2.1, h'.1.2.2.trans h.1.2.2⟩, fun i hi => (h'.2.1 i hi).trans (h.2.1 i hi), fun j hj => (h'.2.2 j hj).trans (h.2.2 j hj)⟩
theorem RO.put {R : Nat → Int32} {i : Nat} {v : Int32} (h2 : i ≠ 2) (h8 : i ≠ 8) (h9 : i ≠ 9) (h40 : i < 40) (hj : ∀ j, j < 6 → i ≠ 10 + 5 * j) : RO R (upd R i v) := ⟨⟨upd_n (Ne.symm h2), upd_n (Ne.symm h8), upd_n (Ne.symm h9)⟩, fun k hk => upd_n (by omega), fun j h => upd_n (Ne.symm (hj j h))⟩
theorem sk_RO {c : Int32} {R : Nat → Int32} {j : Nat} (hj : j < 6) : RO R (sk c R j) := by
  unfold sk
  split
  · split
    · exact RO.put (by omega) (by omega) (by omega) (by omega) (fun k hk => by omega)
    · exact RO.put (by omega) (by omega) (by omega) (by omega) (fun k hk => by omega)
  · exact RO.put (by omega) (by omega) (by omega) (by omega) (fun k hk => by omega)
theorem RN_put {R : Nat → Int32} {N i : Nat} {v : Int32} (hN : RN R N) (h2 : i ≠ 2) (h : ∀ j, j < 6 → i = 14 + 5 * j → v = 0 ∨ v = 1) : RN (upd R i v) N := by
  refine ⟨hN.1, by rw [upd_n (Ne.symm h2)]; exact hN.2.1, fun j hj => ?_⟩
  by_cases e : 14 + 5 * j = i
  · rw [e, upd_s]; exact h j hj e.symm
  · rw [upd_n e]; exact hN.2.2 j hj
theorem RB_put {R : Nat → Int32} {i : Nat} {v : Int32} (hB : RB R) (h : ∀ j, j < 6 → i = 12 + 5 * j → ∃ b, b ≤ 99 ∧ v = nI b) (h4 : i = 4 → ∃ x, x ≤ 99999 ∧ v = nI x) : RB (upd R i v) := by
  refine ⟨fun j hj => ?_, ?_⟩
  · by_cases e : 12 + 5 * j = i
    · rw [e, upd_s]; exact h j hj e.symm
    · rw [upd_n e]; exact hB.1 j hj
  · by_cases e : 4 = i
    · rw [← e, upd_s]; exact h4 e.symm
    · rw [upd_n e]; exact hB.2
theorem sk_RN {c : Int32} {R : Nat → Int32} {N j : Nat} (hj : j < 6) (hN : RN R N) : RN (sk c R j) N := by
  unfold sk
  split
  · split
    · exact RN_put hN (by omega) (fun k hk e => by omega)
    · exact RN_put hN (by omega) (fun k hk e => Or.inl rfl)
  · exact RN_put hN (by omega) (fun k hk e => by omega)
theorem sk_RB {c : Nat} (hc : c ≤ 20) {R : Nat → Int32} {j : Nat} (hj : j < 6) (hB : RB R) : RB (sk (nI c) R j) := by
  obtain ⟨b, hb, he⟩ := hB.1 j hj
  unfold sk
  split
  · split
    · rename_i q
      refine RB_put hB (fun k hk e => ⟨b - c, by omega, ?_⟩) (fun e => by omega)
      rw [he] at q ⊢
      exact pk_sub ((nI_leI (by omega) (by omega)).mp q)
    · exact RB_put hB (fun k hk e => by omega) (fun e => by omega)
  · exact RB_put hB (fun k hk e => clp_nI (m := 99) (by decide) _) (fun e => by omega)
theorem ct_20 {R : Nat → Int32} {N j : Nat} : ∃ c, c ≤ 20 ∧ ct R N j = nI c := clp_nI (m := 20) (by decide) _
def QM (τ τ' : St) : Prop := τ'.1 = τ.1 ∧ ∀ a, a ≠ 1 → a ≠ 10 → a ≠ 11 → a ≠ 12 → τ'.2 a = τ.2 a
theorem QM.rf (τ : St) : QM τ τ := ⟨rfl, fun _ _ _ _ _ => rfl⟩
theorem QM.tr {τ τ' τ'' : St} (h : QM τ τ') (h' : QM τ' τ'') : QM τ τ'' := ⟨h'.1.trans h.1, fun a p q r s => (h'.2 a p q r s).trans (h.2 a p q r s)⟩
theorem QM.mq {τ τ' : St} (h : Mq τ τ') : QM τ τ' := ⟨h.1, fun a _ q r _ => h.2 a q r⟩
theorem QM.put {τ : St} {a i : Nat} {v : Int32} (h : a = 1 ∨ a = 12) : QM τ (sA τ a i v) := ⟨rfl, fun b p q r s => sA_ne (by rcases h with rfl | rfl <;> assumption)⟩
def QR (o : Nat) (σ σ' : St) : Prop := (∀ p, p ≠ o → σ'.1 p = σ.1 p) ∧ ∀ a, a ≠ 5 → (a ≠ 8 ∧ a ≠ 68 ∧ a ≠ 71) → (a < o + 1 ∨ o + 8 < a) → σ'.2 a = σ.2 a
theorem QR.rf (o : Nat) (σ : St) : QR o σ σ := ⟨fun _ _ => rfl, fun _ _ _ _ => rfl⟩
theorem QR.tr {o : Nat} {σ σ' σ'' : St} (h : QR o σ σ') (h' : QR o σ' σ'') : QR o σ σ'' := ⟨fun p q => (h'.1 p q).trans (h.1 p q), fun a p q r => (h'.2 a p q r).trans (h.2 a p q r)⟩
theorem QR.sq {o : Nat} {σ σ' : St} (h : SQ σ σ') : QR o σ σ' := ⟨fun p _ => by rw [h.1], fun a p q _ => h.2 a p q⟩
theorem QR.put {o : Nat} {σ : St} {a i : Nat} {v : Int32} (h1 : o + 1 ≤ a) (h2 : a ≤ o + 8) : QR o σ (sA σ a i v) := ⟨fun _ _ => rfl, fun b _ _ q => sA_ne (by omega)⟩
theorem QR.fld {o : Nat} {σ : St} {k : Nat} {v : Int32} : QR o σ (sF σ o k v) := ⟨fun p q => sF_ne q, fun b _ _ _ => rfl⟩
theorem qr_TX {o : Nat} (ho : o = 15 ∨ o = 24) {σ σ' : St} (h : QR o σ σ') {R : Nat → Int32} (hT : TX σ o R) : TX σ' o R := by
  obtain ⟨h1, h2, h3, h4, h5, h6⟩ := hT
  have hx := xt_or o
  have f3 : σ'.1 (xt o) = σ.1 (xt o) := h.1 (xt o) (by omega)
  have f6 : σ'.1 (xt o + 3) = σ.1 (xt o + 3) := h.1 (xt o + 3) (by omega)
  have a4 : σ'.2 (xt o + 1) = σ.2 (xt o + 1) := h.2 (xt o + 1) (by omega) (by omega) (by omega)
  have a7 : σ'.2 (xt o + 3 + 1) = σ.2 (xt o + 3 + 1) := h.2 (xt o + 3 + 1) (by omega) (by omega) (by omega)
  refine ⟨h1, h2, ⟨by rw [f3]; exact h3.1, fun i hi => ?_⟩, ⟨by rw [f6]; exact h4.1, fun i hi => ?_⟩, by rw [f3]; exact h5, by rw [f6]; exact h6⟩
  · rw [a4]; exact h3.2 i hi
  · rw [a7]; exact h4.2 i hi
theorem dpt_congr {R S : Nat → Int32} {t : Nat} : ∀ n, n ≤ 60 → (∀ i, t ≤ i → S i = R i) → dpt S t n = dpt R t n := by
  intro n
  induction n with
  | zero => intro _ _; rfl
  | succ n ih =>
    intro hn h
    rw [dpt, dpt, ih (by omega) h, h _ (by omega), h _ (by omega)]
theorem TW_congr {R S : Nat → Int32} {t : Nat} (h : ∀ i, t ≤ i → S i = R i) (hW : TW R t) : TW S t := by
  obtain ⟨len, h1, h2, h3⟩ := hW
  exact ⟨len, h1, by rw [h t (Nat.le_refl t)]; exact h2, h3.imp_right fun q => by rw [dpt_congr len h1 h]; exact q⟩
theorem TR_congr {σ : St} {o : Nat} {R S : Nat → Int32} {t : Nat} (h : ∀ i, t ≤ i → S i = R i) (hR : TR σ o R t) : TR σ o S t := by
  refine ⟨by rw [h t (Nat.le_refl t)]; exact hR.1, fun i hi => ?_⟩
  rw [h t (Nat.le_refl t)] at hi
  rw [h _ (by omega), h _ (by omega)]
  exact hR.2 i hi
theorem TX_congr {σ : St} {o : Nat} {R S : Nat → Int32} (h : ∀ i, 40 ≤ i → S i = R i) (hT : TX σ o R) : TX σ o S := by
  obtain ⟨h1, h2, h3, h4, h5, h6⟩ := hT
  exact ⟨TW_congr (fun i hi => h i (by omega)) h1, TW_congr (fun i hi => h i (by omega)) h2, TR_congr (fun i hi => h i (by omega)) h3, TR_congr (fun i hi => h i (by omega)) h4, h5, h6⟩
theorem Mo_misses_ok {τ : St} {j : Nat} {c : Int32} (hj : j < 6) (hc : τ.2 12 j = c) (hin : τ.2 1 (14 + 5 * j) = 0 ∨ τ.2 1 (14 + 5 * j) = 1) : okk (Mo_misses (nI j) τ) (fun r τ' => r = b01 (skm c (τ.2 1) j) ∧ τ'.2 1 = sk c (τ.2 1) j ∧ τ'.1 = τ.1 ∧ ∀ a, a ≠ 1 → τ'.2 a = τ.2 a) := by
  have c99 : (99 : Int32) = nI 99 := rfl
  rw [Mo_misses, Mo_of2 hj, bnd_t, Mo_isIn_eq hj, bnd_t]
  by_cases hi : τ.2 1 (14 + 5 * j) = 1
  · rw [if_pos hi, if10, inb_nI hj (by decide), grd_t, nI_clamp (by omega), hc]
    by_cases hb : c ≤ τ.2 1 (12 + 5 * j)
    · rw [if_pos hb, Mo_isIn_eq hj, bnd_t, if_pos hi, if10, if00, grd_t, hc, Mo_lets2 hj, bnd_t, if00, Mo_of4 hj, bnd_t, Mo_lets4 hj, bnd_t]
      refine ok_some ⟨?_, ?_, rfl, fun a ha => ?_⟩
      · rw [skm, decide_eq_true hi, decide_eq_true hb]; rfl
      · rw [sA_eq, sA_eq, sk, if_pos hi, if_pos hb]; exact upd_id rfl
      · rw [sA_ne ha, sA_ne ha]
    · rw [if_neg hb, Mo_isIn_eq hj, bnd_t, if_pos hi, if10, if10, Mo_lets2 hj, bnd_t, if10, Mo_lets4 hj, bnd_t]
      refine ok_some ⟨?_, ?_, rfl, fun a ha => ?_⟩
      · rw [skm, decide_eq_true hi, decide_eq_false hb]; rfl
      · rw [sA_eq, sA_eq, sk, if_pos hi, if_neg hb, upd_id rfl]
      · rw [sA_ne ha, sA_ne ha]
  · rw [if_neg hi, if00, Mo_isIn_eq hj, bnd_t, if_neg hi, if00, Mo_held_eq, bnd_t, Mo_lets2 hj, bnd_t, if00, Mo_of4 hj, bnd_t, Mo_lets4 hj, bnd_t]
    refine ok_some ⟨?_, ?_, rfl, fun a ha => ?_⟩
    · rw [skm, decide_eq_false hi]; rfl
    · rw [sA_eq, sA_eq, sk, if_neg hi]; exact upd_id rfl
    · rw [sA_ne ha, sA_ne ha]
theorem Rp_skip_ok {R : Nat → Int32} {o N j : Nat} {c : Int32} (hN : RN R N) (hB : RB R) (hj : j < 6) {σ : St} (hA : RA σ o R) (hc : σ.2 (o + 7) j = c) : okk (Rp_skip o (nI j) σ) (fun r σ' => r = b01 (skm c R j) ∧ RA σ' o (sk c R j) ∧ σ'.1 = σ.1 ∧ ∀ a, a ≠ o + 3 → a ≠ o + 5 → σ'.2 a = σ.2 a) := by
  have e5 : σ.2 (o + 5) j = R (14 + 5 * j) := RA_at hA 4 (by decide) hj (by omega) (by omega)
  have e3 : σ.2 (o + 3) j = R (12 + 5 * j) := RA_at hA 2 (by decide) hj (by omega) (by omega)
  obtain ⟨b, hb, he⟩ := hB.1 j hj
  rw [Rp_skip, inb_nI hj (by decide), grd_t, nI_clamp (by omega), e5]
  rcases hN.2.2 j hj with hi | hi
  · rw [if_pos hi, grd_t, grd_t, nas_t, e3]
    have hi1 : ¬ R (14 + 5 * j) = 1 := by rw [hi]; decide
    refine ok_some ⟨?_, ?_, rfl, fun a ha _ => sA_ne ha⟩
    · rw [skm, decide_eq_false hi1]; rfl
    · rw [sk, if_neg hi1]
      have e : imn (99 : Int32) (R (12 + 5 * j) + 1) = clp 99 (R (12 + 5 * j) + 1) := by
        rw [he, nI_lit1]
        exact (imn_in (m := 99) (by decide) (by omega)).trans (clp_in (m := 99) (by decide) (by omega)).symm
      rw [e]
      exact RA_put hA 2 _ (by decide) hj (by omega) (by omega)
  · have hi0 : ¬ R (14 + 5 * j) = 0 := by rw [hi]; decide
    rw [if_neg hi0, grd_t, grd_t, hc, e3]
    by_cases hb : c ≤ R (12 + 5 * j)
    · rw [if_pos hb, grd_t, grd_t, grd_t, nas_t]
      refine ok_some ⟨?_, ?_, rfl, fun a ha _ => sA_ne ha⟩
      · rw [skm, decide_eq_true hi, decide_eq_true hb]; rfl
      · rw [sk, if_pos hi, if_pos hb]
        exact RA_put hA 2 _ (by decide) hj (by omega) (by omega)
    · rw [if_neg hb, grd_t, nas_t]
      refine ok_some ⟨?_, ?_, rfl, fun a _ ha => sA_ne ha⟩
      · rw [skm, decide_eq_true hi, decide_eq_false hb]; rfl
      · rw [sk, if_pos hi, if_neg hb]
        exact RA_put hA 4 _ (by decide) hj (by omega) (by omega)
def sks (C : Nat → Int32) (R : Nat → Int32) (k : Nat) : Nat → Int32 := match k with
  | 0 => R
  | k + 1 => sk (C k) (sks C R k) k
def skc (C : Nat → Int32) (R : Nat → Int32) (k : Nat) : Nat := match k with
  | 0 => 0
  | k + 1 => if skm (C k) (sks C R k) k = true then skc C R k + 1 else skc C R k
theorem skc_le {C R : Nat → Int32} (k : Nat) : skc C R k ≤ k := by
  induction k with
  | zero => exact Nat.le_refl _
  | succ k ih => rw [skc]; split <;> omega
theorem sks_all {R : Nat → Int32} {N : Nat} (hN : RN R N) (hB : RB R) : ∀ k, k ≤ N → RO R (sks (ct R N) R k) ∧ RN (sks (ct R N) R k) N ∧ RB (sks (ct R N) R k) := by
  intro k
  induction k with
  | zero => intro _; exact ⟨RO.rf R, hN, hB⟩
  | succ k ih =>
    intro hk
    have h6 := hN.1
    obtain ⟨h1, h2, h3⟩ := ih (by omega)
    rw [sks]
    obtain ⟨c, hc, he⟩ := ct_20 (R := R) (N := N) (j := k)
    exact ⟨h1.tr (sk_RO (by omega)), sk_RN (by omega) h2, by rw [he]; exact sk_RB hc (by omega) h3⟩
/-- the end of a beat: arms, misses, the beat -/
def pend (S : Nat → Int32) (c : Nat) : Nat → Int32 := upd (upd (upd (upd S 5 (S 5 - 1)) 6 (S 6 - 1)) 4 (clp 99999 (S 4 + nI c))) 0 (S 0 + 1)
def ps (R : Nat → Int32) (N : Nat) : Nat → Int32 := if tn R = 0 then upd (upd R 4 (clp 99999 (R 4 + 0))) 0 (R 0 + 1) else pend (sks (ct R N) R N) (skc (ct R N) R N)
def pm (R : Nat → Int32) (N : Nat) : Nat := if tn R = 0 then 0 else skc (ct R N) R N
theorem ps_all {R : Nat → Int32} {N : Nat} (hN : RN R N) (hB : RB R) : RO R (ps R N) ∧ RN (ps R N) N ∧ RB (ps R N) := by
  have r : ∀ {S : Nat → Int32} {i : Nat} {v : Int32}, i = 0 ∨ i = 4 ∨ i = 5 ∨ i = 6 → RO S (upd S i v) := fun h => RO.put (by omega) (by omega) (by omega) (by omega) (fun j hj => by omega)
  have n : ∀ {S : Nat → Int32} {i : Nat} {v : Int32}, RN S N → i = 0 ∨ i = 4 ∨ i = 5 ∨ i = 6 → RN (upd S i v) N := fun q h => RN_put q (by omega) (fun j hj e => by omega)
  have b : ∀ {S : Nat → Int32} {i : Nat} {v : Int32}, RB S → i = 0 ∨ i = 5 ∨ i = 6 → RB (upd S i v) := fun q h => RB_put q (fun j hj e => by omega) (fun e => by omega)
  have b4 : ∀ {S : Nat → Int32} {v : Int32}, RB S → RB (upd S 4 (clp 99999 v)) := fun q => RB_put q (fun j hj e => by omega) (fun _ => clp_nI (m := 99999) (by decide) _)
  unfold ps
  split
  · exact ⟨(r (by omega)).tr (r (by omega)), n (n hN (by omega)) (by omega), b (b4 hB) (by omega)⟩
  · obtain ⟨h1, h2, h3⟩ := sks_all hN hB N (Nat.le_refl _)
    unfold pend
    exact ⟨h1.tr (((r (by omega)).tr (r (by omega))).tr ((r (by omega)).tr (r (by omega)))), n (n (n (n h2 (by omega)) (by omega)) (by omega)) (by omega), b (b4 (b (b h3 (by omega)) (by omega))) (by omega)⟩
theorem ps_beat {R : Nat → Int32} {N : Nat} : ∀ k, k ≤ 6 → sks (ct R N) R k 0 = R 0 := by
  intro k
  induction k with
  | zero => intro _; rfl
  | succ k ih =>
    intro hk
    have : sk (ct R N k) (sks (ct R N) R k) k 0 = sks (ct R N) R k 0 := by
      unfold sk
      split
      · split
        · exact upd_n (by omega)
        · exact upd_n (by omega)
      · exact upd_n (by omega)
    rw [sks, this]
    exact ih (by omega)
theorem ps_0 {R : Nat → Int32} {N : Nat} (hN : N ≤ 6) : ps R N 0 = R 0 + 1 := by
  unfold ps
  split
  · exact upd_s
  · unfold pend
    rw [upd_s, ps_beat N hN]
theorem Mo_goes_L40_ok {C R : Nat → Int32} {N : Nat} (hN : N ≤ 6) (h2 : ∀ k, k ≤ N → RN (sks C R k) N) : ∀ (m k n : Nat) (τ : St), k + m = N → m < n → τ.2 1 = sks C R k → (∀ j, j < N → τ.2 12 j = C j) → okk (Mo_goes_L40 n (nI (skc C R k)) (nI k) τ) (fun r τ' => r = nI (skc C R N) ∧ τ'.2 1 = pend (sks C R N) (skc C R N) ∧ QM τ τ') := by
  have g5 : inb (5 : Int32) 366 = true := rfl
  have z5 : (5 : Int32).toNatClampNeg = 5 := by decide
  have g6 : inb (6 : Int32) 366 = true := rfl
  have z6 : (6 : Int32).toNatClampNeg = 6 := by decide
  have g4 : inb (4 : Int32) 366 = true := rfl
  have z4 : (4 : Int32).toNatClampNeg = 4 := by decide
  have g0 : inb (0 : Int32) 366 = true := rfl
  have z0 : (0 : Int32).toNatClampNeg = 0 := by decide
  intro m
  induction m with
  | zero =>
    intro k n τ hk hn h1 hC
    obtain ⟨n, rfl⟩ : ∃ z, n = z + 1 := ⟨n - 1, by omega⟩
    have hk : k = N := by omega
    rw [hk] at h1 ⊢
    rw [Mo_goes_L40, g2, grd_t, z2, h1, (h2 N (Nat.le_refl _)).2.1, if_pos (Int32.le_refl _), g5, grd_t, grd_t, nas_t, z5, g6, grd_t, grd_t, nas_t, z6, g4, grd_t, Mo_held_eq, bnd_t, grd_t, nas_t, z4, g0, grd_t, grd_t, nas_t, z0]
    refine ok_some ⟨rfl, ?_, ?_⟩
    · rw [sA_eq, sA_eq, sA_eq, sA_eq, h1]; rfl
    · exact (((QM.put (Or.inl rfl)).tr (QM.put (Or.inl rfl))).tr (QM.put (Or.inl rfl))).tr (QM.put (Or.inl rfl))
  | succ m ih =>
    intro k n τ hk hn h1 hC
    obtain ⟨n, rfl⟩ : ∃ z, n = z + 1 := ⟨n - 1, by omega⟩
    have hR := h2 k (by omega)
    rw [Mo_goes_L40, g2, grd_t, z2, h1, hR.2.1, if_neg (nI_ge (show k < N by omega) (by omega))]
    refine ok_bnd (Mo_misses_ok (show k < 6 by omega) (hC k (by omega)) (by rw [h1]; exact hR.2.2 k (by omega))) (fun r s hq => ?_)
    obtain ⟨q1, q2, q3, q4⟩ := hq
    rw [h1] at q1 q2
    have hs : QM τ s := ⟨q3, fun a ha _ _ _ => q4 a ha⟩
    have hC2 : ∀ j, j < N → s.2 12 j = C j := fun j hj => by rw [q4 12 (by decide)]; exact hC j hj
    have hik := ih (k + 1) n s (by omega) (by omega) q2 hC2
    rw [q1]
    cases hm : skm (C k) (sks C R k) k with
    | true =>
      have e : skc C R (k + 1) = skc C R k + 1 := by rw [skc, if_pos hm]
      rw [if_bt, nam_t, nam_t, nI_lit1, nI_lit1, ← e]
      exact ok_mono hik (fun r s' h => ⟨h.1, h.2.1, hs.tr h.2.2⟩)
    | false =>
      have e : skc C R (k + 1) = skc C R k := by rw [skc, hm]; rfl
      rw [if_bf, nam_t, nam_t, nI_lit1, nI_lit0, ← e]
      exact ok_mono hik (fun r s' h => ⟨h.1, h.2.1, hs.tr h.2.2⟩)
theorem Mo_goes_L11_ok {R : Nat → Int32} {N : Nat} (hN : RN R N) (hB : RB R) (hT : TW R 124) : ∀ (m k n : Nat) (τ : St), k + m = N → m < n → τ.2 1 = R → (∀ j, j < k → τ.2 12 j = ct R N j) → okk (Mo_goes_L11 n 0 (nI k) τ) (fun r τ' => r = nI (skc (ct R N) R N) ∧ τ'.2 1 = pend (sks (ct R N) R N) (skc (ct R N) R N) ∧ QM τ τ') := by
  have h6 := hN.1
  intro m
  induction m with
  | zero =>
    intro k n τ hk hn h1 hC
    obtain ⟨n, rfl⟩ : ∃ z, n = z + 1 := ⟨n - 1, by omega⟩
    have hk : k = N := by omega
    rw [hk] at hC ⊢
    rw [Mo_goes_L11, g2, grd_t, z2, h1, hN.2.1, if_pos (Int32.le_refl _)]
    exact Mo_goes_L40_ok h6 (fun k hk => (sks_all hN hB k hk).2.1) N 0 1000 τ (by omega) (by omega) h1 hC
  | succ m ih =>
    intro k n τ hk hn h1 hC
    obtain ⟨n, rfl⟩ : ∃ z, n = z + 1 := ⟨n - 1, by omega⟩
    rw [Mo_goes_L11, g2, grd_t, z2, h1, hN.2.1, if_neg (nI_ge (show k < N by omega) (by omega))]
    have hN' := hN
    have hT' := hT
    rw [← h1] at hN' hT'
    refine ok_bnd (Mo_costsOf_ok hN' (show k < 6 by omega) hT') (fun r s hq => ?_)
    rw [hq.1, h1, inb_nI (show k < 6 by omega) (by omega), grd_t, nas_t, nam_t, nI_lit1, nI_clamp (show k < 2 ^ 31 by omega)]
    have hs : QM τ (sA s 12 k (ct R N k)) := (QM.mq hq.2).tr (QM.put (Or.inr rfl))
    refine ok_mono (ih (k + 1) n _ (by omega) (by omega) ((sA_ne (by decide)).trans ((mq_1 hq.2).trans h1)) (fun j hj => ?_)) (fun r s' h => ⟨h.1, h.2.1, hs.tr h.2.2⟩)
    rw [sA_eq]
    by_cases e : j = k
    · rw [e, upd_s]
    · rw [upd_n e, hq.2.2 12 (by decide) (by decide)]; exact hC j (by omega)
theorem Mo_goes_ok {τ : St} {N : Nat} (hN : RN (τ.2 1) N) (hB : RB (τ.2 1)) (hT : TW (τ.2 1) 124) : okk (Mo_goes τ) (fun r τ' => r = nI (pm (τ.2 1) N) ∧ τ'.2 1 = ps (τ.2 1) N ∧ QM τ τ') := by
  have g4 : inb (4 : Int32) 366 = true := rfl
  have z4 : (4 : Int32).toNatClampNeg = 4 := by decide
  have g0 : inb (0 : Int32) 366 = true := rfl
  have z0 : (0 : Int32).toNatClampNeg = 0 := by decide
  rw [Mo_goes, Mo_doesTurn_eq, bnd_t]
  by_cases h : tn (τ.2 1) = 0
  · rw [if_pos h, g4, grd_t, Mo_held_eq, bnd_t, grd_t, nas_t, z4, g0, grd_t, grd_t, nas_t, z0]
    refine ok_some ⟨?_, ?_, ?_⟩
    · rw [pm, if_pos h]; rfl
    · rw [sA_eq, sA_eq, ps, if_pos h]; rfl
    · exact (QM.put (Or.inl rfl)).tr (QM.put (Or.inl rfl))
  · rw [if_neg h]
    refine ok_mono (Mo_goes_L11_ok hN hB hT N 0 1000 τ (by omega) (by have := hN.1; omega) rfl (fun j hj => by omega)) (fun r s q => ⟨?_, ?_, q.2.2⟩)
    · rw [pm, if_neg h]; exact q.1
    · rw [ps, if_neg h]; exact q.2.1
theorem Rp_pass_L38_ok {C R : Nat → Int32} {o N : Nat} (hN : N ≤ 6) (h2 : ∀ k, k ≤ N → RN (sks C R k) N ∧ RB (sks C R k)) : ∀ (m k n : Nat) (σ : St), k + m = N → m < n → RA σ o (sks C R k) → (∀ j, j < N → σ.2 (o + 7) j = C j) → okk (Rp_pass_L38 n o (nI (skc C R k)) (nI k) σ) (fun r σ' => r = nI (skc C R N) ∧ RA σ' o (pend (sks C R N) (skc C R N)) ∧ QR o σ σ') := by
  have g0 : inb (0 : Int32) 2 = true := rfl
  have z0 : (0 : Int32).toNatClampNeg = 0 := by decide
  have g1 : inb (1 : Int32) 2 = true := rfl
  have z1 : (1 : Int32).toNatClampNeg = 1 := by decide
  intro m
  induction m with
  | zero =>
    intro k n σ hk hn hA hC
    obtain ⟨n, rfl⟩ : ∃ z, n = z + 1 := ⟨n - 1, by omega⟩
    have hk : k = N := by omega
    rw [hk] at hA ⊢
    obtain ⟨r1, r2⟩ := h2 N (Nat.le_refl _)
    rw [Rp_pass_L38, hA.1.2.2.1, r1.2.1, if_pos (Int32.le_refl _), g0, grd_t, grd_t, nas_t, z0, g1, grd_t, grd_t, nas_t, z1, nas_t, nas_t]
    have hs := skc_le (C := C) (R := R) N
    obtain ⟨x, hx, he⟩ := r2.2
    generalize skc C R N = c at hs ⊢
    generalize sks C R N = S at hA he ⊢
    have hA1 := RA_arm hA (j := 0) (σ.2 (o + 6) 0 - 1) (by decide) rfl rfl
    have hA2 := RA_arm hA1 (j := 1) ((sA σ (o + 6) 0 (σ.2 (o + 6) 0 - 1)).2 (o + 6) 1 - 1) (by decide) rfl rfl
    generalize hσ1 : sA (sA σ (o + 6) 0 (σ.2 (o + 6) 0 - 1)) (o + 6) 1 ((sA σ (o + 6) 0 (σ.2 (o + 6) 0 - 1)).2 (o + 6) 1 - 1) = σ1 at hA2 ⊢
    have q1 : QR o σ σ1 := by subst hσ1; exact (QR.put (by omega) (by omega)).tr (QR.put (by omega) (by omega))
    rw [sA_eq, upd_n (by decide), hA.1.2.2.2.2.2.1, hA.1.2.2.2.2.2.2.1] at hA2
    have em : imn (99999 : Int32) (σ1.1 o 13 + nI c) = clp 99999 (S 4 + nI c) := by
      have e4 : σ1.1 o 13 = S 4 := by rw [hA2.1.2.2.2.2.1, upd_n (by decide), upd_n (by decide)]
      rw [e4, he, nI_add]
      exact (imn_in (m := 99999) (by decide) (by omega)).trans (clp_in (m := 99999) (by decide) (by omega)).symm
    have hA3 := RA_miss hA2 (imn (99999 : Int32) (σ1.1 o 13 + nI c))
    have hA4 := RA_beat hA3 ((sF σ1 o 13 (imn (99999 : Int32) (σ1.1 o 13 + nI c))).1 o 10 + 1)
    refine ok_some ⟨rfl, ?_, (q1.tr QR.fld).tr QR.fld⟩
    have e10 : (sF σ1 o 13 (imn (99999 : Int32) (σ1.1 o 13 + nI c))).1 o 10 = S 0 := by
      rw [sF_eq, if_neg (by decide), hA2.1.1, upd_n (by decide), upd_n (by decide)]
    rw [e10, em] at hA4
    rw [e10, em]
    exact hA4
  | succ m ih =>
    intro k n σ hk hn hA hC
    obtain ⟨n, rfl⟩ : ∃ z, n = z + 1 := ⟨n - 1, by omega⟩
    obtain ⟨r1, r2⟩ := h2 k (by omega)
    rw [Rp_pass_L38, hA.1.2.2.1, r1.2.1, if_neg (nI_ge (show k < N by omega) (by omega))]
    refine ok_bnd (Rp_skip_ok r1 r2 (show k < 6 by omega) hA (hC k (by omega))) (fun r s hq => ?_)
    obtain ⟨q1, q2, q3, q4⟩ := hq
    have hs : QR o σ s := ⟨fun p _ => by rw [q3], fun a _ _ h => q4 a (by omega) (by omega)⟩
    have hC2 : ∀ j, j < N → s.2 (o + 7) j = C j := fun j hj => by rw [q4 (o + 7) (by omega) (by omega)]; exact hC j hj
    have hik := ih (k + 1) n s (by omega) (by omega) q2 hC2
    rw [q1, nam_t, nam_t, nI_lit1]
    cases hm : skm (C k) (sks C R k) k with
    | true =>
      have e : skc C R (k + 1) = skc C R k + 1 := by rw [skc, if_pos hm]
      rw [show b01 true = 1 from rfl, nI_lit1, ← e]
      exact ok_mono hik (fun r s' h => ⟨h.1, h.2.1, hs.tr h.2.2⟩)
    | false =>
      have e : skc C R (k + 1) = skc C R k := by rw [skc, hm]; rfl
      rw [show b01 false = 0 from rfl, nI_lit0, ← e]
      exact ok_mono hik (fun r s' h => ⟨h.1, h.2.1, hs.tr h.2.2⟩)
theorem RA_keep {σ σ' : St} {o : Nat} {R : Nat → Int32} (hA : RA σ o R) (h1 : ∀ k, σ'.1 o k = σ.1 o k) (h2 : ∀ a, o + 1 ≤ a → a ≤ o + 6 → σ'.2 a = σ.2 a) : RA σ' o R := by
  unfold RA at hA ⊢
  rw [h1, h1, h1, h1, h1, h1, h2 (o + 6) (by omega) (by omega)]
  exact ⟨hA.1, fun w j hw hj => by rw [h2 _ (by omega) (by omega)]; exact hA.2 w j hw hj⟩
theorem Rp_pass_L11_ok {R : Nat → Int32} {o N : Nat} (ho : o = 15 ∨ o = 24) (hN : RN R N) (hB : RB R) : ∀ (m k n : Nat) (σ : St), k + m = N → m < n → RA σ o R → TX σ o R → (∀ j, j < k → σ.2 (o + 7) j = ct R N j) → okk (Rp_pass_L11 n o 0 (nI k) σ) (fun r σ' => r = nI (skc (ct R N) R N) ∧ RA σ' o (pend (sks (ct R N) R N) (skc (ct R N) R N)) ∧ QR o σ σ') := by
  have h6 := hN.1
  intro m
  induction m with
  | zero =>
    intro k n σ hk hn hA hT hC
    obtain ⟨n, rfl⟩ : ∃ z, n = z + 1 := ⟨n - 1, by omega⟩
    have hk : k = N := by omega
    rw [hk] at hC ⊢
    rw [Rp_pass_L11, hA.1.2.2.1, hN.2.1, if_pos (Int32.le_refl _)]
    exact Rp_pass_L38_ok h6 (fun k hk => (sks_all hN hB k hk).2) N 0 1000 σ (by omega) (by omega) hA hC
  | succ m ih =>
    intro k n σ hk hn hA hT hC
    obtain ⟨n, rfl⟩ : ∃ z, n = z + 1 := ⟨n - 1, by omega⟩
    rw [Rp_pass_L11, hA.1.2.2.1, hN.2.1, if_neg (nI_ge (show k < N by omega) (by omega))]
    refine ok_bnd (Rp_costs_ok ho hN (show k < 6 by omega) hA hT) (fun r s hq => ?_)
    have hs0 := SQ.x5 hq.2
    rw [hq.1, inb_nI (show k < 6 by omega) (by omega), grd_t, nas_t, nam_t, nI_lit1, nI_clamp (show k < 2 ^ 31 by omega)]
    have hs : QR o σ (sA s (o + 7) k (ct R N k)) := (QR.sq hs0).tr (QR.put (by omega) (by omega))
    have hA2 : RA (sA s (o + 7) k (ct R N k)) o R := RA_keep (sq_RA hs0 (by omega) hA) (fun _ => rfl) (fun a h1 h2 => sA_ne (by omega))
    refine ok_mono (ih (k + 1) n _ (by omega) (by omega) hA2 (qr_TX ho hs hT) (fun j hj => ?_)) (fun r s' h => ⟨h.1, h.2.1, hs.tr h.2.2⟩)
    rw [sA_eq]
    by_cases e : j = k
    · rw [e, upd_s]
    · rw [upd_n e, hs0.2 (o + 7) (by omega) (by omega)]; exact hC j (by omega)
theorem Rp_pass_ok {R : Nat → Int32} {o N : Nat} (ho : o = 15 ∨ o = 24) (hN : RN R N) (hB : RB R) {σ : St} (hA : RA σ o R) (hT : TX σ o R) : okk (Rp_pass o σ) (fun r σ' => r = nI (pm R N) ∧ RA σ' o (ps R N) ∧ QR o σ σ') := by
  rw [Rp_pass, Rp_turns_eq hA, bnd_t]
  by_cases h : tn R = 0
  · rw [if_pos h, nas_t, nas_t]
    obtain ⟨x, hx, he⟩ := hB.2
    have em : imn (99999 : Int32) (σ.1 o 13 + 0) = clp 99999 (R 4 + 0) := by
      rw [hA.1.2.2.2.2.1, he, nI_lit0]
      exact (imn_in (m := 99999) (by decide) (by omega)).trans (clp_in (m := 99999) (by decide) (by omega)).symm
    have hA1 := RA_miss hA (imn (99999 : Int32) (σ.1 o 13 + 0))
    have hA2 := RA_beat hA1 ((sF σ o 13 (imn (99999 : Int32) (σ.1 o 13 + 0))).1 o 10 + 1)
    have e10 : (sF σ o 13 (imn (99999 : Int32) (σ.1 o 13 + 0))).1 o 10 = R 0 := by
      rw [sF_eq, if_neg (by decide), hA.1.1]
    rw [e10, em] at hA2
    rw [e10, em]
    refine ok_some ⟨?_, ?_, QR.fld.tr QR.fld⟩
    · rw [pm, if_pos h]; rfl
    · rw [ps, if_pos h]; exact hA2
  · rw [if_neg h]
    refine ok_mono (Rp_pass_L11_ok ho hN hB N 0 1000 σ (by omega) (by have := hN.1; omega) hA hT (fun j hj => by omega)) (fun r s q => ⟨?_, ?_, q.2.2⟩)
    · rw [pm, if_neg h]; exact q.1
    · rw [ps, if_neg h]; exact q.2.1
