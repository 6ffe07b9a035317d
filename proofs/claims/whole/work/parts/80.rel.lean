/-! ===== the relation of the two states ===== -/
def TP (σ : St) (tp : Nat) (R : Nat → Int32) : Prop := (∃ L, L ≤ 60 ∧ R 8 = nI L) ∧ σ.1 tp 1 = R 8 ∧ ∀ i, i < 60 → σ.2 (tp + 1) i = R (40 + i)
def WT (σ : St) (wt : Nat) (R : Nat → Int32) : Prop := (∃ W, W ≤ 24 ∧ R 9 = nI W) ∧ σ.1 wt 2 = R 9 ∧ ∀ i, i < 24 → σ.2 (wt + 1) i = R (100 + i)
def KD (R : Nat → Int32) : Prop := (∀ j, j < 6 → ∃ k, k ≤ 6 ∧ R (10 + 5 * j) = nI k) ∧ ∃ b, b ≤ 99999 ∧ R 0 = nI b
def T4 (σ : St) (t0 t1 : Nat) (R : Nat → Int32) : Prop := TW R 124 ∧ TW R 245 ∧ TR σ t0 R 124 ∧ TR σ t1 R 245
def Sn (σ : St) (o t0 t1 tp wt : Nat) (R : Nat → Int32) : Prop := RA σ o R ∧ (∃ N, RN R N) ∧ RB R ∧ T4 σ t0 t1 R ∧ TP σ tp R ∧ WT σ wt R ∧ KD R
def cel (x y : Int32) : Prop := ∀ c, c ≤ 99 → (x = nI c ↔ y = nI c)
def SH (σ τ : St) (s : Nat) : Prop := σ.1 (54 + 2 * s) 1 = τ.2 5 s ∧ (τ.2 5 s = 0 ∨ τ.2 5 s = 8 ∨ τ.2 5 s = 16 ∨ τ.2 5 s = 32) ∧ (∃ n, n ≤ 24 ∧ σ.1 (54 + 2 * s) 2 = nI n ∧ τ.2 6 s = nI n) ∧ ∀ i, i < 24 → cel (σ.2 (55 + 2 * s) i) (τ.2 7 (24 * s + i))
def TT (σ τ : St) : Prop := ∃ n, n ≤ 30 ∧ σ.1 62 1 = nI n ∧ τ.1 0 19 = nI n ∧ ∀ i, i < n → σ.2 63 i = τ.2 13 i
def KK (σ τ : St) : Prop := ((σ.1 3 0 = 20 ∧ σ.1 66 0 = 20) ∧ (σ.1 6 0 = 99 ∧ σ.1 69 0 = 99)) ∧ (σ.1 0 11 = τ.1 0 3 ∧ (σ.1 0 11 = 0 ∨ Sn σ 33 9 12 44 51 (τ.2 2))) ∧ (∀ k, k < 7 → σ.2 64 k = τ.2 4 k) ∧ (∀ s, s < 4 → SH σ τ s) ∧ TT σ τ
def Rl (σ τ : St) : Prop := Sn σ 15 3 6 42 49 (τ.2 1) ∧ KK σ τ
theorem Sn_keep {σ σ' : St} {o t0 t1 tp wt : Nat} {R : Nat → Int32} (h : Sn σ o t0 t1 tp wt R) (h1 : ∀ k, σ'.1 o k = σ.1 o k) (h2 : ∀ a, o + 1 ≤ a → a ≤ o + 6 → σ'.2 a = σ.2 a) (h3 : σ'.1 t0 3 = σ.1 t0 3 ∧ σ'.2 (t0 + 1) = σ.2 (t0 + 1) ∧ σ'.1 t1 3 = σ.1 t1 3 ∧ σ'.2 (t1 + 1) = σ.2 (t1 + 1)) (h4 : σ'.1 tp 1 = σ.1 tp 1 ∧ σ'.2 (tp + 1) = σ.2 (tp + 1)) (h5 : σ'.1 wt 2 = σ.1 wt 2 ∧ σ'.2 (wt + 1) = σ.2 (wt + 1)) : Sn σ' o t0 t1 tp wt R := by
  obtain ⟨a1, a2, a3, ⟨b1, b2, b3, b4⟩, a5, a6, a7⟩ := h
  refine ⟨RA_keep a1 h1 h2, a2, a3, ⟨b1, b2, ⟨?_, ?_⟩, ⟨?_, ?_⟩⟩, ⟨a5.1, ?_, ?_⟩, ⟨a6.1, ?_, ?_⟩, a7⟩
  · rw [h3.1]; exact b3.1
  · intro i hi; rw [h3.2.1]; exact b3.2 i hi
  · rw [h3.2.2.1]; exact b4.1
  · intro i hi; rw [h3.2.2.2]; exact b4.2 i hi
  · rw [h4.1]; exact a5.2.1
  · intro i hi; rw [h4.2]; exact a5.2.2 i hi
  · rw [h5.1]; exact a6.2.1
  · intro i hi; rw [h5.2]; exact a6.2.2 i hi
/-- what the rest of the relation reads of the class -/
def FK (σ σ' : St) : Prop := (∀ o k, ((o = 3 ∨ o = 6 ∨ o = 66 ∨ o = 69) → k = 0) → (o = 62 → k = 1) → (o = 0 ∨ o = 3 ∨ o = 6 ∨ o = 9 ∨ o = 12 ∨ o = 33 ∨ o = 44 ∨ 51 ≤ o) → σ'.1 o k = σ.1 o k) ∧ ∀ a, (a = 10 ∨ a = 13 ∨ (34 ≤ a ∧ a ≤ 39) ∨ a = 45 ∨ (52 ≤ a ∧ a < 65)) → σ'.2 a = σ.2 a
/-- and of the reference -/
def FM (τ τ' : St) : Prop := τ'.1 0 3 = τ.1 0 3 ∧ τ'.1 0 19 = τ.1 0 19 ∧ ∀ a, (a = 2 ∨ a = 4 ∨ a = 5 ∨ a = 6 ∨ a = 7 ∨ a = 13) → τ'.2 a = τ.2 a
theorem FK.rf (σ : St) : FK σ σ := ⟨fun _ _ _ _ _ => rfl, fun _ _ => rfl⟩
theorem FK.tr {σ σ' σ'' : St} (h : FK σ σ') (h' : FK σ' σ'') : FK σ σ'' := ⟨fun o k p q r => (h'.1 o k p q r).trans (h.1 o k p q r), fun a p => (h'.2 a p).trans (h.2 a p)⟩
theorem FM.rf (τ : St) : FM τ τ := ⟨rfl, rfl, fun _ _ => rfl⟩
theorem FM.tr {τ τ' τ'' : St} (h : FM τ τ') (h' : FM τ' τ'') : FM τ τ'' := ⟨h'.1.trans h.1, h'.2.1.trans h.2.1, fun a p => (h'.2.2 a p).trans (h.2.2 a p)⟩
theorem Sn_FK {σ σ' : St} {R : Nat → Int32} (f : FK σ σ') (h : Sn σ 33 9 12 44 51 R) : Sn σ' 33 9 12 44 51 R := by
  refine Sn_keep h (fun k => f.1 33 k (by omega) (by omega) (by omega)) (fun a h1 h2 => f.2 a (by omega)) ⟨?_, ?_, ?_, ?_⟩ ⟨?_, ?_⟩ ⟨?_, ?_⟩
  · exact f.1 9 3 (by omega) (by omega) (by omega)
  · exact f.2 (9 + 1) (by omega)
  · exact f.1 12 3 (by omega) (by omega) (by omega)
  · exact f.2 (12 + 1) (by omega)
  · exact f.1 44 1 (by omega) (by omega) (by omega)
  · exact f.2 (44 + 1) (by omega)
  · exact f.1 51 2 (by omega) (by omega) (by omega)
  · exact f.2 (51 + 1) (by omega)
theorem SH_keep {σ σ' τ τ' : St} {s : Nat} (hs : s < 4) (f : FK σ σ') (m : FM τ τ') (h : SH σ τ s) : SH σ' τ' s := by
  have e1 : ∀ k, σ'.1 (54 + 2 * s) k = σ.1 (54 + 2 * s) k := fun k => f.1 _ k (by omega) (by omega) (by omega)
  have e2 : σ'.2 (55 + 2 * s) = σ.2 (55 + 2 * s) := f.2 _ (by omega)
  unfold SH
  rw [e1, e1, e2, m.2.2 5 (by omega), m.2.2 6 (by omega), m.2.2 7 (by omega)]
  exact h
theorem TT_keep {σ σ' τ τ' : St} (f : FK σ σ') (m : FM τ τ') (h : TT σ τ) : TT σ' τ' := by
  unfold TT
  rw [f.1 62 1 (by omega) (by omega) (by omega), f.2 63 (by omega), m.2.1, m.2.2 13 (by omega)]
  exact h
theorem KK_keep {σ σ' τ τ' : St} (f : FK σ σ') (m : FM τ τ') (h : KK σ τ) : KK σ' τ' := by
  obtain ⟨⟨h1, h2⟩, ⟨h3, h4⟩, h5, h6, h7⟩ := h
  refine ⟨⟨?_, ?_⟩, ⟨?_, ?_⟩, ?_, fun s hs => SH_keep hs f m (h6 s hs), TT_keep f m h7⟩
  · rw [f.1 3 0 (by omega) (by omega) (by omega), f.1 66 0 (by omega) (by omega) (by omega)]; exact h1
  · rw [f.1 6 0 (by omega) (by omega) (by omega), f.1 69 0 (by omega) (by omega) (by omega)]; exact h2
  · rw [f.1 0 11 (by omega) (by omega) (by omega), m.1]; exact h3
  · rw [f.1 0 11 (by omega) (by omega) (by omega), m.2.2 2 (by omega)]
    exact h4.imp_right (Sn_FK f)
  · intro k hk
    rw [f.2 64 (by omega), m.2.2 4 (by omega)]; exact h5 k hk
/-- scratch alone has changed -/
def SX (σ σ' : St) : Prop := (∀ o k, (o < 24 ∨ 33 ≤ o) → o ≠ 46 → ((o = 62 → k = 1) ∧ (o = 66 → k ≠ 3) ∧ (o = 69 → k ≠ 3)) → σ'.1 o k = σ.1 o k) ∧ ∀ a, a ≠ 5 → a ≠ 8 → (a < 22 ∨ (33 ≤ a ∧ a < 65)) → a ≠ 47 → a ≠ 48 → σ'.2 a = σ.2 a
def MX (τ τ' : St) : Prop := τ'.1 0 3 = τ.1 0 3 ∧ τ'.1 0 19 = τ.1 0 19 ∧ ∀ a, (a = 1 ∨ a = 2 ∨ a = 4 ∨ a = 5 ∨ a = 6 ∨ a = 7 ∨ a = 13) → τ'.2 a = τ.2 a
theorem SX.rf (σ : St) : SX σ σ := ⟨fun _ _ _ _ _ => rfl, fun _ _ _ _ _ _ => rfl⟩
theorem SX.tr {σ σ' σ'' : St} (h : SX σ σ') (h' : SX σ' σ'') : SX σ σ'' := ⟨fun o k p q r => (h'.1 o k p q r).trans (h.1 o k p q r), fun a p q r s t => (h'.2 a p q r s t).trans (h.2 a p q r s t)⟩
theorem MX.rf (τ : St) : MX τ τ := ⟨rfl, rfl, fun _ _ => rfl⟩
theorem MX.tr {τ τ' τ'' : St} (h : MX τ τ') (h' : MX τ' τ'') : MX τ τ'' := ⟨h'.1.trans h.1, h'.2.1.trans h.2.1, fun a p => (h'.2.2 a p).trans (h.2.2 a p)⟩
theorem SX.fk {σ σ' : St} (h : SX σ σ') : FK σ σ' := ⟨fun o k p q r => h.1 o k (by omega) (by omega) (by omega), fun a p => h.2 a (by omega) (by omega) (by omega) (by omega) (by omega)⟩
theorem MX.fm {τ τ' : St} (h : MX τ τ') : FM τ τ' := ⟨h.1, h.2.1, fun a p => h.2.2 a (by omega)⟩
theorem Sn_SX {σ σ' : St} {R : Nat → Int32} (f : SX σ σ') (h : Sn σ 15 3 6 42 49 R) : Sn σ' 15 3 6 42 49 R := by
  refine Sn_keep h (fun k => f.1 15 k (by omega) (by omega) (by omega)) (fun a h1 h2 => f.2 a (by omega) (by omega) (by omega) (by omega) (by omega)) ⟨?_, ?_, ?_, ?_⟩ ⟨?_, ?_⟩ ⟨?_, ?_⟩
  · exact f.1 3 3 (by omega) (by omega) (by omega)
  · exact f.2 (3 + 1) (by omega) (by omega) (by omega) (by omega) (by omega)
  · exact f.1 6 3 (by omega) (by omega) (by omega)
  · exact f.2 (6 + 1) (by omega) (by omega) (by omega) (by omega) (by omega)
  · exact f.1 42 1 (by omega) (by omega) (by omega)
  · exact f.2 (42 + 1) (by omega) (by omega) (by omega) (by omega) (by omega)
  · exact f.1 49 2 (by omega) (by omega) (by omega)
  · exact f.2 (49 + 1) (by omega) (by omega) (by omega) (by omega) (by omega)
theorem Rl_keep {σ σ' τ τ' : St} (f : SX σ σ') (m : MX τ τ') (h : Rl σ τ) : Rl σ' τ' := by
  refine ⟨?_, KK_keep f.fk m.fm h.2⟩
  rw [m.2.2 1 (by omega)]
  exact Sn_SX f h.1
theorem SX.sq {σ σ' : St} (h : SQ σ σ') : SX σ σ' := ⟨fun o k _ _ _ => by rw [h.1], fun a p q r _ _ => h.2 a p (by omega)⟩
theorem SX.sb {σ σ' : St} (h : SB σ σ') : SX σ σ' := ⟨fun o k _ _ _ => by rw [h.1], fun a p q r _ _ => h.2 a p (by omega) (by omega)⟩
theorem SX.c5 {σ σ' : St} (h : Cq 5 σ σ') : SX σ σ' := SX.sq (SQ.c5 h)
theorem SX.c8 {σ σ' : St} (h : Cq 8 σ σ') : SX σ σ' := SX.sq (SQ.c8 h)
theorem SX.x5 {o : Nat} {σ σ' : St} (h : Cq (xt o + 2) σ σ') : SX σ σ' := SX.sq (SQ.x5 h)
theorem SX.x8 {o : Nat} {σ σ' : St} (h : Cq (xt o + 3 + 2) σ σ') : SX σ σ' := SX.sq (SQ.x8 h)
theorem SX.qr {σ σ' : St} (h : QR 24 σ σ') : SX σ σ' := ⟨fun o k p _ _ => by rw [h.1 o (by omega)], fun a p q r _ _ => h.2 a p (by omega) (by omega)⟩
theorem MX.mq {τ τ' : St} (h : Mq τ τ') : MX τ τ' := ⟨by rw [h.1], by rw [h.1], fun a p => h.2 a (by omega) (by omega)⟩
theorem FK.qr {σ σ' : St} (h : QR 15 σ σ') : FK σ σ' := ⟨fun o k _ _ p => by rw [h.1 o (by omega)], fun a p => h.2 a (by omega) (by omega) (by omega)⟩
theorem FM.qm {τ τ' : St} (h : QM τ τ') : FM τ τ' := ⟨by rw [h.1], by rw [h.1], fun a p => h.2 a (by omega) (by omega) (by omega) (by omega)⟩
theorem FM.put1 {τ : St} {i : Nat} {v : Int32} : FM τ (sA τ 1 i v) := ⟨rfl, rfl, fun a p => sA_ne (by omega)⟩
theorem Rl_TX {σ τ : St} (h : Rl σ τ) : TX σ 15 (τ.2 1) := ⟨h.1.2.2.2.1.1, h.1.2.2.2.1.2.1, h.1.2.2.2.1.2.2.1, h.1.2.2.2.1.2.2.2, h.2.1.1.1, h.2.1.2.1⟩
/-- the rope now and its row have changed -/
theorem Sn_new {σ σ' : St} {R S : Nat → Int32} (h : Sn σ 15 3 6 42 49 R) (hq : QR 15 σ σ') (hA : RA σ' 15 S) (hN : ∃ N, RN S N) (hB : RB S) (hK : KD S) (h8 : S 8 = R 8) (h9 : S 9 = R 9) (h40 : ∀ i, 40 ≤ i → S i = R i) : Sn σ' 15 3 6 42 49 S := by
  obtain ⟨a1, a2, a3, ⟨b1, b2, b3, b4⟩, a5, a6, a7⟩ := h
  have f : ∀ o k, o ≠ 15 → σ'.1 o k = σ.1 o k := fun o k p => by rw [hq.1 o p]
  refine ⟨hA, hN, hB, ⟨TW_congr (fun i hi => h40 i (by omega)) b1, TW_congr (fun i hi => h40 i (by omega)) b2, TR_congr (fun i hi => h40 i (by omega)) ⟨?_, ?_⟩, TR_congr (fun i hi => h40 i (by omega)) ⟨?_, ?_⟩⟩, ⟨?_, ?_, ?_⟩, ⟨?_, ?_, ?_⟩, hK⟩
  · rw [f 3 3 (by omega)]; exact b3.1
  · intro i hi; rw [hq.2 (3 + 1) (by omega) (by omega) (by omega)]; exact b3.2 i hi
  · rw [f 6 3 (by omega)]; exact b4.1
  · intro i hi; rw [hq.2 (6 + 1) (by omega) (by omega) (by omega)]; exact b4.2 i hi
  · rw [h8]; exact a5.1
  · rw [h8, f 42 1 (by omega)]; exact a5.2.1
  · intro i hi; rw [h40 _ (by omega), hq.2 (42 + 1) (by omega) (by omega) (by omega)]; exact a5.2.2 i hi
  · rw [h9]; exact a6.1
  · rw [h9, f 49 2 (by omega)]; exact a6.2.1
  · intro i hi; rw [h40 _ (by omega), hq.2 (49 + 1) (by omega) (by omega) (by omega)]; exact a6.2.2 i hi
theorem Rl_new {σ τ σ' τ' : St} (h : Rl σ τ) (hq : QR 15 σ σ') (hm : FM τ τ') (hA : RA σ' 15 (τ'.2 1)) (hN : ∃ N, RN (τ'.2 1) N) (hB : RB (τ'.2 1)) (hK : KD (τ'.2 1)) (h8 : τ'.2 1 8 = τ.2 1 8) (h9 : τ'.2 1 9 = τ.2 1 9) (h40 : ∀ i, 40 ≤ i → τ'.2 1 i = τ.2 1 i) : Rl σ' τ' := ⟨Sn_new h.1 hq hA hN hB hK h8 h9 h40, KK_keep (FK.qr hq) hm h.2⟩
theorem KD_put {R : Nat → Int32} {i : Nat} {v : Int32} (h : KD R) (h0 : i = 0 → ∃ b, b ≤ 99999 ∧ v = nI b) (hj : ∀ j, j < 6 → i = 10 + 5 * j → ∃ k, k ≤ 6 ∧ v = nI k) : KD (upd R i v) := by
  refine ⟨fun j hj' => ?_, ?_⟩
  · by_cases e : 10 + 5 * j = i
    · rw [e, upd_s]; exact hj j hj' e.symm
    · rw [upd_n e]; exact h.1 j hj'
  · by_cases e : 0 = i
    · rw [← e, upd_s]; exact h0 e.symm
    · rw [upd_n e]; exact h.2
/-- one number of the row, not a count and not of text, tape or waiting ones -/
theorem Rl_put {σ τ σ' : St} {i : Nat} {v : Int32} (h : Rl σ τ) (hq : QR 15 σ σ') (hA : RA σ' 15 (upd (τ.2 1) i v)) (hi : i < 40 ∧ i ≠ 0 ∧ i ≠ 2 ∧ i ≠ 4 ∧ i ≠ 8 ∧ i ≠ 9) (hn : ∀ j, j < 6 → i = 14 + 5 * j → v = 0 ∨ v = 1) (hb : ∀ j, j < 6 → i = 12 + 5 * j → ∃ b, b ≤ 99 ∧ v = nI b) (hk : ∀ j, j < 6 → i = 10 + 5 * j → ∃ k, k ≤ 6 ∧ v = nI k) : Rl σ' (sA τ 1 i v) := by
  obtain ⟨N, hN⟩ := h.1.2.1
  refine Rl_new h hq FM.put1 ?_ ?_ ?_ ?_ ?_ ?_ ?_
  · rw [sA_eq]; exact hA
  · rw [sA_eq]; exact ⟨N, RN_put hN (by omega) hn⟩
  · rw [sA_eq]; exact RB_put h.1.2.2.1 hb (fun e => by omega)
  · rw [sA_eq]; exact KD_put h.1.2.2.2.2.2.2 (fun e => by omega) hk
  · rw [sA_eq]; exact upd_n (by omega)
  · rw [sA_eq]; exact upd_n (by omega)
  · intro k hk'; rw [sA_eq]; exact upd_n (by omega)
/-! what is asked of arguments -/
def wi (v lo hi : Int32) : Bool := decide (lo ≤ v) && decide (v ≤ hi)
theorem wi_no1 {v lo hi : Int32} (h : v < lo) : wi v lo hi = false := by
  rw [wi, decide_eq_false (by rw [le_i]; rw [lt_i] at h; omega)]
  rfl
theorem wi_no2 {v lo hi : Int32} (h : hi < v) : wi v lo hi = false := by
  rw [wi, decide_eq_false (p := v ≤ hi) (by rw [le_i]; rw [lt_i] at h; omega), Bool.and_false]
theorem wi_yes {v lo hi : Int32} (h1 : ¬ v < lo) (h2 : ¬ hi < v) : wi v lo hi = true := by
  rw [wi, decide_eq_true (p := lo ≤ v) (by rw [le_i]; rw [lt_i] at h1; omega), decide_eq_true (p := v ≤ hi) (by rw [le_i]; rw [lt_i] at h2; omega)]
  rfl
theorem Mn_isWithin_eq {p m : Int32} {σ : St} : Mn_isWithin p m σ = some (b01 (wi p 0 m), σ) := by
  rw [Mn_isWithin]
  by_cases h : p < 0
  · rw [if_pos h, wi_no1 h]; rfl
  · rw [if_neg h]
    by_cases h2 : m < p
    · rw [if_pos h2, wi_no2 h2]; rfl
    · rw [if_neg h2, wi_yes h h2]; rfl
theorem Mo_in_eq {p a b : Int32} {τ : St} : Mo_in p a b τ = some (b01 (wi p a b), τ) := by
  rw [Mo_in]
  by_cases h : p < a
  · rw [if_pos h, wi_no1 h]; rfl
  · rw [if_neg h]
    by_cases h2 : b < p
    · rw [if_pos h2, wi_no2 h2]; rfl
    · rw [if_neg h2, wi_yes h h2]; rfl
theorem Mn_isKindAndMark_eq {p : Int32} {σ : St} : Mn_isKindAndMark p σ = some (b01 (wi p 0 69), σ) := by rw [Mn_isKindAndMark, Mn_isWithin_eq, bnd_t, isB_b, grd_t]
theorem Mn_isTreaty_eq {p : Int32} {σ : St} : Mn_isTreaty p σ = some (b01 (wi p 0 63), σ) := by rw [Mn_isTreaty, Mn_isWithin_eq, bnd_t, isB_b, grd_t]
theorem Mn_isUse_eq {p : Int32} {σ : St} : Mn_isUse p σ = some (b01 (wi p 0 1), σ) := by rw [Mn_isUse, Mn_isWithin_eq, bnd_t, isB_b, grd_t]
theorem Mn_isSheet_eq {p : Int32} {σ : St} : Mn_isSheet p σ = some (b01 (wi p 0 3), σ) := by rw [Mn_isSheet, Mn_isWithin_eq, bnd_t, isB_b, grd_t]
theorem Mo_isKm_eq {p : Int32} {σ : St} : Mo_isKm p σ = some (b01 (wi p 0 69), σ) := by rw [Mo_isKm, Mo_in_eq, bnd_t, isB_b, grd_t]
theorem Mo_isTreaty_eq {p : Int32} {σ : St} : Mo_isTreaty p σ = some (b01 (wi p 0 63), σ) := by rw [Mo_isTreaty, Mo_in_eq, bnd_t, isB_b, grd_t]
theorem Mo_isSheet_eq {p : Int32} {σ : St} : Mo_isSheet p σ = some (b01 (wi p 0 3), σ) := by rw [Mo_isSheet, Mo_in_eq, bnd_t, isB_b, grd_t]
theorem Mo_isJumper_eq {p : Int32} {τ : St} : Mo_isJumper p τ = some (b01 (wi p 0 (τ.2 1 2 - 1)), τ) := by rw [Mo_isJumper, g2, grd_t, z2, Mo_in_eq, bnd_t, isB_b, grd_t]
theorem Rp_has_eq {R : Nat → Int32} {o N : Nat} {p : Int32} (hN : RN R N) {σ : St} (hA : RA σ o R) : Rp_has o p σ = some (b01 (wi p 0 (R 2 - 1)), σ) := by
  have h6 := hN.1
  rw [Rp_has, hA.1.2.2.1, hN.2.1]
  by_cases h : p < 0
  · rw [if_pos h, wi_no1 h]; rfl
  · rw [if_neg h]
    have e : (nI N - 1).toInt = (N : Int) - 1 := pk_sub_toInt (a := N) (b := 1) (by omega) (by omega)
    by_cases h2 : nI N ≤ p
    · rw [if_pos h2, wi_no2 (by rw [lt_i, e]; rw [le_i, nI_toInt (by omega)] at h2; omega)]; rfl
    · rw [if_neg h2, wi_yes h (by rw [lt_i, e]; rw [le_i, nI_toInt (by omega)] at h2; omega)]; rfl
theorem wi_in {p : Int32} {m : Nat} (hm : m < 2 ^ 31) (h : wi p 0 (nI m) = true) : ∃ j, j ≤ m ∧ p = nI j := by
  rw [wi, Bool.and_eq_true] at h
  have h1 := of_decide_eq_true h.1
  have h2 := of_decide_eq_true h.2
  obtain ⟨j, hj, he⟩ := nI_of (x := p) (by rw [le_i] at h1; rw [lt_i]; omega)
  exact ⟨j, by rw [he] at h2; exact (nI_leI hj hm).mp h2, he⟩
theorem has_in {R : Nat → Int32} {N : Nat} {p : Int32} (hN : RN R N) (h : wi p 0 (R 2 - 1) = true) : ∃ j, j < N ∧ j < 6 ∧ p = nI j := by
  have h6 := hN.1
  rw [wi, Bool.and_eq_true, hN.2.1] at h
  have h1 := of_decide_eq_true h.1
  have h2 := of_decide_eq_true h.2
  have e : (nI N - 1).toInt = (N : Int) - 1 := pk_sub_toInt (a := N) (b := 1) (by omega) (by omega)
  obtain ⟨j, hj, he⟩ := nI_of (x := p) (by rw [le_i] at h1; rw [lt_i]; omega)
  rw [he, le_i, e, nI_toInt hj] at h2
  exact ⟨j, by omega, by omega, he⟩
theorem Mo_becomes_eq {i : Nat} {v : Int32} (hi : i < 366) {τ : St} : Mo_becomes (nI i) v τ = some (τ.2 1 i, sA τ 1 i v) := by
  rw [Mo_becomes, inb_nI hi (by omega), grd_t, nam_t, grd_t, nas_t, nI_clamp (by omega)]
theorem ix0 {j : Nat} : (10 : Int32) + 5 * nI j = nI (10 + 5 * j) := by
  rw [show (10 : Int32) = nI 10 from rfl, show (5 : Int32) = nI 5 from rfl, pk_mul, nI_add]
theorem ix2 {j : Nat} : ((10 : Int32) + 5 * nI j) + 2 = nI (12 + 5 * j) := (ix_of (j := j) (w := 2)).trans (by rw [show 10 + 5 * j + 2 = 12 + 5 * j by omega])
theorem ix4 {j : Nat} : ((10 : Int32) + 5 * nI j) + 4 = nI (14 + 5 * j) := (ix_of (j := j) (w := 4)).trans (by rw [show 10 + 5 * j + 4 = 14 + 5 * j by omega])
/-! an operation on both sides -/
def OK2 (x y : Option (Int32 × St)) : Prop := s2 x y (fun r σ q τ => q = r ∧ Rl σ τ)
theorem of_OK2 {x y : Option (Int32 × St)} (h : OK2 x y) : ∃ r σ τ, x = some (r, σ) ∧ y = some (r, τ) ∧ Rl σ τ := by
  obtain ⟨r, σ, q, τ, h1, h2, h3, h4⟩ := h
  subst h3
  exact ⟨q, σ, τ, h1, h2, h4⟩
theorem ok2 {r : Int32} {σ τ : St} (h : Rl σ τ) : OK2 (some (r, σ)) (some (r, τ)) := s2_some ⟨rfl, h⟩
theorem ok2_l {x y : Option (Int32 × St)} {K : Int32 → St → Option (Int32 × St)} {Q : Int32 → St → Prop} (h : okk x Q) (k : ∀ r σ, Q r σ → OK2 (K r σ) y) : OK2 (bnd x K) y := s2_l h k
theorem ok2_r {x y : Option (Int32 × St)} {L : Int32 → St → Option (Int32 × St)} {Q : Int32 → St → Prop} (h : okk y Q) (k : ∀ r σ, Q r σ → OK2 x (L r σ)) : OK2 x (bnd y L) := s2_r h k
theorem Rl_err {σ τ : St} {k : Nat} (h : Rl σ τ) (hk : k < 7) : Rl (sA σ 64 k (σ.2 64 k + 1)) (sA τ 4 k (τ.2 4 k + 1)) := by
  obtain ⟨h0, ⟨h1, h2, h3, h4, h5⟩⟩ := h
  have hS : ∀ {R : Nat → Int32}, Sn σ 33 9 12 44 51 R → Sn (sA σ 64 k (σ.2 64 k + 1)) 33 9 12 44 51 R := fun q => Sn_keep q (fun _ => rfl) (fun a _ _ => sA_ne (by omega)) ⟨rfl, sA_ne (by decide), rfl, sA_ne (by decide)⟩ ⟨rfl, sA_ne (by decide)⟩ ⟨rfl, sA_ne (by decide)⟩
  refine ⟨?_, h1, ⟨h2.1, h2.2.imp_right (fun q => ?_)⟩, fun i hi => ?_, fun s hs => ?_, ?_⟩
  · rw [sA_ne (show 1 ≠ 4 by decide)]
    exact Sn_keep h0 (fun _ => rfl) (fun a _ _ => sA_ne (by omega)) ⟨rfl, sA_ne (by decide), rfl, sA_ne (by decide)⟩ ⟨rfl, sA_ne (by decide)⟩ ⟨rfl, sA_ne (by decide)⟩
  · rw [sA_ne (show 2 ≠ 4 by decide)]
    exact hS q
  · rw [sA_eq, sA_eq]
    by_cases e : i = k
    · rw [e, upd_s, upd_s, h3 k hk]
    · rw [upd_n e, upd_n e]; exact h3 i hi
  · have := h4 s hs
    unfold SH at this ⊢
    rw [sA_ne (show 55 + 2 * s ≠ 64 by omega), sA_ne (show 5 ≠ 4 by decide), sA_ne (show 6 ≠ 4 by decide), sA_ne (show 7 ≠ 4 by decide)]
    exact this
  · unfold TT at h5 ⊢
    rw [sA_ne (show 63 ≠ 64 by decide), sA_ne (show 13 ≠ 4 by decide)]
    exact h5
theorem err_g {σ τ : St} {k : Nat} {e : Int32} (hk : k < 7) (h1 : (-1000000000 : Int32) - e = nI k) (h2 : (-1000000000 : Int32) - nI k = e) (h : Rl σ τ) : OK2 (bnd (Mn_error (nI k) σ) (fun r s => some (r, s))) (bnd (Mo_error e τ) (fun r s => some (r, s))) := by
  have hb : inb (nI k) 7 = true := inb_nI hk (by decide)
  rw [Mn_error, Mo_error, nam_t, h1, hb, grd_t, grd_t, nas_t, bnd_t, grd_t, grd_t, nas_t, bnd_t, nI_clamp (by omega), h2]
  exact ok2 (Rl_err h hk)
theorem err1 {σ τ : St} (h : Rl σ τ) : OK2 (bnd (Mn_error 1 σ) (fun r s => some (r, s))) (bnd (Mo_error (-1000000001) τ) (fun r s => some (r, s))) := err_g (k := 1) (by decide) (by decide) (by decide) h
theorem err2 {σ τ : St} (h : Rl σ τ) : OK2 (bnd (Mn_error 2 σ) (fun r s => some (r, s))) (bnd (Mo_error (-1000000002) τ) (fun r s => some (r, s))) := err_g (k := 2) (by decide) (by decide) (by decide) h
theorem err3 {σ τ : St} (h : Rl σ τ) : OK2 (bnd (Mn_error 3 σ) (fun r s => some (r, s))) (bnd (Mo_error (-1000000003) τ) (fun r s => some (r, s))) := err_g (k := 3) (by decide) (by decide) (by decide) h
theorem err4 {σ τ : St} (h : Rl σ τ) : OK2 (bnd (Mn_error 4 σ) (fun r s => some (r, s))) (bnd (Mo_error (-1000000004) τ) (fun r s => some (r, s))) := err_g (k := 4) (by decide) (by decide) (by decide) h
theorem err5 {σ τ : St} (h : Rl σ τ) : OK2 (bnd (Mn_error 5 σ) (fun r s => some (r, s))) (bnd (Mo_error (-1000000005) τ) (fun r s => some (r, s))) := err_g (k := 5) (by decide) (by decide) (by decide) h
theorem err6 {σ τ : St} (h : Rl σ τ) : OK2 (bnd (Mn_error 6 σ) (fun r s => some (r, s))) (bnd (Mo_error (-1000000006) τ) (fun r s => some (r, s))) := err_g (k := 6) (by decide) (by decide) (by decide) h
