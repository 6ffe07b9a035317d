/-! ===== texts untold, laws, the tape, waiting ones, images ===== -/
theorem Rl_mk {σ τ σ' τ' : St} (h : Rl σ τ) (f : FK σ σ') (m : FM τ τ') (hS : Sn σ' 15 3 6 42 49 (τ'.2 1)) : Rl σ' τ' := ⟨hS, KK_keep f m h.2⟩
theorem RA_c {σ : St} {o : Nat} {R S : Nat → Int32} (h : ∀ i, i < 40 → S i = R i) (hA : RA σ o R) : RA σ o S := by
  obtain ⟨⟨h1, h2, h3, h4, h5, h6, h7, h8⟩, h9⟩ := hA
  refine ⟨⟨?_, ?_, ?_, ?_, ?_, ?_, ?_, ?_⟩, fun w j hw hj => ?_⟩
  · rw [h 0 (by decide)]; exact h1
  · rw [h 1 (by decide)]; exact h2
  · rw [h 2 (by decide)]; exact h3
  · rw [h 3 (by decide)]; exact h4
  · rw [h 4 (by decide)]; exact h5
  · rw [h 5 (by decide)]; exact h6
  · rw [h 6 (by decide)]; exact h7
  · rw [h 7 (by decide)]; exact h8
  · rw [h _ (by omega)]; exact h9 w j hw hj
theorem RN_c {R S : Nat → Int32} {N : Nat} (h : ∀ i, i < 40 → S i = R i) (hN : RN R N) : RN S N := ⟨hN.1, by rw [h 2 (by decide)]; exact hN.2.1, fun j hj => by rw [h _ (by omega)]; exact hN.2.2 j hj⟩
theorem RB_c {R S : Nat → Int32} (h : ∀ i, i < 40 → S i = R i) (hB : RB R) : RB S := ⟨fun j hj => by rw [h _ (by omega)]; exact hB.1 j hj, by rw [h 4 (by decide)]; exact hB.2⟩
theorem KD_c {R S : Nat → Int32} (h : ∀ i, i < 40 → S i = R i) (hK : KD R) : KD S := ⟨fun j hj => by rw [h _ (by omega)]; exact hK.1 j hj, by rw [h 0 (by decide)]; exact hK.2⟩
theorem dpt_c {R S : Nat → Int32} {t : Nat} : ∀ n, n ≤ 60 → (∀ i, t ≤ i → i < t + 121 → S i = R i) → dpt S t n = dpt R t n := by
  intro n
  induction n with
  | zero => intro _ _; rfl
  | succ n ih =>
    intro hn h
    rw [dpt, dpt, ih (by omega) h, h _ (by omega) (by omega), h _ (by omega) (by omega)]
theorem TW_c {R S : Nat → Int32} {t : Nat} (h : ∀ i, t ≤ i → i < t + 121 → S i = R i) (hW : TW R t) : TW S t := by
  obtain ⟨len, h1, h2, h3⟩ := hW
  exact ⟨len, h1, by rw [h t (Nat.le_refl t) (by omega)]; exact h2, h3.imp_right fun q => by rw [dpt_c len h1 h]; exact q⟩
theorem TR_c {σ : St} {o : Nat} {R S : Nat → Int32} {t : Nat} (h : ∀ i, t ≤ i → i < t + 121 → S i = R i) (hW : TW R t) (hR : TR σ o R t) : TR σ o S t := by
  obtain ⟨len, h1, h2, h3⟩ := hW
  refine ⟨by rw [h t (Nat.le_refl t) (by omega)]; exact hR.1, fun i hi => ?_⟩
  rw [h t (Nat.le_refl t) (by omega)] at hi
  have hl : i < len := by rw [h2, nI_clamp (by omega)] at hi; exact hi
  rw [h _ (by omega) (by omega), h _ (by omega) (by omega)]
  exact hR.2 i hi
theorem TP_c {σ : St} {tp : Nat} {R S : Nat → Int32} (h : ∀ i, i < 100 → S i = R i) (hP : TP σ tp R) : TP σ tp S := ⟨by rw [h 8 (by decide)]; exact hP.1, by rw [h 8 (by decide)]; exact hP.2.1, fun i hi => by rw [h _ (by omega)]; exact hP.2.2 i hi⟩
theorem WT_c {σ : St} {wt : Nat} {R S : Nat → Int32} (h : ∀ i, i < 124 → S i = R i) (hP : WT σ wt R) : WT σ wt S := ⟨by rw [h 9 (by decide)]; exact hP.1, by rw [h 9 (by decide)]; exact hP.2.1, fun i hi => by rw [h _ (by omega)]; exact hP.2.2 i hi⟩
theorem Sn_c {σ : St} {o t0 t1 tp wt : Nat} {R S : Nat → Int32} (h : ∀ i, i < 366 → S i = R i) (q : Sn σ o t0 t1 tp wt R) : Sn σ o t0 t1 tp wt S := by
  obtain ⟨a1, ⟨N, a2⟩, a3, ⟨b1, b2, b3, b4⟩, a5, a6, a7⟩ := q
  have h0 : ∀ i, 124 ≤ i → i < 124 + 121 → S i = R i := fun i _ hi => h i (by omega)
  have h1 : ∀ i, 245 ≤ i → i < 245 + 121 → S i = R i := fun i _ hi => h i (by omega)
  exact ⟨RA_c (fun i hi => h i (by omega)) a1, ⟨N, RN_c (fun i hi => h i (by omega)) a2⟩, RB_c (fun i hi => h i (by omega)) a3, ⟨TW_c h0 b1, TW_c h1 b2, TR_c h0 b1 b3, TR_c h1 b2 b4⟩, TP_c (fun i hi => h i (by omega)) a5, WT_c (fun i hi => h i (by omega)) a6, KD_c (fun i hi => h i (by omega)) a7⟩
/-- one text has changed -/
theorem Sn_text {σ σ' : St} {R S : Nat → Int32} {u : Nat} (hu : u < 2) (h : Sn σ 15 3 6 42 49 R) (hS : ∀ i, i < 366 → (i < 124 + 121 * u ∨ 245 + 121 * u ≤ i) → S i = R i) (f1 : ∀ o k, (o = 3 + 3 * u → k ≠ 3) → σ'.1 o k = σ.1 o k) (f2 : ∀ a, a ≠ 4 + 3 * u → σ'.2 a = σ.2 a) (hW : TW S (124 + 121 * u)) (hT : TR σ' (3 + 3 * u) S (124 + 121 * u)) : Sn σ' 15 3 6 42 49 S := by
  obtain ⟨a1, ⟨N, a2⟩, a3, ⟨b1, b2, b3, b4⟩, a5, a6, a7⟩ := h
  have h40 : ∀ i, i < 40 → S i = R i := fun i hi => hS i (by omega) (by omega)
  refine ⟨RA_c h40 (RA_keep a1 (fun k => f1 15 k (by omega)) (fun a _ _ => f2 a (by omega))), ⟨N, RN_c h40 a2⟩, RB_c h40 a3, ?_, TP_c (fun i hi => hS i (by omega) (by omega)) ⟨a5.1, ?_, fun i hi => ?_⟩, WT_c (fun i hi => hS i (by omega) (by omega)) ⟨a6.1, ?_, fun i hi => ?_⟩, KD_c h40 a7⟩
  · match u, hu with
    | 0, _ =>
      have h1 : ∀ i, 245 ≤ i → i < 245 + 121 → S i = R i := fun i _ hi => hS i (by omega) (by omega)
      refine ⟨hW, TW_c h1 b2, hT, TR_c h1 b2 ⟨?_, fun i hi => ?_⟩⟩
      · rw [f1 6 3 (by omega)]; exact b4.1
      · rw [f2 (6 + 1) (by omega)]; exact b4.2 i hi
    | 1, _ =>
      have h0 : ∀ i, 124 ≤ i → i < 124 + 121 → S i = R i := fun i _ hi => hS i (by omega) (by omega)
      refine ⟨TW_c h0 b1, hW, TR_c h0 b1 ⟨?_, fun i hi => ?_⟩, hT⟩
      · rw [f1 3 3 (by omega)]; exact b3.1
      · rw [f2 (3 + 1) (by omega)]; exact b3.2 i hi
    | u + 2, hu => exact absurd hu (by omega)
  · rw [f1 42 1 (by omega)]; exact a5.2.1
  · rw [f2 (42 + 1) (by omega)]; exact a5.2.2 i hi
  · rw [f1 49 2 (by omega)]; exact a6.2.1
  · rw [f2 (49 + 1) (by omega)]; exact a6.2.2 i hi
theorem tx_i {u : Nat} (hu : u < 2) : inb (nI u) ([3, 6] : List Nat).length = true := inb_nI hu (by decide)
theorem tx_w {u : Nat} (hu : u < 2) {K : Nat → Option (Int32 × St)} : wid (([3, 6] : List Nat).getD (nI u).toNatClampNeg 0) K = K (3 + 3 * u) := by
  rw [nI_clamp (by omega)]
  match u, hu with
  | 0, _ => rfl
  | 1, _ => rfl
  | u + 2, hu => exact absurd hu (by omega)
theorem ixt {u : Nat} : (124 : Int32) + 121 * nI u = nI (124 + 121 * u) := by
  rw [show (124 : Int32) = nI 124 from rfl, show (121 : Int32) = nI 121 from rfl, pk_mul, nI_add]
theorem T4_u {σ : St} {R : Nat → Int32} (h : T4 σ 3 6 R) {u : Nat} (hu : u < 2) : TW R (124 + 121 * u) ∧ TR σ (3 + 3 * u) R (124 + 121 * u) := by
  match u, hu with
  | 0, _ => exact ⟨h.1, h.2.2.1⟩
  | 1, _ => exact ⟨h.2.1, h.2.2.2⟩
  | u + 2, hu => exact absurd hu (by omega)
theorem FK_txf {σ : St} {u : Nat} {v : Int32} (hu : u < 2) : FK σ (sF σ (3 + 3 * u) 3 v) := by
  refine ⟨fun o k h1 _ h3 => ?_, fun _ _ => rfl⟩
  by_cases e : o = 3 + 3 * u
  · rw [e, sF_eq, if_neg (by omega)]
  · rw [sF_ne e]
theorem op_untell {σ τ : St} (h : Rl σ τ) (a : Int32) : OK2 (Mn_untell a σ) (Mo_untell a τ) := by
  rw [Mn_untell, Mo_untell, Mn_isUse_eq, bnd_t, Mo_in_eq, bnd_t]
  cases e1 : wi a 0 1 with
  | false => rw [if_bf, if_bf]; exact err1 h
  | true =>
    obtain ⟨u, hu, rfl⟩ := wi_in (m := 1) (by decide) e1
    have hu2 : u < 2 := by omega
    obtain ⟨hW, hT⟩ := T4_u h.1.2.2.2.1 hu2
    have hR : Rl (sF σ (3 + 3 * u) 3 0) (sA τ 1 (124 + 121 * u) 0) := by
      refine Rl_mk h (FK_txf hu2) FM.put1 ?_
      rw [sA_eq]
      refine Sn_text hu2 h.1 (fun i hi h1 => upd_n (by omega)) (fun o k h1 => ?_) (fun a _ => rfl) ⟨0, by decide, upd_s, Or.inl rfl⟩ ⟨?_, fun i hi => ?_⟩
      · by_cases e : o = 3 + 3 * u
        · rw [e, sF_eq, if_neg (h1 e)]
        · rw [sF_ne e]
      · rw [sF_eq, if_pos rfl, upd_s]
      · rw [upd_s, z0] at hi
        exact absurd hi (by omega)
    rw [if_bt, if_bt, tx_i hu2, grd_t, tx_w hu2, ixt, Mo_becomes_eq (by omega), bnd_t, Tx_isTold, hT.1]
    by_cases h0 : τ.2 1 (124 + 121 * u) ≤ 0
    · rw [if_pos h0, if_pos h0, bnd_t, if00, grd_t, tx_w hu2, nas_t]
      exact ok2 hR
    · rw [if_neg h0, if_neg h0, bnd_t, if10, grd_t, tx_w hu2, nas_t]
      exact ok2 hR
theorem op_law {σ τ : St} (h : Rl σ τ) (a b c d : Int32) : OK2 (Mn_law a b c d σ) (Mo_law a b c d τ) := by
  have hT := Rl_TX h
  rw [Mn_law, Mo_law, Mn_isUse_eq, bnd_t, Mo_in_eq, bnd_t]
  cases e1 : wi a 0 1 with
  | false => rw [if_bf, if_bf]; exact err1 h
  | true =>
    obtain ⟨u, hu, rfl⟩ := wi_in (m := 1) (by decide) e1
    have hu2 : u < 2 := by omega
    rw [if_bt, if_bt, tx_i hu2, grd_t, tx_w hu2]
    clear e1
    match u, hu2 with
    | 0, _ =>
      refine ok2_l (Tx_gives_ok (o := 3) (mx := 20) (by decide) hT.2.2.2.2.1 hT.1 hT.2.2.1) (fun r s p => ?_)
      refine ok2_r (Mo_gives0 hT.1) (fun q s' p' => ?_)
      rw [p.1, p'.1]
      exact ok2 (Rl_keep (SX.c5 p.2) (MX.mq p'.2) h)
    | 1, _ =>
      refine ok2_l (Tx_gives_ok (o := 6) (mx := 99) (by decide) hT.2.2.2.2.2 hT.2.1 hT.2.2.2.1) (fun r s p => ?_)
      refine ok2_r (Mo_gives1 hT.2.1) (fun q s' p' => ?_)
      rw [p.1, p'.1]
      exact ok2 (Rl_keep (SX.c8 p.2) (MX.mq p'.2) h)
    | u + 2, hu => exact absurd hu (by omega)
/-! the tape -/
theorem nat32 (z : Int64) : (Int64.toInt32 z).toBitVec.toNat = z.toBitVec.toNat % 2 ^ 32 := by
  have e : (Int64.toInt32 z).toBitVec = z.toBitVec.signExtend 32 := rfl
  rw [e, BitVec.signExtend_eq_setWidth_of_le _ (by decide), BitVec.toNat_setWidth]
theorem and255L (z : Int64) : (z &&& 255).toBitVec.toNat = z.toBitVec.toNat % 256 := by
  have e : (z &&& 255).toBitVec = z.toBitVec &&& (255#64) := rfl
  rw [e, BitVec.toNat_and]
  exact Nat.and_two_pow_sub_one_eq_mod _ 8
theorem lush_nat (x : Int64) (y : Int32) (k : Nat) (h : (y.toInt64.toUInt64 &&& Int64.toUInt64 63).toNat % 64 = k) : (lush x y).toBitVec.toNat = x.toBitVec.toNat / 2 ^ k := by
  have e : (lush x y).toBitVec.toNat = (x.toUInt64 >>> (y.toInt64.toUInt64 &&& Int64.toUInt64 63)).toNat := rfl
  rw [e, UInt64.toNat_shiftRight, h, Nat.shiftRight_eq_div_pow]
  rfl
theorem byte_L (x : Int64) (y : Int32) (k : Nat) (h : (y.toInt64.toUInt64 &&& Int64.toUInt64 63).toNat % 64 = k) : Int64.toInt32 (lush x y) &&& 255 = nI (x.toBitVec.toNat / 2 ^ k % 256) := by
  rw [pk_and (Int64.toInt32 (lush x y)) 8 (by decide), nat32, lush_nat x y k h]
  generalize x.toBitVec.toNat / 2 ^ k = a
  congr 1
  omega
theorem byte_R (x : Int64) (y : Int32) (k : Nat) (hk : k = 0 ∨ k = 8 ∨ k = 16 ∨ k = 24 ∨ k = 32 ∨ k = 40 ∨ k = 48 ∨ k = 56) (h : ((y.toInt64 &&& 63).toBitVec.smod 64).toNat = k) : Int64.toInt32 (lsh x y &&& 255) = nI (x.toBitVec.toNat / 2 ^ k % 256) := by
  apply Int32.toBitVec_inj.mp
  apply BitVec.eq_of_toNat_eq
  rw [nat32, and255L, pk_tn (by omega)]
  have e2 : (lsh x y).toInt = x.toInt / 2 ^ k := by
    have e : (lsh x y).toInt = (x.toBitVec.sshiftRight' ((y.toInt64 &&& 63).toBitVec.smod 64)).toInt := rfl
    rw [e, BitVec.toInt_sshiftRight', h, Int.shiftRight_eq_div_pow]
    rfl
  have t1 : (lsh x y).toInt = (lsh x y).toBitVec.toInt := rfl
  have t2 : x.toInt = x.toBitVec.toInt := rfl
  rw [t1, t2, BitVec.toInt_eq_toNat_cond, BitVec.toInt_eq_toNat_cond] at e2
  have b1 := (lsh x y).toBitVec.isLt
  have b2 := x.toBitVec.isLt
  generalize (lsh x y).toBitVec.toNat = Z at e2 b1 ⊢
  generalize x.toBitVec.toNat = X at e2 b2 ⊢
  rcases hk with rfl | rfl | rfl | rfl | rfl | rfl | rfl | rfl <;> (split at e2 <;> split at e2 <;> omega)
theorem byte_eq (x : Int64) {i : Nat} (hi : i < 8) : Int64.toInt32 (lush x ((8 : Int32) * nI i)) &&& 255 = Int64.toInt32 (lsh x ((8 : Int32) * nI i) &&& 255) := by
  match i, hi with
  | 0, _ => exact (byte_L x _ 0 (by decide)).trans (byte_R x _ 0 (by decide) (by decide)).symm
  | 1, _ => exact (byte_L x _ 8 (by decide)).trans (byte_R x _ 8 (by decide) (by decide)).symm
  | 2, _ => exact (byte_L x _ 16 (by decide)).trans (byte_R x _ 16 (by decide) (by decide)).symm
  | 3, _ => exact (byte_L x _ 24 (by decide)).trans (byte_R x _ 24 (by decide) (by decide)).symm
  | 4, _ => exact (byte_L x _ 32 (by decide)).trans (byte_R x _ 32 (by decide) (by decide)).symm
  | 5, _ => exact (byte_L x _ 40 (by decide)).trans (byte_R x _ 40 (by decide) (by decide)).symm
  | 6, _ => exact (byte_L x _ 48 (by decide)).trans (byte_R x _ 48 (by decide) (by decide)).symm
  | 7, _ => exact (byte_L x _ 56 (by decide)).trans (byte_R x _ 56 (by decide) (by decide)).symm
  | i + 8, hi => exact absurd hi (by omega)
/-- the tape has changed -/
theorem Sn_tape {σ : St} {R : Nat → Int32} {L i : Nat} {v w : Int32} (h : Sn σ 15 3 6 42 49 R) (hL : L ≤ 60) (hw : w = nI L) (hi : i < 60) : Sn (sF (sA σ 43 i v) 42 1 w) 15 3 6 42 49 (upd (upd R (40 + i) v) 8 w) := by
  obtain ⟨a1, ⟨N, a2⟩, a3, ⟨b1, b2, b3, b4⟩, a5, a6, a7⟩ := h
  have hc : ∀ k, k ≠ 8 → k ≠ 40 + i → upd (upd R (40 + i) v) 8 w k = R k := fun k h1 h2 => by rw [upd_n h1, upd_n h2]
  have c0 : ∀ k, 124 ≤ k → k < 124 + 121 → upd (upd R (40 + i) v) 8 w k = R k := fun k h1 h2 => hc k (by omega) (by omega)
  have c1 : ∀ k, 245 ≤ k → k < 245 + 121 → upd (upd R (40 + i) v) 8 w k = R k := fun k h1 h2 => hc k (by omega) (by omega)
  refine ⟨?_, ⟨N, ?_, ?_, ?_⟩, ⟨?_, ?_⟩, ⟨TW_c c0 b1, TW_c c1 b2, TR_c c0 b1 ⟨?_, ?_⟩, TR_c c1 b2 ⟨?_, ?_⟩⟩, ⟨⟨L, hL, ?_⟩, ?_, ?_⟩, ⟨?_, ?_, ?_⟩, ⟨?_, ?_⟩⟩
  · have hA : RA (sF (sA σ 43 i v) 42 1 w) 15 R := RA_keep a1 (fun k => by rw [sF_ne (by decide)]; rfl) (fun a _ _ => sA_ne (by omega))
    obtain ⟨⟨h1, h2, h3, h4, h5, h6, h7, h8⟩, h9⟩ := hA
    refine ⟨⟨?_, ?_, ?_, ?_, ?_, ?_, ?_, ?_⟩, ?_⟩
    · rw [hc 0 (by omega) (by omega)]; exact h1
    · rw [hc 1 (by omega) (by omega)]; exact h2
    · rw [hc 2 (by omega) (by omega)]; exact h3
    · rw [hc 3 (by omega) (by omega)]; exact h4
    · rw [hc 4 (by omega) (by omega)]; exact h5
    · rw [hc 5 (by omega) (by omega)]; exact h6
    · rw [hc 6 (by omega) (by omega)]; exact h7
    · rw [hc 7 (by omega) (by omega)]; exact h8
    · intro x j hx hj; rw [hc _ (by omega) (by omega)]; exact h9 x j hx hj
  · exact a2.1
  · rw [hc 2 (by omega) (by omega)]; exact a2.2.1
  · intro j hj; rw [hc _ (by omega) (by omega)]; exact a2.2.2 j hj
  · intro j hj; rw [hc _ (by omega) (by omega)]; exact a3.1 j hj
  · rw [hc 4 (by omega) (by omega)]; exact a3.2
  · rw [sF_ne (by decide)]; exact b3.1
  · intro k hk; rw [sF2, sA_ne (show 3 + 1 ≠ 43 by decide)]; exact b3.2 k hk
  · rw [sF_ne (by decide)]; exact b4.1
  · intro k hk; rw [sF2, sA_ne (show 6 + 1 ≠ 43 by decide)]; exact b4.2 k hk
  · rw [upd_s]; exact hw
  · rw [sF_eq, if_pos rfl, upd_s]
  · intro k hk
    rw [sF2, sA_eq, upd_n (show 40 + k ≠ 8 by omega)]
    by_cases e : k = i
    · rw [e, upd_s, upd_s]
    · rw [upd_n e, upd_n (by omega)]; exact a5.2.2 k hk
  · rw [hc 9 (by omega) (by omega)]; exact a6.1
  · rw [hc 9 (by omega) (by omega), sF_ne (by decide)]; exact a6.2.1
  · intro k hk
    rw [hc _ (by omega) (by omega), sF2, sA_ne (by decide)]; exact a6.2.2 k hk
  · intro j hj; rw [hc _ (by omega) (by omega)]; exact a7.1 j hj
  · rw [hc 0 (by omega) (by omega)]; exact a7.2
theorem FK_tape {σ : St} {i : Nat} {v w : Int32} : FK σ (sF (sA σ 43 i v) 42 1 w) := ⟨fun o k _ _ h => by rw [sF_ne (by omega)]; rfl, fun a h => by rw [sF2]; exact sA_ne (by omega)⟩
theorem Rl_feed {σ τ : St} {L i : Nat} {v : Int32} (h : Rl σ τ) (hL : L ≤ 60) (hi : i < 60) : Rl (sF (sA σ 43 i v) 42 1 (nI L)) (sA (sA τ 1 (40 + i) v) 1 8 (nI L)) := by
  refine Rl_mk h FK_tape (FM.put1.tr FM.put1) ?_
  rw [sA_eq, sA_eq]
  exact Sn_tape h.1 hL rfl hi
theorem g8 : inb (8 : Int32) 366 = true := rfl
theorem z8 : (8 : Int32).toNatClampNeg = 8 := by decide
theorem feed_loop {x : Int64} {K l : Nat} (hK : K ≤ 8) (hl : l + K ≤ 60) : ∀ (m k n n' : Nat) (σ τ : St), k + m = K → m < n → m < n' → Rl σ τ → τ.2 1 8 = nI (l + k) → OK2 (bnd (Tp_add_L3 n 42 x (nI K) (nI k) σ) (fun _ s => some (s.1 42 1, s))) (Mo_feed_L41 n' x (nI K) (nI k) τ) := by
  intro m
  induction m with
  | zero =>
    intro k n n' σ τ hk hn hn' h h8
    obtain ⟨n, rfl⟩ : ∃ z, n = z + 1 := ⟨n - 1, by omega⟩
    obtain ⟨n', rfl⟩ : ∃ z, n' = z + 1 := ⟨n' - 1, by omega⟩
    have hk : k = K := by omega
    rw [hk, Tp_add_L3, Mo_feed_L41, if_pos (Int32.le_refl _), if_pos (Int32.le_refl _), bnd_t, g8, grd_t, z8, h.1.2.2.2.2.1.2.1]
    exact ok2 h
  | succ m ih =>
    intro k n n' σ τ hk hn hn' h h8
    obtain ⟨n, rfl⟩ : ∃ z, n = z + 1 := ⟨n - 1, by omega⟩
    obtain ⟨n', rfl⟩ : ∃ z, n' = z + 1 := ⟨n' - 1, by omega⟩
    have e1 : σ.1 42 1 = nI (l + k) := h.1.2.2.2.2.1.2.1.trans h8
    have hi : (40 : Int32) + nI (l + k) = nI (40 + (l + k)) := nI_add 40 (l + k)
    rw [Tp_add_L3, Mo_feed_L41, if_neg (nI_ge (show k < K by omega) (by omega)), if_neg (nI_ge (show k < K by omega) (by omega)), e1, if_neg (show ¬ (60 : Int32) ≤ nI (l + k) from nI_ge (b := 60) (by omega) (by decide)), inb_nI (show l + k < 60 by omega) (by decide), grd_t, nas_t, nas_t, nam_t, sA1, e1, nI_lit1, nI_lit1, nI_clamp (show l + k < 2 ^ 31 by omega), g8, grd_t, z8, h8, hi, inb_nI (show 40 + (l + k) < 366 by omega) (by decide), grd_t, nas_t, nI_clamp (show 40 + (l + k) < 2 ^ 31 by omega), grd_t, grd_t, nas_t, nam_t, sA_eq, upd_n (show 8 ≠ 40 + (l + k) by omega), h8, nI_lit1, byte_eq x (show k < 8 by omega), show 42 + 1 = 43 from rfl]
    exact ih (k + 1) n n' _ _ (by omega) (by omega) (by omega) (Rl_feed h (by omega) (by omega)) (by rw [sA_eq, upd_s]; rfl)
theorem op_feed {σ τ : St} (h : Rl σ τ) (x : Int64) (a : Int32) : OK2 (Mn_feed x a σ) (Mo_feed x a τ) := by
  obtain ⟨l, hl, hle⟩ := h.1.2.2.2.2.1.1
  have e1 : σ.1 42 1 = nI l := h.1.2.2.2.2.1.2.1.trans hle
  rw [Mn_feed, Mo_feed, Mo_in_eq, bnd_t]
  by_cases h1 : a < 1
  · rw [if_pos h1, wi_no1 h1, if_bf]; exact err1 h
  · rw [if_neg h1]
    by_cases h2 : a ≤ 8
    · rw [if_pos h2, wi_1 h1 h2, if_bt, g8, grd_t, z8, e1, hle]
      obtain ⟨k, hk1, hk2, rfl⟩ := in_1 (m := 8) (by decide) h1 h2
      rw [show (60 : Int32) - nI l = nI (60 - l) from pk_sub (a := 60) hl, nI_add]
      by_cases h3 : l + k ≤ 60
      · rw [if_pos (nI_le (show k ≤ 60 - l by omega) (by omega)), if_pos (show nI (l + k) ≤ 60 from nI_le (b := 60) h3 (by decide))]
        exact feed_loop hk2 h3 k 0 1000 1000 σ τ (by omega) (by omega) (by omega) h hle
      · rw [if_neg (nI_ge (show 60 - l < k by omega) (by omega)), if_neg (show ¬ nI (l + k) ≤ 60 from nI_ge (a := 60) (by omega) (by omega))]
        exact err4 h
    · rw [if_neg h2, wi_2 h2, if_bf]; exact err1 h
/-! the numbers that wait -/
theorem Sn_wait {σ : St} {R : Nat → Int32} {L i : Nat} {v w : Int32} (h : Sn σ 15 3 6 42 49 R) (hL : L ≤ 24) (hw : w = nI L) (hi : i < 24) : Sn (sF (sA σ 50 i v) 49 2 w) 15 3 6 42 49 (upd (upd R (100 + i) v) 9 w) := by
  obtain ⟨a1, ⟨N, a2⟩, a3, ⟨b1, b2, b3, b4⟩, a5, a6, a7⟩ := h
  have hc : ∀ k, k ≠ 9 → k ≠ 100 + i → upd (upd R (100 + i) v) 9 w k = R k := fun k h1 h2 => by rw [upd_n h1, upd_n h2]
  have c0 : ∀ k, 124 ≤ k → k < 124 + 121 → upd (upd R (100 + i) v) 9 w k = R k := fun k h1 h2 => hc k (by omega) (by omega)
  have c1 : ∀ k, 245 ≤ k → k < 245 + 121 → upd (upd R (100 + i) v) 9 w k = R k := fun k h1 h2 => hc k (by omega) (by omega)
  refine ⟨?_, ⟨N, ?_, ?_, ?_⟩, ⟨?_, ?_⟩, ⟨TW_c c0 b1, TW_c c1 b2, TR_c c0 b1 ⟨?_, ?_⟩, TR_c c1 b2 ⟨?_, ?_⟩⟩, ⟨?_, ?_, ?_⟩, ⟨⟨L, hL, ?_⟩, ?_, ?_⟩, ⟨?_, ?_⟩⟩
  · have hA : RA (sF (sA σ 50 i v) 49 2 w) 15 R := RA_keep a1 (fun k => by rw [sF_ne (by decide)]; rfl) (fun a _ _ => sA_ne (by omega))
    obtain ⟨⟨h1, h2, h3, h4, h5, h6, h7, h8⟩, h9⟩ := hA
    refine ⟨⟨?_, ?_, ?_, ?_, ?_, ?_, ?_, ?_⟩, ?_⟩
    · rw [hc 0 (by omega) (by omega)]; exact h1
    · rw [hc 1 (by omega) (by omega)]; exact h2
    · rw [hc 2 (by omega) (by omega)]; exact h3
    · rw [hc 3 (by omega) (by omega)]; exact h4
    · rw [hc 4 (by omega) (by omega)]; exact h5
    · rw [hc 5 (by omega) (by omega)]; exact h6
    · rw [hc 6 (by omega) (by omega)]; exact h7
    · rw [hc 7 (by omega) (by omega)]; exact h8
    · intro x j hx hj; rw [hc _ (by omega) (by omega)]; exact h9 x j hx hj
  · exact a2.1
  · rw [hc 2 (by omega) (by omega)]; exact a2.2.1
  · intro j hj; rw [hc _ (by omega) (by omega)]; exact a2.2.2 j hj
  · intro j hj; rw [hc _ (by omega) (by omega)]; exact a3.1 j hj
  · rw [hc 4 (by omega) (by omega)]; exact a3.2
  · rw [sF_ne (by decide)]; exact b3.1
  · intro k hk; rw [sF2, sA_ne (show 3 + 1 ≠ 50 by decide)]; exact b3.2 k hk
  · rw [sF_ne (by decide)]; exact b4.1
  · intro k hk; rw [sF2, sA_ne (show 6 + 1 ≠ 50 by decide)]; exact b4.2 k hk
  · rw [hc 8 (by omega) (by omega)]; exact a5.1
  · rw [hc 8 (by omega) (by omega), sF_ne (by decide)]; exact a5.2.1
  · intro k hk
    rw [hc _ (by omega) (by omega), sF2, sA_ne (by decide)]; exact a5.2.2 k hk
  · rw [upd_s]; exact hw
  · rw [sF_eq, if_pos rfl, upd_s]
  · intro k hk
    rw [sF2, sA_eq, upd_n (show 100 + k ≠ 9 by omega)]
    by_cases e : k = i
    · rw [e, upd_s, upd_s]
    · rw [upd_n e, upd_n (by omega)]; exact a6.2.2 k hk
  · intro j hj; rw [hc _ (by omega) (by omega)]; exact a7.1 j hj
  · rw [hc 0 (by omega) (by omega)]; exact a7.2
theorem FK_wait {σ : St} {i : Nat} {v w : Int32} : FK σ (sF (sA σ 50 i v) 49 2 w) := ⟨fun o k _ _ h => by rw [sF_ne (by omega)]; rfl, fun a h => by rw [sF2]; exact sA_ne (by omega)⟩
theorem g9 : inb (9 : Int32) 366 = true := rfl
theorem z9 : (9 : Int32).toNatClampNeg = 9 := by decide
theorem op_tell {σ τ : St} (h : Rl σ τ) (a : Int32) : OK2 (Mn_tell a σ) (Mo_tell a τ) := by
  obtain ⟨l, hl, hle⟩ := h.1.2.2.2.2.2.1.1
  have e1 : σ.1 49 2 = nI l := h.1.2.2.2.2.2.1.2.1.trans hle
  rw [Mn_tell, Mo_tell, g9, grd_t, z9, e1, hle]
  by_cases h1 : l = 24
  · rw [h1, if_neg (show ¬ nI 24 < 24 by decide), if_pos (show nI 24 = 24 from rfl)]; exact err4 h
  · have hi : (100 : Int32) + nI l = nI (100 + l) := nI_add 100 l
    have hX : (sA τ 1 (100 + l) a).2 1 9 = nI l := by rw [sA_eq, upd_n (by omega), hle]
    rw [if_pos (show nI l < 24 from nI_lt (b := 24) (by omega) (by decide)), if_neg (show ¬ nI l = 24 from fun q => h1 ((nI_eq (b := 24) (by omega) (by decide)).mp q)), inb_nI (show l < 24 by omega) (by decide), grd_t, nas_t, nas_t, sA1, e1, nI_lit1, nI_clamp (show l < 2 ^ 31 by omega), grd_t, hi, inb_nI (show 100 + l < 366 by omega) (by decide), grd_t, nas_t, grd_t, grd_t, nas_t, grd_t, nI_clamp (show 100 + l < 2 ^ 31 by omega), hX, nI_lit1, sA_eq, upd_s, sF_eq, if_pos rfl]
    refine ok2 (Rl_mk h FK_wait (FM.put1.tr FM.put1) ?_)
    rw [sA_eq, sA_eq]
    exact Sn_wait h.1 (by omega) rfl (by omega)
/-- how many of a row are breath, from k on -/
def bq (F R : Nat → Int32) (N W m k : Nat) : Nat := match m with
  | 0 => k
  | m + 1 => if W ≤ k then k else if N ≤ k then k else if F k = R (12 + 5 * k) then bq F R N W m (k + 1) else k
theorem Rp_right_loop {R : Nat → Int32} {o p N W : Nat} (hN : RN R N) (hW : W ≤ 24) {σ : St} (hA : RA σ o R) (hp : σ.1 p 2 = nI W) : ∀ (m k n : Nat), k + m = W → m < n → Rp_breathsRight_L2 n o p (nI k) σ = some (nI (bq (σ.2 (p + 1)) R N W m k), σ) := by
  have h6 := hN.1
  have h9 : σ.1 o 9 = nI N := hA.1.2.2.1.trans hN.2.1
  intro m
  induction m with
  | zero =>
    intro k n hk hn
    obtain ⟨n, rfl⟩ : ∃ z, n = z + 1 := ⟨n - 1, by omega⟩
    have hk : k = W := by omega
    rw [hk, Rp_breathsRight_L2, hp, if_pos (Int32.le_refl _)]
    rfl
  | succ m ih =>
    intro k n hk hn
    obtain ⟨n, rfl⟩ : ∃ z, n = z + 1 := ⟨n - 1, by omega⟩
    rw [Rp_breathsRight_L2, hp, h9, if_neg (nI_ge (show k < W by omega) (by omega)), bq, if_neg (show ¬ W ≤ k by omega)]
    by_cases h1 : N ≤ k
    · rw [if_pos (nI_le h1 (by omega)), if_pos h1]
    · rw [if_neg (nI_ge (by omega) (by omega)), if_neg h1, inb_nI (show k < 24 by omega) (by decide), grd_t, inb_nI (show k < 6 by omega) (by decide), grd_t, nI_clamp (show k < 2 ^ 31 by omega), RA_at hA 2 (a := o + 3) (i := 12 + 5 * k) (by decide) (show k < 6 by omega) (by omega) (by omega)]
      by_cases h2 : σ.2 (p + 1) k = R (12 + 5 * k)
      · rw [if_pos h2, if_pos h2, nam_t, nI_lit1]
        exact ih (k + 1) n (by omega) (by omega)
      · rw [if_neg h2, if_neg h2]
theorem Rp_right_eq {R : Nat → Int32} {o p N W : Nat} (hN : RN R N) (hW : W ≤ 24) {σ : St} (hA : RA σ o R) (hp : σ.1 p 2 = nI W) : Rp_breathsRight o p σ = some (nI (bq (σ.2 (p + 1)) R N W W 0), σ) := Rp_right_loop hN hW hA hp W 0 1000 (by omega) (by omega)
theorem bq_le {F R : Nat → Int32} {N W : Nat} : ∀ (m k : Nat), k + m = W → k ≤ bq F R N W m k ∧ bq F R N W m k ≤ W := by
  intro m
  induction m with
  | zero => intro k h; rw [bq]; omega
  | succ m ih =>
    intro k h
    rw [bq]
    split
    · omega
    · split
      · omega
      · split
        · have := ih (k + 1) (by omega); omega
        · omega
theorem Mo_check_loop {R : Nat → Int32} {N W : Nat} (hN : RN R N) (hW : W ≤ 24) {τ : St} (h1 : ∀ i, i ≠ 9 → τ.2 1 i = R i) : ∀ (m k n : Nat), k + m = W → m < n → Mo_check_L18 n (nI W) (nI k) τ = some (if bq (fun i => R (100 + i)) R N W m k = W then 0 else 1 + nI (bq (fun i => R (100 + i)) R N W m k), τ) := by
  have h6 := hN.1
  intro m
  induction m with
  | zero =>
    intro k n hk hn
    obtain ⟨n, rfl⟩ : ∃ z, n = z + 1 := ⟨n - 1, by omega⟩
    have hk : k = W := by omega
    rw [hk, Mo_check_L18, if_pos (Int32.le_refl _), bq, if_pos rfl]
  | succ m ih =>
    intro k n hk hn
    obtain ⟨n, rfl⟩ : ∃ z, n = z + 1 := ⟨n - 1, by omega⟩
    have e2 : τ.2 1 2 = nI N := (h1 2 (by decide)).trans hN.2.1
    have ej : wi (nI k) 0 (nI N - 1) = decide (k < N) := by
      have e : (nI N - 1).toInt = (N : Int) - 1 := pk_sub_toInt (a := N) (b := 1) (by omega) (by omega)
      by_cases h : k < N
      · rw [decide_eq_true h]
        exact wi_yes (nI_pos (by omega)) (by rw [lt_i, e, nI_toInt (by omega)]; omega)
      · rw [decide_eq_false h]
        exact wi_no2 (by rw [lt_i, e, nI_toInt (by omega)]; omega)
    rw [Mo_check_L18, if_neg (nI_ge (show k < W by omega) (by omega)), Mo_isJumper_eq, bnd_t, e2, ej, bq, if_neg (show ¬ W ≤ k by omega)]
    by_cases hk2 : N ≤ k
    · rw [decide_eq_false (show ¬ k < N by omega), if_bf, if_pos hk2, if_neg (show ¬ k = W by omega)]
    · rw [decide_eq_true (show k < N by omega), if_bt, if_neg hk2, show (100 : Int32) + nI k = nI (100 + k) from nI_add 100 k, inb_nI (show 100 + k < 366 by omega) (by decide), grd_t, Mo_of2 (show k < 6 by omega), bnd_t, nI_clamp (show 100 + k < 2 ^ 31 by omega), h1 _ (by omega), h1 _ (by omega)]
      by_cases h2 : R (100 + k) = R (12 + 5 * k)
      · rw [if_pos h2, if_pos h2, nam_t, nI_lit1]
        exact ih (k + 1) n (by omega) (by omega)
      · rw [if_neg h2, if_neg h2, if_neg (show ¬ k = W by omega)]
theorem bq_congr {F G R : Nat → Int32} {N W : Nat} : ∀ (m k : Nat), k + m = W → (∀ i, i < W → F i = G i) → bq F R N W m k = bq G R N W m k := by
  intro m
  induction m with
  | zero => intro k _ _; rfl
  | succ m ih =>
    intro k h hF
    rw [bq, bq, ih (k + 1) (by omega) hF, hF k (by omega)]
theorem op_check {σ τ : St} (h : Rl σ τ) : OK2 (Mn_check σ) (Mo_check τ) := by
  obtain ⟨N, hN⟩ := h.1.2.1
  have hA := h.1.1
  obtain ⟨l, hl, hle⟩ := h.1.2.2.2.2.2.1.1
  have e1 : σ.1 49 2 = nI l := h.1.2.2.2.2.2.1.2.1.trans hle
  have hF : bq (σ.2 (49 + 1)) (τ.2 1) N l l 0 = bq (fun i => τ.2 1 (100 + i)) (τ.2 1) N l l 0 := bq_congr l 0 (by omega) (fun i hi => h.1.2.2.2.2.2.1.2.2 i (by omega))
  have hR : Rl (sF σ 49 2 0) (sA τ 1 9 0) := by
    have q := Sn_wait (v := σ.2 50 0) (L := 0) (w := 0) (i := 0) h.1 (by decide) rfl (by decide)
    have e2 : σ.2 50 0 = τ.2 1 100 := h.1.2.2.2.2.2.1.2.2 0 (by decide)
    have e3 : sA σ 50 0 (σ.2 50 0) = σ := by
      unfold sA
      have : (fun a' i' => if a' = 50 ∧ i' = 0 then σ.2 50 0 else σ.2 a' i') = σ.2 := by
        funext a i
        by_cases e : a = 50 ∧ i = 0
        · rw [if_pos e, e.1, e.2]
        · rw [if_neg e]
      rw [this]
    rw [e3, upd_id (show τ.2 1 (100 + 0) = σ.2 50 0 from e2.symm)] at q
    refine Rl_mk h ⟨fun o k _ _ p => by rw [sF_ne (by omega)], fun _ _ => rfl⟩ FM.put1 ?_
    rw [sA_eq]
    exact q
  have hM : Mo_check_L18 1000 (nI l) 0 (sA τ 1 9 0) = some (if bq (fun i => τ.2 1 (100 + i)) (τ.2 1) N l l 0 = l then 0 else 1 + nI (bq (fun i => τ.2 1 (100 + i)) (τ.2 1) N l l 0), sA τ 1 9 0) := Mo_check_loop hN hl (τ := sA τ 1 9 0) (fun i hi => by rw [sA_eq, upd_n hi]) l 0 1000 (by omega) (by omega)
  rw [Mn_check, Mo_check, nam_t, Rp_right_eq hN hl hA e1, bnd_t, nas_t, g9, grd_t, nam_t, grd_t, nas_t, z9, hle, hM, e1, hF]
  have hb := bq_le (F := fun i => τ.2 1 (100 + i)) (R := τ.2 1) (N := N) (W := l) l 0 (by omega)
  by_cases h2 : bq (fun i => τ.2 1 (100 + i)) (τ.2 1) N l l 0 = l
  · rw [if_pos h2, h2, if_pos rfl]; exact ok2 hR
  · rw [if_neg h2, if_neg (fun q => h2 ((nI_eq (by omega) (by omega)).mp q))]; exact ok2 hR
