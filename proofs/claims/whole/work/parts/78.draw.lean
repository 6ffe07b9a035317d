/-! ===== beats in a row, beats by draws ===== -/
def pn (R : Nat → Int32) (N k : Nat) : Nat → Int32 := match k with
  | 0 => R
  | k + 1 => ps (pn R N k) N
def pc (R : Nat → Int32) (N k : Nat) : Nat := match k with
  | 0 => 0
  | k + 1 => pc R N k + pm (pn R N k) N
theorem pn_all {R : Nat → Int32} {N : Nat} (hN : RN R N) (hB : RB R) : ∀ k, RO R (pn R N k) ∧ RN (pn R N k) N ∧ RB (pn R N k) := by
  intro k
  induction k with
  | zero => exact ⟨RO.rf R, hN, hB⟩
  | succ k ih =>
    obtain ⟨h1, h2, h3⟩ := ih
    obtain ⟨g1, g2, g3⟩ := ps_all h2 h3
    exact ⟨h1.tr g1, g2, g3⟩
theorem pn_0 {R : Nat → Int32} {N : Nat} (hN : N ≤ 6) : ∀ k, pn R N k 0 = R 0 + nI k := by
  intro k
  induction k with
  | zero => exact (Int32.add_zero _).symm
  | succ k ih => rw [pn, ps_0 hN, ih, Int32.add_assoc, nI_lit1]
theorem Mo_goesFor_loop {R : Nat → Int32} {N K : Nat} (hN : RN R N) (hB : RB R) (hT : TW R 124) (hK : K < 1000) : ∀ (m k n : Nat) (x : Int32) (τ : St), k + m = K → m < n → τ.2 1 = pn R N k → okk (Mo_goesFor_L4 n (nI K) x (nI k) τ) (fun _ τ' => τ'.2 1 = pn R N K ∧ QM τ τ') := by
  intro m
  induction m with
  | zero =>
    intro k n x τ hk hn h1
    obtain ⟨n, rfl⟩ : ∃ z, n = z + 1 := ⟨n - 1, by omega⟩
    have hk : k = K := by omega
    rw [hk] at h1 ⊢
    rw [Mo_goesFor_L4, if_pos (Int32.le_refl _)]
    exact ok_some ⟨h1, QM.rf τ⟩
  | succ m ih =>
    intro k n x τ hk hn h1
    obtain ⟨n, rfl⟩ : ∃ z, n = z + 1 := ⟨n - 1, by omega⟩
    obtain ⟨a1, a2, a3⟩ := pn_all hN hB k
    rw [Mo_goesFor_L4, if_neg (nI_ge (show k < K by omega) (by omega))]
    refine ok_bnd (Mo_goes_ok (N := N) (by rw [h1]; exact a2) (by rw [h1]; exact a3) (by rw [h1]; exact TW_congr (fun i hi => a1.2.1 i (by omega)) hT)) (fun r s hq => ?_)
    rw [nam_t, nam_t, nI_lit1]
    exact ok_mono (ih (k + 1) n _ s (by omega) (by omega) (by rw [hq.2.1, h1]; rfl)) (fun r s' h => ⟨h.1, hq.2.2.tr h.2⟩)
theorem Mo_goesFor_ok {τ : St} {R : Nat → Int32} {N k K : Nat} (hN : RN R N) (hB : RB R) (hT : TW R 124) (h1 : τ.2 1 = R) (hK : K < 1000) : okk (Mo_goesFor (nI K) τ) (fun _ τ' => τ'.2 1 = pn R N K ∧ QM τ τ') := Mo_goesFor_loop hN hB hT hK K 0 1000 0 τ (by omega) (by omega) h1
theorem Mo_goesFor_1 {τ : St} {R : Nat → Int32} {N k : Nat} (hN : RN R N) (hB : RB R) (hT : TW R 124) (h1 : τ.2 1 = pn R N k) : okk (Mo_goesFor 1 τ) (fun _ τ' => τ'.2 1 = pn R N (k + 1) ∧ QM τ τ') := by
  obtain ⟨a1, a2, a3⟩ := pn_all hN hB k
  exact ok_mono (Mo_goesFor_ok (k := 0) (K := 1) a2 a3 (TW_congr (fun i hi => a1.2.1 i (by omega)) hT) h1 (by omega)) (fun r s h => ⟨h.1, h.2⟩)
theorem Rp_pass_n {R : Nat → Int32} {o N k : Nat} (ho : o = 15 ∨ o = 24) (hN : RN R N) (hB : RB R) {σ : St} (hA : RA σ o (pn R N k)) (hT : TX σ o R) : okk (Rp_pass o σ) (fun r σ' => r = nI (pm (pn R N k) N) ∧ RA σ' o (pn R N (k + 1)) ∧ QR o σ σ' ∧ TX σ' o R) := by
  obtain ⟨a1, a2, a3⟩ := pn_all hN hB k
  exact ok_mono (Rp_pass_ok ho a2 a3 hA (TX_congr a1.2.1 hT)) (fun r s h => ⟨h.1, h.2.1, h.2.2, qr_TX ho h.2.2 hT⟩)
/-! what holds of the two at work: the rope now, the reference's row -/
def Lr (N : Nat) (σ τ : St) : Prop := RA σ 15 (τ.2 1) ∧ RN (τ.2 1) N ∧ RB (τ.2 1) ∧ TX σ 15 (τ.2 1)
def Ltr (σ τ σ' τ' : St) : Prop := QR 15 σ σ' ∧ QM τ τ' ∧ RO (τ.2 1) (τ'.2 1)
theorem Ltr.rf (σ τ : St) : Ltr σ τ σ τ := ⟨QR.rf _ σ, QM.rf τ, RO.rf _⟩
theorem Ltr.tr {σ τ σ' τ' σ'' τ'' : St} (h : Ltr σ τ σ' τ') (h' : Ltr σ' τ' σ'' τ'') : Ltr σ τ σ'' τ'' := ⟨h.1.tr h'.1, h.2.1.tr h'.2.1, h.2.2.tr h'.2.2⟩
/-- both sides answer, and what holds then -/
def s2 (x y : Option (Int32 × St)) (Q : Int32 → St → Int32 → St → Prop) : Prop := ∃ r σ q τ, x = some (r, σ) ∧ y = some (q, τ) ∧ Q r σ q τ
theorem s2_ok {x y : Option (Int32 × St)} {P1 P2 : Int32 → St → Prop} {Q : Int32 → St → Int32 → St → Prop} (h1 : okk x P1) (h2 : okk y P2) (h : ∀ r σ q τ, P1 r σ → P2 q τ → Q r σ q τ) : s2 x y Q := by
  obtain ⟨r, σ, e1, p1⟩ := h1
  obtain ⟨q, τ, e2, p2⟩ := h2
  exact ⟨r, σ, q, τ, e1, e2, h r σ q τ p1 p2⟩
theorem s2_some {r q : Int32} {σ τ : St} {Q : Int32 → St → Int32 → St → Prop} (h : Q r σ q τ) : s2 (some (r, σ)) (some (q, τ)) Q := ⟨r, σ, q, τ, rfl, rfl, h⟩
theorem s2_bnd {x y : Option (Int32 × St)} {K L : Int32 → St → Option (Int32 × St)} {Q P : Int32 → St → Int32 → St → Prop} (h : s2 x y Q) (k : ∀ r σ q τ, Q r σ q τ → s2 (K r σ) (L q τ) P) : s2 (bnd x K) (bnd y L) P := by
  obtain ⟨r, σ, q, τ, rfl, rfl, h⟩ := h
  exact k r σ q τ h
theorem s2_l {x y : Option (Int32 × St)} {K : Int32 → St → Option (Int32 × St)} {Q : Int32 → St → Prop} {P : Int32 → St → Int32 → St → Prop} (h : okk x Q) (k : ∀ r σ, Q r σ → s2 (K r σ) y P) : s2 (bnd x K) y P := by
  obtain ⟨r, σ, rfl, h⟩ := h
  exact k r σ h
theorem s2_r {x y : Option (Int32 × St)} {L : Int32 → St → Option (Int32 × St)} {Q : Int32 → St → Prop} {P : Int32 → St → Int32 → St → Prop} (h : okk y Q) (k : ∀ r σ, Q r σ → s2 x (L r σ) P) : s2 x (bnd y L) P := by
  obtain ⟨r, σ, rfl, h⟩ := h
  exact k r σ h
theorem s2_mono {x y : Option (Int32 × St)} {Q P : Int32 → St → Int32 → St → Prop} (h : s2 x y Q) (k : ∀ r σ q τ, Q r σ q τ → P r σ q τ) : s2 x y P := by
  obtain ⟨r, σ, q, τ, h1, h2, h3⟩ := h
  exact ⟨r, σ, q, τ, h1, h2, k r σ q τ h3⟩
/-- a beat on both sides -/
theorem beat_2 {N : Nat} {σ τ : St} (h : Lr N σ τ) : s2 (Rp_pass 15 σ) (Mo_goes τ) (fun r σ' q τ' => q = r ∧ Lr N σ' τ' ∧ Ltr σ τ σ' τ' ∧ τ'.2 1 0 = τ.2 1 0 + 1) := by
  obtain ⟨hA, hN, hB, hT⟩ := h
  refine s2_ok (Rp_pass_ok (Or.inl rfl) hN hB hA hT) (Mo_goes_ok hN hB hT.1) (fun r σ' q τ' p1 p2 => ?_)
  obtain ⟨g1, g2, g3⟩ := ps_all hN hB
  refine ⟨p2.1.trans p1.1.symm, ⟨?_, ?_, ?_, ?_⟩, ⟨p1.2.2, p2.2.2, ?_⟩, ?_⟩
  · rw [p2.2.1]; exact p1.2.1
  · rw [p2.2.1]; exact g2
  · rw [p2.2.1]; exact g3
  · rw [p2.2.1]; exact TX_congr g1.2.1 (qr_TX (Or.inl rfl) p1.2.2 hT)
  · rw [p2.2.1]; exact g1
  · rw [p2.2.1]; exact ps_0 hN.1
theorem beats_loop {N K : Nat} (hK : K < 1000) : ∀ (m k n n' : Nat) (x : Int32) (σ τ : St), k + m = K → m < n → m < n' → Lr N σ τ → s2 (Mn_beats_L41 n (nI K) x (nI k) σ) (Mo_beats_L41 n' (nI K) x (nI k) τ) (fun r σ' q τ' => q = r ∧ Lr N σ' τ' ∧ Ltr σ τ σ' τ' ∧ τ'.2 1 0 = τ.2 1 0 + nI m) := by
  intro m
  induction m with
  | zero =>
    intro k n n' x σ τ hk hn hn' h
    obtain ⟨n, rfl⟩ : ∃ z, n = z + 1 := ⟨n - 1, by omega⟩
    obtain ⟨n', rfl⟩ : ∃ z, n' = z + 1 := ⟨n' - 1, by omega⟩
    have hk : k = K := by omega
    rw [hk, Mn_beats_L41, Mo_beats_L41, if_pos (Int32.le_refl _), if_pos (Int32.le_refl _)]
    exact s2_some ⟨rfl, h, Ltr.rf σ τ, (Int32.add_zero _).symm⟩
  | succ m ih =>
    intro k n n' x σ τ hk hn hn' h
    obtain ⟨n, rfl⟩ : ∃ z, n = z + 1 := ⟨n - 1, by omega⟩
    obtain ⟨n', rfl⟩ : ∃ z, n' = z + 1 := ⟨n' - 1, by omega⟩
    have hg := nI_ge (show k < K by omega) (show K < 2 ^ 31 by omega)
    rw [Mn_beats_L41, Mo_beats_L41, if_neg hg, if_neg hg]
    refine s2_bnd (beat_2 h) (fun r σ' q τ' p => ?_)
    rw [p.1, nam_t, nam_t, nam_t, nam_t, nI_lit1]
    refine s2_mono (ih (k + 1) n n' _ σ' τ' (by omega) (by omega) (by omega) p.2.1) (fun r σ'' q τ'' p' => ⟨p'.1, p'.2.1, p.2.2.1.tr p'.2.2.1, ?_⟩)
    rw [p'.2.2.2, p.2.2.2, Int32.add_assoc, ← nI_lit1, Int32.add_comm 1]
/-! draws -/
def zz (x : Int32) : Int32 := x * 1103515245 + 12345
theorem iush8 (x : Int32) : ∃ a : Nat, a < 2 ^ 24 ∧ iush x 8 = nI a := by
  refine ⟨x.toBitVec.toNat / 2 ^ 8, ?_, ?_⟩
  · have := x.toBitVec.isLt
    omega
  · apply Int32.toBitVec_inj.mp
    apply BitVec.eq_of_toNat_eq
    have h := pk_ushr x 8 8 (by decide)
    rw [show (nI (x.toBitVec.toNat / 2 ^ 8)).toBitVec.toNat = x.toBitVec.toNat / 2 ^ 8 from pk_tn (by have := x.toBitVec.isLt; omega)]
    exact h
theorem irm_nI {a d : Nat} (ha : a < 2 ^ 31) (h0 : 0 < d) (hd : d < 2 ^ 31) : irm (nI a) (nI d) = nI (a % d) := pk_rem ha h0 hd
theorem draw_in (x : Int32) {d : Nat} (h0 : 0 < d) (hd : d < 2 ^ 31) : ∃ j, j < d ∧ irm (iush x 8) (nI d) = nI j := by
  obtain ⟨a, ha, he⟩ := iush8 x
  rw [he, irm_nI (by omega) h0 hd]
  exact ⟨a % d, Nat.mod_lt _ h0, rfl⟩
def mt (R : Nat → Int32) : Int32 := if tn R = 0 then 0 else if wd R = 3 then 0 else 1
theorem Rp_mayTalk_eq {R : Nat → Int32} {o : Nat} {σ : St} (hA : RA σ o R) : Rp_mayTalk o σ = some (mt R, σ) := by
  rw [Rp_mayTalk, Rp_turns_eq hA, bnd_t, mt]
  by_cases h : tn R = 0
  · rw [if_pos h, if_pos h]
  · rw [if_neg h, if_neg h, Rp_word_eq hA, bnd_t]
    by_cases h2 : wd R = 3
    · rw [if_pos h2, if_pos h2]
    · rw [if_neg h2, if_neg h2]
theorem Mo_mayTalk_eq {τ : St} {j : Nat} (hj : j < 6) : Mo_mayTalk (nI j) τ = some (if τ.2 1 (14 + 5 * j) = 1 then mt (τ.2 1) else 0, τ) := by
  rw [Mo_mayTalk, Mo_isIn_eq hj, bnd_t]
  by_cases hi : τ.2 1 (14 + 5 * j) = 1
  · rw [if_pos hi, if_pos hi, if10, Mo_doesTurn_eq, bnd_t, mt]
    by_cases h : tn (τ.2 1) = 0
    · rw [if_pos h, if_pos h]
    · rw [if_neg h, if_neg h, Mo_word_eq, bnd_t]
      by_cases h2 : wd (τ.2 1) = 3
      · rw [if_pos h2, if_pos h2]
      · rw [if_neg h2, if_neg h2]
  · rw [if_neg hi, if_neg hi, if00]
theorem g3 : inb (3 : Int32) 366 = true := rfl
theorem z3 : (3 : Int32).toNatClampNeg = 3 := by decide
theorem isB_b (b : Bool) : isB (b01 b) = true := by cases b <;> rfl
theorem Mo_talks_ok {τ : St} {N t : Nat} (hN : RN (τ.2 1) N) (ht : t < 64) (hT : TW (τ.2 1) 245) : okk (Mo_talks (nI t) τ) (fun r τ' => r = b01 (tkn (τ.2 1) t N) ∧ τ'.2 1 = (if tkn (τ.2 1) t N = true then upd (τ.2 1) 3 (nI t) else τ.2 1) ∧ QM τ τ') := by
  rw [Mo_talks]
  refine ok_bnd (Mo_isTaken_ok hN ht hT) (fun r s hq => ?_)
  have hm := QM.mq hq.2
  rw [hq.1]
  cases hb : tkn (τ.2 1) t N with
  | true =>
    rw [if_bt, g3, grd_t, nas_t, isB_b, grd_t, z3]
    exact ok_some ⟨rfl, by rw [sA_eq, mq_1 hq.2]; rfl, hm.tr (QM.put (Or.inl rfl))⟩
  | false =>
    rw [if_bf, g3, grd_t, grd_t, nas_t, isB_b, grd_t, z3]
    exact ok_some ⟨rfl, by rw [sA_eq, mq_1 hq.2]; exact upd_id rfl, hm.tr (QM.put (Or.inl rfl))⟩
theorem Lr_put {N : Nat} {σ τ σ' : St} {i : Nat} {v : Int32} (h : Lr N σ τ) (hA : RA σ' 15 (upd (τ.2 1) i v)) (hq : QR 15 σ σ') (hi : i = 1 ∨ i = 3 ∨ ∃ j, j < 6 ∧ i = 14 + 5 * j ∧ (v = 0 ∨ v = 1)) : Lr N σ' (sA τ 1 i v) ∧ Ltr σ τ σ' (sA τ 1 i v) := by
  have hr : RO (τ.2 1) (upd (τ.2 1) i v) := by
    rcases hi with rfl | rfl | ⟨j, hj, rfl, -⟩
    · exact RO.put (by omega) (by omega) (by omega) (by omega) (fun k hk => by omega)
    · exact RO.put (by omega) (by omega) (by omega) (by omega) (fun k hk => by omega)
    · exact RO.put (by omega) (by omega) (by omega) (by omega) (fun k hk => by omega)
  refine ⟨⟨?_, ?_, ?_, ?_⟩, hq, QM.put (Or.inl rfl), ?_⟩
  · rw [sA_eq]; exact hA
  · rw [sA_eq]
    refine RN_put h.2.1 (by rcases hi with rfl | rfl | ⟨j, hj, rfl, -⟩ <;> omega) (fun j hj e => ?_)
    rcases hi with rfl | rfl | ⟨k, hk, e2, e3⟩
    · omega
    · omega
    · exact e3
  · rw [sA_eq]
    refine RB_put h.2.2.1 (fun j hj e => ?_) (fun e => ?_)
    · rcases hi with rfl | rfl | ⟨k, hk, e2, e3⟩ <;> omega
    · rcases hi with rfl | rfl | ⟨k, hk, e2, e3⟩ <;> omega
  · rw [sA_eq]; exact TX_congr hr.2.1 (qr_TX (Or.inl rfl) hq h.2.2.2)
  · rw [sA_eq]; exact hr
theorem Lr_beat {N : Nat} {σ τ : St} (h : Lr N σ τ) (b : Int32) : s2 (bnd (Rp_pass 15 σ) (fun _ s => some (b, s))) (bnd (Mo_goes τ) (fun _ s => some (b, s))) (fun r σ' q τ' => q = r ∧ r = b ∧ Lr N σ' τ' ∧ Ltr σ τ σ' τ' ∧ τ'.2 1 0 = τ.2 1 0 + 1) := by
  refine s2_bnd (beat_2 h) (fun r σ' q τ' p => s2_some ⟨rfl, rfl, p.2.1, p.2.2.1, p.2.2.2⟩)
theorem g1 : inb (1 : Int32) 366 = true := rfl
theorem z1 : (1 : Int32).toNatClampNeg = 1 := by decide
theorem Mo_draw_eq {τ : St} : Mo_draw τ = some (iush (zz (τ.2 1 1)) 8, sA τ 1 1 (zz (τ.2 1 1))) := by
  rw [Mo_draw, g1, grd_t, grd_t, nas_t, grd_t, z1, sA_eq, upd_s]
  rfl
theorem Rp_draw_eq {R : Nat → Int32} {σ : St} (hA : RA σ 15 R) : Rp_draw 15 σ = some (iush (zz (R 1)) 8, sF σ 15 14 (zz (R 1))) := by
  rw [Rp_draw, nas_t, sF_eq, if_pos rfl, hA.1.2.1]
  rfl
/-- behind the draws: whether one speaks, and the beat -/
theorem talk_2 {N j t : Nat} {σ τ : St} (h : Lr N σ τ) (hj : j < 6) (ht : t < 64) :
    s2 (if σ.2 (15 + 5) j = 1 then bnd (Rp_mayTalk 15 σ) (fun r σ2 => if r = 0 then bnd (Rp_pass 15 σ2) (fun _ s => some (0, s)) else bnd (Rp_isTaken 15 (nI t) σ2) (fun r σ3 => if r = 0 then bnd (Rp_pass 15 σ3) (fun _ s => some (0, s)) else nas (sF σ3 15 11 (nI t)) (fun σ4 => bnd (Rp_pass 15 σ4) (fun _ s => some (1, s))))) else bnd (Rp_pass 15 σ) (fun _ s => some (0, s)))
      (bnd (Mo_mayTalk (nI j) τ) (fun r τ2 => if r = 0 then bnd (Mo_goes τ2) (fun _ s => some (0, s)) else bnd (Mo_talks (nI t) τ2) (fun r τ3 => if r = 0 then bnd (Mo_goes τ3) (fun _ s => some (0, s)) else bnd (Mo_goes τ3) (fun _ s => some (1, s)))))
      (fun r σ' q τ' => q = r ∧ (r = 0 ∨ r = 1) ∧ Lr N σ' τ' ∧ Ltr σ τ σ' τ' ∧ τ'.2 1 0 = τ.2 1 0 + 1) := by
  obtain ⟨hA, hN, hB, hT⟩ := id h
  have e5 : σ.2 (15 + 5) j = τ.2 1 (14 + 5 * j) := RA_at hA 4 (by decide) hj (by omega) (by omega)
  rw [e5, Mo_mayTalk_eq hj, bnd_t]
  by_cases hi : τ.2 1 (14 + 5 * j) = 1
  · rw [if_pos hi, if_pos hi, Rp_mayTalk_eq hA, bnd_t]
    by_cases hm : mt (τ.2 1) = 0
    · rw [if_pos hm, if_pos hm]
      exact s2_mono (Lr_beat h 0) (fun r σ' q τ' p => ⟨p.1, Or.inl p.2.1, p.2.2⟩)
    · rw [if_neg hm, if_neg hm]
      refine s2_l (Rp_isTaken_ok (t := t) (Or.inl rfl) hN ht hA hT) (fun r s hq => ?_)
      refine s2_r (Mo_talks_ok hN ht hT.2.1) (fun q s' hq' => ?_)
      rw [hq.1, hq'.1]
      have hA2 := sq_RA hq.2 (by decide) hA
      have hT2 := sq_TX hq.2 hT
      have hqr : QR 15 σ s := QR.sq hq.2
      cases hb : tkn (τ.2 1) t N with
      | false =>
        rw [if_bf, if_bf]
        have e1 : s'.2 1 = τ.2 1 := by rw [hq'.2.1, hb]; rfl
        have hLr : Lr N s s' := ⟨by rw [e1]; exact hA2, by rw [e1]; exact hN, by rw [e1]; exact hB, by rw [e1]; exact hT2⟩
        have hLT : Ltr σ τ s s' := ⟨hqr, hq'.2.2, by rw [e1]; exact RO.rf _⟩
        exact s2_mono (Lr_beat hLr 0) (fun r σ' q τ' p => ⟨p.1, Or.inl p.2.1, p.2.2.1, hLT.tr p.2.2.2.1, by rw [p.2.2.2.2, e1]⟩)
      | true =>
        rw [if_bt, if_bt, nas_t]
        have e1 : s'.2 1 = upd (τ.2 1) 3 (nI t) := by rw [hq'.2.1, hb]; rfl
        have hA3 := RA_treaty hA2 (nI t)
        have hqr3 : QR 15 σ (sF s 15 11 (nI t)) := hqr.tr QR.fld
        obtain ⟨l1, l2⟩ := Lr_put h hA3 hqr3 (Or.inr (Or.inl rfl))
        unfold Lr at l1
        rw [sA_eq, ← e1] at l1
        have hLT : Ltr σ τ (sF s 15 11 (nI t)) s' := ⟨hqr3, hq'.2.2, by rw [e1, ← sA_eq]; exact l2.2.2⟩
        exact s2_mono (Lr_beat l1 1) (fun r σ' q τ' p => ⟨p.1, Or.inr p.2.1, p.2.2.1, hLT.tr p.2.2.2.1, by rw [p.2.2.2.2, e1, upd_n (by decide)]⟩)
  · rw [if_neg hi, if_neg hi, if00]
    exact s2_mono (Lr_beat h 0) (fun r σ' q τ' p => ⟨p.1, Or.inl p.2.1, p.2.2⟩)
theorem draw_2 {N : Nat} {σ τ : St} (h : Lr N σ τ) : s2 (Rp_passByDraws 15 σ) (Mo_drawn τ) (fun r σ' q τ' => q = r ∧ (r = 0 ∨ r = 1) ∧ Lr N σ' τ' ∧ Ltr σ τ σ' τ' ∧ τ'.2 1 0 = τ.2 1 0 + 1) := by
  obtain ⟨hA, hN, hB, hT⟩ := id h
  have h6 := hN.1
  rw [Rp_passByDraws, Mo_drawn, g2, grd_t, z2, hA.1.2.2.1, hN.2.1]
  by_cases h0 : N = 0
  · rw [h0, if_pos (show nI 0 ≤ 0 from Int32.le_refl _), if_pos (show nI 0 ≤ 0 from Int32.le_refl _)]
    rw [h0] at h
    exact s2_mono (Lr_beat h 0) (fun r σ' q τ' p => ⟨p.1, Or.inl p.2.1, p.2.2⟩)
  · rw [if_neg (nI_nle (by omega) (by omega)), if_neg (nI_nle (by omega) (by omega)), Rp_draw_eq hA, bnd_t, Mo_draw_eq, bnd_t, grd_t]
    obtain ⟨l1, t1⟩ := Lr_put (i := 1) (v := zz (τ.2 1 1)) h (RA_z hA _) QR.fld (Or.inl rfl)
    have e0 : (sA τ 1 1 (zz (τ.2 1 1))).2 1 0 = τ.2 1 0 := by rw [sA_eq, upd_n (by decide)]
    generalize hσ1 : sF σ 15 14 (zz (τ.2 1 1)) = σ1 at l1 t1 ⊢
    generalize hτ1 : sA τ 1 1 (zz (τ.2 1 1)) = τ1 at l1 t1 e0 ⊢
    obtain ⟨hA1, hN1, hB1, hT1⟩ := id l1
    obtain ⟨j, hj, hje⟩ := draw_in (zz (τ.2 1 1)) (d := N) (by omega) (by omega)
    have hnz : nz (nI N) = true := nz_of (nI_ne0 (by omega) (by omega))
    rw [hA1.1.2.2.1, hN1.2.1, hnz, grd_t, grd_t, hje, nam_t, nam_t, Rp_draw_eq hA1, bnd_t, Mo_draw_eq, bnd_t]
    obtain ⟨l2, t2⟩ := Lr_put (i := 1) (v := zz (τ1.2 1 1)) l1 (RA_z hA1 _) QR.fld (Or.inl rfl)
    have e1 : (sA τ1 1 1 (zz (τ1.2 1 1))).2 1 0 = τ1.2 1 0 := by rw [sA_eq, upd_n (by decide)]
    generalize hσ2 : sF σ1 15 14 (zz (τ1.2 1 1)) = σ2 at l2 t2 ⊢
    generalize hτ2 : sA τ1 1 1 (zz (τ1.2 1 1)) = τ2 at l2 t2 e1 ⊢
    obtain ⟨hA2, hN2, hB2, hT2⟩ := id l2
    obtain ⟨t, ht, hte⟩ := draw_in (zz (τ1.2 1 1)) (d := 64) (by omega) (by omega)
    rw [show (64 : Int32) = nI 64 from rfl, hte, show nz (nI 64) = true from rfl, grd_t, grd_t, nam_t, nam_t, Rp_turns_eq hA2, bnd_t, Mo_doesTurn_eq, bnd_t]
    have t12 := t1.tr t2
    by_cases htn : tn (τ2.2 1) = 0
    · rw [if_pos htn, if_pos htn, Mo_of4 (by omega), bnd_t, Mo_lets4 (by omega), bnd_t, inb_nI (show j < 6 by omega) (by omega), grd_t, nI_clamp (show j < 2 ^ 31 by omega)]
      have e2 : (sA τ2 1 (14 + 5 * j) (τ2.2 1 (14 + 5 * j))).2 1 = τ2.2 1 := by rw [sA_eq]; exact upd_id rfl
      have hm : QM τ2 (sA τ2 1 (14 + 5 * j) (τ2.2 1 (14 + 5 * j))) := QM.put (Or.inl rfl)
      generalize sA τ2 1 (14 + 5 * j) (τ2.2 1 (14 + 5 * j)) = τ3 at e2 hm ⊢
      have l3 : Lr N σ2 τ3 := by unfold Lr; rw [e2]; exact l2
      have t3 : Ltr σ2 τ2 σ2 τ3 := ⟨QR.rf _ _, hm, by rw [e2]; exact RO.rf _⟩
      exact s2_mono (talk_2 l3 (show j < 6 by omega) ht) (fun r σ' q τ' p => ⟨p.1, p.2.1, p.2.2.1, t12.tr (t3.tr p.2.2.2.1), by rw [p.2.2.2.2, e2, e1, e0]⟩)
    · rw [if_neg htn, if_neg htn, Mo_lets4 (by omega), bnd_t, inb_nI (show j < 6 by omega) (by omega), grd_t, nI_clamp (show j < 2 ^ 31 by omega), nas_t, grd_t]
      obtain ⟨l3, t3⟩ := Lr_put (i := 14 + 5 * j) (v := 1) l2 (RA_put hA2 4 1 (by decide) (show j < 6 by omega) rfl (by omega)) (QR.put (by omega) (by omega)) (Or.inr (Or.inr ⟨j, by omega, rfl, Or.inr rfl⟩))
      have e2 : (sA τ2 1 (14 + 5 * j) 1).2 1 0 = τ2.2 1 0 := by rw [sA_eq, upd_n (by omega)]
      generalize sA τ2 1 (14 + 5 * j) 1 = τ3 at l3 t3 e2 ⊢
      exact s2_mono (talk_2 l3 (show j < 6 by omega) ht) (fun r σ' q τ' p => ⟨p.1, p.2.1, p.2.2.1, t12.tr (t3.tr p.2.2.2.1), by rw [p.2.2.2.2, e2, e1, e0]⟩)
theorem loose_loop {N K : Nat} (hK : K < 1000) : ∀ (m k n n' : Nat) (x : Int32) (σ τ : St), k + m = K → m < n → m < n' → Lr N σ τ → s2 (Mn_loose_L41 n (nI K) x (nI k) σ) (Mo_loose_L41 n' (nI K) x (nI k) τ) (fun r σ' q τ' => q = r ∧ Lr N σ' τ' ∧ Ltr σ τ σ' τ' ∧ τ'.2 1 0 = τ.2 1 0 + nI m) := by
  intro m
  induction m with
  | zero =>
    intro k n n' x σ τ hk hn hn' h
    obtain ⟨n, rfl⟩ : ∃ z, n = z + 1 := ⟨n - 1, by omega⟩
    obtain ⟨n', rfl⟩ : ∃ z, n' = z + 1 := ⟨n' - 1, by omega⟩
    have hk : k = K := by omega
    rw [hk, Mn_loose_L41, Mo_loose_L41, if_pos (Int32.le_refl _), if_pos (Int32.le_refl _)]
    exact s2_some ⟨rfl, h, Ltr.rf σ τ, (Int32.add_zero _).symm⟩
  | succ m ih =>
    intro k n n' x σ τ hk hn hn' h
    obtain ⟨n, rfl⟩ : ∃ z, n = z + 1 := ⟨n - 1, by omega⟩
    obtain ⟨n', rfl⟩ : ∃ z, n' = z + 1 := ⟨n' - 1, by omega⟩
    have hg := nI_ge (show k < K by omega) (show K < 2 ^ 31 by omega)
    rw [Mn_loose_L41, Mo_loose_L41, if_neg hg, if_neg hg]
    refine s2_bnd (draw_2 h) (fun r σ' q τ' p => ?_)
    have hh : ∀ x, s2 (Mn_loose_L41 n (nI K) x (nI (k + 1)) σ') (Mo_loose_L41 n' (nI K) x (nI (k + 1)) τ') (fun r σ' q τ' => q = r ∧ Lr N σ' τ' ∧ Ltr σ τ σ' τ' ∧ τ'.2 1 0 = τ.2 1 0 + nI (m + 1)) := fun x => by
      refine s2_mono (ih (k + 1) n n' x σ' τ' (by omega) (by omega) (by omega) p.2.2.1) (fun r σ'' q τ'' p' => ⟨p'.1, p'.2.1, p.2.2.2.1.tr p'.2.2.1, ?_⟩)
      rw [p'.2.2.2, p.2.2.2.2, Int32.add_assoc, ← nI_lit1, Int32.add_comm 1]
    rw [p.1, nam_t, nam_t, nI_lit1]
    rcases p.2.1 with e | e
    · rw [e, if00, nam_t, nam_t]; exact hh _
    · rw [e, if10, nam_t, nam_t]; exact hh _
