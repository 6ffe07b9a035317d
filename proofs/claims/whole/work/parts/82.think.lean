/-! ===== beats, and what is only thought ===== -/
theorem Lr_of {σ τ : St} (h : Rl σ τ) : ∃ N, RN (τ.2 1) N ∧ Lr N σ τ := by
  obtain ⟨N, hN⟩ := h.1.2.1
  exact ⟨N, hN, h.1.1, hN, h.1.2.2.1, Rl_TX h⟩
theorem Rl_of_Lr {N : Nat} {σ τ σ' τ' : St} (h : Rl σ τ) (l : Lr N σ' τ') (t : Ltr σ τ σ' τ') (hb : ∃ b, b ≤ 99999 ∧ τ'.2 1 0 = nI b) : Rl σ' τ' := by
  obtain ⟨t1, t2, t3⟩ := t
  refine Rl_new h t1 (FM.qm t2) l.1 ⟨N, l.2.1⟩ l.2.2.1 ⟨fun j hj => ?_, hb⟩ t3.1.2.1 t3.1.2.2 t3.2.1
  rw [t3.2.2 j hj]
  exact h.1.2.2.2.2.2.2.1 j hj
theorem in_1 {p : Int32} {m : Nat} (hm : m < 2 ^ 31) (h1 : ¬ p < 1) (h2 : p ≤ nI m) : ∃ k, 1 ≤ k ∧ k ≤ m ∧ p = nI k := by
  have e : (1 : Int32).toInt = 1 := rfl
  obtain ⟨k, hk, he⟩ := nI_of (x := p) (by rw [lt_i, e] at h1; rw [lt_i, show (0 : Int32).toInt = 0 from rfl]; omega)
  rw [he, lt_i, nI_toInt hk, e] at h1
  rw [he] at h2
  exact ⟨k, by omega, (nI_leI hk hm).mp h2, he⟩
theorem wi_1 {p m : Int32} (h1 : ¬ p < 1) (h2 : p ≤ m) : wi p 1 m = true := wi_yes h1 (by rw [lt_i]; rw [le_i] at h2; omega)
theorem wi_2 {p lo m : Int32} (h2 : ¬ p ≤ m) : wi p lo m = false := wi_no2 (by rw [lt_i]; rw [le_i] at h2; omega)
theorem g0 : inb (0 : Int32) 366 = true := rfl
theorem z0 : (0 : Int32).toNatClampNeg = 0 := by decide
theorem op_beats {σ τ : St} (h : Rl σ τ) (a : Int32) : OK2 (Mn_beats a σ) (Mo_beats a τ) := by
  obtain ⟨N, hN, l⟩ := Lr_of h
  have hA := h.1.1
  rw [Mn_beats, Mo_beats, Mo_in_eq, bnd_t]
  by_cases h1 : a < 1
  · rw [if_pos h1, wi_no1 h1, if_bf]; exact err1 h
  · rw [if_neg h1]
    by_cases h2 : a ≤ 99
    · rw [if_pos h2, wi_1 h1 h2, if_bt, g0, grd_t, z0, hA.1.1]
      by_cases h3 : τ.2 1 0 + a ≤ 99999
      · rw [if_pos h3, if_pos h3]
        obtain ⟨k, hk1, hk2, rfl⟩ := in_1 (m := 99) (by decide) h1 h2
        refine s2_mono (beats_loop (by omega) k 0 1000 1000 0 σ τ (by omega) (by omega) (by omega) l) (fun r σ' q τ' p => ⟨p.1, Rl_of_Lr h p.2.1 p.2.2.1 ?_⟩)
        obtain ⟨b, hb, he⟩ := h.1.2.2.2.2.2.2.2
        rw [p.2.2.2, he, nI_add]
        rw [he, nI_add] at h3
        exact ⟨b + k, (nI_leI (b := 99999) (by omega) (by omega)).mp h3, rfl⟩
      · rw [if_neg h3, if_neg h3]; exact err3 h
    · rw [if_neg h2, wi_2 h2, if_bf]; exact err1 h
theorem op_loose {σ τ : St} (h : Rl σ τ) (a : Int32) : OK2 (Mn_loose a σ) (Mo_loose a τ) := by
  obtain ⟨N, hN, l⟩ := Lr_of h
  have hA := h.1.1
  rw [Mn_loose, Mo_loose, Mo_in_eq, bnd_t]
  by_cases h1 : a < 1
  · rw [if_pos h1, wi_no1 h1, if_bf]; exact err1 h
  · rw [if_neg h1]
    by_cases h2 : a ≤ 30
    · rw [if_pos h2, wi_1 h1 h2, if_bt, g0, grd_t, z0, hA.1.1]
      by_cases h3 : τ.2 1 0 + a ≤ 99999
      · rw [if_pos h3, if_pos h3]
        obtain ⟨k, hk1, hk2, rfl⟩ := in_1 (m := 30) (by decide) h1 h2
        refine s2_mono (loose_loop (by omega) k 0 1000 1000 0 σ τ (by omega) (by omega) (by omega) l) (fun r σ' q τ' p => ⟨p.1, Rl_of_Lr h p.2.1 p.2.2.1 ?_⟩)
        obtain ⟨b, hb, he⟩ := h.1.2.2.2.2.2.2.2
        rw [p.2.2.2, he, nI_add]
        rw [he, nI_add] at h3
        exact ⟨b + k, (nI_leI (b := 99999) (by omega) (by omega)).mp h3, rfl⟩
      · rw [if_neg h3, if_neg h3]; exact err3 h
    · rw [if_neg h2, wi_2 h2, if_bf]; exact err1 h
/-! copies -/
theorem sC1 {σ : St} {a i b j n : Nat} : (sC σ a i b j n).1 = σ.1 := rfl
theorem sC_ne {σ : St} {a i b j n c : Nat} (h : c ≠ b) : (sC σ a i b j n).2 c = σ.2 c := by funext k; simp [sC, h]
theorem sC_eq {σ : St} {a i b j n : Nat} : (sC σ a i b j n).2 b = va_cpy (σ.2 a) (σ.2 b) i j n := by funext k; simp [sC]
theorem sC_at {σ : St} {a b n k : Nat} (h : k < n) : (sC σ a 0 b 0 n).2 b k = σ.2 a k := by
  rw [sC_eq, pk_cpy_in (Nat.zero_le _) (by omega)]
  rw [Nat.zero_add, Nat.sub_zero]
theorem z6 : (6 : Int32).toNatClampNeg = 6 := by decide
theorem z24 : (24 : Int32).toNatClampNeg = 24 := by decide
theorem z60 : (60 : Int32).toNatClampNeg = 60 := by decide
theorem cp6 : cpb (0 : Int32) (0 : Int32) (6 : Int32) 6 6 = true := by decide
theorem cp2 : cpb (0 : Int32) (0 : Int32) (2 : Int32) 2 2 = true := by decide
theorem cp24 : cpb (0 : Int32) (0 : Int32) (24 : Int32) 24 24 = true := by decide
theorem cp60 : cpb (0 : Int32) (0 : Int32) (60 : Int32) 60 60 = true := by decide
/-- the six rows of a rope, copied -/
def cpr (σ : St) (o p : Nat) : St := sC (sC (sC (sC (sC (sC σ (p + 1) 0 (o + 1) 0 6) (p + 2) 0 (o + 2) 0 6) (p + 3) 0 (o + 3) 0 6) (p + 4) 0 (o + 4) 0 6) (p + 5) 0 (o + 5) 0 6) (p + 6) 0 (o + 6) 0 2
theorem cpr_out {σ : St} {o p a : Nat} (h : a < o + 1 ∨ o + 6 < a) : (cpr σ o p).2 a = σ.2 a := by
  unfold cpr
  rw [sC_ne (by omega), sC_ne (by omega), sC_ne (by omega), sC_ne (by omega), sC_ne (by omega), sC_ne (by omega)]
theorem cpr_in {σ : St} {o p w j : Nat} (hop : p + 9 ≤ o ∨ o + 9 ≤ p) (hw : w < 5) (hj : j < 6) : (cpr σ o p).2 (o + 1 + w) j = σ.2 (p + 1 + w) j := by
  unfold cpr
  match w, hw with
  | 0, _ => rw [sC_ne (by omega), sC_ne (by omega), sC_ne (by omega), sC_ne (by omega), sC_ne (by omega)]; exact sC_at hj
  | 1, _ =>
    rw [sC_ne (by omega), sC_ne (by omega), sC_ne (by omega), sC_ne (by omega)]
    refine (sC_at (b := o + 2) hj).trans ?_
    rw [sC_ne (by omega)]
  | 2, _ =>
    rw [sC_ne (by omega), sC_ne (by omega), sC_ne (by omega)]
    refine (sC_at (b := o + 3) hj).trans ?_
    rw [sC_ne (by omega), sC_ne (by omega)]
  | 3, _ =>
    rw [sC_ne (by omega), sC_ne (by omega)]
    refine (sC_at (b := o + 4) hj).trans ?_
    rw [sC_ne (by omega), sC_ne (by omega), sC_ne (by omega)]
  | 4, _ =>
    rw [sC_ne (by omega)]
    refine (sC_at (b := o + 5) hj).trans ?_
    rw [sC_ne (by omega), sC_ne (by omega), sC_ne (by omega), sC_ne (by omega)]
theorem cpr_arm {σ : St} {o p j : Nat} (hop : p + 9 ≤ o ∨ o + 9 ≤ p) (hj : j < 2) : (cpr σ o p).2 (o + 6) j = σ.2 (p + 6) j := by
  unfold cpr
  refine (sC_at hj).trans ?_
  rw [sC_ne (by omega), sC_ne (by omega), sC_ne (by omega), sC_ne (by omega), sC_ne (by omega)]
def cpf (σ : St) (o p : Nat) : St := sF (sF (sF (sF (sF (sF σ o 9 (σ.1 p 9)) o 10 (σ.1 p 10)) o 11 (σ.1 p 11)) o 12 (σ.1 p 12)) o 13 (σ.1 p 13)) o 14 (σ.1 p 14)
/-- what follows in a rope's copy behind its texts -/
theorem cp_rest {σ : St} {o p : Nat} (hop : p + 9 ≤ o ∨ o + 9 ≤ p) : (
  grd (cpb (0 : Int32) (0 : Int32) (6 : Int32) 6 6) (
  nas (sC σ (p + 1) (0 : Int32).toNatClampNeg (o + 1) (0 : Int32).toNatClampNeg (6 : Int32).toNatClampNeg) (fun σ9 =>
  grd (cpb (0 : Int32) (0 : Int32) (6 : Int32) 6 6) (
  nas (sC σ9 (p + 2) (0 : Int32).toNatClampNeg (o + 2) (0 : Int32).toNatClampNeg (6 : Int32).toNatClampNeg) (fun σ10 =>
  grd (cpb (0 : Int32) (0 : Int32) (6 : Int32) 6 6) (
  nas (sC σ10 (p + 3) (0 : Int32).toNatClampNeg (o + 3) (0 : Int32).toNatClampNeg (6 : Int32).toNatClampNeg) (fun σ11 =>
  grd (cpb (0 : Int32) (0 : Int32) (6 : Int32) 6 6) (
  nas (sC σ11 (p + 4) (0 : Int32).toNatClampNeg (o + 4) (0 : Int32).toNatClampNeg (6 : Int32).toNatClampNeg) (fun σ12 =>
  grd (cpb (0 : Int32) (0 : Int32) (6 : Int32) 6 6) (
  nas (sC σ12 (p + 5) (0 : Int32).toNatClampNeg (o + 5) (0 : Int32).toNatClampNeg (6 : Int32).toNatClampNeg) (fun σ13 =>
  grd (cpb (0 : Int32) (0 : Int32) (2 : Int32) 2 2) (
  nas (sC σ13 (p + 6) (0 : Int32).toNatClampNeg (o + 6) (0 : Int32).toNatClampNeg (2 : Int32).toNatClampNeg) (fun σ14 =>
  nas (sF σ14 o 9 (σ14.1 p 9)) (fun σ15 =>
  nas (sF σ15 o 10 (σ15.1 p 10)) (fun σ16 =>
  nas (sF σ16 o 11 (σ16.1 p 11)) (fun σ17 =>
  nas (sF σ17 o 12 (σ17.1 p 12)) (fun σ18 =>
  nas (sF σ18 o 13 (σ18.1 p 13)) (fun σ19 =>
  nas (sF σ19 o 14 (σ19.1 p 14)) (fun σ20 =>
  some (0, σ20))))))))))))))))))) : Option (Int32 × St)) = some (0, cpf (cpr σ o p) o p) := by
  have hpo : p ≠ o := by omega
  rw [cp6, grd_t, nas_t, grd_t, nas_t, grd_t, nas_t, grd_t, nas_t, grd_t, nas_t, cp2, grd_t, nas_t, z0, z6, z2]
  rw [show sC (sC (sC (sC (sC (sC σ (p + 1) 0 (o + 1) 0 6) (p + 2) 0 (o + 2) 0 6) (p + 3) 0 (o + 3) 0 6) (p + 4) 0 (o + 4) 0 6) (p + 5) 0 (o + 5) 0 6) (p + 6) 0 (o + 6) 0 2 = cpr σ o p from rfl]
  generalize cpr σ o p = ρ
  rw [nas_t, sF_ne hpo, nas_t, sF_ne hpo, sF_ne hpo, nas_t, sF_ne hpo, sF_ne hpo, sF_ne hpo, nas_t, sF_ne hpo, sF_ne hpo, sF_ne hpo, sF_ne hpo, nas_t, sF_ne hpo, sF_ne hpo, sF_ne hpo, sF_ne hpo, sF_ne hpo, nas_t]
  rfl
theorem cpf_RA {σ : St} {o p : Nat} {R : Nat → Int32} (hop : p + 9 ≤ o ∨ o + 9 ≤ p) (hA : RA σ p R) : RA (cpf (cpr σ o p) o p) o R := by
  have hpo : p ≠ o := by omega
  obtain ⟨⟨h1, h2, h3, h4, h5, h6, h7, h8⟩, h9⟩ := hA
  unfold cpf
  refine ⟨⟨?_, ?_, ?_, ?_, ?_, ?_, ?_, ?_⟩, ?_⟩
  · rw [sF_eq, if_neg (by decide), sF_eq, if_neg (by decide), sF_eq, if_neg (by decide), sF_eq, if_neg (by decide), sF_eq, if_pos rfl]; exact h1
  · rw [sF_eq, if_pos rfl]; exact h2
  · rw [sF_eq, if_neg (by decide), sF_eq, if_neg (by decide), sF_eq, if_neg (by decide), sF_eq, if_neg (by decide), sF_eq, if_neg (by decide), sF_eq, if_pos rfl]; exact h3
  · rw [sF_eq, if_neg (by decide), sF_eq, if_neg (by decide), sF_eq, if_neg (by decide), sF_eq, if_pos rfl]; exact h4
  · rw [sF_eq, if_neg (by decide), sF_eq, if_pos rfl]; exact h5
  · exact (cpr_arm hop (by decide)).trans h6
  · exact (cpr_arm hop (by decide)).trans h7
  · rw [sF_eq, if_neg (by decide), sF_eq, if_neg (by decide), sF_eq, if_pos rfl]; exact h8
  · intro w j hw hj
    exact (cpr_in hop hw hj).trans (h9 w j hw hj)
theorem cpf_QR {σ : St} {o p : Nat} : QR o σ (cpf (cpr σ o p) o p) := by
  unfold cpf
  refine ⟨fun q hq => ?_, fun a _ _ ha => ?_⟩
  · rw [sF_ne hq, sF_ne hq, sF_ne hq, sF_ne hq, sF_ne hq, sF_ne hq]
    rfl
  · exact cpr_out (by omega)
theorem Tx_copy_ok {o p : Nat} {σ : St} (hop : p ≠ o) : okk (Tx_copy o p σ) (fun _ σ' => (∀ q k, (q = o → k ≠ 3) → σ'.1 q k = σ.1 q k) ∧ (∀ a, a ≠ o + 1 → σ'.2 a = σ.2 a) ∧ σ'.1 o 3 = σ.1 p 3 ∧ ∀ i, i < 60 → σ'.2 (o + 1) i = σ.2 (p + 1) i) := by
  rw [Tx_copy, Tx_learn, cp60, grd_t, nas_t, nas_t, bnd_t, z0, z60]
  refine ok_some ⟨fun q k h => ?_, fun a ha => ?_, ?_, fun i hi => ?_⟩
  · by_cases e : q = o
    · rw [e, sF_eq, if_neg (h e)]; rfl
    · rw [sF_ne e]; rfl
  · rw [sF2, sC_ne ha]
  · rw [sF_eq, if_pos rfl]
  · rw [sF2]; exact sC_at hi
/-- a rope, copied with its texts -/
theorem Rp_copy_ok {o p t u : Nat} {σ : St} {R : Nat → Int32} (hop : p + 9 ≤ o ∨ o + 9 ≤ p) (ht : rpx o = [t, t + 3]) (hu : rpx p = [u, u + 3]) (hd : (t + 4 < o ∨ o + 9 ≤ t) ∧ (t + 4 < p ∨ p + 9 ≤ t) ∧ (u + 4 < o ∨ o + 9 ≤ u) ∧ (t + 5 ≤ u ∨ u + 5 ≤ t)) (hA : RA σ p R) : okk (Rp_copy o p σ) (fun _ σ' => RA σ' o R ∧ (∀ q k, q ≠ o → (q = t → k ≠ 3) → (q = t + 3 → k ≠ 3) → σ'.1 q k = σ.1 q k) ∧ (∀ a, (a < o + 1 ∨ o + 6 < a) → a ≠ t + 1 → a ≠ t + 3 + 1 → σ'.2 a = σ.2 a) ∧ σ'.1 t 3 = σ.1 u 3 ∧ (∀ i, i < 60 → σ'.2 (t + 1) i = σ.2 (u + 1) i) ∧ σ'.1 (t + 3) 3 = σ.1 (u + 3) 3 ∧ ∀ i, i < 60 → σ'.2 (t + 3 + 1) i = σ.2 (u + 3 + 1) i) := by
  obtain ⟨d1, d2, d3, d4⟩ := hd
  rw [Rp_copy, ht, hu, show inb (0 : Int32) ([t, t + 3] : List Nat).length = true from rfl, grd_t, wid_t, show ([t, t + 3] : List Nat).getD (0 : Int32).toNatClampNeg 0 = t from rfl, show inb (0 : Int32) ([u, u + 3] : List Nat).length = true from rfl, grd_t, wid_t, show ([u, u + 3] : List Nat).getD (0 : Int32).toNatClampNeg 0 = u from rfl]
  refine ok_bnd (Tx_copy_ok (by omega)) (fun _ s1 q1 => ?_)
  rw [show inb (1 : Int32) ([t, t + 3] : List Nat).length = true from rfl, grd_t, wid_t, show ([t, t + 3] : List Nat).getD (1 : Int32).toNatClampNeg 0 = t + 3 from rfl, show inb (1 : Int32) ([u, u + 3] : List Nat).length = true from rfl, grd_t, wid_t, show ([u, u + 3] : List Nat).getD (1 : Int32).toNatClampNeg 0 = u + 3 from rfl]
  refine ok_bnd (Tx_copy_ok (by omega)) (fun _ s2 q2 => ?_)
  obtain ⟨a1, a2, a3, a4⟩ := q1
  obtain ⟨b1, b2, b3, b4⟩ := q2
  have hA2 : RA s2 p R := RA_keep hA (fun k => by rw [b1 p k (by omega), a1 p k (by omega)]) (fun a h1 h2 => by rw [b2 a (by omega), a2 a (by omega)])
  have hQ : QR o s2 (cpf (cpr s2 o p) o p) := cpf_QR
  have hC : ∀ a, (a < o + 1 ∨ o + 6 < a) → (cpf (cpr s2 o p) o p).2 a = s2.2 a := fun a ha => by
    unfold cpf
    exact cpr_out ha
  refine ok_eq (cp_rest hop) ⟨cpf_RA hop hA2, fun q k h1 h2 h3 => ?_, fun a h1 h2 h3 => ?_, ?_, fun i hi => ?_, ?_, fun i hi => ?_⟩
  · rw [hQ.1 q h1, b1 q k h3, a1 q k h2]
  · rw [hC a h1, b2 a h3, a2 a h2]
  · rw [hQ.1 t (by omega), b1 t 3 (by omega), a3]
  · rw [hC (t + 1) (by omega), b2 (t + 1) (by omega), a4 i hi]
  · rw [hQ.1 (t + 3) (by omega), b3, a1 (u + 3) 3 (by omega)]
  · rw [hC (t + 3 + 1) (by omega), b4 i hi, a2 (u + 3 + 1) (by omega)]
theorem Mo_copy_loop {f t : Nat} (hft : t ≠ f) : ∀ (m k n : Nat) (τ : St), k + m = 366 → m < n → okk (Mo_copyAll_L2 n f t (nI k) τ) (fun _ τ' => τ'.1 = τ.1 ∧ (∀ a, a ≠ t → τ'.2 a = τ.2 a) ∧ (∀ i, k ≤ i → i < 366 → τ'.2 t i = τ.2 f i) ∧ ∀ i, (i < k ∨ 366 ≤ i) → τ'.2 t i = τ.2 t i) := by
  intro m
  induction m with
  | zero =>
    intro k n τ hk hn
    obtain ⟨n, rfl⟩ : ∃ z, n = z + 1 := ⟨n - 1, by omega⟩
    have hk : k = 366 := by omega
    rw [hk, Mo_copyAll_L2, if_pos (show (366 : Int32) ≤ nI 366 from Int32.le_refl _)]
    exact ok_some ⟨rfl, fun _ _ => rfl, fun i h1 h2 => by omega, fun _ _ => rfl⟩
  | succ m ih =>
    intro k n τ hk hn
    obtain ⟨n, rfl⟩ : ∃ z, n = z + 1 := ⟨n - 1, by omega⟩
    rw [Mo_copyAll_L2, if_neg (show ¬ (366 : Int32) ≤ nI k from nI_ge (b := 366) (by omega) (by decide)), inb_nI (show k < 366 by omega) (by decide), grd_t, grd_t, nas_t, nam_t, nI_lit1, nI_clamp (show k < 2 ^ 31 by omega)]
    refine ok_mono (ih (k + 1) n _ (by omega) (by omega)) (fun r s q => ⟨q.1, fun a ha => ?_, fun i h1 h2 => ?_, fun i hi => ?_⟩)
    · rw [q.2.1 a ha, sA_ne ha]
    · by_cases e : i = k
      · rw [e, q.2.2.2 k (by omega), sA_eq, upd_s]
      · rw [q.2.2.1 i (by omega) h2, sA_ne (Ne.symm hft)]
    · rw [q.2.2.2 i (by omega), sA_eq, upd_n (by omega)]
theorem Mo_copyAll_ok {f t : Nat} (hft : t ≠ f) {τ : St} : okk (Mo_copyAll f t τ) (fun _ τ' => τ'.1 = τ.1 ∧ (∀ a, a ≠ t → τ'.2 a = τ.2 a) ∧ (∀ i, i < 366 → τ'.2 t i = τ.2 f i) ∧ ∀ i, 366 ≤ i → τ'.2 t i = τ.2 t i) := ok_mono (Mo_copy_loop hft 366 0 1000 τ (by omega) (by omega)) (fun r s q => ⟨q.1, q.2.1, fun i hi => q.2.2.1 i (by omega) hi, fun i hi => q.2.2.2 i (by omega)⟩)
/-- the reference thinks: the row is kept ahead -/
def TB (τ0 τ : St) : Prop := τ.1 = τ0.1 ∧ (∀ a, a ≠ 1 → a ≠ 3 → a ≠ 10 → a ≠ 11 → a ≠ 12 → τ.2 a = τ0.2 a) ∧ ∀ i, i < 366 → τ.2 3 i = τ0.2 1 i
theorem TB.qm {τ0 τ τ' : St} (h : TB τ0 τ) (q : QM τ τ') : TB τ0 τ' := ⟨q.1.trans h.1, fun a h1 h3 h10 h11 h12 => (q.2 a h1 h10 h11 h12).trans (h.2.1 a h1 h3 h10 h11 h12), fun i hi => by rw [q.2 3 (by decide) (by decide) (by decide) (by decide)]; exact h.2.2 i hi⟩
theorem Mo_thinks_ok {τ : St} : okk (Mo_thinks τ) (fun _ τ' => TB τ τ' ∧ τ'.2 1 = τ.2 1) := by
  rw [Mo_thinks]
  refine ok_bnd (Mo_copyAll_ok (f := 1) (t := 3) (by decide)) (fun r s q => ok_some ⟨⟨q.1, fun a _ h _ _ _ => q.2.1 a h, q.2.2.1⟩, q.2.1 1 (by decide)⟩)
theorem Mo_putsBack_ok {τ0 τ : St} (h : TB τ0 τ) (hr : ∀ i, 366 ≤ i → τ.2 1 i = τ0.2 1 i) : okk (Mo_putsBack τ) (fun _ τ' => MX τ0 τ') := by
  rw [Mo_putsBack]
  refine ok_bnd (Mo_copyAll_ok (f := 3) (t := 1) (by decide)) (fun r s q => ok_some ⟨by rw [q.1, h.1], by rw [q.1, h.1], fun a ha => ?_⟩)
  by_cases e : a = 1
  · rw [e]
    funext i
    by_cases hi : i < 366
    · rw [q.2.2.1 i hi, h.2.2 i hi]
    · rw [q.2.2.2 i (by omega), hr i (by omega)]
  · rw [q.2.1 a e]
    exact h.2.1 a e (by omega) (by omega) (by omega) (by omega)
theorem pn_back {R : Nat → Int32} {N : Nat} (hN : RN R N) (hB : RB R) (k : Nat) : ∀ i, 366 ≤ i → pn R N k i = R i := fun i hi => (pn_all hN hB k).1.2.1 i (by omega)
/-! then -/
theorem Mn_then_loop {R : Nat → Int32} {N K j : Nat} {x3 : Int32} (hN : RN R N) (hB : RB R) (hj : j < 6) (hK : K < 1000) : ∀ (m k n : Nat) (σ : St), k + m = K → m < n → RA σ 24 (pn R N k) → TX σ 24 R → okk (Mn_then_L48 n (nI j) (nI K) x3 (nI k) σ) (fun r σ' => r = (if x3 = 0 then pn R N K (12 + 5 * j) else pn R N K (14 + 5 * j)) ∧ QR 24 σ σ') := by
  intro m
  induction m with
  | zero =>
    intro k n σ hk hn hA hT
    obtain ⟨n, rfl⟩ : ∃ z, n = z + 1 := ⟨n - 1, by omega⟩
    have hk : k = K := by omega
    rw [hk] at hA ⊢
    rw [Mn_then_L48, if_pos (Int32.le_refl _), inb_nI hj (by decide), nI_clamp (by omega)]
    by_cases h : x3 = 0
    · rw [if_pos h, if_pos h, grd_t, RA_at hA 2 (a := 27) (i := 12 + 5 * j) (by decide) hj (by omega) (by omega)]
      exact ok_some ⟨rfl, QR.rf _ _⟩
    · rw [if_neg h, if_neg h, grd_t, RA_at hA 4 (a := 29) (i := 14 + 5 * j) (by decide) hj (by omega) (by omega)]
      exact ok_some ⟨rfl, QR.rf _ _⟩
  | succ m ih =>
    intro k n σ hk hn hA hT
    obtain ⟨n, rfl⟩ : ∃ z, n = z + 1 := ⟨n - 1, by omega⟩
    rw [Mn_then_L48, if_neg (nI_ge (show k < K by omega) (by omega))]
    refine ok_bnd (Rp_pass_n (Or.inr rfl) hN hB hA hT) (fun r s q => ?_)
    rw [nam_t, nI_lit1]
    exact ok_mono (ih (k + 1) n s (by omega) (by omega) q.2.1 q.2.2.2) (fun r s' p => ⟨p.1, q.2.2.1.tr p.2⟩)
theorem Rl_mx {σ τ : St} (h : Rl σ τ) : σ.1 66 0 = 20 ∧ σ.1 69 0 = 99 := ⟨h.2.1.1.2, h.2.1.2.2⟩
theorem TW_60 {R : Nat → Int32} {t i : Nat} (h : TW R t) (hi : i < (R t).toNatClampNeg) : i < 60 := by
  obtain ⟨len, l1, l2, -⟩ := h
  rw [l2, nI_clamp (by omega)] at hi
  omega
theorem copy_24 {R : Nat → Int32} {σ : St} (hA : RA σ 15 R) (hT : TX σ 15 R) (hm : σ.1 66 0 = 20 ∧ σ.1 69 0 = 99) : okk (Rp_copy 24 15 σ) (fun _ σ' => RA σ' 24 R ∧ TX σ' 24 R ∧ SX σ σ') := by
  refine ok_mono (Rp_copy_ok (o := 24) (p := 15) (t := 66) (u := 3) (by omega) rfl rfl (by omega) hA) (fun _ s q => ?_)
  obtain ⟨q1, q2, q3, q4, q5, q6, q7⟩ := q
  obtain ⟨t1, t2, t3, t4, t5, t6⟩ := hT
  refine ⟨q1, ⟨t1, t2, ⟨?_, fun i hi => ?_⟩, ⟨?_, fun i hi => ?_⟩, ?_, ?_⟩, ⟨fun o k h1 h2 h3 => q2 o k (by omega) (by omega) (by omega), fun a h1 h2 h3 h4 h5 => q3 a (by omega) (by omega) (by omega)⟩⟩
  · exact q4.trans t3.1
  · have e : s.2 (66 + 1) i = σ.2 (3 + 1) i := q5 i (TW_60 t1 hi)
    show crel (s.2 (66 + 1) i) _ _
    rw [e]
    exact t3.2 i hi
  · exact q6.trans t4.1
  · have e : s.2 (66 + 3 + 1) i = σ.2 (3 + 3 + 1) i := q7 i (TW_60 t2 hi)
    show crel (s.2 (66 + 3 + 1) i) _ _
    rw [e]
    exact t4.2 i hi
  · exact (q2 66 0 (by decide) (by omega) (by omega)).trans hm.1
  · exact (q2 69 0 (by decide) (by omega) (by omega)).trans hm.2
theorem op_then {σ τ : St} (h : Rl σ τ) (a b c : Int32) : OK2 (Mn_then a b c σ) (Mo_then a b c τ) := by
  obtain ⟨N, hN⟩ := h.1.2.1
  have hA := h.1.1
  have hB := h.1.2.2.1
  have hT := Rl_TX h
  rw [Mn_then, Mo_then, Rp_has_eq hN hA, bnd_t, Mo_isJumper_eq, bnd_t]
  cases e1 : wi a 0 (τ.2 1 2 - 1) with
  | false => rw [if_bf, if_bf]; exact err1 h
  | true =>
    obtain ⟨j, hjN, hj, rfl⟩ := has_in hN e1
    rw [if_bt, if_bt, Mn_isWithin_eq, bnd_t, Mo_in_eq, bnd_t]
    cases e2 : wi b 0 99 with
    | false => rw [if_bf, if_bf]; exact err1 h
    | true =>
      obtain ⟨K, hK, rfl⟩ := wi_in (m := 99) (by decide) e2
      rw [if_bt, if_bt, Mn_isWithin_eq, bnd_t, Mo_in_eq, bnd_t]
      cases e3 : wi c 0 1 with
      | false => rw [if_bf, if_bf]; exact err1 h
      | true =>
        rw [if_bt, if_bt]
        refine ok2_l (copy_24 hA hT (Rl_mx h)) (fun r s q => ?_)
        refine ok2_r Mo_thinks_ok (fun r' t q' => ?_)
        refine ok2_r (Mo_goesFor_ok (k := 0) (K := K) hN hB hT.1 q'.2 (by omega)) (fun r'' t2 q2 => ?_)
        have hTB := q'.1.qm q2.2
        have hr : ∀ i, 366 ≤ i → t2.2 1 i = τ.2 1 i := fun i hi => by rw [q2.1]; exact pn_back hN hB K i hi
        have hC := Mn_then_loop (x3 := c) hN hB hj (show K < 1000 by omega) K 0 1000 s (by omega) (by omega) q.1 q.2.1
        by_cases hc : c = 0
        · rw [if_pos hc, Mo_of2 hj, bnd_t]
          refine s2_mono (s2_ok hC (ok_bnd (Mo_putsBack_ok hTB hr) (fun _ t3 q3 => ok_some (P := fun v t3 => v = t2.2 1 (12 + 5 * j) ∧ MX τ t3) ⟨rfl, q3⟩)) (fun r σ' v τ' p1 p2 => ⟨?_, Rl_keep (q.2.2.tr (SX.qr p1.2)) p2.2 h⟩)) (fun _ _ _ _ p => p)
          rw [p1.1, if_pos hc, p2.1, q2.1]
        · rw [if_neg hc, Mo_of4 hj, bnd_t]
          refine s2_mono (s2_ok hC (ok_bnd (Mo_putsBack_ok hTB hr) (fun _ t3 q3 => ok_some (P := fun v t3 => v = t2.2 1 (14 + 5 * j) ∧ MX τ t3) ⟨rfl, q3⟩)) (fun r σ' v τ' p1 p2 => ⟨?_, Rl_keep (q.2.2.tr (SX.qr p1.2)) p2.2 h⟩)) (fun _ _ _ _ p => p)
          rw [p1.1, if_neg hc, p2.1, q2.1]
/-! lasts -/
theorem back_ans {σ τ σ' t : St} {n : Nat} (h : Rl σ τ) (hσ : SX σ σ') (hTB : TB τ t) (hr : ∀ i, 366 ≤ i → t.2 1 i = τ.2 1 i) (hn : n ≤ 99) : OK2 (some (nI n, σ')) (bnd (Mo_putsBack t) (fun _ s => if nI n ≤ 99 then some (nI n, s) else bnd (Mo_error (-1000000002) s) (fun r s => some (r, s)))) := by
  refine ok2_r (Mo_putsBack_ok hTB hr) (fun _ s q => ?_)
  rw [if_pos (show nI n ≤ 99 from nI_le (b := 99) hn (by decide))]
  exact ok2 (Rl_keep hσ q h)
theorem back_none {σ τ σ' t : St} {n : Nat} (h : Rl σ τ) (hσ : SX σ σ') (hTB : TB τ t) (hr : ∀ i, 366 ≤ i → t.2 1 i = τ.2 1 i) (hn : 99 < n) (hn2 : n < 2 ^ 31) : OK2 (bnd (Mn_error 2 σ') (fun r s => some (r, s))) (bnd (Mo_putsBack t) (fun _ s => if nI n ≤ 99 then some (nI n, s) else bnd (Mo_error (-1000000002) s) (fun r s => some (r, s)))) := by
  refine ok2_r (Mo_putsBack_ok hTB hr) (fun _ s q => ?_)
  rw [if_neg (show ¬ nI n ≤ 99 from nI_ge (a := 99) hn hn2)]
  exact err2 (Rl_keep hσ q h)
theorem lasts_loop {σ0 τ0 : St} {N j : Nat} (h : Rl σ0 τ0) (hN : RN (τ0.2 1) N) (hj : j < 6) : ∀ (m k n n' : Nat) (σ t : St), k + m = 99 → m < n → m + 1 < n' → RA σ 24 (pn (τ0.2 1) N k) → TX σ 24 (τ0.2 1) → SX σ0 σ → TB τ0 t → t.2 1 = pn (τ0.2 1) N k → pn (τ0.2 1) N k (14 + 5 * j) = 1 → OK2 (Mn_lasts_L48 n (nI j) (nI (k + 1)) σ) (Mo_lasts_L36 n' (nI j) (nI k) t) := by
  have hB := h.1.2.2.1
  have hT0 := (Rl_TX h).1
  intro m
  induction m with
  | zero =>
    intro k n n' σ t hk hn hn' hA hT hq hTB ht hi
    obtain ⟨n, rfl⟩ : ∃ z, n = z + 1 := ⟨n - 1, by omega⟩
    obtain ⟨n', rfl⟩ : ∃ z, n' = z + 2 := ⟨n' - 2, by omega⟩
    have hk : k = 99 := by omega
    subst hk
    rw [Mn_lasts_L48, if_pos (show (99 : Int32) < nI (99 + 1) by decide), Mo_lasts_L36, if_neg (show ¬ (99 : Int32) < nI 99 by decide), Mo_isIn_eq hj, bnd_t, ht, if_pos hi, if10]
    refine ok2_r (Mo_goesFor_1 (k := 99) hN hB hT0 ht) (fun _ t2 q2 => ?_)
    rw [nam_t, nI_lit1, Mo_lasts_L36, if_pos (show (99 : Int32) < nI (99 + 1) by decide)]
    exact back_none h hq (hTB.qm q2.2) (fun i hi => by rw [q2.1]; exact pn_back hN hB _ i hi) (by decide) (by decide)
  | succ m ih =>
    intro k n n' σ t hk hn hn' hA hT hq hTB ht hi
    obtain ⟨n, rfl⟩ : ∃ z, n = z + 1 := ⟨n - 1, by omega⟩
    obtain ⟨n', rfl⟩ : ∃ z, n' = z + 2 := ⟨n' - 2, by omega⟩
    rw [Mn_lasts_L48, if_neg (show ¬ (99 : Int32) < nI (k + 1) from nI_nlt (a := 99) (by omega) (by decide)), Mo_lasts_L36, if_neg (show ¬ (99 : Int32) < nI k from nI_nlt (a := 99) (by omega) (by decide)), Mo_isIn_eq hj, bnd_t, ht, if_pos hi, if10]
    refine ok2_l (Rp_pass_n (Or.inr rfl) hN hB hA hT) (fun r s q => ?_)
    refine ok2_r (Mo_goesFor_1 (k := k) hN hB hT0 ht) (fun _ t2 q2 => ?_)
    rw [inb_nI hj (by decide), grd_t, nI_clamp (show j < 2 ^ 31 by omega), RA_at q.2.1 4 (a := 29) (i := 14 + 5 * j) (by decide) hj (by omega) (by omega), nam_t, nam_t, nI_lit1, nI_lit1]
    have hr := pn_all hN hB (k + 1)
    have hq2 := hq.tr (SX.qr q.2.2.1)
    rcases hr.2.1.2.2 j hj with h0 | h1
    · rw [if_pos h0, Mo_lasts_L36, if_neg (show ¬ (99 : Int32) < nI (k + 1) from nI_nlt (a := 99) (by omega) (by decide)), Mo_isIn_eq hj, bnd_t, q2.1, if_neg (show ¬ pn (τ0.2 1) N (k + 1) (14 + 5 * j) = 1 by rw [h0]; decide), if00]
      exact back_ans h hq2 (hTB.qm q2.2) (fun i hi => by rw [q2.1]; exact pn_back hN hB _ i hi) (by omega)
    · rw [if_neg (show ¬ pn (τ0.2 1) N (k + 1) (14 + 5 * j) = 0 by rw [h1]; decide)]
      exact ih (k + 1) n (n' + 1) s t2 (by omega) (by omega) (by omega) q.2.1 q.2.2.2 hq2 (hTB.qm q2.2) q2.1 h1
theorem op_lasts {σ τ : St} (h : Rl σ τ) (a : Int32) : OK2 (Mn_lasts a σ) (Mo_lasts a τ) := by
  obtain ⟨N, hN⟩ := h.1.2.1
  have hA := h.1.1
  have hT := Rl_TX h
  rw [Mn_lasts, Mo_lasts, Rp_has_eq hN hA, bnd_t, Mo_isJumper_eq, bnd_t]
  cases e1 : wi a 0 (τ.2 1 2 - 1) with
  | false => rw [if_bf, if_bf]; exact err1 h
  | true =>
    obtain ⟨j, hjN, hj, rfl⟩ := has_in hN e1
    rw [if_bt, if_bt, inb_nI hj (by decide), grd_t, nI_clamp (by omega), RA_at hA 4 (a := 20) (i := 14 + 5 * j) (by decide) hj (by omega) (by omega), Mo_isIn_eq hj, bnd_t]
    rcases hN.2.2 j hj with h0 | h1
    · rw [if_pos h0, if_neg (show ¬ τ.2 1 (14 + 5 * j) = 1 by rw [h0]; decide), if00]; exact err3 h
    · rw [if_neg (show ¬ τ.2 1 (14 + 5 * j) = 0 by rw [h1]; decide), if_pos h1, if10]
      refine ok2_l (copy_24 hA hT (Rl_mx h)) (fun r s q => ?_)
      refine ok2_r Mo_thinks_ok (fun r' t q' => ?_)
      exact lasts_loop h hN hj 99 0 1000 1000 s t (by omega) (by omega) (by omega) q.1 q.2.1 q.2.2 q'.1 q'.2 h1
/-! soon -/
theorem soon_loop {σ0 τ0 : St} {N u : Nat} (h : Rl σ0 τ0) (hN : RN (τ0.2 1) N) (hu : u < 64) : ∀ (m k n n' : Nat) (σ t : St), k + m = 100 → m < n → m < n' → RA σ 24 (pn (τ0.2 1) N k) → TX σ 24 (τ0.2 1) → SX σ0 σ → TB τ0 t → t.2 1 = pn (τ0.2 1) N k → OK2 (Mn_soon_L26 n (nI u) (nI k) σ) (Mo_soon_L20 n' (nI u) (nI k) t) := by
  have hB := h.1.2.2.1
  have hT0 := Rl_TX h
  intro m
  induction m with
  | zero =>
    intro k n n' σ t hk hn hn' hA hT hq hTB ht
    obtain ⟨n, rfl⟩ : ∃ z, n = z + 1 := ⟨n - 1, by omega⟩
    obtain ⟨n', rfl⟩ : ∃ z, n' = z + 1 := ⟨n' - 1, by omega⟩
    have hk : k = 100 := by omega
    subst hk
    rw [Mn_soon_L26, if_pos (show (99 : Int32) < nI 100 by decide), Mo_soon_L20, if_pos (show (99 : Int32) < nI 100 by decide)]
    exact back_none h hq hTB (fun i hi => by rw [ht]; exact pn_back hN hB _ i hi) (by decide) (by decide)
  | succ m ih =>
    intro k n n' σ t hk hn hn' hA hT hq hTB ht
    obtain ⟨n, rfl⟩ : ∃ z, n = z + 1 := ⟨n - 1, by omega⟩
    obtain ⟨n', rfl⟩ : ∃ z, n' = z + 1 := ⟨n' - 1, by omega⟩
    obtain ⟨a1, a2, a3⟩ := pn_all hN hB k
    have hTk : TX σ 24 (pn (τ0.2 1) N k) := TX_congr a1.2.1 hT
    have ht2 : RN (t.2 1) N := by rw [ht]; exact a2
    have hnext : ∀ (σ1 t1 : St), RA σ1 24 (pn (τ0.2 1) N k) → TX σ1 24 (τ0.2 1) → SX σ0 σ1 → TB τ0 t1 → t1.2 1 = pn (τ0.2 1) N k → OK2 (bnd (Rp_pass 24 σ1) (fun _ s => nam (nI k + 1) (fun y => Mn_soon_L26 n (nI u) y s))) (bnd (Mo_goesFor 1 t1) (fun _ s => nam (nI k + 1) (fun y => Mo_soon_L20 n' (nI u) y s))) := by
      intro σ1 t1 b1 b2 b3 b4 b5
      refine ok2_l (Rp_pass_n (Or.inr rfl) hN hB b1 b2) (fun r s q => ?_)
      refine ok2_r (Mo_goesFor_1 (k := k) hN hB hT0.1 b5) (fun _ t2 q2 => ?_)
      rw [nam_t, nam_t, nI_lit1]
      exact ih (k + 1) n n' s t2 (by omega) (by omega) (by omega) q.2.1 q.2.2.2 (b3.tr (SX.qr q.2.2.1)) (b4.qm q2.2) q2.1
    rw [Mn_soon_L26, if_neg (show ¬ (99 : Int32) < nI k from nI_nlt (a := 99) (by omega) (by decide)), Mo_soon_L20, if_neg (show ¬ (99 : Int32) < nI k from nI_nlt (a := 99) (by omega) (by decide)), Rp_howManyIn_eq a2 hA, bnd_t, Mo_allIn_eq ht2.1 ht2.2.1, bnd_t, ht]
    by_cases hs : sset (pn (τ0.2 1) N k) N = 0
    · rw [if_pos ((hm_le a2.1).mpr hs), if_pos hs]
      exact hnext σ t hA hT hq hTB ht
    · rw [if_neg (fun q => hs ((hm_le a2.1).mp q)), if_neg hs, Rp_mayTalk_eq hA, bnd_t, Mo_doesTurn_eq, bnd_t, ht, mt]
      by_cases h1 : tn (pn (τ0.2 1) N k) = 0
      · rw [if_pos h1, if_pos h1, if00]
        exact hnext σ t hA hT hq hTB ht
      · rw [if_neg h1, if_neg h1, Mo_word_eq, bnd_t, ht]
        by_cases h2 : wd (pn (τ0.2 1) N k) = 3
        · rw [if_pos h2, if_pos h2, if00]
          exact hnext σ t hA hT hq hTB ht
        · rw [if_neg h2, if_neg h2, if10]
          refine ok2_l (Rp_isTaken_ok (t := u) (Or.inr rfl) a2 hu hA hTk) (fun r s q => ?_)
          refine ok2_r (Mo_isTaken_ok (N := N) ht2 hu (by rw [ht]; exact hTk.2.1)) (fun r' t1 q' => ?_)
          rw [q.1, q'.1, ht]
          have hA1 := sq_RA q.2 (by decide) hA
          have hT1 := sq_TX q.2 hT
          have hq1 : SX σ0 s := hq.tr (SX.sq q.2)
          have hTB1 := hTB.qm (QM.mq q'.2)
          have ht1 := (mq_1 q'.2).trans ht
          cases hb : tkn (pn (τ0.2 1) N k) u N with
          | false =>
            rw [if_bf, if_bf]
            exact hnext s t1 hA1 hT1 hq1 hTB1 ht1
          | true =>
            rw [if_bt, if_bt]
            exact back_ans h hq1 hTB1 (fun i hi => by rw [ht1]; exact pn_back hN hB _ i hi) (by omega)
theorem op_soon {σ τ : St} (h : Rl σ τ) (a : Int32) : OK2 (Mn_soon a σ) (Mo_soon a τ) := by
  obtain ⟨N, hN⟩ := h.1.2.1
  have hA := h.1.1
  have hT := Rl_TX h
  rw [Mn_soon, Mo_soon, Mn_isTreaty_eq, bnd_t, Mo_isTreaty_eq, bnd_t]
  cases e1 : wi a 0 63 with
  | false => rw [if_bf, if_bf]; exact err1 h
  | true =>
    obtain ⟨u, hu, rfl⟩ := wi_in (m := 63) (by decide) e1
    rw [if_bt, if_bt]
    refine ok2_l (copy_24 hA hT (Rl_mx h)) (fun r s q => ?_)
    refine ok2_r Mo_thinks_ok (fun r' t q' => ?_)
    exact soon_loop h hN (by omega) 100 0 1000 1000 s t (by omega) (by omega) (by omega) q.1 q.2.1 q.2.2 q'.1 q'.2
