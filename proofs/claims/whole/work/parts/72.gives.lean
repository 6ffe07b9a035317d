/-! ===== what a use gives, on both sides ===== -/
def clp (mx v : Int32) : Int32 := if 0 ≤ v then (if v ≤ mx then v else mx) else 0
def gv (R : Nat → Int32) (t : Nat) (a b c : Int32) : Int32 := if R t ≤ 0 then a else (stk R t (fx a b c) (R t).toNatClampNeg).headD 0
/-- a text that may stand: its length, and a row of acts that leaves one number -/
def TW (R : Nat → Int32) (t : Nat) : Prop := ∃ len, len ≤ 60 ∧ R t = nI len ∧ (len = 0 ∨ dpt R t len = some 1)
/-- the class's text holds what the reference's row holds -/
def TR (σ : St) (o : Nat) (R : Nat → Int32) (t : Nat) : Prop := σ.1 o 3 = R t ∧ ∀ i, i < (R t).toNatClampNeg → crel (σ.2 (o + 1) i) (R (t + 1 + i)) (R (t + 61 + i))
theorem Mo_held_eq {v mx : Int32} {τ : St} : Mo_held v 0 mx τ = some (clp mx v, τ) := by
  unfold Mo_held clp
  by_cases h1 : 0 ≤ v
  · rw [if_pos h1, if_pos h1]
    by_cases h2 : v ≤ mx
    · rw [if_pos h2, if_pos h2]
    · rw [if_neg h2, if_neg h2]
  · rw [if_neg h1, if_neg h1]
theorem clp_mm {mx v : Int32} (h : 0 ≤ mx) : imx 0 (imn mx v) = clp mx v := by
  unfold imx imn clp
  rw [le_i] at h
  have z : (0 : Int32).toInt = 0 := rfl
  rw [z] at h
  by_cases h1 : v < mx
  · rw [if_pos h1]
    rw [lt_i] at h1
    by_cases h2 : 0 < v
    · rw [if_pos h2]
      rw [lt_i] at h2
      rw [if_pos (by rw [le_i]; omega), if_pos (by rw [le_i]; omega)]
    · rw [if_neg h2]
      rw [lt_i] at h2
      by_cases h3 : 0 ≤ v
      · rw [if_pos h3, if_pos (by rw [le_i]; omega)]
        rw [le_i] at h3
        exact Int32.toInt_inj.mp (by omega)
      · rw [if_neg h3]
  · rw [if_neg h1]
    rw [lt_i] at h1
    by_cases h2 : (0 : Int32) < mx
    · rw [if_pos h2, if_pos (by rw [le_i]; omega)]
      by_cases h3 : v ≤ mx
      · rw [if_pos h3]
        rw [le_i] at h3
        exact Int32.toInt_inj.mp (by omega)
      · rw [if_neg h3]
    · rw [if_neg h2]
      rw [lt_i] at h2
      have hm : mx = 0 := Int32.toInt_inj.mp (by omega)
      subst hm
      rw [if_pos (by rw [le_i]; omega)]
      by_cases h3 : v ≤ 0
      · rw [if_pos h3]
        rw [le_i] at h3
        exact Int32.toInt_inj.mp (by omega)
      · rw [if_neg h3]
theorem gv_some {R : Nat → Int32} {t len : Nat} {a b c r : Int32} (hR : R t = nI len) (hl : len ≤ 60) (h0 : ¬ len = 0) (hs : stk R t (fx a b c) len = [r]) : gv R t a b c = r := by
  unfold gv
  rw [hR, if_neg (nI_nle (by omega) (by omega)), nI_clamp (by omega), hs]
  rfl
theorem Tx_gives_ok {σ : St} {o t : Nat} {R : Nat → Int32} {mx a b c : Int32} (hmx : 0 ≤ mx) (hm : σ.1 o 0 = mx) (hW : TW R t) (hT : TR σ o R t) : okk (Tx_gives o a b c σ) (fun r σ' => r = clp mx (gv R t a b c) ∧ Cq (o + 2) σ σ') := by
  obtain ⟨len, hl, hR, hd⟩ := hW
  obtain ⟨h1, h2⟩ := hT
  rw [hR] at h1
  rw [hR, nI_clamp (by omega)] at h2
  by_cases h0 : len = 0
  · subst h0
    have e : Tx_isTold o σ = some (0, σ) := by rw [Tx_isTold, h1, if_pos (by decide)]
    rw [Tx_gives, e, bnd_t, if_pos rfl, hm, clp_mm hmx]
    refine ok_some ⟨?_, Cq.rf _ _⟩
    unfold gv
    rw [hR, if_pos (by decide)]
  · have hd : dpt R t len = some 1 := hd.resolve_left h0
    have e : Tx_isTold o σ = some (1, σ) := by rw [Tx_isTold, h1, if_neg (nI_nle (by omega) (by omega))]
    rw [Tx_gives, e, bnd_t, if_neg (by decide)]
    have hw : okk (Tx_work o a b c σ) (fun r σ' => stk R t (fx a b c) len = [r] ∧ Cq (o + 2) σ σ') := tw_loop hl hd len 0 1000 0 σ [] (by omega) (by omega) h1 h2 rfl rfl trivial
    refine ok_bnd hw (fun r s hq => ?_)
    rw [hq.2.1, hm, clp_mm hmx]
    exact ok_some ⟨by rw [gv_some hR hl h0 hq.1], hq.2⟩
theorem Mo_works_ok {τ : St} {t len : Nat} {f : Nat → Int32} (ht : t + 121 ≤ 366) (hl : len ≤ 60) (hR : τ.2 1 t = nI len) (hd : dpt (τ.2 1) t len = some 1) (hf : ∀ i, i < 3 → τ.2 10 i = f i) : okk (Mo_works (nI t) τ) (fun r τ' => stk (τ.2 1) t f len = [r] ∧ Mq τ τ') := works_loop ht hl hR hd len 0 1000 0 τ [] (by omega) (by omega) rfl hf rfl rfl trivial
theorem Mo_gives_gen {τ : St} {u : Int32} {t : Nat} {mx a b c : Int32} (hu : (124 : Int32) + 121 * u = nI t) (ht : t + 121 ≤ 366) (hmx : (u = 0 ∧ mx = 20) ∨ (¬ u = 0 ∧ mx = 99)) (hW : TW (τ.2 1) t) : okk (Mo_gives u a b c τ) (fun r τ' => r = clp mx (gv (τ.2 1) t a b c) ∧ Mq τ τ') := by
  obtain ⟨len, hl, hR, hd⟩ := hW
  have c0 : (0 : Int32).toNatClampNeg = 0 := by decide
  have c1 : (1 : Int32).toNatClampNeg = 1 := by decide
  have c2 : (2 : Int32).toNatClampNeg = 2 := by decide
  have b0 : inb (0 : Int32) 3 = true := by decide
  have b1 : inb (1 : Int32) 3 = true := by decide
  have b2 : inb (2 : Int32) 3 = true := by decide
  rw [Mo_gives, nam_t, b0, grd_t, nas_t, b1, grd_t, nas_t, b2, grd_t, nas_t, hu, inb_nI (show t < 366 by omega) (by omega), grd_t, nI_clamp (show t < 2 ^ 31 by omega), c0, c1, c2]
  generalize hτ : sA (sA (sA τ 10 0 a) 10 1 b) 10 2 c = τ1
  have q1 : Mq τ τ1 := by subst hτ; exact ((Mq.put (Or.inl rfl)).tr (Mq.put (Or.inl rfl))).tr (Mq.put (Or.inl rfl))
  have q2 : τ1.2 1 = τ.2 1 := q1.2 1 (by decide) (by decide)
  have q3 : ∀ i, i < 3 → τ1.2 10 i = fx a b c i := by
    subst hτ
    intro i hi
    rw [sA_eq, sA_eq, sA_eq]
    unfold fx
    match i, hi with
    | 0, _ => rfl
    | 1, _ => rfl
    | 2, _ => rfl
  rw [q2]
  by_cases h0 : len = 0
  · subst h0
    have e : τ.2 1 t ≤ 0 := by rw [hR]; decide
    have g : gv (τ.2 1) t a b c = a := by unfold gv; rw [if_pos e]
    rw [if_pos e, g]
    rcases hmx with ⟨h, rfl⟩ | ⟨h, rfl⟩
    · rw [if_pos h, Mo_held_eq, bnd_t]; exact ok_some ⟨rfl, q1⟩
    · rw [if_neg h, Mo_held_eq, bnd_t]; exact ok_some ⟨rfl, q1⟩
  · have hd : dpt (τ.2 1) t len = some 1 := hd.resolve_left h0
    rw [if_neg (by rw [hR]; exact nI_nle (by omega) (by omega))]
    rw [← q2] at hR hd
    refine ok_bnd (Mo_works_ok (f := fx a b c) ht hl hR hd q3) (fun r s hq => ?_)
    rw [q2] at hR
    have g : gv (τ.2 1) t a b c = r := gv_some hR hl h0 (by rw [← q2]; exact hq.1)
    rw [g]
    rcases hmx with ⟨h, rfl⟩ | ⟨h, rfl⟩
    · rw [if_pos h, Mo_held_eq, bnd_t]; exact ok_some ⟨rfl, q1.tr hq.2⟩
    · rw [if_neg h, Mo_held_eq, bnd_t]; exact ok_some ⟨rfl, q1.tr hq.2⟩
theorem Mo_gives0 {τ : St} {a b c : Int32} (hW : TW (τ.2 1) 124) : okk (Mo_gives 0 a b c τ) (fun r τ' => r = clp 20 (gv (τ.2 1) 124 a b c) ∧ Mq τ τ') := Mo_gives_gen (by decide) (by decide) (Or.inl ⟨rfl, rfl⟩) hW
theorem Mo_gives1 {τ : St} {a b c : Int32} (hW : TW (τ.2 1) 245) : okk (Mo_gives 1 a b c τ) (fun r τ' => r = clp 99 (gv (τ.2 1) 245 a b c) ∧ Mq τ τ') := Mo_gives_gen (by decide) (by decide) (Or.inr ⟨by decide, rfl⟩) hW
