/-! ===== what a use gives, on both sides ===== -/
def clp (mx v : Int32) : Int32 := if 0 ≤ v then (if v ≤ mx then v else mx) else 0
def gv (R : Nat → Int32) (t : Nat) (a b c : Int32) : Int32 := if R t ≤ 0 then a else (stk R t (fx a b c) (R t).toNatClampNeg).headD 0
/-- a text that may stand: its length, and a row of acts that leaves one number -/
def TW (R : Nat → Int32) (t : Nat) : Prop := ∃ len, len ≤ 60 ∧ R t = nI len ∧ (len = 0 ∨ dpt R t len = some 1)
/-- the class's text holds what the reference's row holds -/
def TR (σ : St) (o : Nat) (R : Nat → Int32) (t : Nat) : Prop := σ.1 o 3 = R t ∧ ∀ i, i < (R t).toNatClampNeg → crel (σ.2 (o + 1) i) (R (t + 1 + i)) (R (t + 61 + i))
theorem Mo_held_eq {v mx : Int32} {τ : St} : Mo_held v 0 mx τ = some (clp mx v, τ) := by
  unfold Mo_held clp
  by_cases h1 : 0 ≤ v
  · rw [if_pos h1, if_pos h1]
    by_cases h2 : v ≤ mx
    · rw [if_pos h2, if_pos h2]
    · rw [if_neg h2, if_neg h2]
  · rw [if_neg h1, if_neg h1]
theorem clp_mm {mx v : Int32} (h : 0 ≤ mx) : imx 0 (imn mx v) = clp mx v := by
  unfold imx imn clp
  rw [le_i] at h
  have z : (0 : Int32).toInt = 0 := rfl
  rw [z] at h
  by_cases h1 : v < mx
  · rw [if_pos h1]
    rw [lt_i] at h1
    by_cases h2 : 0 < v
    · rw [if_pos h2]
      rw [lt_i] at h2
      rw [if_pos (by rw [le_i]; omega), if_pos (by rw [le_i]; omega)]
    · rw [if_neg h2]
      rw [lt_i] at h2
      by_cases h3 : 0 ≤ v
      · rw [if_pos h3, if_pos (by rw [le_i]; omega)]
        rw [le_i] at h3
        exact Int32.toInt_inj.mp (by omega)
      · rw [if_neg h3]
  · rw [if_neg h1]
    rw [lt_i] at h1
    by_cases h2 : (0 : Int32) < mx
    · rw [if_pos h2, if_pos (by rw [le_i]; omega)]
      by_cases h3 : v ≤ mx
      · rw [if_pos h3]
        rw [le_i] at h3
        exact Int32.toInt_inj.mp (by omega)
      · rw [if_neg h3]
    · rw [if_neg h2]
      rw [lt_i] at h2
      have hm : mx = 0 := Int32.toInt_inj.mp (by omega)
      subst hm
      rw [if_pos (by rw [le_i]; omega)]
      by_cases h3 : v ≤ 0
      · rw [if_pos h3]
        rw [le_i] at h3
        exact Int32.toInt_inj.mp (by omega)
      · rw [if_neg h3]
theorem gv_some {R : Nat → Int32} {t len : Nat} {a b c r : Int32} (hR : R t = nI len) (hl : len ≤ 60) (h0 : ¬ len = 0) (hs : stk R t (fx a b c) len = [r]) : gv R t a b c = r := by
  unfold gv
  rw [hR, if_neg (nI_nle (by omega) (by omega)), nI_clamp (by omega), hs]
  rfl
theorem Tx_gives_ok {σ : St} {o t : Nat} {R : Nat → Int32} {mx a b c : Int32} (hmx : 0 ≤ mx) (hm : σ.1 o 0 = mx) (hW : TW R t) (hT : TR σ o R t) : okk (Tx_gives o a b c σ) (fun r σ' => r = clp mx (gv R t a b c) ∧ Cq (o + 2) σ σ') := by
  obtain ⟨len, hl, hR, hd⟩ := hW
  obtain ⟨h1, h2⟩ := hT
  rw [hR] at h1
  rw [hR, nI_clamp (by omega)] at h2
  by_cases h0 : len = 0
  · subst h0
    have e : Tx_isTold o σ = some (0, σ) := by rw [Tx_isTold, h1, if_pos (by decide)]
    rw [Tx_gives, e, bnd_t, if_pos rfl, hm, clp_mm hmx]
    refine ok_some ⟨?_, Cq.rf _ _⟩
    unfold gv
    rw [hR, if_pos (by decide)]
  · have hd : dpt R t len = some 1 := hd.resolve_left h0
    have e : Tx_isTold o σ = some (1, σ) := by rw [Tx_isTold, h1, if_neg (nI_nle (by omega) (by omega))]
    rw [Tx_gives, e, bnd_t, if_neg (by decide)]
    have hw : okk (Tx_work o a b c σ) (fun r σ' => stk R t (fx a b c) len = [r] ∧ Cq (o + 2) σ σ') := tw_loop hl hd len 0 1000 0 σ [] (by omega) (by omega) h1 h2 rfl rfl trivial
    refine ok_bnd hw (fun r s hq => ?_)
    rw [hq.2.1, hm, clp_mm hmx]
    exact ok_some ⟨by rw [gv_some hR hl h0 hq.1], hq.2⟩
theorem Mo_works_ok {τ : St} {t len : Nat} {f : Nat → Int32} (ht : t + 121 ≤ 366) (hl : len ≤ 60) (hR : τ.2 1 t = nI len) (hd : dpt (τ.2 1) t len = some 1) (hf : ∀ i, i < 3 → τ.2 10 i = f i) : okk (Mo_works (nI t) τ) (fun r τ' => stk (τ.2 1) t f len = [r] ∧ Mq τ τ') := works_loop ht hl hR hd len 0 1000 0 τ [] (by omega) (by omega) rfl hf rfl rfl trivial
