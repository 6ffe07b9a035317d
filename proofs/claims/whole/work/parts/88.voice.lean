/-! ===== voices ===== -/
def boL (n : Nat) (x1 x2 x3 : Int32) : Option Int32 := match n with
  | 0 => none
  | n + 1 => if (7 : Int32) ≤ x3 then some 0 else if b01 (wi x2 0 6) = 0 then some 0 else if inb (x2 * 4 + x1) 28 = true then (if tbB.getD (x2 * 4 + x1).toNatClampNeg 0 = 0 then (if inb x2 7 = true then boL n x1 (tbA.getD x2.toNatClampNeg 0) (x3 + 1) else none) else some (tbB.getD (x2 * 4 + x1).toNatClampNeg 0)) else none
theorem Th_bodyOf_bo {x0 x1 : Int32} {σ : St} : ∀ (n : Nat) (x2 x3 : Int32), Th_bodyOf_L4 n x0 x1 x2 x3 σ = (boL n x1 x2 x3).map (fun r => (r, σ)) := by
  intro n
  induction n with
  | zero => intro x2 x3; rfl
  | succ n ih =>
    intro x2 x3
    rw [Th_bodyOf_L4, boL, Mn_isWithin_eq, bnd_t]
    by_cases h1 : (7 : Int32) ≤ x3
    · rw [if_pos h1, if_pos h1]; rfl
    · rw [if_neg h1, if_neg h1]
      by_cases h2 : b01 (wi x2 0 6) = 0
      · rw [if_pos h2, if_pos h2]; rfl
      · rw [if_neg h2, if_neg h2]
        cases hb : inb (x2 * 4 + x1) 28 with
        | false => rfl
        | true =>
          rw [grd_t, if_pos rfl]
          by_cases h3 : tbB.getD (x2 * 4 + x1).toNatClampNeg 0 = 0
          · rw [if_pos h3, if_pos h3]
            cases hc : inb x2 7 with
            | false => rfl
            | true => rw [grd_t, nam_t, nam_t, if_pos rfl, ih]
          · rw [if_neg h3, if_neg h3, grd_t]; rfl
def bod (k v : Nat) : Int32 := ([10, 11, 12, 13, 20, 11, 12, 21, 10, 30, 12, 13, 10, 11, 40, 13, 50, 11, 51, 21, 10, 60, 12, 13, 70, 71, 12, 13] : List Int32).getD (4 * k + v) 0
theorem boL_7 : ∀ k : Nat, k < 7 → ∀ v : Nat, v < 4 → boL 1000 (nI v) (nI k) 0 = some (bod k v) := by decide +kernel
theorem Th_bodyOf_eq {k v : Nat} (hk : k < 7) (hv : v < 4) (σ : St) : Th_bodyOf (nI k) (nI v) σ = some (bod k v, σ) := by
  rw [Th_bodyOf, Th_bodyOf_bo, boL_7 k hk v hv]
  rfl
theorem Th_s {dd : Nat} {a v x d : Int32} {σ : St} : Th_grp (dd + 1) 0 a v x d σ = Th_say (fun k a0 a1 a2 a3 σ => Th_grp dd k a0 a1 a2 a3 σ) a v x d σ := rfl
theorem Th_w {dd : Nat} {b x d e : Int32} {σ : St} : Th_grp (dd + 1) 1 b x d e σ = Th_work (fun k a0 a1 a2 a3 σ => Th_grp dd k a0 a1 a2 a3 σ) b x d σ := rfl
/-- the two at voice: the first states, the kind, the number, the mark -/
abbrev Vt : Type := St × St × Nat × Nat × Int32
def VFc (σ0 σ : St) : Prop := (∀ o k, o ≠ 62 → σ.1 o k = σ0.1 o k) ∧ ∀ a, a ≠ 63 → σ.2 a = σ0.2 a
def VFm (τ0 τ : St) : Prop := (∀ o k, (o = 0 → k ≠ 19 ∧ k ≠ 20) → τ.1 o k = τ0.1 o k) ∧ ∀ a, a ≠ 13 → τ.2 a = τ0.2 a
def VR (G : Vt) (p : Nat) (σ τ : St) : Prop := (σ.1 62 3 = nI G.2.2.1 ∧ σ.1 62 4 = nI G.2.2.2.1 ∧ σ.1 62 5 = G.2.2.2.2 ∧ τ.2 1 (10 + 5 * G.2.2.2.1) = nI G.2.2.1 ∧ τ.2 1 (11 + 5 * G.2.2.2.1) = G.2.2.2.2) ∧ (G.2.2.1 < 7 ∧ G.2.2.2.1 < 6) ∧ (σ.1 62 2 = nI p ∧ τ.1 0 20 = nI p) ∧ TT σ τ ∧ VFc G.1 σ ∧ VFm G.2.1 τ
def VP (G : Vt) (p : Nat) : Int32 → St → Int32 → St → Prop := fun r σ q τ => q = r ∧ VR G p σ τ
/-- a body begins -/
theorem VR_begin {G : Vt} {p n : Nat} {b : Int32} {σ τ : St} (h : VR G p σ τ) (hn : n < 30) (e1 : σ.1 62 1 = nI n) (e2 : τ.1 0 19 = nI n) : VR G p (sF (sA σ 63 n b) 62 1 (nI (n + 1))) (sF (sA τ 13 n b) 0 19 (nI (n + 1))) := by
  obtain ⟨⟨a1, a2, a3, a4, a5⟩, a6, ⟨a7, a8⟩, ⟨m, m1, m2, m3, m4⟩, ⟨a9, a10⟩, a11, a12⟩ := h
  have hmn : m = n := (nI_eq (by omega) (by omega)).mp (m2.symm.trans e1)
  subst hmn
  refine ⟨⟨?_, ?_, ?_, ?_, ?_⟩, a6, ⟨?_, ?_⟩, ⟨m + 1, by omega, ?_, ?_, fun i hi => ?_⟩, ⟨fun o k ho => ?_, fun a ha => ?_⟩, fun o k ho => ?_, fun a ha => ?_⟩
  · rw [sF_eq, if_neg (by decide)]; exact a1
  · rw [sF_eq, if_neg (by decide)]; exact a2
  · rw [sF_eq, if_neg (by decide)]; exact a3
  · rw [sF2, sA_ne (by decide)]; exact a4
  · rw [sF2, sA_ne (by decide)]; exact a5
  · rw [sF_eq, if_neg (by decide)]; exact a7
  · rw [sF_eq, if_neg (by decide)]; exact a8
  · rw [sF_eq, if_pos rfl]
  · rw [sF_eq, if_pos rfl]
  · rw [sF2, sF2, sA_eq, sA_eq]
    by_cases e : i = m
    · rw [e, upd_s, upd_s]
    · rw [upd_n e, upd_n e]; exact m4 i (by omega)
  · rw [sF_ne ho]; exact a9 o k ho
  · rw [sF2, sA_ne ha]; exact a10 a ha
  · by_cases e : o = 0
    · rw [e, sF_eq, if_neg (ho e).1]; exact a11 0 k (fun _ => ho e)
    · rw [sF_ne e]; exact a11 o k ho
  · rw [sF2, sA_ne ha]; exact a12 a ha
theorem say_2 {G : Vt} {dd d : Nat} {a v b x : Int32} {g : St → Option (Int32 × St)} {Q : Int32 → St → Int32 → St → Prop} {σ τ : St} (h : VR G 0 σ τ) (hd : d < 20) (hb : ∀ σ, Th_bodyOf a v σ = some (b, σ)) (hg : ∀ σ' τ', VR G 0 σ' τ' → s2 (Th_grp dd 1 b x (nI (d + 1)) 0 σ') (g τ') Q) : s2 (Th_grp (dd + 1) 0 a v x (nI d) σ) (bnd (Mo_begins b τ) (fun _ t => g t)) Q := by
  obtain ⟨n, n1, n2, n3, n4⟩ := h.2.2.2.1
  rw [Th_s, Th_say, h.2.2.1.1, if_pos (show nI 0 = 0 from rfl), if_pos (show nI d < 20 from nI_lt (b := 20) hd (by decide)), hb, bnd_t, nI_lit1, Mo_begins, n2, n3]
  by_cases h30 : n = 30
  · rw [h30, if_pos (show (30 : Int32) ≤ nI 30 from Int32.le_refl _), if_pos (show (30 : Int32) ≤ nI 30 from Int32.le_refl _), bnd_t]
    obtain ⟨r, s, q, t, q1, q2, q3⟩ := hg σ τ h
    exact ⟨r, s, q, t, by rw [q1]; rfl, q2, q3⟩
  · have hn : ¬ (30 : Int32) ≤ nI n := nI_ge (b := 30) (by omega) (by decide)
    rw [if_neg hn, if_neg hn, inb_nI (show n < 30 by omega) (by decide), grd_t, nas_t, nas_t, grd_t, nas_t, nas_t, bnd_t, sA1, n2, nI_lit1, sA1, n3, nI_lit1, nI_clamp (show n < 2 ^ 31 by omega)]
    obtain ⟨r, s, q, t, q1, q2, q3⟩ := hg _ _ (VR_begin (b := b) h (by omega) n2 n3)
    exact ⟨r, s, q, t, by rw [q1]; rfl, q2, q3⟩
theorem bo_l {k v : Nat} {a w b : Int32} (hk : k < 7) (hv : v < 4) (ha : a = nI k) (hw : w = nI v) (hb : bod k v = b) : ∀ σ, Th_bodyOf a w σ = some (b, σ) := by
  subst ha hw hb
  exact Th_bodyOf_eq hk hv
theorem plainSings_2 {G : Vt} {dd d k : Nat} {a x : Int32} {σ τ : St} (h : VR G 0 σ τ) (hd : d < 20) (hk : k < 7) (ha : a = nI k) (hb : bod k 0 = 10) : s2 (Th_grp (dd + 2) 0 a 0 x (nI d) σ) (Mo_plainSings (nI G.2.2.2.1) x τ) (VP G 0) := by
  rw [Mo_plainSings]
  refine say_2 h hd (bo_l hk (v := 0) (by decide) ha rfl hb) (fun s t q => ?_)
  rw [Th_w, Th_work, if_pos rfl, q.1.2.1]
  exact s2_some ⟨rfl, q⟩
theorem masterSings_2 {G : Vt} {dd d : Nat} {x : Int32} {σ τ : St} (h : VR G 0 σ τ) (hd : d < 19) : s2 (Th_grp (dd + 4) 0 1 0 x (nI d) σ) (Mo_masterSings (nI G.2.2.2.1) x τ) (VP G 0) := by
  rw [Mo_masterSings]
  refine say_2 h (by omega) (bo_l (k := 1) (v := 0) (b := 20) (by decide) (by decide) rfl rfl rfl) (fun s t q => ?_)
  rw [Th_w, Th_work, if_neg (show ¬ (20 : Int32) = 10 by decide), if_neg (show ¬ (20 : Int32) = 11 by decide), if_neg (show ¬ (20 : Int32) = 12 by decide), if_neg (show ¬ (20 : Int32) = 13 by decide), if_pos rfl]
  refine s2_bnd (plainSings_2 (k := 0) q (by omega) (by decide) rfl rfl) (fun r s u t p => ?_)
  rw [p.1]
  exact s2_some ⟨rfl, p.2⟩
theorem sings_2 {G : Vt} {dd d : Nat} {x : Int32} {σ τ : St} (h : VR G 0 σ τ) (hd : d < 18) : s2 (Th_grp (dd + 6) 0 (nI G.2.2.1) 0 x (nI d) σ) (Mo_sings (nI G.2.2.2.1) x τ) (VP G 0) := by
  obtain ⟨hk, hj⟩ := h.2.1
  rw [Mo_sings, Mo_of0 hj, bnd_t, h.1.2.2.2.1]
  have hp : ∀ k, k = G.2.2.1 → bod k 0 = 10 → s2 (Th_grp (dd + 6) 0 (nI G.2.2.1) 0 x (nI d) σ) (bnd (Mo_plainSings (nI G.2.2.2.1) x τ) (fun r s => some (r, s))) (VP G 0) := fun k hkk hb => by
    obtain ⟨r, s, q, t, q1, q2, q3⟩ := plainSings_2 (dd := dd + 4) (d := d) (k := k) (x := x) h (by omega) (by omega) (congrArg nI hkk.symm) hb
    exact ⟨r, s, q, t, q1, by rw [q2]; rfl, q3⟩
  rcases (show G.2.2.1 = 0 ∨ G.2.2.1 = 1 ∨ G.2.2.1 = 2 ∨ G.2.2.1 = 3 ∨ G.2.2.1 = 4 ∨ G.2.2.1 = 5 ∨ G.2.2.1 = 6 by omega) with e | e | e | e | e | e | e
  · rw [e] at hp ⊢
    rw [if_neg (show ¬ nI 0 = 1 by decide), if_neg (show ¬ nI 0 = 4 by decide), if_neg (show ¬ nI 0 = 6 by decide)]
    exact hp 0 rfl rfl
  · rw [e, if_pos (show nI 1 = 1 from rfl)]
    obtain ⟨r, s, q, t, q1, q2, q3⟩ := masterSings_2 (dd := dd + 2) (d := d) (x := x) h (by omega)
    exact ⟨r, s, q, t, q1, by rw [q2]; rfl, q3⟩
  · rw [e] at hp ⊢
    rw [if_neg (show ¬ nI 2 = 1 by decide), if_neg (show ¬ nI 2 = 4 by decide), if_neg (show ¬ nI 2 = 6 by decide)]
    exact hp 2 rfl rfl
  · rw [e] at hp ⊢
    rw [if_neg (show ¬ nI 3 = 1 by decide), if_neg (show ¬ nI 3 = 4 by decide), if_neg (show ¬ nI 3 = 6 by decide)]
    exact hp 3 rfl rfl
  · rw [e, if_neg (show ¬ nI 4 = 1 by decide), if_pos (show nI 4 = 4 from rfl)]
    refine say_2 h (by omega) (bo_l (k := 4) (v := 0) (b := 50) (by decide) (by decide) rfl rfl rfl) (fun s t q => ?_)
    rw [Th_w, Th_work, if_neg (show ¬ (50 : Int32) = 10 by decide), if_neg (show ¬ (50 : Int32) = 11 by decide), if_neg (show ¬ (50 : Int32) = 12 by decide), if_neg (show ¬ (50 : Int32) = 13 by decide), if_neg (show ¬ (50 : Int32) = 20 by decide), if_neg (show ¬ (50 : Int32) = 21 by decide), if_neg (show ¬ (50 : Int32) = 30 by decide), if_neg (show ¬ (50 : Int32) = 40 by decide), if_pos rfl]
    refine s2_bnd (masterSings_2 q (by omega)) (fun r s u t p => ?_)
    rw [p.1]
    exact s2_some ⟨rfl, p.2⟩
  · rw [e] at hp ⊢
    rw [if_neg (show ¬ nI 5 = 1 by decide), if_neg (show ¬ nI 5 = 4 by decide), if_neg (show ¬ nI 5 = 6 by decide)]
    exact hp 5 rfl rfl
  · rw [e, if_neg (show ¬ nI 6 = 1 by decide), if_neg (show ¬ nI 6 = 4 by decide), if_pos (show nI 6 = 6 from rfl)]
    refine say_2 h (by omega) (bo_l (k := 6) (v := 0) (b := 70) (by decide) (by decide) rfl rfl rfl) (fun s t q => ?_)
    rw [Th_w, Th_work, if_neg (show ¬ (70 : Int32) = 10 by decide), if_neg (show ¬ (70 : Int32) = 11 by decide), if_neg (show ¬ (70 : Int32) = 12 by decide), if_neg (show ¬ (70 : Int32) = 13 by decide), if_neg (show ¬ (70 : Int32) = 20 by decide), if_neg (show ¬ (70 : Int32) = 21 by decide), if_neg (show ¬ (70 : Int32) = 30 by decide), if_neg (show ¬ (70 : Int32) = 40 by decide), if_neg (show ¬ (70 : Int32) = 50 by decide), if_neg (show ¬ (70 : Int32) = 51 by decide), if_neg (show ¬ (70 : Int32) = 60 by decide), if_pos rfl]
    exact s2_some ⟨rfl, q⟩
theorem plainJumps_2 {G : Vt} {dd d k : Nat} {a x : Int32} {σ τ : St} (h : VR G 0 σ τ) (hd : d < 17) (hk : k < 7) (ha : a = nI k) (hb : bod k 1 = 11) : s2 (Th_grp (dd + 8) 0 a 1 x (nI d) σ) (Mo_plainJumps (nI G.2.2.2.1) x τ) (VP G 0) := by
  rw [Mo_plainJumps]
  refine say_2 h (by omega) (bo_l hk (v := 1) (by decide) ha rfl hb) (fun s t q => ?_)
  rw [Th_w, Th_work, if_neg (show ¬ (11 : Int32) = 10 by decide), if_pos rfl, q.1.1]
  refine s2_bnd (sings_2 q (by omega)) (fun r s u t p => ?_)
  rw [p.1]
  exact s2_some ⟨rfl, p.2⟩
theorem conJumps_2 {G : Vt} {dd d : Nat} {x : Int32} {σ τ : St} (h : VR G 0 σ τ) (hd : d < 16) : s2 (Th_grp (dd + 10) 0 2 1 x (nI d) σ) (Mo_conJumps (nI G.2.2.2.1) x τ) (VP G 0) := by
  rw [Mo_conJumps]
  refine say_2 h (by omega) (bo_l (k := 2) (v := 1) (b := 30) (by decide) (by decide) rfl rfl rfl) (fun s t q => ?_)
  rw [Th_w, Th_work, if_neg (show ¬ (30 : Int32) = 10 by decide), if_neg (show ¬ (30 : Int32) = 11 by decide), if_neg (show ¬ (30 : Int32) = 12 by decide), if_neg (show ¬ (30 : Int32) = 13 by decide), if_neg (show ¬ (30 : Int32) = 20 by decide), if_neg (show ¬ (30 : Int32) = 21 by decide), if_pos rfl]
  refine s2_bnd (plainJumps_2 (k := 0) q (by omega) (by decide) rfl rfl) (fun r s u t p => ?_)
  rw [p.1, Int32.zero_sub]
  exact s2_some ⟨rfl, p.2⟩
theorem jumps_2 {G : Vt} {dd d : Nat} {x : Int32} {σ τ : St} (h : VR G 0 σ τ) (hd : d < 15) : s2 (Th_grp (dd + 12) 0 (nI G.2.2.1) 1 x (nI d) σ) (Mo_jumps (nI G.2.2.2.1) x τ) (VP G 0) := by
  obtain ⟨hk, hj⟩ := h.2.1
  rw [Mo_jumps, Mo_of0 hj, bnd_t, h.1.2.2.2.1]
  have hp : ∀ k, k = G.2.2.1 → bod k 1 = 11 → s2 (Th_grp (dd + 12) 0 (nI G.2.2.1) 1 x (nI d) σ) (bnd (Mo_plainJumps (nI G.2.2.2.1) x τ) (fun r s => some (r, s))) (VP G 0) := fun k hkk hb => by
    obtain ⟨r, s, q, t, q1, q2, q3⟩ := plainJumps_2 (dd := dd + 4) (d := d) (k := k) (x := x) h (by omega) (by omega) (congrArg nI hkk.symm) hb
    exact ⟨r, s, q, t, q1, by rw [q2]; rfl, q3⟩
  rcases (show G.2.2.1 = 0 ∨ G.2.2.1 = 1 ∨ G.2.2.1 = 2 ∨ G.2.2.1 = 3 ∨ G.2.2.1 = 4 ∨ G.2.2.1 = 5 ∨ G.2.2.1 = 6 by omega) with e | e | e | e | e | e | e
  · rw [e] at hp ⊢
    rw [if_neg (show ¬ nI 0 = 2 by decide), if_neg (show ¬ nI 0 = 3 by decide), if_neg (show ¬ nI 0 = 4 by decide), if_neg (show ¬ nI 0 = 5 by decide), if_neg (show ¬ nI 0 = 6 by decide)]
    exact hp 0 rfl rfl
  · rw [e] at hp ⊢
    rw [if_neg (show ¬ nI 1 = 2 by decide), if_neg (show ¬ nI 1 = 3 by decide), if_neg (show ¬ nI 1 = 4 by decide), if_neg (show ¬ nI 1 = 5 by decide), if_neg (show ¬ nI 1 = 6 by decide)]
    exact hp 1 rfl rfl
  · rw [e, if_pos (show nI 2 = 2 from rfl)]
    obtain ⟨r, s, q, t, q1, q2, q3⟩ := conJumps_2 (dd := dd + 2) (d := d) (x := x) h (by omega)
    exact ⟨r, s, q, t, q1, by rw [q2]; rfl, q3⟩
  · rw [e] at hp ⊢
    rw [if_neg (show ¬ nI 3 = 2 by decide), if_pos (show nI 3 = 3 from rfl)]
    exact hp 3 rfl rfl
  · rw [e] at hp ⊢
    rw [if_neg (show ¬ nI 4 = 2 by decide), if_neg (show ¬ nI 4 = 3 by decide), if_pos (show nI 4 = 4 from rfl)]
    exact hp 4 rfl rfl
  · rw [e, if_neg (show ¬ nI 5 = 2 by decide), if_neg (show ¬ nI 5 = 3 by decide), if_neg (show ¬ nI 5 = 4 by decide), if_pos (show nI 5 = 5 from rfl)]
    refine say_2 h (by omega) (bo_l (k := 5) (v := 1) (b := 60) (by decide) (by decide) rfl rfl rfl) (fun s t q => ?_)
    rw [Th_w, Th_work, if_neg (show ¬ (60 : Int32) = 10 by decide), if_neg (show ¬ (60 : Int32) = 11 by decide), if_neg (show ¬ (60 : Int32) = 12 by decide), if_neg (show ¬ (60 : Int32) = 13 by decide), if_neg (show ¬ (60 : Int32) = 20 by decide), if_neg (show ¬ (60 : Int32) = 21 by decide), if_neg (show ¬ (60 : Int32) = 30 by decide), if_neg (show ¬ (60 : Int32) = 40 by decide), if_neg (show ¬ (60 : Int32) = 50 by decide), if_neg (show ¬ (60 : Int32) = 51 by decide), if_pos rfl]
    refine s2_bnd (conJumps_2 q (by omega)) (fun r s u t p => ?_)
    exact s2_some ⟨p.1, p.2⟩
  · rw [e, if_neg (show ¬ nI 6 = 2 by decide), if_neg (show ¬ nI 6 = 3 by decide), if_neg (show ¬ nI 6 = 4 by decide), if_neg (show ¬ nI 6 = 5 by decide), if_pos (show nI 6 = 6 from rfl)]
    refine say_2 h (by omega) (bo_l (k := 6) (v := 1) (b := 71) (by decide) (by decide) rfl rfl rfl) (fun s t q => ?_)
    rw [Th_w, Th_work, if_neg (show ¬ (71 : Int32) = 10 by decide), if_neg (show ¬ (71 : Int32) = 11 by decide), if_neg (show ¬ (71 : Int32) = 12 by decide), if_neg (show ¬ (71 : Int32) = 13 by decide), if_neg (show ¬ (71 : Int32) = 20 by decide), if_neg (show ¬ (71 : Int32) = 21 by decide), if_neg (show ¬ (71 : Int32) = 30 by decide), if_neg (show ¬ (71 : Int32) = 40 by decide), if_neg (show ¬ (71 : Int32) = 50 by decide), if_neg (show ¬ (71 : Int32) = 51 by decide), if_neg (show ¬ (71 : Int32) = 60 by decide), if_neg (show ¬ (71 : Int32) = 70 by decide), if_pos rfl]
    refine s2_bnd (plainJumps_2 (k := 0) q (by omega) (by decide) rfl rfl) (fun r s u t p => ?_)
    rw [p.1, Mo_of1 hj, bnd_t, p.2.1.2.2.1, p.2.1.2.2.2.2]
    exact s2_some ⟨rfl, p.2⟩
theorem plainClaps_2 {G : Vt} {dd d k : Nat} {a x : Int32} {σ τ : St} (h : VR G 0 σ τ) (hd : d < 14) (hk : k < 7) (ha : a = nI k) (hb : bod k 2 = 12) : s2 (Th_grp (dd + 14) 0 a 2 x (nI d) σ) (Mo_plainClaps (nI G.2.2.2.1) x τ) (VP G 0) := by
  rw [Mo_plainClaps]
  refine say_2 h (by omega) (bo_l hk (v := 2) (by decide) ha rfl hb) (fun s t q => ?_)
  rw [Th_w, Th_work, if_neg (show ¬ (12 : Int32) = 10 by decide), if_neg (show ¬ (12 : Int32) = 11 by decide), if_pos rfl, q.1.1]
  refine s2_bnd (jumps_2 q (by omega)) (fun r s u t p => ?_)
  rw [p.1, Mo_of1 p.2.2.1.2, bnd_t, p.2.1.2.2.1, p.2.1.2.2.2.2]
  exact s2_some ⟨rfl, p.2⟩
theorem claps_2 {G : Vt} {dd d : Nat} {x : Int32} {σ τ : St} (h : VR G 0 σ τ) (hd : d < 13) : s2 (Th_grp (dd + 16) 0 (nI G.2.2.1) 2 x (nI d) σ) (Mo_claps (nI G.2.2.2.1) x τ) (VP G 0) := by
  obtain ⟨hk, hj⟩ := h.2.1
  rw [Mo_claps, Mo_of0 hj, bnd_t, h.1.2.2.2.1]
  by_cases e3 : G.2.2.1 = 3
  · rw [e3, if_pos (show nI 3 = 3 from rfl)]
    refine say_2 h (by omega) (bo_l (k := 3) (v := 2) (b := 40) (by decide) (by decide) rfl rfl rfl) (fun s t q => ?_)
    rw [Th_w, Th_work, if_neg (show ¬ (40 : Int32) = 10 by decide), if_neg (show ¬ (40 : Int32) = 11 by decide), if_neg (show ¬ (40 : Int32) = 12 by decide), if_neg (show ¬ (40 : Int32) = 13 by decide), if_neg (show ¬ (40 : Int32) = 20 by decide), if_neg (show ¬ (40 : Int32) = 21 by decide), if_neg (show ¬ (40 : Int32) = 30 by decide), if_pos rfl, show nz (2 : Int32) = true from rfl, grd_t, grd_t]
    refine s2_bnd (plainClaps_2 (k := 0) q (by omega) (by decide) rfl rfl) (fun r s u t p => ?_)
    exact s2_some ⟨p.1, p.2⟩
  · by_cases e4 : G.2.2.1 = 4
    · rw [e4, if_neg (show ¬ nI 4 = 3 by decide), if_pos (show nI 4 = 4 from rfl)]
      refine say_2 h (by omega) (bo_l (k := 4) (v := 2) (b := 51) (by decide) (by decide) rfl rfl rfl) (fun s t q => ?_)
      rw [Th_w, Th_work, if_neg (show ¬ (51 : Int32) = 10 by decide), if_neg (show ¬ (51 : Int32) = 11 by decide), if_neg (show ¬ (51 : Int32) = 12 by decide), if_neg (show ¬ (51 : Int32) = 13 by decide), if_neg (show ¬ (51 : Int32) = 20 by decide), if_neg (show ¬ (51 : Int32) = 21 by decide), if_neg (show ¬ (51 : Int32) = 30 by decide), if_neg (show ¬ (51 : Int32) = 40 by decide), if_neg (show ¬ (51 : Int32) = 50 by decide), if_pos rfl]
      refine s2_bnd (plainClaps_2 (k := 1) q (by omega) (by decide) rfl rfl) (fun r s u t p => ?_)
      rw [p.1, p.2.1.2.1]
      exact s2_some ⟨rfl, p.2⟩
    · have n3 : ¬ nI G.2.2.1 = 3 := fun q => e3 ((nI_eq (b := 3) (by omega) (by decide)).mp q)
      have n4 : ¬ nI G.2.2.1 = 4 := fun q => e4 ((nI_eq (b := 4) (by omega) (by decide)).mp q)
      have hb : bod G.2.2.1 2 = 12 := by
        rcases (show G.2.2.1 = 0 ∨ G.2.2.1 = 1 ∨ G.2.2.1 = 2 ∨ G.2.2.1 = 5 ∨ G.2.2.1 = 6 by omega) with e | e | e | e | e <;> (rw [e]; rfl)
      rw [if_neg n3, if_neg n4]
      obtain ⟨r, s, q, t, q1, q2, q3⟩ := plainClaps_2 (dd := dd + 2) (d := d) (k := G.2.2.1) (x := x) h (by omega) hk rfl hb
      exact ⟨r, s, q, t, q1, by rw [q2]; rfl, q3⟩
/-- parts may end parted -/
def VQ (G : Vt) : Int32 → St → Int32 → St → Prop := fun r σ q τ => q = r ∧ (VR G 0 σ τ ∨ (r = 0 ∧ VR G 1 σ τ))
theorem VR_part {G : Vt} {p p' : Nat} {σ τ : St} (h : VR G p σ τ) : VR G p' (sF σ 62 2 (nI p')) (sF τ 0 20 (nI p')) := by
  obtain ⟨⟨a1, a2, a3, a4, a5⟩, a6, ⟨a7, a8⟩, ⟨m, m1, m2, m3, m4⟩, ⟨a9, a10⟩, a11, a12⟩ := h
  refine ⟨⟨?_, ?_, ?_, a4, a5⟩, a6, ⟨?_, ?_⟩, ⟨m, m1, ?_, ?_, m4⟩, ⟨fun o k ho => ?_, a10⟩, fun o k ho => ?_, a12⟩
  · rw [sF_eq, if_neg (by decide)]; exact a1
  · rw [sF_eq, if_neg (by decide)]; exact a2
  · rw [sF_eq, if_neg (by decide)]; exact a3
  · rw [sF_eq, if_pos rfl]
  · rw [sF_eq, if_pos rfl]
  · rw [sF_eq, if_neg (by decide)]; exact m2
  · rw [sF_eq, if_neg (by decide)]; exact m3
  · rw [sF_ne ho]; exact a9 o k ho
  · by_cases e : o = 0
    · rw [e, sF_eq, if_neg (ho e).2]; exact a11 0 k (fun _ => ho e)
    · rw [sF_ne e]; exact a11 o k ho
theorem plainParts_2 {G : Vt} {dd d k : Nat} {a x : Int32} {σ τ : St} (h : VR G 0 σ τ) (hd : d < 20) (hk : k < 7) (ha : a = nI k) (hb : bod k 3 = 13) : s2 (Th_grp (dd + 2) 0 a 3 x (nI d) σ) (Mo_plainParts (nI G.2.2.2.1) x τ) (VQ G) := by
  rw [Mo_plainParts]
  refine say_2 h hd (bo_l hk (v := 3) (by decide) ha rfl hb) (fun s t q => ?_)
  rw [Th_w, Th_work, if_neg (show ¬ (13 : Int32) = 10 by decide), if_neg (show ¬ (13 : Int32) = 11 by decide), if_neg (show ¬ (13 : Int32) = 12 by decide), if_pos rfl, Th_part, nam_t, q.1.2.1, q.1.2.2.1, Mo_of1 q.2.1.2, bnd_t, nam_t, q.1.2.2.2.2]
  by_cases hz : G.2.2.2.2 - nI G.2.2.2.1 = 0
  · rw [if_pos hz, if_pos hz, nas_t, nas_t, sF_eq, if_pos rfl, if10, bnd_t, sF_eq, if_pos rfl, if10]
    exact s2_some ⟨rfl, Or.inr ⟨rfl, VR_part (p' := 1) q⟩⟩
  · rw [if_neg hz, if_neg hz, nas_t, nas_t, sF_eq, if_pos rfl, if00, nz_of hz, grd_t, bnd_t, sF_eq, if_pos rfl, if00, grd_t]
    exact s2_some ⟨rfl, Or.inl (VR_part (p' := 0) q)⟩
theorem partsM_2 {G : Vt} {dd d k : Nat} {a x : Int32} {σ τ : St} (h : VR G 0 σ τ) (hd : d < 14) (hk : k < 7) (ha : a = nI k) (hb : bod k 3 = 21) : s2 (Th_grp (dd + 14) 0 a 3 x (nI d) σ) (bnd (Mo_begins 21 τ) (fun _ t => bnd (Mo_plainParts (nI G.2.2.2.1) x t) (fun r t => if t.1 0 20 = 0 then bnd (Mo_jumps (nI G.2.2.2.1) 1 t) (fun u t => some (r + u, t)) else some (0, t)))) (VQ G) := by
  refine say_2 h (by omega) (bo_l hk (v := 3) (by decide) ha rfl hb) (fun s t q => ?_)
  rw [Th_w, Th_work, if_neg (show ¬ (21 : Int32) = 10 by decide), if_neg (show ¬ (21 : Int32) = 11 by decide), if_neg (show ¬ (21 : Int32) = 12 by decide), if_neg (show ¬ (21 : Int32) = 13 by decide), if_neg (show ¬ (21 : Int32) = 20 by decide), if_pos rfl]
  refine s2_bnd (plainParts_2 (dd := dd + 10) (k := 0) q (by omega) (by decide) rfl rfl) (fun r s u t p => ?_)
  obtain ⟨p1, p2 | ⟨p2, p3⟩⟩ := p
  · rw [p1, p2.2.2.1.2, if_pos (show nI 0 = 0 from rfl), p2.1.1]
    refine s2_bnd (jumps_2 p2 (by omega)) (fun r' s u t p => ?_)
    rw [p.1]
    exact s2_some ⟨rfl, Or.inl p.2⟩
  · rw [p3.2.2.1.2, if_neg (show ¬ nI 1 = 0 by decide), Th_s, Th_say, p3.2.2.1.1, if_neg (show ¬ nI 1 = 0 by decide), bnd_t, p2]
    exact s2_some ⟨rfl, Or.inr ⟨rfl, p3⟩⟩
theorem partsBy_2 {G : Vt} {dd d : Nat} {x : Int32} {σ τ : St} (h : VR G 0 σ τ) (hd : d < 13) : s2 (Th_grp (dd + 14) 0 (nI G.2.2.1) 3 x (nI d) σ) (Mo_partsBy (nI G.2.2.2.1) x τ) (VQ G) := by
  obtain ⟨hk, hj⟩ := h.2.1
  rw [Mo_partsBy, Mo_of0 hj, bnd_t, h.1.2.2.2.1]
  by_cases e1 : G.2.2.1 = 1
  · rw [e1, if_pos (show nI 1 = 1 from rfl)]
    exact partsM_2 (k := 1) h (by omega) (by decide) rfl rfl
  · have n1 : ¬ nI G.2.2.1 = 1 := fun q => e1 ((nI_eq (b := 1) (by omega) (by decide)).mp q)
    rw [if_neg n1, Mo_of0 hj, bnd_t, h.1.2.2.2.1]
    by_cases e4 : G.2.2.1 = 4
    · rw [e4, if_pos (show nI 4 = 4 from rfl)]
      exact partsM_2 (k := 4) h (by omega) (by decide) rfl rfl
    · have n4 : ¬ nI G.2.2.1 = 4 := fun q => e4 ((nI_eq (b := 4) (by omega) (by decide)).mp q)
      have hb : bod G.2.2.1 3 = 13 := by
        rcases (show G.2.2.1 = 0 ∨ G.2.2.1 = 2 ∨ G.2.2.1 = 3 ∨ G.2.2.1 = 5 ∨ G.2.2.1 = 6 by omega) with e | e | e | e | e <;> (rw [e]; rfl)
      rw [if_neg n4]
      obtain ⟨r, s, q, t, q1, q2, q3⟩ := plainParts_2 (dd := dd + 12) (d := d) (k := G.2.2.1) (x := x) h (by omega) hk rfl hb
      exact ⟨r, s, q, t, q1, by rw [q2]; rfl, q3⟩
theorem Rl_voice {G : Vt} {p : Nat} {σ τ : St} (h : Rl G.1 G.2.1) (v : VR G p σ τ) : Rl σ τ := by
  obtain ⟨-, -, -, v1, ⟨f1, f2⟩, m1, m2⟩ := v
  obtain ⟨h0, ⟨h1, h2⟩, ⟨h3, h4⟩, h5, h6, h7⟩ := h
  refine ⟨?_, ⟨?_, ?_⟩, ⟨?_, ?_⟩, ?_, ?_, v1⟩
  · rw [m2 1 (by decide)]
    exact Sn_keep h0 (fun k => f1 15 k (by omega)) (fun a _ _ => f2 a (by omega)) ⟨f1 3 3 (by omega), f2 (3 + 1) (by omega), f1 6 3 (by omega), f2 (6 + 1) (by omega)⟩ ⟨f1 42 1 (by omega), f2 (42 + 1) (by omega)⟩ ⟨f1 49 2 (by omega), f2 (49 + 1) (by omega)⟩
  · rw [f1 3 0 (by omega), f1 66 0 (by omega)]; exact h1
  · rw [f1 6 0 (by omega), f1 69 0 (by omega)]; exact h2
  · rw [f1 0 11 (by omega), m1 0 3 (by omega)]; exact h3
  · rw [f1 0 11 (by omega), m2 2 (by decide)]
    exact h4.imp_right (fun q => Sn_keep q (fun k => f1 33 k (by omega)) (fun a _ _ => f2 a (by omega)) ⟨f1 9 3 (by omega), f2 (9 + 1) (by omega), f1 12 3 (by omega), f2 (12 + 1) (by omega)⟩ ⟨f1 44 1 (by omega), f2 (44 + 1) (by omega)⟩ ⟨f1 51 2 (by omega), f2 (51 + 1) (by omega)⟩)
  · intro k hk
    rw [f2 64 (by omega), m2 4 (by decide)]; exact h5 k hk
  · intro r hr
    have := h6 r hr
    unfold SH at this ⊢
    rw [f1 _ 1 (by omega), f1 _ 2 (by omega), f2 _ (by omega), m2 5 (by decide), m2 6 (by decide), m2 7 (by decide)]
    exact this
theorem voice_end {G : Vt} {σ τ : St} {r q : Int32} (h : Rl G.1 G.2.1) (v : VQ G r σ q τ) : OK2 (if σ.1 62 2 = 0 then some (r, σ) else bnd (Mn_error 6 σ) (fun r s => some (r, s))) (if τ.1 0 20 = 0 then some (q, τ) else bnd (Mo_error (-1000000006) τ) (fun r s => some (r, s))) := by
  obtain ⟨v1, v2 | ⟨v2, v3⟩⟩ := v
  · rw [v2.2.2.1.1, v2.2.2.1.2, if_pos (show nI 0 = 0 from rfl), if_pos (show nI 0 = 0 from rfl), v1]
    exact ok2 (Rl_voice h v2)
  · rw [v3.2.2.1.1, v3.2.2.1.2, if_neg (show ¬ nI 1 = 0 by decide), if_neg (show ¬ nI 1 = 0 by decide)]
    exact err6 (Rl_voice h v3)
theorem op_voice {σ τ : St} (h : Rl σ τ) (a b c : Int32) : OK2 (Mn_voice a b c σ) (Mo_voice a b c τ) := by
  obtain ⟨N, hN⟩ := h.1.2.1
  have hA := h.1.1
  rw [Mn_voice, Mo_voice, Rp_has_eq hN hA, bnd_t, Mo_isJumper_eq, bnd_t]
  cases e1 : wi a 0 (τ.2 1 2 - 1) with
  | false => rw [if_bf, if_bf]; exact err1 h
  | true =>
    obtain ⟨j, hjN, hj, rfl⟩ := has_in hN e1
    rw [if_bt, if_bt, Mn_isWithin_eq, bnd_t, Mo_in_eq, bnd_t]
    cases e2 : wi b 0 3 with
    | false => rw [if_bf, if_bf]; exact err1 h
    | true =>
      obtain ⟨v, hv, rfl⟩ := wi_in (m := 3) (by decide) e2
      obtain ⟨kd, hkd, hke⟩ := h.1.2.2.2.2.2.2.1 j hj
      rw [if_bt, if_bt, inb_nI hj (by decide), grd_t, grd_t, nI_clamp (by omega), RA_at hA 0 (a := 16) (i := 10 + 5 * j) (by decide) hj (by omega) (by omega), RA_at hA 1 (a := 17) (i := 11 + 5 * j) (by decide) hj (by omega) (by omega), hke, nas_t, nas_t, Th_speak, nas_t, nas_t, nas_t, nas_t, nas_t]
      have hV : VR (σ, τ, kd, j, τ.2 1 (11 + 5 * j)) 0 (sF (sF (sF (sF (sF σ 62 3 (nI kd)) 62 4 (nI j)) 62 5 (τ.2 1 (11 + 5 * j))) 62 1 0) 62 2 0) (sF (sF τ 0 19 0) 0 20 0) := by
        refine ⟨⟨?_, ?_, ?_, hke, rfl⟩, ⟨by show kd < 7; omega, hj⟩, ⟨?_, ?_⟩, ⟨0, by decide, ?_, ?_, fun i hi => by omega⟩, ⟨fun o k ho => ?_, fun _ _ => rfl⟩, fun o k ho => ?_, fun _ _ => rfl⟩
        · rw [sF_eq, if_neg (by decide), sF_eq, if_neg (by decide), sF_eq, if_neg (by decide), sF_eq, if_neg (by decide), sF_eq, if_pos rfl]
        · rw [sF_eq, if_neg (by decide), sF_eq, if_neg (by decide), sF_eq, if_neg (by decide), sF_eq, if_pos rfl]
        · rw [sF_eq, if_neg (by decide), sF_eq, if_neg (by decide), sF_eq, if_pos rfl]
        · rw [sF_eq, if_pos rfl]; rfl
        · rw [sF_eq, if_pos rfl]; rfl
        · rw [sF_eq, if_neg (by decide), sF_eq, if_pos rfl]; rfl
        · rw [sF_eq, if_neg (by decide), sF_eq, if_pos rfl]; rfl
        · rw [sF_ne ho, sF_ne ho, sF_ne ho, sF_ne ho, sF_ne ho]
        · by_cases e : o = 0
          · rw [e, sF_eq, if_neg (ho e).2, sF_eq, if_neg (ho e).1]
          · rw [sF_ne e, sF_ne e]
      generalize sF (sF (sF (sF (sF σ 62 3 (nI kd)) 62 4 (nI j)) 62 5 (τ.2 1 (11 + 5 * j))) 62 1 0) 62 2 0 = σ1 at hV ⊢
      generalize sF (sF τ 0 19 0) 0 20 0 = τ1 at hV ⊢
      rw [hV.1.1, bnd_bnd]
      have hQ : ∀ {x y}, s2 x y (VP (σ, τ, kd, j, τ.2 1 (11 + 5 * j)) 0) → s2 x y (VQ (σ, τ, kd, j, τ.2 1 (11 + 5 * j))) := fun q => s2_mono q (fun _ _ _ _ p => ⟨p.1, Or.inl p.2⟩)
      clear e2
      match v, hv with
      | 0, _ =>
        rw [if_pos (show nI 0 = 0 from rfl)]
        exact s2_bnd (hQ (sings_2 (dd := 54) (d := 0) (x := c) hV (by decide))) (fun r s q t p => voice_end h p)
      | 1, _ =>
        rw [if_neg (show ¬ nI 1 = 0 by decide), if_pos (show nI 1 = 1 from rfl)]
        exact s2_bnd (hQ (jumps_2 (dd := 48) (d := 0) (x := c) hV (by decide))) (fun r s q t p => voice_end h p)
      | 2, _ =>
        rw [if_neg (show ¬ nI 2 = 0 by decide), if_neg (show ¬ nI 2 = 1 by decide), if_pos (show nI 2 = 2 from rfl)]
        exact s2_bnd (hQ (claps_2 (dd := 44) (d := 0) (x := c) hV (by decide))) (fun r s q t p => voice_end h p)
      | 3, _ =>
        rw [if_neg (show ¬ nI 3 = 0 by decide), if_neg (show ¬ nI 3 = 1 by decide), if_neg (show ¬ nI 3 = 2 by decide)]
        exact s2_bnd (partsBy_2 (dd := 46) (d := 0) (x := c) hV (by decide)) (fun r s q t p => voice_end h p)
      | v + 4, hv => exact absurd hv (by omega)
