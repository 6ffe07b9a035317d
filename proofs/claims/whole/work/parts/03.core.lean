/-! ===== the words that every method may ask, and the state of a module ===== -/
def tblG : List Cond := lw_tbl.filter goodWord
theorem wdG {i : Nat} {w : Cond} (h : lw_tbl[i]? = some w) (hg : goodWord w = true) : w ∈ tblG := List.mem_filter.mpr ⟨List.mem_of_getElem? h, hg⟩
theorem tblG_good : tblG.all goodWord = true := List.all_eq_true.mpr fun _ hw => (List.mem_filter.mp hw).2
theorem tblG_in {ws : List Cond} (h : ∀ w ∈ ws, w ∈ tblG) : GoodIn tblG ws := fun w hw => ⟨h w hw, good_of_word ((List.mem_filter.mp (h w hw)).2)⟩
theorem tblG_cons {big : List Cond} (h : ∀ w ∈ tblG, w ∈ big) : GoodIn big tblG := fun w hw => ⟨h w hw, good_of_word ((List.mem_filter.mp hw).2)⟩
abbrev St : Type := (Nat → Nat → Int32) × (Nat → Nat → Int32)
def sF (σ : St) (o k : Nat) (v : Int32) : St := (fun o' k' => if o' = o ∧ k' = k then v else σ.1 o' k', σ.2)
def sA (σ : St) (a i : Nat) (v : Int32) : St := (σ.1, fun a' i' => if a' = a ∧ i' = i then v else σ.2 a' i')
def sC (σ : St) (a1 i1 a2 i2 n : Nat) : St := (σ.1, fun a' i' => if a' = a2 then va_cpy (σ.2 a1) (σ.2 a2) i1 i2 n i' else σ.2 a' i')
abbrev ShE : Type := Nat ⊕ ((Nat × List Nat) ⊕ (Nat × List (Option Nat)))
def shV (ad : Nat → Nat) (σ : St) (o k : Nat) (f : Option Nat) : Value := match f with
  | none => .int (σ.1 o k)
  | some r => .ref (ad r)
def shF (ad : Nat → Nat) (σ : St) (o : Nat) (fs : List (Option Nat)) : List Value := fs.mapIdx (fun k f => shV ad σ o k f)
def shE (ad : Nat → Nat) (ca : Nat → ClassId) (σ : St) (o : Nat) (e : ShE) : va_E := match e with
  | .inl n => .inl (ca 0, n, .inl (σ.2 o))
  | .inr (.inl q) => .inl (ca q.1, q.2.length, .inr (.inr (.inr (.inr (fun i => (q.2[i]?).map ad)))))
  | .inr (.inr q) => .inr (q.1, shF ad σ o q.2)
def shW (sh : List ShE) (ad : Nat → Nat) (ca : Nat → ClassId) (σ : St) : va_W := sh.mapIdx (fun o e => (ad o, shE ad ca σ o e))
theorem shW_get {sh : List ShE} {ad : Nat → Nat} {ca : Nat → ClassId} {σ : St} {o : Nat} {e : ShE} (h : sh[o]? = some e) : (shW sh ad ca σ)[o]? = some (ad o, shE ad ca σ o e) := by
  unfold shW
  rw [List.getElem?_mapIdx, h]
  rfl
theorem shF_get {ad : Nat → Nat} {σ : St} {o k : Nat} {fs : List (Option Nat)} {f : Option Nat} (h : fs[k]? = some f) : (shF ad σ o fs)[k]? = some (shV ad σ o k f) := by
  unfold shF
  rw [List.getElem?_mapIdx, h]
  rfl
theorem shF_put {ad : Nat → Nat} {σ : St} {o k : Nat} {fs : List (Option Nat)} (h : fs[k]? = some none) (v : Int32) : (shF ad σ o fs).set k (.int v) = shF ad (sF σ o k v) o fs := by
  apply List.ext_getElem?
  intro i
  rw [List.getElem?_set]
  unfold shF
  rw [List.length_mapIdx, List.getElem?_mapIdx, List.getElem?_mapIdx]
  have hk : k < fs.length := (List.getElem?_eq_some_iff.mp h).1
  by_cases hi : k = i
  · subst hi
    rw [if_pos rfl, if_pos hk, h]
    simp [shV, sF]
  · rw [if_neg hi]
    cases hf : fs[i]? with
    | none => rfl
    | some f =>
      cases f with
      | none => simp [shV, sF, Ne.symm hi]
      | some r => rfl
theorem shE_F {ad : Nat → Nat} {ca : Nat → ClassId} {σ : St} {o o' k : Nat} {v : Int32} {e : ShE} (h : o' ≠ o) : shE ad ca (sF σ o k v) o' e = shE ad ca σ o' e := by
  rcases e with n | q | q
  · rfl
  · rfl
  · simp only [shE]
    congr 2
    unfold shF
    apply List.ext_getElem?
    intro i
    rw [List.getElem?_mapIdx, List.getElem?_mapIdx]
    cases hf : q.2[i]? with
    | none => rfl
    | some f =>
      cases f with
      | none => simp [shV, sF, h]
      | some r => rfl
theorem shW_put {sh : List ShE} {ad : Nat → Nat} {ca : Nat → ClassId} {σ : St} {o k ci : Nat} {fs : List (Option Nat)} (h : sh[o]? = some (.inr (.inr (ci, fs)))) (hf : fs[k]? = some none) (v : Int32) :
    (shW sh ad ca σ).set o (ad o, .inr (ci, (shF ad σ o fs).set k (.int v))) = shW sh ad ca (sF σ o k v) := by
  apply List.ext_getElem?
  intro i
  rw [List.getElem?_set]
  have hl : o < (shW sh ad ca σ).length := (List.getElem?_eq_some_iff.mp (shW_get h)).1
  by_cases hi : o = i
  · subst hi
    rw [if_pos rfl, if_pos hl, shW_get h, shF_put hf]
    rfl
  · rw [if_neg hi]
    unfold shW
    rw [List.getElem?_mapIdx, List.getElem?_mapIdx]
    cases hs : sh[i]? with
    | none => rfl
    | some e => simp only [Option.map_some]; rw [shE_F (Ne.symm hi)]
theorem shE_A {ad : Nat → Nat} {ca : Nat → ClassId} {σ σ' : St} {o' : Nat} {e : ShE} (h1 : σ'.1 = σ.1) (h2 : σ'.2 o' = σ.2 o') : shE ad ca σ' o' e = shE ad ca σ o' e := by
  rcases e with n | q | q
  · simp only [shE, h2]
  · rfl
  · simp only [shE]
    congr 2
    unfold shF
    congr 1
    funext k f
    cases f with
    | none => simp [shV, h1]
    | some r => rfl
theorem shW_row {sh : List ShE} {ad : Nat → Nat} {ca : Nat → ClassId} {σ σ' : St} {a n : Nat} {g : Nat → Int32} (h : sh[a]? = some (.inl n)) (h1 : σ'.1 = σ.1) (h2 : ∀ b, b ≠ a → σ'.2 b = σ.2 b) (hg : σ'.2 a = g) :
    (shW sh ad ca σ).set a (ad a, .inl (ca 0, n, .inl g)) = shW sh ad ca σ' := by
  apply List.ext_getElem?
  intro i
  rw [List.getElem?_set]
  have hl : a < (shW sh ad ca σ).length := (List.getElem?_eq_some_iff.mp (shW_get h)).1
  by_cases hi : a = i
  · subst hi
    rw [if_pos rfl, if_pos hl, shW_get h]
    simp only [shE, hg]
  · rw [if_neg hi]
    unfold shW
    rw [List.getElem?_mapIdx, List.getElem?_mapIdx]
    cases hs : sh[i]? with
    | none => rfl
    | some e => simp only [Option.map_some]; rw [shE_A h1 (h2 i (Ne.symm hi))]
theorem shW_ast {sh : List ShE} {ad : Nat → Nat} {ca : Nat → ClassId} {σ : St} {a n i : Nat} {v : Int32} (h : sh[a]? = some (.inl n)) :
    (shW sh ad ca σ).set a (ad a, .inl (ca 0, n, .inl (upd (σ.2 a) i v))) = shW sh ad ca (sA σ a i v) :=
  shW_row h rfl (fun b hb => by funext j; simp [sA, hb]) (by funext j; simp [sA, upd])
theorem shW_cpy {sh : List ShE} {ad : Nat → Nat} {ca : Nat → ClassId} {σ : St} {a b n i j k : Nat} (h : sh[b]? = some (.inl n)) :
    (shW sh ad ca σ).set b (ad b, .inl (ca 0, n, .inl (va_cpy (σ.2 a) (σ.2 b) i j k))) = shW sh ad ca (sC σ a i b j k) :=
  shW_row h rfl (fun c hc => by funext j; simp [sC, hc]) (by funext j; simp [sC])
/-- which cells are the module's own -/
def fA (sh : List ShE) (ad : Nat → Nat) : Nat → Prop := fun q => ∃ o, o < sh.length ∧ q = ad o
theorem shW_at {sh : List ShE} {ad : Nat → Nat} {ca : Nat → ClassId} {σ : St} {k : Nat} {q : Nat × va_E} (h : (shW sh ad ca σ)[k]? = some q) : k < sh.length ∧ q.1 = ad k := by
  unfold shW at h
  rw [List.getElem?_mapIdx] at h
  cases hs : sh[k]? with
  | none => rw [hs] at h; cases h
  | some e =>
    rw [hs] at h
    cases h
    exact ⟨(List.getElem?_eq_some_iff.mp hs).1, rfl⟩
def adI (sh : List ShE) (ad : Nat → Nat) : Prop := ∀ o o' : Nat, o < sh.length → o' < sh.length → ad o = ad o' → o = o'
theorem shW_D {sh : List ShE} {ad : Nat → Nat} {ca : Nat → ClassId} (σ : St) (h : adI sh ad) : va_D (fA sh ad) (shW sh ad ca σ) := by
  refine ⟨fun i j p q hp hq he => ?_, fun k q hq => ?_⟩
  · obtain ⟨h1, h2⟩ := shW_at hp
    obtain ⟨h3, h4⟩ := shW_at hq
    exact h i j h1 h3 (by rw [← h2, ← h4]; exact he)
  · obtain ⟨h1, h2⟩ := shW_at hq
    exact ⟨k, h1, h2⟩
