/-! ===== the shapes of the two modules: which cells they are made of ===== -/
def shC : List ShE := [
  .inr (.inr (6, [some 15, some 24, some 33, some 42, some 44, some 46, some 49, some 51, some 53, some 62, some 64, none])),
  .inr (.inl (1, [3, 6])), .inr (.inl (1, [9, 12])),
  .inr (.inr (4, [none, some 4, some 5, none])), .inl 60, .inl 60,
  .inr (.inr (4, [none, some 7, some 8, none])), .inl 60, .inl 60,
  .inr (.inr (4, [none, some 10, some 11, none])), .inl 60, .inl 60,
  .inr (.inr (4, [none, some 13, some 14, none])), .inl 60, .inl 60,
  .inr (.inr (1, [some 1, some 16, some 17, some 18, some 19, some 20, some 21, some 22, some 23, none, none, none, none, none, none])), .inl 6, .inl 6, .inl 6, .inl 6, .inl 6, .inl 2, .inl 6, .inl 6,
  .inr (.inr (1, [some 65, some 25, some 26, some 27, some 28, some 29, some 30, some 31, some 32, none, none, none, none, none, none])), .inl 6, .inl 6, .inl 6, .inl 6, .inl 6, .inl 2, .inl 6, .inl 6,
  .inr (.inr (1, [some 2, some 34, some 35, some 36, some 37, some 38, some 39, some 40, some 41, none, none, none, none, none, none])), .inl 6, .inl 6, .inl 6, .inl 6, .inl 6, .inl 2, .inl 6, .inl 6,
  .inr (.inr (3, [some 43, none])), .inl 60,
  .inr (.inr (3, [some 45, none])), .inl 60,
  .inr (.inr (0, [some 47, none, some 48, none, none, none, none])), .inl 60, .inl 60,
  .inr (.inr (2, [some 50, none, none])), .inl 24,
  .inr (.inr (2, [some 52, none, none])), .inl 24,
  .inr (.inl (2, [54, 56, 58, 60])),
  .inr (.inr (2, [some 55, none, none])), .inl 24,
  .inr (.inr (2, [some 57, none, none])), .inl 24,
  .inr (.inr (2, [some 59, none, none])), .inl 24,
  .inr (.inr (2, [some 61, none, none])), .inl 24,
  .inr (.inr (5, [some 63, none, none, none, none, none])), .inl 30,
  .inl 7,
  .inr (.inl (1, [66, 69])),
  .inr (.inr (4, [none, some 67, some 68, none])), .inl 60, .inl 60,
  .inr (.inr (4, [none, some 70, some 71, none])), .inl 60, .inl 60]
def shM : List ShE := [.inr (.inr (7, [some 1, some 2, some 3, none, some 4, some 5, some 6, some 7, some 8, some 9, some 10, some 11, none, none, none, none, none, some 12, some 13, none, none])), .inl 366, .inl 366, .inl 366, .inl 7, .inl 4, .inl 4, .inl 96, .inl 60, .inl 60, .inl 3, .inl 60, .inl 6, .inl 30]
def isTx (o : Nat) : Prop := o = 3 ∨ o = 6 ∨ o = 9 ∨ o = 12 ∨ o = 66 ∨ o = 69
def isRp (o : Nat) : Prop := o = 15 ∨ o = 24 ∨ o = 33
def isTp (o : Nat) : Prop := o = 42 ∨ o = 44
def isRw (o : Nat) : Prop := o = 49 ∨ o = 51 ∨ o = 54 ∨ o = 56 ∨ o = 58 ∨ o = 60
abbrev isA60 (a : Nat) : Prop := shC[a]? = some (.inl 60)
abbrev isA366 (a : Nat) : Prop := shM[a]? = some (.inl 366)
def rpt (o : Nat) : Nat := if o = 33 then 2 else if o = 24 then 65 else 1
def rpx (o : Nat) : List Nat := if o = 33 then [9, 12] else if o = 24 then [66, 69] else [3, 6]
theorem rpO {o : Nat} (h : isRp o) : shC[o]? = some (.inr (.inr (1, [some (rpt o), some (o + 1), some (o + 2), some (o + 3), some (o + 4), some (o + 5), some (o + 6), some (o + 7), some (o + 8), none, none, none, none, none, none]))) := by rcases h with rfl | rfl | rfl <;> rfl
theorem rpX {o : Nat} (h : isRp o) : shC[rpt o]? = some (.inr (.inl (1, rpx o))) := by rcases h with rfl | rfl | rfl <;> rfl
theorem rpx_tx {o q : Nat} (h : q ∈ rpx o) : isTx q := by
  unfold rpx at h
  unfold isTx
  split at h
  · simp at h; omega
  · split at h <;> simp at h <;> omega
theorem mem_tx {q : Nat} (h : q ∈ [3, 6]) : isTx q := by unfold isTx; simp at h; omega
theorem mem_ktx {q : Nat} (h : q ∈ [9, 12]) : isTx q := by unfold isTx; simp at h; omega
theorem mem_rw {q : Nat} (h : q ∈ [54, 56, 58, 60]) : isRw q := by unfold isRw; simp at h; omega
theorem rpA1 {o : Nat} (h : isRp o) : shC[o + 1]? = some (.inl 6) := by rcases h with rfl | rfl | rfl <;> rfl
theorem rpA2 {o : Nat} (h : isRp o) : shC[o + 2]? = some (.inl 6) := by rcases h with rfl | rfl | rfl <;> rfl
theorem rpA3 {o : Nat} (h : isRp o) : shC[o + 3]? = some (.inl 6) := by rcases h with rfl | rfl | rfl <;> rfl
theorem rpA4 {o : Nat} (h : isRp o) : shC[o + 4]? = some (.inl 6) := by rcases h with rfl | rfl | rfl <;> rfl
theorem rpA5 {o : Nat} (h : isRp o) : shC[o + 5]? = some (.inl 6) := by rcases h with rfl | rfl | rfl <;> rfl
theorem rpA6 {o : Nat} (h : isRp o) : shC[o + 6]? = some (.inl 2) := by rcases h with rfl | rfl | rfl <;> rfl
theorem rpA7 {o : Nat} (h : isRp o) : shC[o + 7]? = some (.inl 6) := by rcases h with rfl | rfl | rfl <;> rfl
theorem rpA8 {o : Nat} (h : isRp o) : shC[o + 8]? = some (.inl 6) := by rcases h with rfl | rfl | rfl <;> rfl
theorem txO {o : Nat} (h : isTx o) : shC[o]? = some (.inr (.inr (4, [none, some (o + 1), some (o + 2), none]))) := by rcases h with rfl | rfl | rfl | rfl | rfl | rfl <;> rfl
theorem txA1 {o : Nat} (h : isTx o) : shC[o + 1]? = some (.inl 60) := by rcases h with rfl | rfl | rfl | rfl | rfl | rfl <;> rfl
theorem txA2 {o : Nat} (h : isTx o) : shC[o + 2]? = some (.inl 60) := by rcases h with rfl | rfl | rfl | rfl | rfl | rfl <;> rfl
theorem tpO {o : Nat} (h : isTp o) : shC[o]? = some (.inr (.inr (3, [some (o + 1), none]))) := by rcases h with rfl | rfl <;> rfl
theorem tpA {o : Nat} (h : isTp o) : shC[o + 1]? = some (.inl 60) := by rcases h with rfl | rfl <;> rfl
theorem rwO {o : Nat} (h : isRw o) : shC[o]? = some (.inr (.inr (2, [some (o + 1), none, none]))) := by rcases h with rfl | rfl | rfl | rfl | rfl | rfl <;> rfl
theorem rwA {o : Nat} (h : isRw o) : shC[o + 1]? = some (.inl 24) := by rcases h with rfl | rfl | rfl | rfl | rfl | rfl <;> rfl
theorem rp15 : isRp 15 := Or.inl rfl
theorem rp24 : isRp 24 := Or.inr (Or.inl rfl)
theorem rp33 : isRp 33 := Or.inr (Or.inr rfl)
theorem tp42 : isTp 42 := Or.inl rfl
theorem tp44 : isTp 44 := Or.inr rfl
theorem rw49 : isRw 49 := Or.inl rfl
theorem rw51 : isRw 51 := Or.inr (Or.inl rfl)
/-! decode rows of a method, in one list -/
def dall (c : ByteArray) (l : List (Nat × Instr × Nat)) : Bool := l.all (fun e => decide (decode c e.1 = .ok e.2))
theorem dg {c : ByteArray} {l : List (Nat × Instr × Nat)} {pc : Nat} {q : Instr × Nat} (h : dall c l = true) (i : Nat) (hi : l[i]? = some (pc, q)) : decode c pc = .ok q := by
  have h1 := List.all_eq_true.mp h _ (List.mem_of_getElem? hi)
  simp only [decide_eq_true_eq] at h1
  exact h1
