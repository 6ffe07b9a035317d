/-! ===== the constructors ===== -/
theorem lvk_at0 {ls : Array Slot} {n : Nat} {L : List (Nat × Value)} {i : Nat} {v : Value} (hl : lv_has ls n L) (h : lvk L i = some v) : ls[i]? = some (.val v) := by
  obtain ⟨k, hk⟩ := lvk_at h
  exact lv_at hl k hk
def rmA (f k n : Nat) : Room := { frames := f, cells := k, slots := n, locals := 60 * f }
def nstI : List (String × Nat × MethodName × String) := [("RopeTreaty", 9, ⟨"RopeTreaty$Rope", "<init>", "()V"⟩, "RopeTreaty"), ("RopeTreaty", 24, ⟨"RopeTreaty$Tape", "<init>", "()V"⟩, "RopeTreaty"), ("RopeTreaty", 34, ⟨"RopeTreaty$Reader", "<init>", "()V"⟩, "RopeTreaty"), ("RopeTreaty", 41, ⟨"RopeTreaty$Row", "<init>", "()V"⟩, "RopeTreaty"), ("RopeTreaty", 55, ⟨"RopeTreaty$Throat", "<init>", "()V"⟩, "RopeTreaty")]
def CK (D : va_G) (ca : Nat → ClassId) (U : State) : Prop := va_K D vwCl (Tys ca) U ∧ (∀ q ∈ nstI, va_Nw (.methodLinkNest q.1 q.2.1 q.2.2.1 q.2.2.2) U) ∧ va_AO RX4 U ∧ va_AO RX2 U
theorem CK.warm {D : va_G} {ca : Nat → ClassId} {s U : State} (h : CK D ca s) (hW : s.WarmedH U.vm) : CK D ca U := ⟨va_K.moved hW.alike h.1, fun q hq => (h.2.1 q hq).warmM hW, h.2.2.1.moved hW.alike, h.2.2.2.moved hW.alike⟩
theorem CK.calling {D : va_G} {ca : Nat → ClassId} {U : State} (h : CK D ca U) (g : JFrame) (mk : MethodId) (a : Array Value) : CK D ca (U.calling g mk a) := ⟨va_K.moved (u := U) (U := U.calling g mk a) (Vm.Alike.refl U.vm) h.1, fun q hq => (h.2.1 q hq).same rfl rfl, va_AO.moved (u := U) (U := U.calling g mk a) (Vm.Alike.refl U.vm) h.2.2.1, va_AO.moved (u := U) (U := U.calling g mk a) (Vm.Alike.refl U.vm) h.2.2.2⟩
theorem ck_blind {D : va_G} {ca : Nat → ClassId} {sz : Nat} {av : List Value} {E : va_W} : FrameBlind (va_Pc av (fun U => U.heap.size = sz ∧ va_P D vwCl E U.heap ∧ CK D ca U ∧ va_D (fun _ => True) E)) := fun a U g mk q => ⟨q.1, q.2.1, q.2.2.1, q.2.2.2.1.calling g mk a, q.2.2.2.2⟩
theorem ra_name {U : State} {cA : ClassId} {ty : FieldType} (h : va_RA U cA ty) : U.vm.findClass ("[" ++ ty.toString) = some cA := by
  cases ty with
  | object C => obtain ⟨_, _, _, _, _, h4⟩ := h; exact h4
  | _ => exact h
theorem ck_same {D : va_G} {ca : Nat → ClassId} {s : State} {cA : ClassId} {ty : FieldType} {t : Nat} (h : va_K D vwCl (Tys ca) s) (h1 : va_K D vwCl (Tys ca ++ [(cA, ty)]) s) (ht : (Tys ca)[t]? = some (ca t, ty)) : cA = ca t := by
  have a := ra_name (h.2 t _ ht).2
  have b := ra_name (h1.2 3 (cA, ty) rfl).2
  rw [a] at b
  exact (Option.some.inj b).symm
theorem ck_obj : Cond.code Lib.objectInit ⟨#[0xb1]⟩ 1 none ∈ tblG := wdG (i := 93) (by decide +kernel) rfl
theorem ck_76 : Cond.initialized "RopeTreaty$Rope" ∈ tblG := wdG (i := 76) (by decide +kernel) rfl
theorem ck_77 : Cond.initialized "RopeTreaty$Text" ∈ tblG := wdG (i := 77) (by decide +kernel) rfl
theorem ck_78 : Cond.initialized "RopeTreaty$Tape" ∈ tblG := wdG (i := 78) (by decide +kernel) rfl
theorem ck_79 : Cond.initialized "RopeTreaty$Reader" ∈ tblG := wdG (i := 79) (by decide +kernel) rfl
theorem ck_80 : Cond.initialized "RopeTreaty$Row" ∈ tblG := wdG (i := 80) (by decide +kernel) rfl
theorem ck_81 : Cond.initialized "RopeTreaty$Throat" ∈ tblG := wdG (i := 81) (by decide +kernel) rfl
theorem ck_91 : Cond.methodLink "RopeTreaty" (1 : Nat) ⟨"java/lang/Object", "<init>", "()V"⟩ ∈ tblG := wdG (i := 91) (by decide +kernel) rfl
theorem ck_92 : Cond.instanceMethod ⟨"java/lang/Object", "<init>", "()V"⟩ ∈ tblG := wdG (i := 92) (by decide +kernel) rfl
theorem ck_94 : Cond.classLink "RopeTreaty" (7 : Nat) "RopeTreaty$Rope" ∈ tblG := wdG (i := 94) (by decide +kernel) rfl
theorem ck_95 : Cond.instantiable "RopeTreaty$Rope" (15 : Nat) ∈ tblG := wdG (i := 95) (by decide +kernel) rfl
theorem ck_97 : Cond.instanceMethod ⟨"RopeTreaty$Rope", "<init>", "()V"⟩ ∈ tblG := wdG (i := 97) (by decide +kernel) rfl
theorem ck_98 : Cond.code ⟨"RopeTreaty$Rope", "<init>", "()V"⟩ prog_3_method_1_code (1 : Nat) (Option.none : Option Jvm.ClassFile.FieldType) ∈ tblG := wdG (i := 98) (by decide +kernel) rfl
theorem ck_99 : Cond.methodLink "RopeTreaty$Rope" (3 : Nat) ⟨"java/lang/Object", "<init>", "()V"⟩ ∈ tblG := wdG (i := 99) (by decide +kernel) rfl
theorem ck_100 : Cond.classLink "RopeTreaty$Rope" (9 : Nat) "RopeTreaty$Text" ∈ tblG := wdG (i := 100) (by decide +kernel) rfl
theorem ck_102 : Cond.instantiable "RopeTreaty$Text" (4 : Nat) ∈ tblG := wdG (i := 102) (by decide +kernel) rfl
theorem ck_103 : Cond.methodLink "RopeTreaty$Rope" (11 : Nat) ⟨"RopeTreaty$Text", "<init>", "(I)V"⟩ ∈ tblG := wdG (i := 103) (by decide +kernel) rfl
theorem ck_104 : Cond.instanceMethod ⟨"RopeTreaty$Text", "<init>", "(I)V"⟩ ∈ tblG := wdG (i := 104) (by decide +kernel) rfl
theorem ck_105 : Cond.code ⟨"RopeTreaty$Text", "<init>", "(I)V"⟩ prog_6_method_1_code (2 : Nat) (Option.none : Option Jvm.ClassFile.FieldType) ∈ tblG := wdG (i := 105) (by decide +kernel) rfl
theorem ck_106 : Cond.methodLink "RopeTreaty$Text" (3 : Nat) ⟨"java/lang/Object", "<init>", "()V"⟩ ∈ tblG := wdG (i := 106) (by decide +kernel) rfl
theorem ck_107 : Cond.fieldLink "RopeTreaty$Text" (18 : Nat) "RopeTreaty$Text" "most" "I" ∈ tblG := wdG (i := 107) (by decide +kernel) rfl
theorem ck_108 : Cond.fieldLink "RopeTreaty$Text" (9 : Nat) "RopeTreaty$Text" "code" "[I" ∈ tblG := wdG (i := 108) (by decide +kernel) rfl
theorem ck_109 : Cond.fieldLink "RopeTreaty$Text" (15 : Nat) "RopeTreaty$Text" "stack" "[I" ∈ tblG := wdG (i := 109) (by decide +kernel) rfl
theorem ck_121 : Cond.arrayClass Jvm.ClassFile.FieldType.int ∈ tblG := wdG (i := 121) (by decide +kernel) rfl
theorem ck_122 : Cond.fieldLink "RopeTreaty$Rope" (14 : Nat) "RopeTreaty$Rope" "texts" "[LRopeTreaty$Text;" ∈ tblG := wdG (i := 122) (by decide +kernel) rfl
theorem ck_124 : Cond.fieldLink "RopeTreaty$Rope" (20 : Nat) "RopeTreaty$Rope" "kind" "[I" ∈ tblG := wdG (i := 124) (by decide +kernel) rfl
theorem ck_126 : Cond.fieldLink "RopeTreaty$Rope" (24 : Nat) "RopeTreaty$Rope" "mark" "[I" ∈ tblG := wdG (i := 126) (by decide +kernel) rfl
theorem ck_128 : Cond.fieldLink "RopeTreaty$Rope" (27 : Nat) "RopeTreaty$Rope" "breath" "[I" ∈ tblG := wdG (i := 128) (by decide +kernel) rfl
theorem ck_130 : Cond.fieldLink "RopeTreaty$Rope" (30 : Nat) "RopeTreaty$Rope" "side" "[I" ∈ tblG := wdG (i := 130) (by decide +kernel) rfl
theorem ck_132 : Cond.fieldLink "RopeTreaty$Rope" (33 : Nat) "RopeTreaty$Rope" "in" "[I" ∈ tblG := wdG (i := 132) (by decide +kernel) rfl
theorem ck_134 : Cond.fieldLink "RopeTreaty$Rope" (36 : Nat) "RopeTreaty$Rope" "arm" "[I" ∈ tblG := wdG (i := 134) (by decide +kernel) rfl
theorem ck_136 : Cond.fieldLink "RopeTreaty$Rope" (39 : Nat) "RopeTreaty$Rope" "price" "[I" ∈ tblG := wdG (i := 136) (by decide +kernel) rfl
theorem ck_137 : Cond.fieldLink "RopeTreaty$Rope" (42 : Nat) "RopeTreaty$Rope" "alone" "[I" ∈ tblG := wdG (i := 137) (by decide +kernel) rfl
theorem ck_143 : Cond.fieldLink "RopeTreaty$Rope" (45 : Nat) "RopeTreaty$Rope" "treaty" "I" ∈ tblG := wdG (i := 143) (by decide +kernel) rfl
theorem ck_145 : Cond.fieldLink "RopeTreaty$Rope" (49 : Nat) "RopeTreaty$Rope" "bar" "I" ∈ tblG := wdG (i := 145) (by decide +kernel) rfl
theorem ck_149 : Cond.fieldLink "RopeTreaty$Rope" (52 : Nat) "RopeTreaty$Rope" "z" "I" ∈ tblG := wdG (i := 149) (by decide +kernel) rfl
theorem ck_182 : Cond.classLink "RopeTreaty" (22 : Nat) "RopeTreaty$Tape" ∈ tblG := wdG (i := 182) (by decide +kernel) rfl
theorem ck_183 : Cond.instantiable "RopeTreaty$Tape" (2 : Nat) ∈ tblG := wdG (i := 183) (by decide +kernel) rfl
theorem ck_185 : Cond.instanceMethod ⟨"RopeTreaty$Tape", "<init>", "()V"⟩ ∈ tblG := wdG (i := 185) (by decide +kernel) rfl
theorem ck_186 : Cond.code ⟨"RopeTreaty$Tape", "<init>", "()V"⟩ prog_5_method_1_code (1 : Nat) (Option.none : Option Jvm.ClassFile.FieldType) ∈ tblG := wdG (i := 186) (by decide +kernel) rfl
theorem ck_187 : Cond.methodLink "RopeTreaty$Tape" (3 : Nat) ⟨"java/lang/Object", "<init>", "()V"⟩ ∈ tblG := wdG (i := 187) (by decide +kernel) rfl
theorem ck_188 : Cond.fieldLink "RopeTreaty$Tape" (9 : Nat) "RopeTreaty$Tape" "bytes" "[I" ∈ tblG := wdG (i := 188) (by decide +kernel) rfl
theorem ck_198 : Cond.classLink "RopeTreaty" (32 : Nat) "RopeTreaty$Reader" ∈ tblG := wdG (i := 198) (by decide +kernel) rfl
theorem ck_199 : Cond.instantiable "RopeTreaty$Reader" (7 : Nat) ∈ tblG := wdG (i := 199) (by decide +kernel) rfl
theorem ck_201 : Cond.instanceMethod ⟨"RopeTreaty$Reader", "<init>", "()V"⟩ ∈ tblG := wdG (i := 201) (by decide +kernel) rfl
theorem ck_202 : Cond.code ⟨"RopeTreaty$Reader", "<init>", "()V"⟩ prog_2_method_1_code (1 : Nat) (Option.none : Option Jvm.ClassFile.FieldType) ∈ tblG := wdG (i := 202) (by decide +kernel) rfl
theorem ck_203 : Cond.methodLink "RopeTreaty$Reader" (3 : Nat) ⟨"java/lang/Object", "<init>", "()V"⟩ ∈ tblG := wdG (i := 203) (by decide +kernel) rfl
theorem ck_204 : Cond.fieldLink "RopeTreaty$Reader" (9 : Nat) "RopeTreaty$Reader" "code" "[I" ∈ tblG := wdG (i := 204) (by decide +kernel) rfl
theorem ck_208 : Cond.fieldLink "RopeTreaty$Reader" (15 : Nat) "RopeTreaty$Reader" "bytes" "[I" ∈ tblG := wdG (i := 208) (by decide +kernel) rfl
theorem ck_228 : Cond.classLink "RopeTreaty" (39 : Nat) "RopeTreaty$Row" ∈ tblG := wdG (i := 228) (by decide +kernel) rfl
theorem ck_229 : Cond.instantiable "RopeTreaty$Row" (3 : Nat) ∈ tblG := wdG (i := 229) (by decide +kernel) rfl
theorem ck_231 : Cond.instanceMethod ⟨"RopeTreaty$Row", "<init>", "()V"⟩ ∈ tblG := wdG (i := 231) (by decide +kernel) rfl
theorem ck_232 : Cond.code ⟨"RopeTreaty$Row", "<init>", "()V"⟩ prog_4_method_1_code (1 : Nat) (Option.none : Option Jvm.ClassFile.FieldType) ∈ tblG := wdG (i := 232) (by decide +kernel) rfl
theorem ck_233 : Cond.methodLink "RopeTreaty$Row" (3 : Nat) ⟨"java/lang/Object", "<init>", "()V"⟩ ∈ tblG := wdG (i := 233) (by decide +kernel) rfl
theorem ck_234 : Cond.fieldLink "RopeTreaty$Row" (9 : Nat) "RopeTreaty$Row" "numbers" "[I" ∈ tblG := wdG (i := 234) (by decide +kernel) rfl
theorem ck_250 : Cond.classLink "RopeTreaty" (53 : Nat) "RopeTreaty$Throat" ∈ tblG := wdG (i := 250) (by decide +kernel) rfl
theorem ck_251 : Cond.instantiable "RopeTreaty$Throat" (6 : Nat) ∈ tblG := wdG (i := 251) (by decide +kernel) rfl
theorem ck_253 : Cond.instanceMethod ⟨"RopeTreaty$Throat", "<init>", "()V"⟩ ∈ tblG := wdG (i := 253) (by decide +kernel) rfl
theorem ck_254 : Cond.code ⟨"RopeTreaty$Throat", "<init>", "()V"⟩ prog_7_method_1_code (1 : Nat) (Option.none : Option Jvm.ClassFile.FieldType) ∈ tblG := wdG (i := 254) (by decide +kernel) rfl
theorem ck_255 : Cond.methodLink "RopeTreaty$Throat" (3 : Nat) ⟨"java/lang/Object", "<init>", "()V"⟩ ∈ tblG := wdG (i := 255) (by decide +kernel) rfl
theorem ck_256 : Cond.fieldLink "RopeTreaty$Throat" (11 : Nat) "RopeTreaty$Throat" "trace" "[I" ∈ tblG := wdG (i := 256) (by decide +kernel) rfl
theorem ck_278 : Cond.fieldLink "RopeTreaty" (10 : Nat) "RopeTreaty" "now" "LRopeTreaty$Rope;" ∈ tblG := wdG (i := 278) (by decide +kernel) rfl
theorem ck_279 : Cond.fieldLink "RopeTreaty" (16 : Nat) "RopeTreaty" "thought" "LRopeTreaty$Rope;" ∈ tblG := wdG (i := 279) (by decide +kernel) rfl
theorem ck_280 : Cond.fieldLink "RopeTreaty" (19 : Nat) "RopeTreaty" "kept" "LRopeTreaty$Rope;" ∈ tblG := wdG (i := 280) (by decide +kernel) rfl
theorem ck_281 : Cond.fieldLink "RopeTreaty" (25 : Nat) "RopeTreaty" "tape" "LRopeTreaty$Tape;" ∈ tblG := wdG (i := 281) (by decide +kernel) rfl
theorem ck_282 : Cond.fieldLink "RopeTreaty" (29 : Nat) "RopeTreaty" "keptTape" "LRopeTreaty$Tape;" ∈ tblG := wdG (i := 282) (by decide +kernel) rfl
theorem ck_283 : Cond.fieldLink "RopeTreaty" (35 : Nat) "RopeTreaty" "reader" "LRopeTreaty$Reader;" ∈ tblG := wdG (i := 283) (by decide +kernel) rfl
theorem ck_284 : Cond.fieldLink "RopeTreaty" (42 : Nat) "RopeTreaty" "waiting" "LRopeTreaty$Row;" ∈ tblG := wdG (i := 284) (by decide +kernel) rfl
theorem ck_285 : Cond.fieldLink "RopeTreaty" (46 : Nat) "RopeTreaty" "keptWaiting" "LRopeTreaty$Row;" ∈ tblG := wdG (i := 285) (by decide +kernel) rfl
theorem ck_286 : Cond.fieldLink "RopeTreaty" (49 : Nat) "RopeTreaty" "sheets" "[LRopeTreaty$Row;" ∈ tblG := wdG (i := 286) (by decide +kernel) rfl
theorem ck_287 : Cond.fieldLink "RopeTreaty" (56 : Nat) "RopeTreaty" "throat" "LRopeTreaty$Throat;" ∈ tblG := wdG (i := 287) (by decide +kernel) rfl
theorem ck_288 : Cond.fieldLink "RopeTreaty" (60 : Nat) "RopeTreaty" "errors" "[I" ∈ tblG := wdG (i := 288) (by decide +kernel) rfl
theorem ck_772 : Cond.methodLink "RopeTreatyModel" (3 : Nat) ⟨"java/lang/Object", "<init>", "()V"⟩ ∈ tblG := wdG (i := 772) (by decide +kernel) rfl
theorem ck_773 : Cond.fieldLink "RopeTreatyModel" (9 : Nat) "RopeTreatyModel" "row" "[I" ∈ tblG := wdG (i := 773) (by decide +kernel) rfl
theorem ck_774 : Cond.fieldLink "RopeTreatyModel" (13 : Nat) "RopeTreatyModel" "kept" "[I" ∈ tblG := wdG (i := 774) (by decide +kernel) rfl
theorem ck_775 : Cond.fieldLink "RopeTreatyModel" (16 : Nat) "RopeTreatyModel" "before" "[I" ∈ tblG := wdG (i := 775) (by decide +kernel) rfl
theorem ck_777 : Cond.fieldLink "RopeTreatyModel" (19 : Nat) "RopeTreatyModel" "errors" "[I" ∈ tblG := wdG (i := 777) (by decide +kernel) rfl
theorem ck_778 : Cond.fieldLink "RopeTreatyModel" (22 : Nat) "RopeTreatyModel" "bitsOf" "[I" ∈ tblG := wdG (i := 778) (by decide +kernel) rfl
theorem ck_779 : Cond.fieldLink "RopeTreatyModel" (25 : Nat) "RopeTreatyModel" "sizeOf" "[I" ∈ tblG := wdG (i := 779) (by decide +kernel) rfl
theorem ck_780 : Cond.fieldLink "RopeTreatyModel" (28 : Nat) "RopeTreatyModel" "cells" "[I" ∈ tblG := wdG (i := 780) (by decide +kernel) rfl
theorem ck_781 : Cond.fieldLink "RopeTreatyModel" (31 : Nat) "RopeTreatyModel" "act" "[I" ∈ tblG := wdG (i := 781) (by decide +kernel) rfl
theorem ck_782 : Cond.fieldLink "RopeTreatyModel" (34 : Nat) "RopeTreatyModel" "with" "[I" ∈ tblG := wdG (i := 782) (by decide +kernel) rfl
theorem ck_783 : Cond.fieldLink "RopeTreatyModel" (37 : Nat) "RopeTreatyModel" "facts" "[I" ∈ tblG := wdG (i := 783) (by decide +kernel) rfl
theorem ck_784 : Cond.fieldLink "RopeTreatyModel" (40 : Nat) "RopeTreatyModel" "pile" "[I" ∈ tblG := wdG (i := 784) (by decide +kernel) rfl
theorem ck_790 : Cond.fieldLink "RopeTreatyModel" (43 : Nat) "RopeTreatyModel" "costs" "[I" ∈ tblG := wdG (i := 790) (by decide +kernel) rfl
theorem ck_791 : Cond.fieldLink "RopeTreatyModel" (46 : Nat) "RopeTreatyModel" "trace" "[I" ∈ tblG := wdG (i := 791) (by decide +kernel) rfl
def ii_Tx : List (Nat × Instr × Nat) := [(0, .aload_n 0, 1), (1, .invokespecial 3, 3), (4, .aload_n 0, 1), (5, .bipush 60, 2), (7, .newarray .int, 2), (9, .putfield 9, 3), (12, .aload_n 0, 1), (13, .bipush 60, 2), (15, .newarray .int, 2), (17, .putfield 15, 3), (20, .aload_n 0, 1), (21, .iload_n 1, 1), (22, .putfield 18, 3), (25, .return_, 1)]
theorem hi_Tx : dall cX4_init ii_Tx = true := by decide +kernel
abbrev mdI_Tx : Md := (yX4_init, cX4_init, 2, none)
set_option maxRecDepth 100000 in
set_option maxHeartbeats 4000000 in
theorem c_Tx (l : Launch) (D : va_G) (ca : Nat → ClassId) (h0 : Nat) (sz : Nat) (p1 : Int32) : Met l yX4_init (mws mdI_Tx) (rmA 1 2 120) (va_Pc [.ref h0, .int p1] (fun U => U.heap.size = sz ∧ va_P D vwCl [(h0, .inr (4, [.int 0, .null, .null, .int 0]))] U.heap ∧ CK D ca U ∧ va_D (fun _ => True) [(h0, .inr (4, [.int 0, .null, .null, .int 0]))])) (va_Qv (fun _ : Unit => True) (fun _ t => ∃ q1 q2 : Nat, va_P D vwCl [(h0, .inr (4, [.int p1, .ref q1, .ref q2, .int 0])), (q1, .inl (ca 0, 60, .inl (fun _ => 0))), (q2, .inl (ca 0, 60, .inl (fun _ => 0)))] t.heap ∧ va_D (va_A [(h0, .inr (4, [.int 0, .null, .null, .int 0]))] sz) [(h0, .inr (4, [.int p1, .ref q1, .ref q2, .int 0])), (q1, .inl (ca 0, 60, .inl (fun _ => 0))), (q2, .inl (ca 0, 60, .inl (fun _ => 0)))]) (va_A [(h0, .inr (4, [.int 0, .null, .null, .int 0]))] sz)) 2 120 (va_A [(h0, .inr (4, [.int 0, .null, .null, .int 0]))] sz) := by
  refine Met.ofW (cc := cX4_init) (maxL := 2) (ret := none) (by decide) rfl ?_
  intro p e s m args below meth c s₁ B hml hv
  obtain ⟨rfl, hsz, hP, hK, hD0⟩ := hv
  have hx := B.exec
  have hb := B.bytes
  have hr := B.returns
  have hts : ∀ w ∈ tblG, w.before _ s = true := fun w hw => atoms_spec (ws := mws mdI_Tx) B.pre w (List.mem_cons_of_mem _ hw)
  have hown : s.vm.findClass RX4 = some m.cls := findClass_of_methodNamed B.named
  have hlocks := B.notSynchronized
  have hin : meth.name = "<init>" := (name_of_methodNamed B.named B.method).1
  subst hsz
  have hD := hD0.self (sz := s.heap.size)
  generalize hAe : va_A [(h0, .inr (4, [.int 0, .null, .null, .int 0]))] s.heap.size = A at hD ⊢
  have hA : ∀ q : Nat, s.heap.size ≤ q → A q := fun q h => by rw [← hAe]; exact Or.inr h
  have hS : va_S A s.heap s.heap [] := va_S.rf
  have hP : va_P D vwCl [(h0, .inr (4, [.int 0, .null, .null, .int 0]))] s.heap := hP
  have hl := lv_entry [.ref h0, .int p1] (n := 2) (Nat.le_of_ble_eq_true rfl)
  rw [lg_entry_eq]
  generalize (lg_sl [.ref h0, .int p1] ++ List.replicate (2 - (lg_sl [.ref h0, .int p1]).length) Slot.unset).toArray = ls at hl ⊢
  have hl : lv_has ls 2 [(0, .ref h0), (1, .int p1)] := hl
  refine lv_aload_n hx hb (dg hi_Tx 0 rfl) rfl (lvk_at0 hl rfl) ?_
  refine W.objInit hx hb hown (hts _ ck_106) (hts _ ck_92) (hts _ ck_obj) rfl (by rw [hml]; exact hl.1) rfl (dg hi_Tx 1 rfl) (Nat.le_of_ble_eq_true rfl) (Nat.le_of_ble_eq_true rfl) ?_
  refine W.eq (g2 := F0 m 4 ls []) rfl ?_
  refine lv_aload_n hx hb (dg hi_Tx 2 rfl) rfl (lvk_at0 hl rfl) ?_
  refine lv_bipush (v := (60 : Int32)) hx hb (dg hi_Tx 3 rfl) (by decide) ?_
  refine va_newa (atype := .int) (ty := .int) (a0 := (60, .inl (fun _ => 0))) hx hb (hts _ ck_121) rfl hK.1 hP hD hS hA (fun _ => rfl) (by decide) rfl (by decide) (Nat.le_of_ble_eq_true rfl) (Nat.le_of_ble_eq_true rfl) (dg hi_Tx 4 rfl) (fun q1 cA H hK1 hP hD hS => ?_)
  obtain rfl := ck_same (t := 0) hK.1 hK1 rfl
  have hP : va_P D vwCl [(h0, .inr (4, [.int 0, .null, .null, .int 0])), (q1, .inl (ca 0, 60, .inl (fun _ => 0)))] H := hP
  have hD : va_D A [(h0, .inr (4, [.int 0, .null, .null, .int 0])), (q1, .inl (ca 0, 60, .inl (fun _ => 0)))] := hD
  refine va_putF (D := D) (ci := 4) (v := .ref q1) (ty := .array (.int)) (Ts := tblG) hx hb hts fcX4.1 tyX4 tyX4_ok nmX4 hown hK.1 hP hD hS 0 rfl rfl 1 (by decide) (hts _ ck_108) (fun _ h9 => h9) rfl hin rfl (by decide +kernel) rfl rfl (Nat.le_of_ble_eq_true rfl) (dg hi_Tx 5 rfl) (fun H locs hP hD hS => ?_)
  have hP : va_P D vwCl [(h0, .inr (4, [.int 0, .ref q1, .null, .int 0])), (q1, .inl (ca 0, 60, .inl (fun _ => 0)))] H := hP
  have hD : va_D A [(h0, .inr (4, [.int 0, .ref q1, .null, .int 0])), (q1, .inl (ca 0, 60, .inl (fun _ => 0)))] := hD
  refine lv_aload_n hx hb (dg hi_Tx 6 rfl) rfl (lvk_at0 hl rfl) ?_
  refine lv_bipush (v := (60 : Int32)) hx hb (dg hi_Tx 7 rfl) (by decide) ?_
  refine va_newa (atype := .int) (ty := .int) (a0 := (60, .inl (fun _ => 0))) hx hb (hts _ ck_121) rfl hK.1 hP hD hS hA (fun _ => rfl) (by decide) rfl (by decide) (Nat.le_of_ble_eq_true rfl) (Nat.le_of_ble_eq_true rfl) (dg hi_Tx 8 rfl) (fun q2 cA H hK1 hP hD hS => ?_)
  obtain rfl := ck_same (t := 0) hK.1 hK1 rfl
  have hP : va_P D vwCl [(h0, .inr (4, [.int 0, .ref q1, .null, .int 0])), (q1, .inl (ca 0, 60, .inl (fun _ => 0))), (q2, .inl (ca 0, 60, .inl (fun _ => 0)))] H := hP
  have hD : va_D A [(h0, .inr (4, [.int 0, .ref q1, .null, .int 0])), (q1, .inl (ca 0, 60, .inl (fun _ => 0))), (q2, .inl (ca 0, 60, .inl (fun _ => 0)))] := hD
  refine va_putF (D := D) (ci := 4) (v := .ref q2) (ty := .array (.int)) (Ts := tblG) hx hb hts fcX4.1 tyX4 tyX4_ok nmX4 hown hK.1 hP hD hS 0 rfl rfl 2 (by decide) (hts _ ck_109) (fun _ h9 => h9) rfl hin rfl (by decide +kernel) rfl rfl (Nat.le_of_ble_eq_true rfl) (dg hi_Tx 9 rfl) (fun H locs hP hD hS => ?_)
  have hP : va_P D vwCl [(h0, .inr (4, [.int 0, .ref q1, .ref q2, .int 0])), (q1, .inl (ca 0, 60, .inl (fun _ => 0))), (q2, .inl (ca 0, 60, .inl (fun _ => 0)))] H := hP
  have hD : va_D A [(h0, .inr (4, [.int 0, .ref q1, .ref q2, .int 0])), (q1, .inl (ca 0, 60, .inl (fun _ => 0))), (q2, .inl (ca 0, 60, .inl (fun _ => 0)))] := hD
  refine lv_aload_n hx hb (dg hi_Tx 10 rfl) rfl (lvk_at0 hl rfl) ?_
  refine lv_iload_n hx hb (dg hi_Tx 11 rfl) rfl (lvk_at0 hl rfl) ?_
  refine va_putF (D := D) (ci := 4) (v := .int p1) (ty := .int) (Ts := tblG) hx hb hts fcX4.1 tyX4 tyX4_ok nmX4 hown hK.1 hP hD hS 0 rfl rfl 0 (by decide) (hts _ ck_107) (fun _ h9 => h9) rfl hin rfl (by decide +kernel) rfl rfl (Nat.le_of_ble_eq_true rfl) (dg hi_Tx 12 rfl) (fun H locs hP hD hS => ?_)
  have hP : va_P D vwCl [(h0, .inr (4, [.int p1, .ref q1, .ref q2, .int 0])), (q1, .inl (ca 0, 60, .inl (fun _ => 0))), (q2, .inl (ca 0, 60, .inl (fun _ => 0)))] H := hP
  have hD : va_D A [(h0, .inr (4, [.int p1, .ref q1, .ref q2, .int 0])), (q1, .inl (ca 0, 60, .inl (fun _ => 0))), (q2, .inl (ca 0, 60, .inl (fun _ => 0)))] := hD
  exact W.vret hx hb hr (fun t ht hW => ⟨⟨(), rfl, trivial, q1, q2, by rw [ht]; exact hP, hD⟩, hS.F ht⟩) hS.2.2 (dg hi_Tx 13 rfl)
def ii_Rw : List (Nat × Instr × Nat) := [(0, .aload_n 0, 1), (1, .invokespecial 3, 3), (4, .aload_n 0, 1), (5, .bipush 24, 2), (7, .newarray .int, 2), (9, .putfield 9, 3), (12, .return_, 1)]
theorem hi_Rw : dall cX2_init ii_Rw = true := by decide +kernel
abbrev mdI_Rw : Md := (yX2_init, cX2_init, 1, none)
set_option maxRecDepth 100000 in
set_option maxHeartbeats 4000000 in
theorem c_Rw (l : Launch) (D : va_G) (ca : Nat → ClassId) (h0 : Nat) (sz : Nat) : Met l yX2_init (mws mdI_Rw) (rmA 1 1 24) (va_Pc [.ref h0] (fun U => U.heap.size = sz ∧ va_P D vwCl [(h0, .inr (2, [.null, .int 0, .int 0]))] U.heap ∧ CK D ca U ∧ va_D (fun _ => True) [(h0, .inr (2, [.null, .int 0, .int 0]))])) (va_Qv (fun _ : Unit => True) (fun _ t => ∃ q1 : Nat, va_P D vwCl [(h0, .inr (2, [.ref q1, .int 0, .int 0])), (q1, .inl (ca 0, 24, .inl (fun _ => 0)))] t.heap ∧ va_D (va_A [(h0, .inr (2, [.null, .int 0, .int 0]))] sz) [(h0, .inr (2, [.ref q1, .int 0, .int 0])), (q1, .inl (ca 0, 24, .inl (fun _ => 0)))]) (va_A [(h0, .inr (2, [.null, .int 0, .int 0]))] sz)) 1 24 (va_A [(h0, .inr (2, [.null, .int 0, .int 0]))] sz) := by
  refine Met.ofW (cc := cX2_init) (maxL := 1) (ret := none) (by decide) rfl ?_
  intro p e s m args below meth c s₁ B hml hv
  obtain ⟨rfl, hsz, hP, hK, hD0⟩ := hv
  have hx := B.exec
  have hb := B.bytes
  have hr := B.returns
  have hts : ∀ w ∈ tblG, w.before _ s = true := fun w hw => atoms_spec (ws := mws mdI_Rw) B.pre w (List.mem_cons_of_mem _ hw)
  have hown : s.vm.findClass RX2 = some m.cls := findClass_of_methodNamed B.named
  have hlocks := B.notSynchronized
  have hin : meth.name = "<init>" := (name_of_methodNamed B.named B.method).1
  subst hsz
  have hD := hD0.self (sz := s.heap.size)
  generalize hAe : va_A [(h0, .inr (2, [.null, .int 0, .int 0]))] s.heap.size = A at hD ⊢
  have hA : ∀ q : Nat, s.heap.size ≤ q → A q := fun q h => by rw [← hAe]; exact Or.inr h
  have hS : va_S A s.heap s.heap [] := va_S.rf
  have hP : va_P D vwCl [(h0, .inr (2, [.null, .int 0, .int 0]))] s.heap := hP
  have hl := lv_entry [.ref h0] (n := 1) (Nat.le_of_ble_eq_true rfl)
  rw [lg_entry_eq]
  generalize (lg_sl [.ref h0] ++ List.replicate (1 - (lg_sl [.ref h0]).length) Slot.unset).toArray = ls at hl ⊢
  have hl : lv_has ls 1 [(0, .ref h0)] := hl
  refine lv_aload_n hx hb (dg hi_Rw 0 rfl) rfl (lvk_at0 hl rfl) ?_
  refine W.objInit hx hb hown (hts _ ck_233) (hts _ ck_92) (hts _ ck_obj) rfl (by rw [hml]; exact hl.1) rfl (dg hi_Rw 1 rfl) (Nat.le_of_ble_eq_true rfl) (Nat.le_of_ble_eq_true rfl) ?_
  refine W.eq (g2 := F0 m 4 ls []) rfl ?_
  refine lv_aload_n hx hb (dg hi_Rw 2 rfl) rfl (lvk_at0 hl rfl) ?_
  refine lv_bipush (v := (24 : Int32)) hx hb (dg hi_Rw 3 rfl) (by decide) ?_
  refine va_newa (atype := .int) (ty := .int) (a0 := (24, .inl (fun _ => 0))) hx hb (hts _ ck_121) rfl hK.1 hP hD hS hA (fun _ => rfl) (by decide) rfl (by decide) (Nat.le_of_ble_eq_true rfl) (Nat.le_of_ble_eq_true rfl) (dg hi_Rw 4 rfl) (fun q1 cA H hK1 hP hD hS => ?_)
  obtain rfl := ck_same (t := 0) hK.1 hK1 rfl
  have hP : va_P D vwCl [(h0, .inr (2, [.null, .int 0, .int 0])), (q1, .inl (ca 0, 24, .inl (fun _ => 0)))] H := hP
  have hD : va_D A [(h0, .inr (2, [.null, .int 0, .int 0])), (q1, .inl (ca 0, 24, .inl (fun _ => 0)))] := hD
  refine va_putF (D := D) (ci := 2) (v := .ref q1) (ty := .array (.int)) (Ts := tblG) hx hb hts fcX2.1 tyX2 tyX2_ok nmX2 hown hK.1 hP hD hS 0 rfl rfl 0 (by decide) (hts _ ck_234) (fun _ h9 => h9) rfl hin rfl (by decide +kernel) rfl rfl (Nat.le_of_ble_eq_true rfl) (dg hi_Rw 5 rfl) (fun H locs hP hD hS => ?_)
  have hP : va_P D vwCl [(h0, .inr (2, [.ref q1, .int 0, .int 0])), (q1, .inl (ca 0, 24, .inl (fun _ => 0)))] H := hP
  have hD : va_D A [(h0, .inr (2, [.ref q1, .int 0, .int 0])), (q1, .inl (ca 0, 24, .inl (fun _ => 0)))] := hD
  exact W.vret hx hb hr (fun t ht hW => ⟨⟨(), rfl, trivial, q1, by rw [ht]; exact hP, hD⟩, hS.F ht⟩) hS.2.2 (dg hi_Rw 6 rfl)
def ii_Tp : List (Nat × Instr × Nat) := [(0, .aload_n 0, 1), (1, .invokespecial 3, 3), (4, .aload_n 0, 1), (5, .bipush 60, 2), (7, .newarray .int, 2), (9, .putfield 9, 3), (12, .return_, 1)]
theorem hi_Tp : dall cX3_init ii_Tp = true := by decide +kernel
abbrev mdI_Tp : Md := (yX3_init, cX3_init, 1, none)
set_option maxRecDepth 100000 in
set_option maxHeartbeats 4000000 in
theorem c_Tp (l : Launch) (D : va_G) (ca : Nat → ClassId) (h0 : Nat) (sz : Nat) : Met l yX3_init (mws mdI_Tp) (rmA 1 1 60) (va_Pc [.ref h0] (fun U => U.heap.size = sz ∧ va_P D vwCl [(h0, .inr (3, [.null, .int 0]))] U.heap ∧ CK D ca U ∧ va_D (fun _ => True) [(h0, .inr (3, [.null, .int 0]))])) (va_Qv (fun _ : Unit => True) (fun _ t => ∃ q1 : Nat, va_P D vwCl [(h0, .inr (3, [.ref q1, .int 0])), (q1, .inl (ca 0, 60, .inl (fun _ => 0)))] t.heap ∧ va_D (va_A [(h0, .inr (3, [.null, .int 0]))] sz) [(h0, .inr (3, [.ref q1, .int 0])), (q1, .inl (ca 0, 60, .inl (fun _ => 0)))]) (va_A [(h0, .inr (3, [.null, .int 0]))] sz)) 1 60 (va_A [(h0, .inr (3, [.null, .int 0]))] sz) := by
  refine Met.ofW (cc := cX3_init) (maxL := 1) (ret := none) (by decide) rfl ?_
  intro p e s m args below meth c s₁ B hml hv
  obtain ⟨rfl, hsz, hP, hK, hD0⟩ := hv
  have hx := B.exec
  have hb := B.bytes
  have hr := B.returns
  have hts : ∀ w ∈ tblG, w.before _ s = true := fun w hw => atoms_spec (ws := mws mdI_Tp) B.pre w (List.mem_cons_of_mem _ hw)
  have hown : s.vm.findClass RX3 = some m.cls := findClass_of_methodNamed B.named
  have hlocks := B.notSynchronized
  have hin : meth.name = "<init>" := (name_of_methodNamed B.named B.method).1
  subst hsz
  have hD := hD0.self (sz := s.heap.size)
  generalize hAe : va_A [(h0, .inr (3, [.null, .int 0]))] s.heap.size = A at hD ⊢
  have hA : ∀ q : Nat, s.heap.size ≤ q → A q := fun q h => by rw [← hAe]; exact Or.inr h
  have hS : va_S A s.heap s.heap [] := va_S.rf
  have hP : va_P D vwCl [(h0, .inr (3, [.null, .int 0]))] s.heap := hP
  have hl := lv_entry [.ref h0] (n := 1) (Nat.le_of_ble_eq_true rfl)
  rw [lg_entry_eq]
  generalize (lg_sl [.ref h0] ++ List.replicate (1 - (lg_sl [.ref h0]).length) Slot.unset).toArray = ls at hl ⊢
  have hl : lv_has ls 1 [(0, .ref h0)] := hl
  refine lv_aload_n hx hb (dg hi_Tp 0 rfl) rfl (lvk_at0 hl rfl) ?_
  refine W.objInit hx hb hown (hts _ ck_187) (hts _ ck_92) (hts _ ck_obj) rfl (by rw [hml]; exact hl.1) rfl (dg hi_Tp 1 rfl) (Nat.le_of_ble_eq_true rfl) (Nat.le_of_ble_eq_true rfl) ?_
  refine W.eq (g2 := F0 m 4 ls []) rfl ?_
  refine lv_aload_n hx hb (dg hi_Tp 2 rfl) rfl (lvk_at0 hl rfl) ?_
  refine lv_bipush (v := (60 : Int32)) hx hb (dg hi_Tp 3 rfl) (by decide) ?_
  refine va_newa (atype := .int) (ty := .int) (a0 := (60, .inl (fun _ => 0))) hx hb (hts _ ck_121) rfl hK.1 hP hD hS hA (fun _ => rfl) (by decide) rfl (by decide) (Nat.le_of_ble_eq_true rfl) (Nat.le_of_ble_eq_true rfl) (dg hi_Tp 4 rfl) (fun q1 cA H hK1 hP hD hS => ?_)
  obtain rfl := ck_same (t := 0) hK.1 hK1 rfl
  have hP : va_P D vwCl [(h0, .inr (3, [.null, .int 0])), (q1, .inl (ca 0, 60, .inl (fun _ => 0)))] H := hP
  have hD : va_D A [(h0, .inr (3, [.null, .int 0])), (q1, .inl (ca 0, 60, .inl (fun _ => 0)))] := hD
  refine va_putF (D := D) (ci := 3) (v := .ref q1) (ty := .array (.int)) (Ts := tblG) hx hb hts fcX3.1 tyX3 tyX3_ok nmX3 hown hK.1 hP hD hS 0 rfl rfl 0 (by decide) (hts _ ck_188) (fun _ h9 => h9) rfl hin rfl (by decide +kernel) rfl rfl (Nat.le_of_ble_eq_true rfl) (dg hi_Tp 5 rfl) (fun H locs hP hD hS => ?_)
  have hP : va_P D vwCl [(h0, .inr (3, [.ref q1, .int 0])), (q1, .inl (ca 0, 60, .inl (fun _ => 0)))] H := hP
  have hD : va_D A [(h0, .inr (3, [.ref q1, .int 0])), (q1, .inl (ca 0, 60, .inl (fun _ => 0)))] := hD
  exact W.vret hx hb hr (fun t ht hW => ⟨⟨(), rfl, trivial, q1, by rw [ht]; exact hP, hD⟩, hS.F ht⟩) hS.2.2 (dg hi_Tp 6 rfl)
def ii_Rd : List (Nat × Instr × Nat) := [(0, .aload_n 0, 1), (1, .invokespecial 3, 3), (4, .aload_n 0, 1), (5, .bipush 60, 2), (7, .newarray .int, 2), (9, .putfield 9, 3), (12, .aload_n 0, 1), (13, .bipush 60, 2), (15, .newarray .int, 2), (17, .putfield 15, 3), (20, .return_, 1)]
theorem hi_Rd : dall cX0_init ii_Rd = true := by decide +kernel
abbrev mdI_Rd : Md := (yX0_init, cX0_init, 1, none)
set_option maxRecDepth 100000 in
set_option maxHeartbeats 4000000 in
theorem c_Rd (l : Launch) (D : va_G) (ca : Nat → ClassId) (h0 : Nat) (sz : Nat) : Met l yX0_init (mws mdI_Rd) (rmA 1 2 120) (va_Pc [.ref h0] (fun U => U.heap.size = sz ∧ va_P D vwCl [(h0, .inr (0, [.null, .int 0, .null, .int 0, .int 0, .int 0, .int 0]))] U.heap ∧ CK D ca U ∧ va_D (fun _ => True) [(h0, .inr (0, [.null, .int 0, .null, .int 0, .int 0, .int 0, .int 0]))])) (va_Qv (fun _ : Unit => True) (fun _ t => ∃ q1 q2 : Nat, va_P D vwCl [(h0, .inr (0, [.ref q1, .int 0, .ref q2, .int 0, .int 0, .int 0, .int 0])), (q1, .inl (ca 0, 60, .inl (fun _ => 0))), (q2, .inl (ca 0, 60, .inl (fun _ => 0)))] t.heap ∧ va_D (va_A [(h0, .inr (0, [.null, .int 0, .null, .int 0, .int 0, .int 0, .int 0]))] sz) [(h0, .inr (0, [.ref q1, .int 0, .ref q2, .int 0, .int 0, .int 0, .int 0])), (q1, .inl (ca 0, 60, .inl (fun _ => 0))), (q2, .inl (ca 0, 60, .inl (fun _ => 0)))]) (va_A [(h0, .inr (0, [.null, .int 0, .null, .int 0, .int 0, .int 0, .int 0]))] sz)) 2 120 (va_A [(h0, .inr (0, [.null, .int 0, .null, .int 0, .int 0, .int 0, .int 0]))] sz) := by
  refine Met.ofW (cc := cX0_init) (maxL := 1) (ret := none) (by decide) rfl ?_
  intro p e s m args below meth c s₁ B hml hv
  obtain ⟨rfl, hsz, hP, hK, hD0⟩ := hv
  have hx := B.exec
  have hb := B.bytes
  have hr := B.returns
  have hts : ∀ w ∈ tblG, w.before _ s = true := fun w hw => atoms_spec (ws := mws mdI_Rd) B.pre w (List.mem_cons_of_mem _ hw)
  have hown : s.vm.findClass RX0 = some m.cls := findClass_of_methodNamed B.named
  have hlocks := B.notSynchronized
  have hin : meth.name = "<init>" := (name_of_methodNamed B.named B.method).1
  subst hsz
  have hD := hD0.self (sz := s.heap.size)
  generalize hAe : va_A [(h0, .inr (0, [.null, .int 0, .null, .int 0, .int 0, .int 0, .int 0]))] s.heap.size = A at hD ⊢
  have hA : ∀ q : Nat, s.heap.size ≤ q → A q := fun q h => by rw [← hAe]; exact Or.inr h
  have hS : va_S A s.heap s.heap [] := va_S.rf
  have hP : va_P D vwCl [(h0, .inr (0, [.null, .int 0, .null, .int 0, .int 0, .int 0, .int 0]))] s.heap := hP
  have hl := lv_entry [.ref h0] (n := 1) (Nat.le_of_ble_eq_true rfl)
  rw [lg_entry_eq]
  generalize (lg_sl [.ref h0] ++ List.replicate (1 - (lg_sl [.ref h0]).length) Slot.unset).toArray = ls at hl ⊢
  have hl : lv_has ls 1 [(0, .ref h0)] := hl
  refine lv_aload_n hx hb (dg hi_Rd 0 rfl) rfl (lvk_at0 hl rfl) ?_
  refine W.objInit hx hb hown (hts _ ck_203) (hts _ ck_92) (hts _ ck_obj) rfl (by rw [hml]; exact hl.1) rfl (dg hi_Rd 1 rfl) (Nat.le_of_ble_eq_true rfl) (Nat.le_of_ble_eq_true rfl) ?_
  refine W.eq (g2 := F0 m 4 ls []) rfl ?_
  refine lv_aload_n hx hb (dg hi_Rd 2 rfl) rfl (lvk_at0 hl rfl) ?_
  refine lv_bipush (v := (60 : Int32)) hx hb (dg hi_Rd 3 rfl) (by decide) ?_
  refine va_newa (atype := .int) (ty := .int) (a0 := (60, .inl (fun _ => 0))) hx hb (hts _ ck_121) rfl hK.1 hP hD hS hA (fun _ => rfl) (by decide) rfl (by decide) (Nat.le_of_ble_eq_true rfl) (Nat.le_of_ble_eq_true rfl) (dg hi_Rd 4 rfl) (fun q1 cA H hK1 hP hD hS => ?_)
  obtain rfl := ck_same (t := 0) hK.1 hK1 rfl
  have hP : va_P D vwCl [(h0, .inr (0, [.null, .int 0, .null, .int 0, .int 0, .int 0, .int 0])), (q1, .inl (ca 0, 60, .inl (fun _ => 0)))] H := hP
  have hD : va_D A [(h0, .inr (0, [.null, .int 0, .null, .int 0, .int 0, .int 0, .int 0])), (q1, .inl (ca 0, 60, .inl (fun _ => 0)))] := hD
  refine va_putF (D := D) (ci := 0) (v := .ref q1) (ty := .array (.int)) (Ts := tblG) hx hb hts fcX0.1 tyX0 tyX0_ok nmX0 hown hK.1 hP hD hS 0 rfl rfl 0 (by decide) (hts _ ck_204) (fun _ h9 => h9) rfl hin rfl (by decide +kernel) rfl rfl (Nat.le_of_ble_eq_true rfl) (dg hi_Rd 5 rfl) (fun H locs hP hD hS => ?_)
  have hP : va_P D vwCl [(h0, .inr (0, [.ref q1, .int 0, .null, .int 0, .int 0, .int 0, .int 0])), (q1, .inl (ca 0, 60, .inl (fun _ => 0)))] H := hP
  have hD : va_D A [(h0, .inr (0, [.ref q1, .int 0, .null, .int 0, .int 0, .int 0, .int 0])), (q1, .inl (ca 0, 60, .inl (fun _ => 0)))] := hD
  refine lv_aload_n hx hb (dg hi_Rd 6 rfl) rfl (lvk_at0 hl rfl) ?_
  refine lv_bipush (v := (60 : Int32)) hx hb (dg hi_Rd 7 rfl) (by decide) ?_
  refine va_newa (atype := .int) (ty := .int) (a0 := (60, .inl (fun _ => 0))) hx hb (hts _ ck_121) rfl hK.1 hP hD hS hA (fun _ => rfl) (by decide) rfl (by decide) (Nat.le_of_ble_eq_true rfl) (Nat.le_of_ble_eq_true rfl) (dg hi_Rd 8 rfl) (fun q2 cA H hK1 hP hD hS => ?_)
  obtain rfl := ck_same (t := 0) hK.1 hK1 rfl
  have hP : va_P D vwCl [(h0, .inr (0, [.ref q1, .int 0, .null, .int 0, .int 0, .int 0, .int 0])), (q1, .inl (ca 0, 60, .inl (fun _ => 0))), (q2, .inl (ca 0, 60, .inl (fun _ => 0)))] H := hP
  have hD : va_D A [(h0, .inr (0, [.ref q1, .int 0, .null, .int 0, .int 0, .int 0, .int 0])), (q1, .inl (ca 0, 60, .inl (fun _ => 0))), (q2, .inl (ca 0, 60, .inl (fun _ => 0)))] := hD
  refine va_putF (D := D) (ci := 0) (v := .ref q2) (ty := .array (.int)) (Ts := tblG) hx hb hts fcX0.1 tyX0 tyX0_ok nmX0 hown hK.1 hP hD hS 0 rfl rfl 2 (by decide) (hts _ ck_208) (fun _ h9 => h9) rfl hin rfl (by decide +kernel) rfl rfl (Nat.le_of_ble_eq_true rfl) (dg hi_Rd 9 rfl) (fun H locs hP hD hS => ?_)
  have hP : va_P D vwCl [(h0, .inr (0, [.ref q1, .int 0, .ref q2, .int 0, .int 0, .int 0, .int 0])), (q1, .inl (ca 0, 60, .inl (fun _ => 0))), (q2, .inl (ca 0, 60, .inl (fun _ => 0)))] H := hP
  have hD : va_D A [(h0, .inr (0, [.ref q1, .int 0, .ref q2, .int 0, .int 0, .int 0, .int 0])), (q1, .inl (ca 0, 60, .inl (fun _ => 0))), (q2, .inl (ca 0, 60, .inl (fun _ => 0)))] := hD
  exact W.vret hx hb hr (fun t ht hW => ⟨⟨(), rfl, trivial, q1, q2, by rw [ht]; exact hP, hD⟩, hS.F ht⟩) hS.2.2 (dg hi_Rd 10 rfl)
def ii_Th : List (Nat × Instr × Nat) := [(0, .aload_n 0, 1), (1, .invokespecial 3, 3), (4, .aload_n 0, 1), (5, .bipush 30, 2), (7, .newarray .int, 2), (9, .putfield 11, 3), (12, .return_, 1)]
theorem hi_Th : dall cX5_init ii_Th = true := by decide +kernel
abbrev mdI_Th : Md := (yX5_init, cX5_init, 1, none)
set_option maxRecDepth 100000 in
set_option maxHeartbeats 4000000 in
theorem c_Th (l : Launch) (D : va_G) (ca : Nat → ClassId) (h0 : Nat) (sz : Nat) : Met l yX5_init (mws mdI_Th) (rmA 1 1 30) (va_Pc [.ref h0] (fun U => U.heap.size = sz ∧ va_P D vwCl [(h0, .inr (5, [.null, .int 0, .int 0, .int 0, .int 0, .int 0]))] U.heap ∧ CK D ca U ∧ va_D (fun _ => True) [(h0, .inr (5, [.null, .int 0, .int 0, .int 0, .int 0, .int 0]))])) (va_Qv (fun _ : Unit => True) (fun _ t => ∃ q1 : Nat, va_P D vwCl [(h0, .inr (5, [.ref q1, .int 0, .int 0, .int 0, .int 0, .int 0])), (q1, .inl (ca 0, 30, .inl (fun _ => 0)))] t.heap ∧ va_D (va_A [(h0, .inr (5, [.null, .int 0, .int 0, .int 0, .int 0, .int 0]))] sz) [(h0, .inr (5, [.ref q1, .int 0, .int 0, .int 0, .int 0, .int 0])), (q1, .inl (ca 0, 30, .inl (fun _ => 0)))]) (va_A [(h0, .inr (5, [.null, .int 0, .int 0, .int 0, .int 0, .int 0]))] sz)) 1 30 (va_A [(h0, .inr (5, [.null, .int 0, .int 0, .int 0, .int 0, .int 0]))] sz) := by
  refine Met.ofW (cc := cX5_init) (maxL := 1) (ret := none) (by decide) rfl ?_
  intro p e s m args below meth c s₁ B hml hv
  obtain ⟨rfl, hsz, hP, hK, hD0⟩ := hv
  have hx := B.exec
  have hb := B.bytes
  have hr := B.returns
  have hts : ∀ w ∈ tblG, w.before _ s = true := fun w hw => atoms_spec (ws := mws mdI_Th) B.pre w (List.mem_cons_of_mem _ hw)
  have hown : s.vm.findClass RX5 = some m.cls := findClass_of_methodNamed B.named
  have hlocks := B.notSynchronized
  have hin : meth.name = "<init>" := (name_of_methodNamed B.named B.method).1
  subst hsz
  have hD := hD0.self (sz := s.heap.size)
  generalize hAe : va_A [(h0, .inr (5, [.null, .int 0, .int 0, .int 0, .int 0, .int 0]))] s.heap.size = A at hD ⊢
  have hA : ∀ q : Nat, s.heap.size ≤ q → A q := fun q h => by rw [← hAe]; exact Or.inr h
  have hS : va_S A s.heap s.heap [] := va_S.rf
  have hP : va_P D vwCl [(h0, .inr (5, [.null, .int 0, .int 0, .int 0, .int 0, .int 0]))] s.heap := hP
  have hl := lv_entry [.ref h0] (n := 1) (Nat.le_of_ble_eq_true rfl)
  rw [lg_entry_eq]
  generalize (lg_sl [.ref h0] ++ List.replicate (1 - (lg_sl [.ref h0]).length) Slot.unset).toArray = ls at hl ⊢
  have hl : lv_has ls 1 [(0, .ref h0)] := hl
  refine lv_aload_n hx hb (dg hi_Th 0 rfl) rfl (lvk_at0 hl rfl) ?_
  refine W.objInit hx hb hown (hts _ ck_255) (hts _ ck_92) (hts _ ck_obj) rfl (by rw [hml]; exact hl.1) rfl (dg hi_Th 1 rfl) (Nat.le_of_ble_eq_true rfl) (Nat.le_of_ble_eq_true rfl) ?_
  refine W.eq (g2 := F0 m 4 ls []) rfl ?_
  refine lv_aload_n hx hb (dg hi_Th 2 rfl) rfl (lvk_at0 hl rfl) ?_
  refine lv_bipush (v := (30 : Int32)) hx hb (dg hi_Th 3 rfl) (by decide) ?_
  refine va_newa (atype := .int) (ty := .int) (a0 := (30, .inl (fun _ => 0))) hx hb (hts _ ck_121) rfl hK.1 hP hD hS hA (fun _ => rfl) (by decide) rfl (by decide) (Nat.le_of_ble_eq_true rfl) (Nat.le_of_ble_eq_true rfl) (dg hi_Th 4 rfl) (fun q1 cA H hK1 hP hD hS => ?_)
  obtain rfl := ck_same (t := 0) hK.1 hK1 rfl
  have hP : va_P D vwCl [(h0, .inr (5, [.null, .int 0, .int 0, .int 0, .int 0, .int 0])), (q1, .inl (ca 0, 30, .inl (fun _ => 0)))] H := hP
  have hD : va_D A [(h0, .inr (5, [.null, .int 0, .int 0, .int 0, .int 0, .int 0])), (q1, .inl (ca 0, 30, .inl (fun _ => 0)))] := hD
  refine va_putF (D := D) (ci := 5) (v := .ref q1) (ty := .array (.int)) (Ts := tblG) hx hb hts fcX5.1 tyX5 tyX5_ok nmX5 hown hK.1 hP hD hS 0 rfl rfl 0 (by decide) (hts _ ck_256) (fun _ h9 => h9) rfl hin rfl (by decide +kernel) rfl rfl (Nat.le_of_ble_eq_true rfl) (dg hi_Th 5 rfl) (fun H locs hP hD hS => ?_)
  have hP : va_P D vwCl [(h0, .inr (5, [.ref q1, .int 0, .int 0, .int 0, .int 0, .int 0])), (q1, .inl (ca 0, 30, .inl (fun _ => 0)))] H := hP
  have hD : va_D A [(h0, .inr (5, [.ref q1, .int 0, .int 0, .int 0, .int 0, .int 0])), (q1, .inl (ca 0, 30, .inl (fun _ => 0)))] := hD
  exact W.vret hx hb hr (fun t ht hW => ⟨⟨(), rfl, trivial, q1, by rw [ht]; exact hP, hD⟩, hS.F ht⟩) hS.2.2 (dg hi_Th 6 rfl)
def ii_Rp : List (Nat × Instr × Nat) := [(0, .aload_n 0, 1), (1, .invokespecial 3, 3), (4, .aload_n 0, 1), (5, .iconst 2, 1), (6, .anewarray 9, 3), (9, .dup, 1), (10, .iconst 0, 1), (11, .new 9, 3), (14, .dup, 1), (15, .bipush 20, 2), (17, .invokespecial 11, 3), (20, .aastore, 1), (21, .dup, 1), (22, .iconst 1, 1), (23, .new 9, 3), (26, .dup, 1), (27, .bipush 99, 2), (29, .invokespecial 11, 3), (32, .aastore, 1), (33, .putfield 14, 3), (36, .aload_n 0, 1), (37, .bipush 6, 2), (39, .newarray .int, 2), (41, .putfield 20, 3), (44, .aload_n 0, 1), (45, .bipush 6, 2), (47, .newarray .int, 2), (49, .putfield 24, 3), (52, .aload_n 0, 1), (53, .bipush 6, 2), (55, .newarray .int, 2), (57, .putfield 27, 3), (60, .aload_n 0, 1), (61, .bipush 6, 2), (63, .newarray .int, 2), (65, .putfield 30, 3), (68, .aload_n 0, 1), (69, .bipush 6, 2), (71, .newarray .int, 2), (73, .putfield 33, 3), (76, .aload_n 0, 1), (77, .iconst 2, 1), (78, .newarray .int, 2), (80, .dup, 1), (81, .iconst 0, 1), (82, .bipush 99, 2), (84, .iastore, 1), (85, .dup, 1), (86, .iconst 1, 1), (87, .bipush 99, 2), (89, .iastore, 1), (90, .putfield 36, 3), (93, .aload_n 0, 1), (94, .bipush 6, 2), (96, .newarray .int, 2), (98, .putfield 39, 3), (101, .aload_n 0, 1), (102, .bipush 6, 2), (104, .newarray .int, 2), (106, .putfield 42, 3), (109, .aload_n 0, 1), (110, .iconst (-1), 1), (111, .putfield 45, 3), (114, .aload_n 0, 1), (115, .bipush 30, 2), (117, .putfield 49, 3), (120, .aload_n 0, 1), (121, .iconst 1, 1), (122, .putfield 52, 3), (125, .return_, 1)]
theorem hi_Rp : dall cX1_init ii_Rp = true := by decide +kernel
abbrev mdI_Rp : Md := (yX1_init, cX1_init, 1, none)
set_option maxRecDepth 100000 in
set_option maxHeartbeats 4000000 in
theorem c_Rp (l : Launch) (D : va_G) (ca : Nat → ClassId) (h0 : Nat) (sz : Nat) : Met l yX1_init (mws mdI_Rp) (rmA 2 15 294) (va_Pc [.ref h0] (fun U => U.heap.size = sz ∧ va_P D vwCl [(h0, .inr (1, [.null, .null, .null, .null, .null, .null, .null, .null, .null, .int 0, .int 0, .int 0, .int 0, .int 0, .int 0]))] U.heap ∧ CK D ca U ∧ va_D (fun _ => True) [(h0, .inr (1, [.null, .null, .null, .null, .null, .null, .null, .null, .null, .int 0, .int 0, .int 0, .int 0, .int 0, .int 0]))])) (va_Qv (fun _ : Unit => True) (fun _ t => ∃ q1 q2 q3 q4 q5 q6 q7 q8 q9 q10 q11 q12 q13 q14 q15 : Nat, va_P D vwCl [(h0, .inr (1, [.ref q1, .ref q8, .ref q9, .ref q10, .ref q11, .ref q12, .ref q13, .ref q14, .ref q15, .int 0, .int 0, .int (-1 : Int32), .int (30 : Int32), .int 0, .int (1 : Int32)])), (q1, .inl (ca 1, 2, .inr (.inr (.inr (.inr (va_up (va_up (fun _ => none) 0 (some q2)) 1 (some q5))))))), (q2, .inr (4, [.int (20 : Int32), .ref q3, .ref q4, .int 0])), (q3, .inl (ca 0, 60, .inl (fun _ => 0))), (q4, .inl (ca 0, 60, .inl (fun _ => 0))), (q5, .inr (4, [.int (99 : Int32), .ref q6, .ref q7, .int 0])), (q6, .inl (ca 0, 60, .inl (fun _ => 0))), (q7, .inl (ca 0, 60, .inl (fun _ => 0))), (q8, .inl (ca 0, 6, .inl (fun _ => 0))), (q9, .inl (ca 0, 6, .inl (fun _ => 0))), (q10, .inl (ca 0, 6, .inl (fun _ => 0))), (q11, .inl (ca 0, 6, .inl (fun _ => 0))), (q12, .inl (ca 0, 6, .inl (fun _ => 0))), (q13, .inl (ca 0, 2, .inl (upd (upd (fun _ => 0) 0 (99 : Int32)) 1 (99 : Int32)))), (q14, .inl (ca 0, 6, .inl (fun _ => 0))), (q15, .inl (ca 0, 6, .inl (fun _ => 0)))] t.heap ∧ va_D (va_A [(h0, .inr (1, [.null, .null, .null, .null, .null, .null, .null, .null, .null, .int 0, .int 0, .int 0, .int 0, .int 0, .int 0]))] sz) [(h0, .inr (1, [.ref q1, .ref q8, .ref q9, .ref q10, .ref q11, .ref q12, .ref q13, .ref q14, .ref q15, .int 0, .int 0, .int (-1 : Int32), .int (30 : Int32), .int 0, .int (1 : Int32)])), (q1, .inl (ca 1, 2, .inr (.inr (.inr (.inr (va_up (va_up (fun _ => none) 0 (some q2)) 1 (some q5))))))), (q2, .inr (4, [.int (20 : Int32), .ref q3, .ref q4, .int 0])), (q3, .inl (ca 0, 60, .inl (fun _ => 0))), (q4, .inl (ca 0, 60, .inl (fun _ => 0))), (q5, .inr (4, [.int (99 : Int32), .ref q6, .ref q7, .int 0])), (q6, .inl (ca 0, 60, .inl (fun _ => 0))), (q7, .inl (ca 0, 60, .inl (fun _ => 0))), (q8, .inl (ca 0, 6, .inl (fun _ => 0))), (q9, .inl (ca 0, 6, .inl (fun _ => 0))), (q10, .inl (ca 0, 6, .inl (fun _ => 0))), (q11, .inl (ca 0, 6, .inl (fun _ => 0))), (q12, .inl (ca 0, 6, .inl (fun _ => 0))), (q13, .inl (ca 0, 2, .inl (upd (upd (fun _ => 0) 0 (99 : Int32)) 1 (99 : Int32)))), (q14, .inl (ca 0, 6, .inl (fun _ => 0))), (q15, .inl (ca 0, 6, .inl (fun _ => 0)))]) (va_A [(h0, .inr (1, [.null, .null, .null, .null, .null, .null, .null, .null, .null, .int 0, .int 0, .int 0, .int 0, .int 0, .int 0]))] sz)) 15 294 (va_A [(h0, .inr (1, [.null, .null, .null, .null, .null, .null, .null, .null, .null, .int 0, .int 0, .int 0, .int 0, .int 0, .int 0]))] sz) := by
  refine Met.ofW (cc := cX1_init) (maxL := 1) (ret := none) (by decide) rfl ?_
  intro p e s m args below meth c s₁ B hml hv
  obtain ⟨rfl, hsz, hP, hK, hD0⟩ := hv
  have hx := B.exec
  have hb := B.bytes
  have hr := B.returns
  have hts : ∀ w ∈ tblG, w.before _ s = true := fun w hw => atoms_spec (ws := mws mdI_Rp) B.pre w (List.mem_cons_of_mem _ hw)
  have hown : s.vm.findClass RX1 = some m.cls := findClass_of_methodNamed B.named
  have hlocks := B.notSynchronized
  have hin : meth.name = "<init>" := (name_of_methodNamed B.named B.method).1
  subst hsz
  have hD := hD0.self (sz := s.heap.size)
  generalize hAe : va_A [(h0, .inr (1, [.null, .null, .null, .null, .null, .null, .null, .null, .null, .int 0, .int 0, .int 0, .int 0, .int 0, .int 0]))] s.heap.size = A at hD ⊢
  have hA : ∀ q : Nat, s.heap.size ≤ q → A q := fun q h => by rw [← hAe]; exact Or.inr h
  have hS : va_S A s.heap s.heap [] := va_S.rf
  have hP : va_P D vwCl [(h0, .inr (1, [.null, .null, .null, .null, .null, .null, .null, .null, .null, .int 0, .int 0, .int 0, .int 0, .int 0, .int 0]))] s.heap := hP
  have hl := lv_entry [.ref h0] (n := 1) (Nat.le_of_ble_eq_true rfl)
  rw [lg_entry_eq]
  generalize (lg_sl [.ref h0] ++ List.replicate (1 - (lg_sl [.ref h0]).length) Slot.unset).toArray = ls at hl ⊢
  have hl : lv_has ls 1 [(0, .ref h0)] := hl
  refine lv_aload_n hx hb (dg hi_Rp 0 rfl) rfl (lvk_at0 hl rfl) ?_
  refine W.objInit hx hb hown (hts _ ck_99) (hts _ ck_92) (hts _ ck_obj) rfl (by rw [hml]; exact hl.1) rfl (dg hi_Rp 1 rfl) (Nat.le_of_ble_eq_true rfl) (Nat.le_of_ble_eq_true rfl) ?_
  refine W.eq (g2 := F0 m 4 ls []) rfl ?_
  refine lv_aload_n hx hb (dg hi_Rp 2 rfl) rfl (lvk_at0 hl rfl) ?_
  refine lv_iconst (v := (2 : Int32)) hx hb (dg hi_Rp 3 rfl) (by decide) ?_
  refine va_newq hx hb hown (hts _ ck_100) hK.2.2.1 hK.1 hP hD hS hA (by decide) (N' := 2) rfl (by decide) (Nat.le_of_ble_eq_true rfl) (Nat.le_of_ble_eq_true rfl) (dg hi_Rp 4 rfl) (fun q1 cA H hK1 hP hD hS => ?_)
  obtain rfl := ck_same (t := 1) hK.1 hK1 rfl
  have hP : va_P D vwCl [(h0, .inr (1, [.null, .null, .null, .null, .null, .null, .null, .null, .null, .int 0, .int 0, .int 0, .int 0, .int 0, .int 0])), (q1, .inl (ca 1, 2, .inr (.inr (.inr (.inr (fun _ => none))))))] H := hP
  have hD : va_D A [(h0, .inr (1, [.null, .null, .null, .null, .null, .null, .null, .null, .null, .int 0, .int 0, .int 0, .int 0, .int 0, .int 0])), (q1, .inl (ca 1, 2, .inr (.inr (.inr (.inr (fun _ => none))))))] := hD
  refine lv_dup hx hb (dg hi_Rp 5 rfl) rfl ?_
  refine lv_iconst (v := (0 : Int32)) hx hb (dg hi_Rp 6 rfl) (by decide) ?_
  refine va_new (ci := 4) (fs := [.int 0, .null, .null, .int 0]) (C := RX4) (T := TX4) (N := 4) (Ts := tblG) hx hb hts fcX4.1 tyX4 tyX4_ok hown (hts _ ck_100) (hts _ ck_102) (hts _ ck_77) hK.1 hP hD hS hA rfl (fun j hj => by rcases (show j = 0 ∨ j = 1 ∨ j = 2 ∨ j = 3 by omega) with rfl | rfl | rfl | rfl <;> rfl) (Nat.le_of_ble_eq_true rfl) (Nat.le_of_ble_eq_true rfl) (dg hi_Rp 7 rfl) (fun q2 H hP hD hS => ?_)
  have hP : va_P D vwCl [(h0, .inr (1, [.null, .null, .null, .null, .null, .null, .null, .null, .null, .int 0, .int 0, .int 0, .int 0, .int 0, .int 0])), (q1, .inl (ca 1, 2, .inr (.inr (.inr (.inr (fun _ => none)))))), (q2, .inr (4, [.int 0, .null, .null, .int 0]))] H := hP
  have hD : va_D A [(h0, .inr (1, [.null, .null, .null, .null, .null, .null, .null, .null, .null, .int 0, .int 0, .int 0, .int 0, .int 0, .int 0])), (q1, .inl (ca 1, 2, .inr (.inr (.inr (.inr (fun _ => none)))))), (q2, .inr (4, [.int 0, .null, .null, .int 0]))] := hD
  refine lv_dup hx hb (dg hi_Rp 8 rfl) rfl ?_
  refine lv_bipush (v := (20 : Int32)) hx hb (dg hi_Rp 9 rfl) (by decide) ?_
  have hPc := hP.sub (ws' := [(q2, .inr (4, [.int 0, .null, .null, .int 0]))]) [2] rfl
  have hDc := hD.sub (ws' := [(q2, .inr (4, [.int 0, .null, .null, .int 0]))]) [2] (by decide) rfl
  have hFc := va_free (wc := [(q2, .inr (4, [.int 0, .null, .null, .int 0]))]) hD hS hA [2] rfl
  refine va_callv (va_runI (As := [.int (20 : Int32)]) (rest := [.ref q2, .int (0 : Int32), .ref q1, .ref q1, .ref h0]) ⟨hx, hb, hml, hown, hts⟩ (c_Tx l D ca q2 H.size (20 : Int32)) (cwI (Ts := tblG) 1 hts (mws_in (cd := mdI_Tx) ck_105) rfl rfl rfl (hts _ ck_77) (hts _ ck_103) (hts _ ck_104) rfl ⟨by decide +kernel, by decide +kernel, by decide +kernel⟩ ⟨Nat.le_of_ble_eq_true rfl, Nat.le_of_ble_eq_true rfl⟩) ⟨ck_blind, fun U hU hW => ⟨rfl, by rw [hU], by rw [hU]; exact hPc, hK.warm hW, hDc.weaken (fun _ _ _ _ => trivial)⟩⟩ rfl rfl hl.1 rfl (lv_room (Nat.le_of_ble_eq_true rfl)) (dg hi_Rp 10 rfl) ⟨Nat.le_of_ble_eq_true rfl, Nat.le_of_ble_eq_true rfl⟩) hS (fun q _ h => hFc q h) hFc (fun u t H1 locs ht hvm hw hB hz1 hk1 hS => ?_)
  obtain ⟨q3, q4, hP1, hD1⟩ := hB
  rw [ht] at hP1
  obtain ⟨hP, hD⟩ := va_join (wr := [(h0, .inr (1, [.null, .null, .null, .null, .null, .null, .null, .null, .null, .int 0, .int 0, .int 0, .int 0, .int 0, .int 0])), (q1, .inl (ca 1, 2, .inr (.inr (.inr (.inr (fun _ => none))))))]) (w1 := [(q2, .inr (4, [.int (20 : Int32), .ref q3, .ref q4, .int 0])), (q3, .inl (ca 0, 60, .inl (fun _ => 0))), (q4, .inl (ca 0, 60, .inl (fun _ => 0)))]) hP hD [2] [0, 1] rfl rfl (by decide) (by decide) hk1 hFc hP1 hD1
  generalize H1 = H at hP hS ⊢
  have hP : va_P D vwCl [(h0, .inr (1, [.null, .null, .null, .null, .null, .null, .null, .null, .null, .int 0, .int 0, .int 0, .int 0, .int 0, .int 0])), (q1, .inl (ca 1, 2, .inr (.inr (.inr (.inr (fun _ => none)))))), (q2, .inr (4, [.int (20 : Int32), .ref q3, .ref q4, .int 0])), (q3, .inl (ca 0, 60, .inl (fun _ => 0))), (q4, .inl (ca 0, 60, .inl (fun _ => 0)))] H := hP
  have hD : va_D A [(h0, .inr (1, [.null, .null, .null, .null, .null, .null, .null, .null, .null, .int 0, .int 0, .int 0, .int 0, .int 0, .int 0])), (q1, .inl (ca 1, 2, .inr (.inr (.inr (.inr (fun _ => none)))))), (q2, .inr (4, [.int (20 : Int32), .ref q3, .ref q4, .int 0])), (q3, .inl (ca 0, 60, .inl (fun _ => 0))), (q4, .inl (ca 0, 60, .inl (fun _ => 0)))] := hD
  refine va_astq (r := (RX4, TX4, 4)) hx hb hK.1 hP hD hS 1 1 2 4 rfl rfl rfl rfl (vp_in_iff.mpr (by decide)) (dg hi_Rp 11 rfl) (fun H locs hP hD hS => ?_)
  have hP : va_P D vwCl [(h0, .inr (1, [.null, .null, .null, .null, .null, .null, .null, .null, .null, .int 0, .int 0, .int 0, .int 0, .int 0, .int 0])), (q1, .inl (ca 1, 2, .inr (.inr (.inr (.inr (va_up (fun _ => none) 0 (some q2))))))), (q2, .inr (4, [.int (20 : Int32), .ref q3, .ref q4, .int 0])), (q3, .inl (ca 0, 60, .inl (fun _ => 0))), (q4, .inl (ca 0, 60, .inl (fun _ => 0)))] H := hP
  have hD : va_D A [(h0, .inr (1, [.null, .null, .null, .null, .null, .null, .null, .null, .null, .int 0, .int 0, .int 0, .int 0, .int 0, .int 0])), (q1, .inl (ca 1, 2, .inr (.inr (.inr (.inr (va_up (fun _ => none) 0 (some q2))))))), (q2, .inr (4, [.int (20 : Int32), .ref q3, .ref q4, .int 0])), (q3, .inl (ca 0, 60, .inl (fun _ => 0))), (q4, .inl (ca 0, 60, .inl (fun _ => 0)))] := hD
  refine lv_dup hx hb (dg hi_Rp 12 rfl) rfl ?_
  refine lv_iconst (v := (1 : Int32)) hx hb (dg hi_Rp 13 rfl) (by decide) ?_
  refine va_new (ci := 4) (fs := [.int 0, .null, .null, .int 0]) (C := RX4) (T := TX4) (N := 4) (Ts := tblG) hx hb hts fcX4.1 tyX4 tyX4_ok hown (hts _ ck_100) (hts _ ck_102) (hts _ ck_77) hK.1 hP hD hS hA rfl (fun j hj => by rcases (show j = 0 ∨ j = 1 ∨ j = 2 ∨ j = 3 by omega) with rfl | rfl | rfl | rfl <;> rfl) (Nat.le_of_ble_eq_true rfl) (Nat.le_of_ble_eq_true rfl) (dg hi_Rp 14 rfl) (fun q5 H hP hD hS => ?_)
  have hP : va_P D vwCl [(h0, .inr (1, [.null, .null, .null, .null, .null, .null, .null, .null, .null, .int 0, .int 0, .int 0, .int 0, .int 0, .int 0])), (q1, .inl (ca 1, 2, .inr (.inr (.inr (.inr (va_up (fun _ => none) 0 (some q2))))))), (q2, .inr (4, [.int (20 : Int32), .ref q3, .ref q4, .int 0])), (q3, .inl (ca 0, 60, .inl (fun _ => 0))), (q4, .inl (ca 0, 60, .inl (fun _ => 0))), (q5, .inr (4, [.int 0, .null, .null, .int 0]))] H := hP
  have hD : va_D A [(h0, .inr (1, [.null, .null, .null, .null, .null, .null, .null, .null, .null, .int 0, .int 0, .int 0, .int 0, .int 0, .int 0])), (q1, .inl (ca 1, 2, .inr (.inr (.inr (.inr (va_up (fun _ => none) 0 (some q2))))))), (q2, .inr (4, [.int (20 : Int32), .ref q3, .ref q4, .int 0])), (q3, .inl (ca 0, 60, .inl (fun _ => 0))), (q4, .inl (ca 0, 60, .inl (fun _ => 0))), (q5, .inr (4, [.int 0, .null, .null, .int 0]))] := hD
  refine lv_dup hx hb (dg hi_Rp 15 rfl) rfl ?_
  refine lv_bipush (v := (99 : Int32)) hx hb (dg hi_Rp 16 rfl) (by decide) ?_
  have hPc := hP.sub (ws' := [(q5, .inr (4, [.int 0, .null, .null, .int 0]))]) [5] rfl
  have hDc := hD.sub (ws' := [(q5, .inr (4, [.int 0, .null, .null, .int 0]))]) [5] (by decide) rfl
  have hFc := va_free (wc := [(q5, .inr (4, [.int 0, .null, .null, .int 0]))]) hD hS hA [5] rfl
  refine va_callv (va_runI (As := [.int (99 : Int32)]) (rest := [.ref q5, .int (1 : Int32), .ref q1, .ref q1, .ref h0]) ⟨hx, hb, hml, hown, hts⟩ (c_Tx l D ca q5 H.size (99 : Int32)) (cwI (Ts := tblG) 1 hts (mws_in (cd := mdI_Tx) ck_105) rfl rfl rfl (hts _ ck_77) (hts _ ck_103) (hts _ ck_104) rfl ⟨by decide +kernel, by decide +kernel, by decide +kernel⟩ ⟨Nat.le_of_ble_eq_true rfl, Nat.le_of_ble_eq_true rfl⟩) ⟨ck_blind, fun U hU hW => ⟨rfl, by rw [hU], by rw [hU]; exact hPc, hK.warm hW, hDc.weaken (fun _ _ _ _ => trivial)⟩⟩ rfl rfl hl.1 rfl (lv_room (Nat.le_of_ble_eq_true rfl)) (dg hi_Rp 17 rfl) ⟨Nat.le_of_ble_eq_true rfl, Nat.le_of_ble_eq_true rfl⟩) hS (fun q _ h => hFc q h) hFc (fun u t H1 locs ht hvm hw hB hz1 hk1 hS => ?_)
  obtain ⟨q6, q7, hP1, hD1⟩ := hB
  rw [ht] at hP1
  obtain ⟨hP, hD⟩ := va_join (wr := [(h0, .inr (1, [.null, .null, .null, .null, .null, .null, .null, .null, .null, .int 0, .int 0, .int 0, .int 0, .int 0, .int 0])), (q1, .inl (ca 1, 2, .inr (.inr (.inr (.inr (va_up (fun _ => none) 0 (some q2))))))), (q2, .inr (4, [.int (20 : Int32), .ref q3, .ref q4, .int 0])), (q3, .inl (ca 0, 60, .inl (fun _ => 0))), (q4, .inl (ca 0, 60, .inl (fun _ => 0)))]) (w1 := [(q5, .inr (4, [.int (99 : Int32), .ref q6, .ref q7, .int 0])), (q6, .inl (ca 0, 60, .inl (fun _ => 0))), (q7, .inl (ca 0, 60, .inl (fun _ => 0)))]) hP hD [5] [0, 1, 2, 3, 4] rfl rfl (by decide) (by decide) hk1 hFc hP1 hD1
  generalize H1 = H at hP hS ⊢
  have hP : va_P D vwCl [(h0, .inr (1, [.null, .null, .null, .null, .null, .null, .null, .null, .null, .int 0, .int 0, .int 0, .int 0, .int 0, .int 0])), (q1, .inl (ca 1, 2, .inr (.inr (.inr (.inr (va_up (fun _ => none) 0 (some q2))))))), (q2, .inr (4, [.int (20 : Int32), .ref q3, .ref q4, .int 0])), (q3, .inl (ca 0, 60, .inl (fun _ => 0))), (q4, .inl (ca 0, 60, .inl (fun _ => 0))), (q5, .inr (4, [.int (99 : Int32), .ref q6, .ref q7, .int 0])), (q6, .inl (ca 0, 60, .inl (fun _ => 0))), (q7, .inl (ca 0, 60, .inl (fun _ => 0)))] H := hP
  have hD : va_D A [(h0, .inr (1, [.null, .null, .null, .null, .null, .null, .null, .null, .null, .int 0, .int 0, .int 0, .int 0, .int 0, .int 0])), (q1, .inl (ca 1, 2, .inr (.inr (.inr (.inr (va_up (fun _ => none) 0 (some q2))))))), (q2, .inr (4, [.int (20 : Int32), .ref q3, .ref q4, .int 0])), (q3, .inl (ca 0, 60, .inl (fun _ => 0))), (q4, .inl (ca 0, 60, .inl (fun _ => 0))), (q5, .inr (4, [.int (99 : Int32), .ref q6, .ref q7, .int 0])), (q6, .inl (ca 0, 60, .inl (fun _ => 0))), (q7, .inl (ca 0, 60, .inl (fun _ => 0)))] := hD
  refine va_astq (r := (RX4, TX4, 4)) hx hb hK.1 hP hD hS 1 1 5 4 rfl rfl rfl rfl (vp_in_iff.mpr (by decide)) (dg hi_Rp 18 rfl) (fun H locs hP hD hS => ?_)
  have hP : va_P D vwCl [(h0, .inr (1, [.null, .null, .null, .null, .null, .null, .null, .null, .null, .int 0, .int 0, .int 0, .int 0, .int 0, .int 0])), (q1, .inl (ca 1, 2, .inr (.inr (.inr (.inr (va_up (va_up (fun _ => none) 0 (some q2)) 1 (some q5))))))), (q2, .inr (4, [.int (20 : Int32), .ref q3, .ref q4, .int 0])), (q3, .inl (ca 0, 60, .inl (fun _ => 0))), (q4, .inl (ca 0, 60, .inl (fun _ => 0))), (q5, .inr (4, [.int (99 : Int32), .ref q6, .ref q7, .int 0])), (q6, .inl (ca 0, 60, .inl (fun _ => 0))), (q7, .inl (ca 0, 60, .inl (fun _ => 0)))] H := hP
  have hD : va_D A [(h0, .inr (1, [.null, .null, .null, .null, .null, .null, .null, .null, .null, .int 0, .int 0, .int 0, .int 0, .int 0, .int 0])), (q1, .inl (ca 1, 2, .inr (.inr (.inr (.inr (va_up (va_up (fun _ => none) 0 (some q2)) 1 (some q5))))))), (q2, .inr (4, [.int (20 : Int32), .ref q3, .ref q4, .int 0])), (q3, .inl (ca 0, 60, .inl (fun _ => 0))), (q4, .inl (ca 0, 60, .inl (fun _ => 0))), (q5, .inr (4, [.int (99 : Int32), .ref q6, .ref q7, .int 0])), (q6, .inl (ca 0, 60, .inl (fun _ => 0))), (q7, .inl (ca 0, 60, .inl (fun _ => 0)))] := hD
  refine va_putF (D := D) (ci := 1) (v := .ref q1) (ty := .array (.object "RopeTreaty$Text")) (Ts := tblG) hx hb hts fcX1.1 tyX1 tyX1_ok nmX1 hown hK.1 hP hD hS 0 rfl rfl 0 (by decide) (hts _ ck_122) (fun _ h9 => h9) rfl hin rfl (by decide +kernel) rfl rfl (Nat.le_of_ble_eq_true rfl) (dg hi_Rp 19 rfl) (fun H locs hP hD hS => ?_)
  have hP : va_P D vwCl [(h0, .inr (1, [.ref q1, .null, .null, .null, .null, .null, .null, .null, .null, .int 0, .int 0, .int 0, .int 0, .int 0, .int 0])), (q1, .inl (ca 1, 2, .inr (.inr (.inr (.inr (va_up (va_up (fun _ => none) 0 (some q2)) 1 (some q5))))))), (q2, .inr (4, [.int (20 : Int32), .ref q3, .ref q4, .int 0])), (q3, .inl (ca 0, 60, .inl (fun _ => 0))), (q4, .inl (ca 0, 60, .inl (fun _ => 0))), (q5, .inr (4, [.int (99 : Int32), .ref q6, .ref q7, .int 0])), (q6, .inl (ca 0, 60, .inl (fun _ => 0))), (q7, .inl (ca 0, 60, .inl (fun _ => 0)))] H := hP
  have hD : va_D A [(h0, .inr (1, [.ref q1, .null, .null, .null, .null, .null, .null, .null, .null, .int 0, .int 0, .int 0, .int 0, .int 0, .int 0])), (q1, .inl (ca 1, 2, .inr (.inr (.inr (.inr (va_up (va_up (fun _ => none) 0 (some q2)) 1 (some q5))))))), (q2, .inr (4, [.int (20 : Int32), .ref q3, .ref q4, .int 0])), (q3, .inl (ca 0, 60, .inl (fun _ => 0))), (q4, .inl (ca 0, 60, .inl (fun _ => 0))), (q5, .inr (4, [.int (99 : Int32), .ref q6, .ref q7, .int 0])), (q6, .inl (ca 0, 60, .inl (fun _ => 0))), (q7, .inl (ca 0, 60, .inl (fun _ => 0)))] := hD
  refine lv_aload_n hx hb (dg hi_Rp 20 rfl) rfl (lvk_at0 hl rfl) ?_
  refine lv_bipush (v := (6 : Int32)) hx hb (dg hi_Rp 21 rfl) (by decide) ?_
  refine va_newa (atype := .int) (ty := .int) (a0 := (6, .inl (fun _ => 0))) hx hb (hts _ ck_121) rfl hK.1 hP hD hS hA (fun _ => rfl) (by decide) rfl (by decide) (Nat.le_of_ble_eq_true rfl) (Nat.le_of_ble_eq_true rfl) (dg hi_Rp 22 rfl) (fun q8 cA H hK1 hP hD hS => ?_)
  obtain rfl := ck_same (t := 0) hK.1 hK1 rfl
  have hP : va_P D vwCl [(h0, .inr (1, [.ref q1, .null, .null, .null, .null, .null, .null, .null, .null, .int 0, .int 0, .int 0, .int 0, .int 0, .int 0])), (q1, .inl (ca 1, 2, .inr (.inr (.inr (.inr (va_up (va_up (fun _ => none) 0 (some q2)) 1 (some q5))))))), (q2, .inr (4, [.int (20 : Int32), .ref q3, .ref q4, .int 0])), (q3, .inl (ca 0, 60, .inl (fun _ => 0))), (q4, .inl (ca 0, 60, .inl (fun _ => 0))), (q5, .inr (4, [.int (99 : Int32), .ref q6, .ref q7, .int 0])), (q6, .inl (ca 0, 60, .inl (fun _ => 0))), (q7, .inl (ca 0, 60, .inl (fun _ => 0))), (q8, .inl (ca 0, 6, .inl (fun _ => 0)))] H := hP
  have hD : va_D A [(h0, .inr (1, [.ref q1, .null, .null, .null, .null, .null, .null, .null, .null, .int 0, .int 0, .int 0, .int 0, .int 0, .int 0])), (q1, .inl (ca 1, 2, .inr (.inr (.inr (.inr (va_up (va_up (fun _ => none) 0 (some q2)) 1 (some q5))))))), (q2, .inr (4, [.int (20 : Int32), .ref q3, .ref q4, .int 0])), (q3, .inl (ca 0, 60, .inl (fun _ => 0))), (q4, .inl (ca 0, 60, .inl (fun _ => 0))), (q5, .inr (4, [.int (99 : Int32), .ref q6, .ref q7, .int 0])), (q6, .inl (ca 0, 60, .inl (fun _ => 0))), (q7, .inl (ca 0, 60, .inl (fun _ => 0))), (q8, .inl (ca 0, 6, .inl (fun _ => 0)))] := hD
  refine va_putF (D := D) (ci := 1) (v := .ref q8) (ty := .array (.int)) (Ts := tblG) hx hb hts fcX1.1 tyX1 tyX1_ok nmX1 hown hK.1 hP hD hS 0 rfl rfl 1 (by decide) (hts _ ck_124) (fun _ h9 => h9) rfl hin rfl (by decide +kernel) rfl rfl (Nat.le_of_ble_eq_true rfl) (dg hi_Rp 23 rfl) (fun H locs hP hD hS => ?_)
  have hP : va_P D vwCl [(h0, .inr (1, [.ref q1, .ref q8, .null, .null, .null, .null, .null, .null, .null, .int 0, .int 0, .int 0, .int 0, .int 0, .int 0])), (q1, .inl (ca 1, 2, .inr (.inr (.inr (.inr (va_up (va_up (fun _ => none) 0 (some q2)) 1 (some q5))))))), (q2, .inr (4, [.int (20 : Int32), .ref q3, .ref q4, .int 0])), (q3, .inl (ca 0, 60, .inl (fun _ => 0))), (q4, .inl (ca 0, 60, .inl (fun _ => 0))), (q5, .inr (4, [.int (99 : Int32), .ref q6, .ref q7, .int 0])), (q6, .inl (ca 0, 60, .inl (fun _ => 0))), (q7, .inl (ca 0, 60, .inl (fun _ => 0))), (q8, .inl (ca 0, 6, .inl (fun _ => 0)))] H := hP
  have hD : va_D A [(h0, .inr (1, [.ref q1, .ref q8, .null, .null, .null, .null, .null, .null, .null, .int 0, .int 0, .int 0, .int 0, .int 0, .int 0])), (q1, .inl (ca 1, 2, .inr (.inr (.inr (.inr (va_up (va_up (fun _ => none) 0 (some q2)) 1 (some q5))))))), (q2, .inr (4, [.int (20 : Int32), .ref q3, .ref q4, .int 0])), (q3, .inl (ca 0, 60, .inl (fun _ => 0))), (q4, .inl (ca 0, 60, .inl (fun _ => 0))), (q5, .inr (4, [.int (99 : Int32), .ref q6, .ref q7, .int 0])), (q6, .inl (ca 0, 60, .inl (fun _ => 0))), (q7, .inl (ca 0, 60, .inl (fun _ => 0))), (q8, .inl (ca 0, 6, .inl (fun _ => 0)))] := hD
  refine lv_aload_n hx hb (dg hi_Rp 24 rfl) rfl (lvk_at0 hl rfl) ?_
  refine lv_bipush (v := (6 : Int32)) hx hb (dg hi_Rp 25 rfl) (by decide) ?_
  refine va_newa (atype := .int) (ty := .int) (a0 := (6, .inl (fun _ => 0))) hx hb (hts _ ck_121) rfl hK.1 hP hD hS hA (fun _ => rfl) (by decide) rfl (by decide) (Nat.le_of_ble_eq_true rfl) (Nat.le_of_ble_eq_true rfl) (dg hi_Rp 26 rfl) (fun q9 cA H hK1 hP hD hS => ?_)
  obtain rfl := ck_same (t := 0) hK.1 hK1 rfl
  have hP : va_P D vwCl [(h0, .inr (1, [.ref q1, .ref q8, .null, .null, .null, .null, .null, .null, .null, .int 0, .int 0, .int 0, .int 0, .int 0, .int 0])), (q1, .inl (ca 1, 2, .inr (.inr (.inr (.inr (va_up (va_up (fun _ => none) 0 (some q2)) 1 (some q5))))))), (q2, .inr (4, [.int (20 : Int32), .ref q3, .ref q4, .int 0])), (q3, .inl (ca 0, 60, .inl (fun _ => 0))), (q4, .inl (ca 0, 60, .inl (fun _ => 0))), (q5, .inr (4, [.int (99 : Int32), .ref q6, .ref q7, .int 0])), (q6, .inl (ca 0, 60, .inl (fun _ => 0))), (q7, .inl (ca 0, 60, .inl (fun _ => 0))), (q8, .inl (ca 0, 6, .inl (fun _ => 0))), (q9, .inl (ca 0, 6, .inl (fun _ => 0)))] H := hP
  have hD : va_D A [(h0, .inr (1, [.ref q1, .ref q8, .null, .null, .null, .null, .null, .null, .null, .int 0, .int 0, .int 0, .int 0, .int 0, .int 0])), (q1, .inl (ca 1, 2, .inr (.inr (.inr (.inr (va_up (va_up (fun _ => none) 0 (some q2)) 1 (some q5))))))), (q2, .inr (4, [.int (20 : Int32), .ref q3, .ref q4, .int 0])), (q3, .inl (ca 0, 60, .inl (fun _ => 0))), (q4, .inl (ca 0, 60, .inl (fun _ => 0))), (q5, .inr (4, [.int (99 : Int32), .ref q6, .ref q7, .int 0])), (q6, .inl (ca 0, 60, .inl (fun _ => 0))), (q7, .inl (ca 0, 60, .inl (fun _ => 0))), (q8, .inl (ca 0, 6, .inl (fun _ => 0))), (q9, .inl (ca 0, 6, .inl (fun _ => 0)))] := hD
  refine va_putF (D := D) (ci := 1) (v := .ref q9) (ty := .array (.int)) (Ts := tblG) hx hb hts fcX1.1 tyX1 tyX1_ok nmX1 hown hK.1 hP hD hS 0 rfl rfl 2 (by decide) (hts _ ck_126) (fun _ h9 => h9) rfl hin rfl (by decide +kernel) rfl rfl (Nat.le_of_ble_eq_true rfl) (dg hi_Rp 27 rfl) (fun H locs hP hD hS => ?_)
  have hP : va_P D vwCl [(h0, .inr (1, [.ref q1, .ref q8, .ref q9, .null, .null, .null, .null, .null, .null, .int 0, .int 0, .int 0, .int 0, .int 0, .int 0])), (q1, .inl (ca 1, 2, .inr (.inr (.inr (.inr (va_up (va_up (fun _ => none) 0 (some q2)) 1 (some q5))))))), (q2, .inr (4, [.int (20 : Int32), .ref q3, .ref q4, .int 0])), (q3, .inl (ca 0, 60, .inl (fun _ => 0))), (q4, .inl (ca 0, 60, .inl (fun _ => 0))), (q5, .inr (4, [.int (99 : Int32), .ref q6, .ref q7, .int 0])), (q6, .inl (ca 0, 60, .inl (fun _ => 0))), (q7, .inl (ca 0, 60, .inl (fun _ => 0))), (q8, .inl (ca 0, 6, .inl (fun _ => 0))), (q9, .inl (ca 0, 6, .inl (fun _ => 0)))] H := hP
  have hD : va_D A [(h0, .inr (1, [.ref q1, .ref q8, .ref q9, .null, .null, .null, .null, .null, .null, .int 0, .int 0, .int 0, .int 0, .int 0, .int 0])), (q1, .inl (ca 1, 2, .inr (.inr (.inr (.inr (va_up (va_up (fun _ => none) 0 (some q2)) 1 (some q5))))))), (q2, .inr (4, [.int (20 : Int32), .ref q3, .ref q4, .int 0])), (q3, .inl (ca 0, 60, .inl (fun _ => 0))), (q4, .inl (ca 0, 60, .inl (fun _ => 0))), (q5, .inr (4, [.int (99 : Int32), .ref q6, .ref q7, .int 0])), (q6, .inl (ca 0, 60, .inl (fun _ => 0))), (q7, .inl (ca 0, 60, .inl (fun _ => 0))), (q8, .inl (ca 0, 6, .inl (fun _ => 0))), (q9, .inl (ca 0, 6, .inl (fun _ => 0)))] := hD
  refine lv_aload_n hx hb (dg hi_Rp 28 rfl) rfl (lvk_at0 hl rfl) ?_
  refine lv_bipush (v := (6 : Int32)) hx hb (dg hi_Rp 29 rfl) (by decide) ?_
  refine va_newa (atype := .int) (ty := .int) (a0 := (6, .inl (fun _ => 0))) hx hb (hts _ ck_121) rfl hK.1 hP hD hS hA (fun _ => rfl) (by decide) rfl (by decide) (Nat.le_of_ble_eq_true rfl) (Nat.le_of_ble_eq_true rfl) (dg hi_Rp 30 rfl) (fun q10 cA H hK1 hP hD hS => ?_)
  obtain rfl := ck_same (t := 0) hK.1 hK1 rfl
  have hP : va_P D vwCl [(h0, .inr (1, [.ref q1, .ref q8, .ref q9, .null, .null, .null, .null, .null, .null, .int 0, .int 0, .int 0, .int 0, .int 0, .int 0])), (q1, .inl (ca 1, 2, .inr (.inr (.inr (.inr (va_up (va_up (fun _ => none) 0 (some q2)) 1 (some q5))))))), (q2, .inr (4, [.int (20 : Int32), .ref q3, .ref q4, .int 0])), (q3, .inl (ca 0, 60, .inl (fun _ => 0))), (q4, .inl (ca 0, 60, .inl (fun _ => 0))), (q5, .inr (4, [.int (99 : Int32), .ref q6, .ref q7, .int 0])), (q6, .inl (ca 0, 60, .inl (fun _ => 0))), (q7, .inl (ca 0, 60, .inl (fun _ => 0))), (q8, .inl (ca 0, 6, .inl (fun _ => 0))), (q9, .inl (ca 0, 6, .inl (fun _ => 0))), (q10, .inl (ca 0, 6, .inl (fun _ => 0)))] H := hP
  have hD : va_D A [(h0, .inr (1, [.ref q1, .ref q8, .ref q9, .null, .null, .null, .null, .null, .null, .int 0, .int 0, .int 0, .int 0, .int 0, .int 0])), (q1, .inl (ca 1, 2, .inr (.inr (.inr (.inr (va_up (va_up (fun _ => none) 0 (some q2)) 1 (some q5))))))), (q2, .inr (4, [.int (20 : Int32), .ref q3, .ref q4, .int 0])), (q3, .inl (ca 0, 60, .inl (fun _ => 0))), (q4, .inl (ca 0, 60, .inl (fun _ => 0))), (q5, .inr (4, [.int (99 : Int32), .ref q6, .ref q7, .int 0])), (q6, .inl (ca 0, 60, .inl (fun _ => 0))), (q7, .inl (ca 0, 60, .inl (fun _ => 0))), (q8, .inl (ca 0, 6, .inl (fun _ => 0))), (q9, .inl (ca 0, 6, .inl (fun _ => 0))), (q10, .inl (ca 0, 6, .inl (fun _ => 0)))] := hD
  refine va_putF (D := D) (ci := 1) (v := .ref q10) (ty := .array (.int)) (Ts := tblG) hx hb hts fcX1.1 tyX1 tyX1_ok nmX1 hown hK.1 hP hD hS 0 rfl rfl 3 (by decide) (hts _ ck_128) (fun _ h9 => h9) rfl hin rfl (by decide +kernel) rfl rfl (Nat.le_of_ble_eq_true rfl) (dg hi_Rp 31 rfl) (fun H locs hP hD hS => ?_)
  have hP : va_P D vwCl [(h0, .inr (1, [.ref q1, .ref q8, .ref q9, .ref q10, .null, .null, .null, .null, .null, .int 0, .int 0, .int 0, .int 0, .int 0, .int 0])), (q1, .inl (ca 1, 2, .inr (.inr (.inr (.inr (va_up (va_up (fun _ => none) 0 (some q2)) 1 (some q5))))))), (q2, .inr (4, [.int (20 : Int32), .ref q3, .ref q4, .int 0])), (q3, .inl (ca 0, 60, .inl (fun _ => 0))), (q4, .inl (ca 0, 60, .inl (fun _ => 0))), (q5, .inr (4, [.int (99 : Int32), .ref q6, .ref q7, .int 0])), (q6, .inl (ca 0, 60, .inl (fun _ => 0))), (q7, .inl (ca 0, 60, .inl (fun _ => 0))), (q8, .inl (ca 0, 6, .inl (fun _ => 0))), (q9, .inl (ca 0, 6, .inl (fun _ => 0))), (q10, .inl (ca 0, 6, .inl (fun _ => 0)))] H := hP
  have hD : va_D A [(h0, .inr (1, [.ref q1, .ref q8, .ref q9, .ref q10, .null, .null, .null, .null, .null, .int 0, .int 0, .int 0, .int 0, .int 0, .int 0])), (q1, .inl (ca 1, 2, .inr (.inr (.inr (.inr (va_up (va_up (fun _ => none) 0 (some q2)) 1 (some q5))))))), (q2, .inr (4, [.int (20 : Int32), .ref q3, .ref q4, .int 0])), (q3, .inl (ca 0, 60, .inl (fun _ => 0))), (q4, .inl (ca 0, 60, .inl (fun _ => 0))), (q5, .inr (4, [.int (99 : Int32), .ref q6, .ref q7, .int 0])), (q6, .inl (ca 0, 60, .inl (fun _ => 0))), (q7, .inl (ca 0, 60, .inl (fun _ => 0))), (q8, .inl (ca 0, 6, .inl (fun _ => 0))), (q9, .inl (ca 0, 6, .inl (fun _ => 0))), (q10, .inl (ca 0, 6, .inl (fun _ => 0)))] := hD
  refine lv_aload_n hx hb (dg hi_Rp 32 rfl) rfl (lvk_at0 hl rfl) ?_
  refine lv_bipush (v := (6 : Int32)) hx hb (dg hi_Rp 33 rfl) (by decide) ?_
  refine va_newa (atype := .int) (ty := .int) (a0 := (6, .inl (fun _ => 0))) hx hb (hts _ ck_121) rfl hK.1 hP hD hS hA (fun _ => rfl) (by decide) rfl (by decide) (Nat.le_of_ble_eq_true rfl) (Nat.le_of_ble_eq_true rfl) (dg hi_Rp 34 rfl) (fun q11 cA H hK1 hP hD hS => ?_)
  obtain rfl := ck_same (t := 0) hK.1 hK1 rfl
  have hP : va_P D vwCl [(h0, .inr (1, [.ref q1, .ref q8, .ref q9, .ref q10, .null, .null, .null, .null, .null, .int 0, .int 0, .int 0, .int 0, .int 0, .int 0])), (q1, .inl (ca 1, 2, .inr (.inr (.inr (.inr (va_up (va_up (fun _ => none) 0 (some q2)) 1 (some q5))))))), (q2, .inr (4, [.int (20 : Int32), .ref q3, .ref q4, .int 0])), (q3, .inl (ca 0, 60, .inl (fun _ => 0))), (q4, .inl (ca 0, 60, .inl (fun _ => 0))), (q5, .inr (4, [.int (99 : Int32), .ref q6, .ref q7, .int 0])), (q6, .inl (ca 0, 60, .inl (fun _ => 0))), (q7, .inl (ca 0, 60, .inl (fun _ => 0))), (q8, .inl (ca 0, 6, .inl (fun _ => 0))), (q9, .inl (ca 0, 6, .inl (fun _ => 0))), (q10, .inl (ca 0, 6, .inl (fun _ => 0))), (q11, .inl (ca 0, 6, .inl (fun _ => 0)))] H := hP
  have hD : va_D A [(h0, .inr (1, [.ref q1, .ref q8, .ref q9, .ref q10, .null, .null, .null, .null, .null, .int 0, .int 0, .int 0, .int 0, .int 0, .int 0])), (q1, .inl (ca 1, 2, .inr (.inr (.inr (.inr (va_up (va_up (fun _ => none) 0 (some q2)) 1 (some q5))))))), (q2, .inr (4, [.int (20 : Int32), .ref q3, .ref q4, .int 0])), (q3, .inl (ca 0, 60, .inl (fun _ => 0))), (q4, .inl (ca 0, 60, .inl (fun _ => 0))), (q5, .inr (4, [.int (99 : Int32), .ref q6, .ref q7, .int 0])), (q6, .inl (ca 0, 60, .inl (fun _ => 0))), (q7, .inl (ca 0, 60, .inl (fun _ => 0))), (q8, .inl (ca 0, 6, .inl (fun _ => 0))), (q9, .inl (ca 0, 6, .inl (fun _ => 0))), (q10, .inl (ca 0, 6, .inl (fun _ => 0))), (q11, .inl (ca 0, 6, .inl (fun _ => 0)))] := hD
  refine va_putF (D := D) (ci := 1) (v := .ref q11) (ty := .array (.int)) (Ts := tblG) hx hb hts fcX1.1 tyX1 tyX1_ok nmX1 hown hK.1 hP hD hS 0 rfl rfl 4 (by decide) (hts _ ck_130) (fun _ h9 => h9) rfl hin rfl (by decide +kernel) rfl rfl (Nat.le_of_ble_eq_true rfl) (dg hi_Rp 35 rfl) (fun H locs hP hD hS => ?_)
  have hP : va_P D vwCl [(h0, .inr (1, [.ref q1, .ref q8, .ref q9, .ref q10, .ref q11, .null, .null, .null, .null, .int 0, .int 0, .int 0, .int 0, .int 0, .int 0])), (q1, .inl (ca 1, 2, .inr (.inr (.inr (.inr (va_up (va_up (fun _ => none) 0 (some q2)) 1 (some q5))))))), (q2, .inr (4, [.int (20 : Int32), .ref q3, .ref q4, .int 0])), (q3, .inl (ca 0, 60, .inl (fun _ => 0))), (q4, .inl (ca 0, 60, .inl (fun _ => 0))), (q5, .inr (4, [.int (99 : Int32), .ref q6, .ref q7, .int 0])), (q6, .inl (ca 0, 60, .inl (fun _ => 0))), (q7, .inl (ca 0, 60, .inl (fun _ => 0))), (q8, .inl (ca 0, 6, .inl (fun _ => 0))), (q9, .inl (ca 0, 6, .inl (fun _ => 0))), (q10, .inl (ca 0, 6, .inl (fun _ => 0))), (q11, .inl (ca 0, 6, .inl (fun _ => 0)))] H := hP
  have hD : va_D A [(h0, .inr (1, [.ref q1, .ref q8, .ref q9, .ref q10, .ref q11, .null, .null, .null, .null, .int 0, .int 0, .int 0, .int 0, .int 0, .int 0])), (q1, .inl (ca 1, 2, .inr (.inr (.inr (.inr (va_up (va_up (fun _ => none) 0 (some q2)) 1 (some q5))))))), (q2, .inr (4, [.int (20 : Int32), .ref q3, .ref q4, .int 0])), (q3, .inl (ca 0, 60, .inl (fun _ => 0))), (q4, .inl (ca 0, 60, .inl (fun _ => 0))), (q5, .inr (4, [.int (99 : Int32), .ref q6, .ref q7, .int 0])), (q6, .inl (ca 0, 60, .inl (fun _ => 0))), (q7, .inl (ca 0, 60, .inl (fun _ => 0))), (q8, .inl (ca 0, 6, .inl (fun _ => 0))), (q9, .inl (ca 0, 6, .inl (fun _ => 0))), (q10, .inl (ca 0, 6, .inl (fun _ => 0))), (q11, .inl (ca 0, 6, .inl (fun _ => 0)))] := hD
  refine lv_aload_n hx hb (dg hi_Rp 36 rfl) rfl (lvk_at0 hl rfl) ?_
  refine lv_bipush (v := (6 : Int32)) hx hb (dg hi_Rp 37 rfl) (by decide) ?_
  refine va_newa (atype := .int) (ty := .int) (a0 := (6, .inl (fun _ => 0))) hx hb (hts _ ck_121) rfl hK.1 hP hD hS hA (fun _ => rfl) (by decide) rfl (by decide) (Nat.le_of_ble_eq_true rfl) (Nat.le_of_ble_eq_true rfl) (dg hi_Rp 38 rfl) (fun q12 cA H hK1 hP hD hS => ?_)
  obtain rfl := ck_same (t := 0) hK.1 hK1 rfl
  have hP : va_P D vwCl [(h0, .inr (1, [.ref q1, .ref q8, .ref q9, .ref q10, .ref q11, .null, .null, .null, .null, .int 0, .int 0, .int 0, .int 0, .int 0, .int 0])), (q1, .inl (ca 1, 2, .inr (.inr (.inr (.inr (va_up (va_up (fun _ => none) 0 (some q2)) 1 (some q5))))))), (q2, .inr (4, [.int (20 : Int32), .ref q3, .ref q4, .int 0])), (q3, .inl (ca 0, 60, .inl (fun _ => 0))), (q4, .inl (ca 0, 60, .inl (fun _ => 0))), (q5, .inr (4, [.int (99 : Int32), .ref q6, .ref q7, .int 0])), (q6, .inl (ca 0, 60, .inl (fun _ => 0))), (q7, .inl (ca 0, 60, .inl (fun _ => 0))), (q8, .inl (ca 0, 6, .inl (fun _ => 0))), (q9, .inl (ca 0, 6, .inl (fun _ => 0))), (q10, .inl (ca 0, 6, .inl (fun _ => 0))), (q11, .inl (ca 0, 6, .inl (fun _ => 0))), (q12, .inl (ca 0, 6, .inl (fun _ => 0)))] H := hP
  have hD : va_D A [(h0, .inr (1, [.ref q1, .ref q8, .ref q9, .ref q10, .ref q11, .null, .null, .null, .null, .int 0, .int 0, .int 0, .int 0, .int 0, .int 0])), (q1, .inl (ca 1, 2, .inr (.inr (.inr (.inr (va_up (va_up (fun _ => none) 0 (some q2)) 1 (some q5))))))), (q2, .inr (4, [.int (20 : Int32), .ref q3, .ref q4, .int 0])), (q3, .inl (ca 0, 60, .inl (fun _ => 0))), (q4, .inl (ca 0, 60, .inl (fun _ => 0))), (q5, .inr (4, [.int (99 : Int32), .ref q6, .ref q7, .int 0])), (q6, .inl (ca 0, 60, .inl (fun _ => 0))), (q7, .inl (ca 0, 60, .inl (fun _ => 0))), (q8, .inl (ca 0, 6, .inl (fun _ => 0))), (q9, .inl (ca 0, 6, .inl (fun _ => 0))), (q10, .inl (ca 0, 6, .inl (fun _ => 0))), (q11, .inl (ca 0, 6, .inl (fun _ => 0))), (q12, .inl (ca 0, 6, .inl (fun _ => 0)))] := hD
  refine va_putF (D := D) (ci := 1) (v := .ref q12) (ty := .array (.int)) (Ts := tblG) hx hb hts fcX1.1 tyX1 tyX1_ok nmX1 hown hK.1 hP hD hS 0 rfl rfl 5 (by decide) (hts _ ck_132) (fun _ h9 => h9) rfl hin rfl (by decide +kernel) rfl rfl (Nat.le_of_ble_eq_true rfl) (dg hi_Rp 39 rfl) (fun H locs hP hD hS => ?_)
  have hP : va_P D vwCl [(h0, .inr (1, [.ref q1, .ref q8, .ref q9, .ref q10, .ref q11, .ref q12, .null, .null, .null, .int 0, .int 0, .int 0, .int 0, .int 0, .int 0])), (q1, .inl (ca 1, 2, .inr (.inr (.inr (.inr (va_up (va_up (fun _ => none) 0 (some q2)) 1 (some q5))))))), (q2, .inr (4, [.int (20 : Int32), .ref q3, .ref q4, .int 0])), (q3, .inl (ca 0, 60, .inl (fun _ => 0))), (q4, .inl (ca 0, 60, .inl (fun _ => 0))), (q5, .inr (4, [.int (99 : Int32), .ref q6, .ref q7, .int 0])), (q6, .inl (ca 0, 60, .inl (fun _ => 0))), (q7, .inl (ca 0, 60, .inl (fun _ => 0))), (q8, .inl (ca 0, 6, .inl (fun _ => 0))), (q9, .inl (ca 0, 6, .inl (fun _ => 0))), (q10, .inl (ca 0, 6, .inl (fun _ => 0))), (q11, .inl (ca 0, 6, .inl (fun _ => 0))), (q12, .inl (ca 0, 6, .inl (fun _ => 0)))] H := hP
  have hD : va_D A [(h0, .inr (1, [.ref q1, .ref q8, .ref q9, .ref q10, .ref q11, .ref q12, .null, .null, .null, .int 0, .int 0, .int 0, .int 0, .int 0, .int 0])), (q1, .inl (ca 1, 2, .inr (.inr (.inr (.inr (va_up (va_up (fun _ => none) 0 (some q2)) 1 (some q5))))))), (q2, .inr (4, [.int (20 : Int32), .ref q3, .ref q4, .int 0])), (q3, .inl (ca 0, 60, .inl (fun _ => 0))), (q4, .inl (ca 0, 60, .inl (fun _ => 0))), (q5, .inr (4, [.int (99 : Int32), .ref q6, .ref q7, .int 0])), (q6, .inl (ca 0, 60, .inl (fun _ => 0))), (q7, .inl (ca 0, 60, .inl (fun _ => 0))), (q8, .inl (ca 0, 6, .inl (fun _ => 0))), (q9, .inl (ca 0, 6, .inl (fun _ => 0))), (q10, .inl (ca 0, 6, .inl (fun _ => 0))), (q11, .inl (ca 0, 6, .inl (fun _ => 0))), (q12, .inl (ca 0, 6, .inl (fun _ => 0)))] := hD
  refine lv_aload_n hx hb (dg hi_Rp 40 rfl) rfl (lvk_at0 hl rfl) ?_
  refine lv_iconst (v := (2 : Int32)) hx hb (dg hi_Rp 41 rfl) (by decide) ?_
  refine va_newa (atype := .int) (ty := .int) (a0 := (2, .inl (fun _ => 0))) hx hb (hts _ ck_121) rfl hK.1 hP hD hS hA (fun _ => rfl) (by decide) rfl (by decide) (Nat.le_of_ble_eq_true rfl) (Nat.le_of_ble_eq_true rfl) (dg hi_Rp 42 rfl) (fun q13 cA H hK1 hP hD hS => ?_)
  obtain rfl := ck_same (t := 0) hK.1 hK1 rfl
  have hP : va_P D vwCl [(h0, .inr (1, [.ref q1, .ref q8, .ref q9, .ref q10, .ref q11, .ref q12, .null, .null, .null, .int 0, .int 0, .int 0, .int 0, .int 0, .int 0])), (q1, .inl (ca 1, 2, .inr (.inr (.inr (.inr (va_up (va_up (fun _ => none) 0 (some q2)) 1 (some q5))))))), (q2, .inr (4, [.int (20 : Int32), .ref q3, .ref q4, .int 0])), (q3, .inl (ca 0, 60, .inl (fun _ => 0))), (q4, .inl (ca 0, 60, .inl (fun _ => 0))), (q5, .inr (4, [.int (99 : Int32), .ref q6, .ref q7, .int 0])), (q6, .inl (ca 0, 60, .inl (fun _ => 0))), (q7, .inl (ca 0, 60, .inl (fun _ => 0))), (q8, .inl (ca 0, 6, .inl (fun _ => 0))), (q9, .inl (ca 0, 6, .inl (fun _ => 0))), (q10, .inl (ca 0, 6, .inl (fun _ => 0))), (q11, .inl (ca 0, 6, .inl (fun _ => 0))), (q12, .inl (ca 0, 6, .inl (fun _ => 0))), (q13, .inl (ca 0, 2, .inl (fun _ => 0)))] H := hP
  have hD : va_D A [(h0, .inr (1, [.ref q1, .ref q8, .ref q9, .ref q10, .ref q11, .ref q12, .null, .null, .null, .int 0, .int 0, .int 0, .int 0, .int 0, .int 0])), (q1, .inl (ca 1, 2, .inr (.inr (.inr (.inr (va_up (va_up (fun _ => none) 0 (some q2)) 1 (some q5))))))), (q2, .inr (4, [.int (20 : Int32), .ref q3, .ref q4, .int 0])), (q3, .inl (ca 0, 60, .inl (fun _ => 0))), (q4, .inl (ca 0, 60, .inl (fun _ => 0))), (q5, .inr (4, [.int (99 : Int32), .ref q6, .ref q7, .int 0])), (q6, .inl (ca 0, 60, .inl (fun _ => 0))), (q7, .inl (ca 0, 60, .inl (fun _ => 0))), (q8, .inl (ca 0, 6, .inl (fun _ => 0))), (q9, .inl (ca 0, 6, .inl (fun _ => 0))), (q10, .inl (ca 0, 6, .inl (fun _ => 0))), (q11, .inl (ca 0, 6, .inl (fun _ => 0))), (q12, .inl (ca 0, 6, .inl (fun _ => 0))), (q13, .inl (ca 0, 2, .inl (fun _ => 0)))] := hD
  refine lv_dup hx hb (dg hi_Rp 43 rfl) rfl ?_
  refine lv_iconst (v := (0 : Int32)) hx hb (dg hi_Rp 44 rfl) (by decide) ?_
  refine lv_bipush (v := (99 : Int32)) hx hb (dg hi_Rp 45 rfl) (by decide) ?_
  refine va_iast hx hb hK.1 hP hD hS 13 0 rfl rfl (vp_in_iff.mpr (by decide)) (dg hi_Rp 46 rfl) (fun H locs hP hD hS => ?_)
  have hP : va_P D vwCl [(h0, .inr (1, [.ref q1, .ref q8, .ref q9, .ref q10, .ref q11, .ref q12, .null, .null, .null, .int 0, .int 0, .int 0, .int 0, .int 0, .int 0])), (q1, .inl (ca 1, 2, .inr (.inr (.inr (.inr (va_up (va_up (fun _ => none) 0 (some q2)) 1 (some q5))))))), (q2, .inr (4, [.int (20 : Int32), .ref q3, .ref q4, .int 0])), (q3, .inl (ca 0, 60, .inl (fun _ => 0))), (q4, .inl (ca 0, 60, .inl (fun _ => 0))), (q5, .inr (4, [.int (99 : Int32), .ref q6, .ref q7, .int 0])), (q6, .inl (ca 0, 60, .inl (fun _ => 0))), (q7, .inl (ca 0, 60, .inl (fun _ => 0))), (q8, .inl (ca 0, 6, .inl (fun _ => 0))), (q9, .inl (ca 0, 6, .inl (fun _ => 0))), (q10, .inl (ca 0, 6, .inl (fun _ => 0))), (q11, .inl (ca 0, 6, .inl (fun _ => 0))), (q12, .inl (ca 0, 6, .inl (fun _ => 0))), (q13, .inl (ca 0, 2, .inl (upd (fun _ => 0) 0 (99 : Int32))))] H := hP
  have hD : va_D A [(h0, .inr (1, [.ref q1, .ref q8, .ref q9, .ref q10, .ref q11, .ref q12, .null, .null, .null, .int 0, .int 0, .int 0, .int 0, .int 0, .int 0])), (q1, .inl (ca 1, 2, .inr (.inr (.inr (.inr (va_up (va_up (fun _ => none) 0 (some q2)) 1 (some q5))))))), (q2, .inr (4, [.int (20 : Int32), .ref q3, .ref q4, .int 0])), (q3, .inl (ca 0, 60, .inl (fun _ => 0))), (q4, .inl (ca 0, 60, .inl (fun _ => 0))), (q5, .inr (4, [.int (99 : Int32), .ref q6, .ref q7, .int 0])), (q6, .inl (ca 0, 60, .inl (fun _ => 0))), (q7, .inl (ca 0, 60, .inl (fun _ => 0))), (q8, .inl (ca 0, 6, .inl (fun _ => 0))), (q9, .inl (ca 0, 6, .inl (fun _ => 0))), (q10, .inl (ca 0, 6, .inl (fun _ => 0))), (q11, .inl (ca 0, 6, .inl (fun _ => 0))), (q12, .inl (ca 0, 6, .inl (fun _ => 0))), (q13, .inl (ca 0, 2, .inl (upd (fun _ => 0) 0 (99 : Int32))))] := hD
  refine lv_dup hx hb (dg hi_Rp 47 rfl) rfl ?_
  refine lv_iconst (v := (1 : Int32)) hx hb (dg hi_Rp 48 rfl) (by decide) ?_
  refine lv_bipush (v := (99 : Int32)) hx hb (dg hi_Rp 49 rfl) (by decide) ?_
  refine va_iast hx hb hK.1 hP hD hS 13 0 rfl rfl (vp_in_iff.mpr (by decide)) (dg hi_Rp 50 rfl) (fun H locs hP hD hS => ?_)
  have hP : va_P D vwCl [(h0, .inr (1, [.ref q1, .ref q8, .ref q9, .ref q10, .ref q11, .ref q12, .null, .null, .null, .int 0, .int 0, .int 0, .int 0, .int 0, .int 0])), (q1, .inl (ca 1, 2, .inr (.inr (.inr (.inr (va_up (va_up (fun _ => none) 0 (some q2)) 1 (some q5))))))), (q2, .inr (4, [.int (20 : Int32), .ref q3, .ref q4, .int 0])), (q3, .inl (ca 0, 60, .inl (fun _ => 0))), (q4, .inl (ca 0, 60, .inl (fun _ => 0))), (q5, .inr (4, [.int (99 : Int32), .ref q6, .ref q7, .int 0])), (q6, .inl (ca 0, 60, .inl (fun _ => 0))), (q7, .inl (ca 0, 60, .inl (fun _ => 0))), (q8, .inl (ca 0, 6, .inl (fun _ => 0))), (q9, .inl (ca 0, 6, .inl (fun _ => 0))), (q10, .inl (ca 0, 6, .inl (fun _ => 0))), (q11, .inl (ca 0, 6, .inl (fun _ => 0))), (q12, .inl (ca 0, 6, .inl (fun _ => 0))), (q13, .inl (ca 0, 2, .inl (upd (upd (fun _ => 0) 0 (99 : Int32)) 1 (99 : Int32))))] H := hP
  have hD : va_D A [(h0, .inr (1, [.ref q1, .ref q8, .ref q9, .ref q10, .ref q11, .ref q12, .null, .null, .null, .int 0, .int 0, .int 0, .int 0, .int 0, .int 0])), (q1, .inl (ca 1, 2, .inr (.inr (.inr (.inr (va_up (va_up (fun _ => none) 0 (some q2)) 1 (some q5))))))), (q2, .inr (4, [.int (20 : Int32), .ref q3, .ref q4, .int 0])), (q3, .inl (ca 0, 60, .inl (fun _ => 0))), (q4, .inl (ca 0, 60, .inl (fun _ => 0))), (q5, .inr (4, [.int (99 : Int32), .ref q6, .ref q7, .int 0])), (q6, .inl (ca 0, 60, .inl (fun _ => 0))), (q7, .inl (ca 0, 60, .inl (fun _ => 0))), (q8, .inl (ca 0, 6, .inl (fun _ => 0))), (q9, .inl (ca 0, 6, .inl (fun _ => 0))), (q10, .inl (ca 0, 6, .inl (fun _ => 0))), (q11, .inl (ca 0, 6, .inl (fun _ => 0))), (q12, .inl (ca 0, 6, .inl (fun _ => 0))), (q13, .inl (ca 0, 2, .inl (upd (upd (fun _ => 0) 0 (99 : Int32)) 1 (99 : Int32))))] := hD
  refine va_putF (D := D) (ci := 1) (v := .ref q13) (ty := .array (.int)) (Ts := tblG) hx hb hts fcX1.1 tyX1 tyX1_ok nmX1 hown hK.1 hP hD hS 0 rfl rfl 6 (by decide) (hts _ ck_134) (fun _ h9 => h9) rfl hin rfl (by decide +kernel) rfl rfl (Nat.le_of_ble_eq_true rfl) (dg hi_Rp 51 rfl) (fun H locs hP hD hS => ?_)
  have hP : va_P D vwCl [(h0, .inr (1, [.ref q1, .ref q8, .ref q9, .ref q10, .ref q11, .ref q12, .ref q13, .null, .null, .int 0, .int 0, .int 0, .int 0, .int 0, .int 0])), (q1, .inl (ca 1, 2, .inr (.inr (.inr (.inr (va_up (va_up (fun _ => none) 0 (some q2)) 1 (some q5))))))), (q2, .inr (4, [.int (20 : Int32), .ref q3, .ref q4, .int 0])), (q3, .inl (ca 0, 60, .inl (fun _ => 0))), (q4, .inl (ca 0, 60, .inl (fun _ => 0))), (q5, .inr (4, [.int (99 : Int32), .ref q6, .ref q7, .int 0])), (q6, .inl (ca 0, 60, .inl (fun _ => 0))), (q7, .inl (ca 0, 60, .inl (fun _ => 0))), (q8, .inl (ca 0, 6, .inl (fun _ => 0))), (q9, .inl (ca 0, 6, .inl (fun _ => 0))), (q10, .inl (ca 0, 6, .inl (fun _ => 0))), (q11, .inl (ca 0, 6, .inl (fun _ => 0))), (q12, .inl (ca 0, 6, .inl (fun _ => 0))), (q13, .inl (ca 0, 2, .inl (upd (upd (fun _ => 0) 0 (99 : Int32)) 1 (99 : Int32))))] H := hP
  have hD : va_D A [(h0, .inr (1, [.ref q1, .ref q8, .ref q9, .ref q10, .ref q11, .ref q12, .ref q13, .null, .null, .int 0, .int 0, .int 0, .int 0, .int 0, .int 0])), (q1, .inl (ca 1, 2, .inr (.inr (.inr (.inr (va_up (va_up (fun _ => none) 0 (some q2)) 1 (some q5))))))), (q2, .inr (4, [.int (20 : Int32), .ref q3, .ref q4, .int 0])), (q3, .inl (ca 0, 60, .inl (fun _ => 0))), (q4, .inl (ca 0, 60, .inl (fun _ => 0))), (q5, .inr (4, [.int (99 : Int32), .ref q6, .ref q7, .int 0])), (q6, .inl (ca 0, 60, .inl (fun _ => 0))), (q7, .inl (ca 0, 60, .inl (fun _ => 0))), (q8, .inl (ca 0, 6, .inl (fun _ => 0))), (q9, .inl (ca 0, 6, .inl (fun _ => 0))), (q10, .inl (ca 0, 6, .inl (fun _ => 0))), (q11, .inl (ca 0, 6, .inl (fun _ => 0))), (q12, .inl (ca 0, 6, .inl (fun _ => 0))), (q13, .inl (ca 0, 2, .inl (upd (upd (fun _ => 0) 0 (99 : Int32)) 1 (99 : Int32))))] := hD
  refine lv_aload_n hx hb (dg hi_Rp 52 rfl) rfl (lvk_at0 hl rfl) ?_
  refine lv_bipush (v := (6 : Int32)) hx hb (dg hi_Rp 53 rfl) (by decide) ?_
  refine va_newa (atype := .int) (ty := .int) (a0 := (6, .inl (fun _ => 0))) hx hb (hts _ ck_121) rfl hK.1 hP hD hS hA (fun _ => rfl) (by decide) rfl (by decide) (Nat.le_of_ble_eq_true rfl) (Nat.le_of_ble_eq_true rfl) (dg hi_Rp 54 rfl) (fun q14 cA H hK1 hP hD hS => ?_)
  obtain rfl := ck_same (t := 0) hK.1 hK1 rfl
  have hP : va_P D vwCl [(h0, .inr (1, [.ref q1, .ref q8, .ref q9, .ref q10, .ref q11, .ref q12, .ref q13, .null, .null, .int 0, .int 0, .int 0, .int 0, .int 0, .int 0])), (q1, .inl (ca 1, 2, .inr (.inr (.inr (.inr (va_up (va_up (fun _ => none) 0 (some q2)) 1 (some q5))))))), (q2, .inr (4, [.int (20 : Int32), .ref q3, .ref q4, .int 0])), (q3, .inl (ca 0, 60, .inl (fun _ => 0))), (q4, .inl (ca 0, 60, .inl (fun _ => 0))), (q5, .inr (4, [.int (99 : Int32), .ref q6, .ref q7, .int 0])), (q6, .inl (ca 0, 60, .inl (fun _ => 0))), (q7, .inl (ca 0, 60, .inl (fun _ => 0))), (q8, .inl (ca 0, 6, .inl (fun _ => 0))), (q9, .inl (ca 0, 6, .inl (fun _ => 0))), (q10, .inl (ca 0, 6, .inl (fun _ => 0))), (q11, .inl (ca 0, 6, .inl (fun _ => 0))), (q12, .inl (ca 0, 6, .inl (fun _ => 0))), (q13, .inl (ca 0, 2, .inl (upd (upd (fun _ => 0) 0 (99 : Int32)) 1 (99 : Int32)))), (q14, .inl (ca 0, 6, .inl (fun _ => 0)))] H := hP
  have hD : va_D A [(h0, .inr (1, [.ref q1, .ref q8, .ref q9, .ref q10, .ref q11, .ref q12, .ref q13, .null, .null, .int 0, .int 0, .int 0, .int 0, .int 0, .int 0])), (q1, .inl (ca 1, 2, .inr (.inr (.inr (.inr (va_up (va_up (fun _ => none) 0 (some q2)) 1 (some q5))))))), (q2, .inr (4, [.int (20 : Int32), .ref q3, .ref q4, .int 0])), (q3, .inl (ca 0, 60, .inl (fun _ => 0))), (q4, .inl (ca 0, 60, .inl (fun _ => 0))), (q5, .inr (4, [.int (99 : Int32), .ref q6, .ref q7, .int 0])), (q6, .inl (ca 0, 60, .inl (fun _ => 0))), (q7, .inl (ca 0, 60, .inl (fun _ => 0))), (q8, .inl (ca 0, 6, .inl (fun _ => 0))), (q9, .inl (ca 0, 6, .inl (fun _ => 0))), (q10, .inl (ca 0, 6, .inl (fun _ => 0))), (q11, .inl (ca 0, 6, .inl (fun _ => 0))), (q12, .inl (ca 0, 6, .inl (fun _ => 0))), (q13, .inl (ca 0, 2, .inl (upd (upd (fun _ => 0) 0 (99 : Int32)) 1 (99 : Int32)))), (q14, .inl (ca 0, 6, .inl (fun _ => 0)))] := hD
  refine va_putF (D := D) (ci := 1) (v := .ref q14) (ty := .array (.int)) (Ts := tblG) hx hb hts fcX1.1 tyX1 tyX1_ok nmX1 hown hK.1 hP hD hS 0 rfl rfl 7 (by decide) (hts _ ck_136) (fun _ h9 => h9) rfl hin rfl (by decide +kernel) rfl rfl (Nat.le_of_ble_eq_true rfl) (dg hi_Rp 55 rfl) (fun H locs hP hD hS => ?_)
  have hP : va_P D vwCl [(h0, .inr (1, [.ref q1, .ref q8, .ref q9, .ref q10, .ref q11, .ref q12, .ref q13, .ref q14, .null, .int 0, .int 0, .int 0, .int 0, .int 0, .int 0])), (q1, .inl (ca 1, 2, .inr (.inr (.inr (.inr (va_up (va_up (fun _ => none) 0 (some q2)) 1 (some q5))))))), (q2, .inr (4, [.int (20 : Int32), .ref q3, .ref q4, .int 0])), (q3, .inl (ca 0, 60, .inl (fun _ => 0))), (q4, .inl (ca 0, 60, .inl (fun _ => 0))), (q5, .inr (4, [.int (99 : Int32), .ref q6, .ref q7, .int 0])), (q6, .inl (ca 0, 60, .inl (fun _ => 0))), (q7, .inl (ca 0, 60, .inl (fun _ => 0))), (q8, .inl (ca 0, 6, .inl (fun _ => 0))), (q9, .inl (ca 0, 6, .inl (fun _ => 0))), (q10, .inl (ca 0, 6, .inl (fun _ => 0))), (q11, .inl (ca 0, 6, .inl (fun _ => 0))), (q12, .inl (ca 0, 6, .inl (fun _ => 0))), (q13, .inl (ca 0, 2, .inl (upd (upd (fun _ => 0) 0 (99 : Int32)) 1 (99 : Int32)))), (q14, .inl (ca 0, 6, .inl (fun _ => 0)))] H := hP
  have hD : va_D A [(h0, .inr (1, [.ref q1, .ref q8, .ref q9, .ref q10, .ref q11, .ref q12, .ref q13, .ref q14, .null, .int 0, .int 0, .int 0, .int 0, .int 0, .int 0])), (q1, .inl (ca 1, 2, .inr (.inr (.inr (.inr (va_up (va_up (fun _ => none) 0 (some q2)) 1 (some q5))))))), (q2, .inr (4, [.int (20 : Int32), .ref q3, .ref q4, .int 0])), (q3, .inl (ca 0, 60, .inl (fun _ => 0))), (q4, .inl (ca 0, 60, .inl (fun _ => 0))), (q5, .inr (4, [.int (99 : Int32), .ref q6, .ref q7, .int 0])), (q6, .inl (ca 0, 60, .inl (fun _ => 0))), (q7, .inl (ca 0, 60, .inl (fun _ => 0))), (q8, .inl (ca 0, 6, .inl (fun _ => 0))), (q9, .inl (ca 0, 6, .inl (fun _ => 0))), (q10, .inl (ca 0, 6, .inl (fun _ => 0))), (q11, .inl (ca 0, 6, .inl (fun _ => 0))), (q12, .inl (ca 0, 6, .inl (fun _ => 0))), (q13, .inl (ca 0, 2, .inl (upd (upd (fun _ => 0) 0 (99 : Int32)) 1 (99 : Int32)))), (q14, .inl (ca 0, 6, .inl (fun _ => 0)))] := hD
  refine lv_aload_n hx hb (dg hi_Rp 56 rfl) rfl (lvk_at0 hl rfl) ?_
  refine lv_bipush (v := (6 : Int32)) hx hb (dg hi_Rp 57 rfl) (by decide) ?_
  refine va_newa (atype := .int) (ty := .int) (a0 := (6, .inl (fun _ => 0))) hx hb (hts _ ck_121) rfl hK.1 hP hD hS hA (fun _ => rfl) (by decide) rfl (by decide) (Nat.le_of_ble_eq_true rfl) (Nat.le_of_ble_eq_true rfl) (dg hi_Rp 58 rfl) (fun q15 cA H hK1 hP hD hS => ?_)
  obtain rfl := ck_same (t := 0) hK.1 hK1 rfl
  have hP : va_P D vwCl [(h0, .inr (1, [.ref q1, .ref q8, .ref q9, .ref q10, .ref q11, .ref q12, .ref q13, .ref q14, .null, .int 0, .int 0, .int 0, .int 0, .int 0, .int 0])), (q1, .inl (ca 1, 2, .inr (.inr (.inr (.inr (va_up (va_up (fun _ => none) 0 (some q2)) 1 (some q5))))))), (q2, .inr (4, [.int (20 : Int32), .ref q3, .ref q4, .int 0])), (q3, .inl (ca 0, 60, .inl (fun _ => 0))), (q4, .inl (ca 0, 60, .inl (fun _ => 0))), (q5, .inr (4, [.int (99 : Int32), .ref q6, .ref q7, .int 0])), (q6, .inl (ca 0, 60, .inl (fun _ => 0))), (q7, .inl (ca 0, 60, .inl (fun _ => 0))), (q8, .inl (ca 0, 6, .inl (fun _ => 0))), (q9, .inl (ca 0, 6, .inl (fun _ => 0))), (q10, .inl (ca 0, 6, .inl (fun _ => 0))), (q11, .inl (ca 0, 6, .inl (fun _ => 0))), (q12, .inl (ca 0, 6, .inl (fun _ => 0))), (q13, .inl (ca 0, 2, .inl (upd (upd (fun _ => 0) 0 (99 : Int32)) 1 (99 : Int32)))), (q14, .inl (ca 0, 6, .inl (fun _ => 0))), (q15, .inl (ca 0, 6, .inl (fun _ => 0)))] H := hP
  have hD : va_D A [(h0, .inr (1, [.ref q1, .ref q8, .ref q9, .ref q10, .ref q11, .ref q12, .ref q13, .ref q14, .null, .int 0, .int 0, .int 0, .int 0, .int 0, .int 0])), (q1, .inl (ca 1, 2, .inr (.inr (.inr (.inr (va_up (va_up (fun _ => none) 0 (some q2)) 1 (some q5))))))), (q2, .inr (4, [.int (20 : Int32), .ref q3, .ref q4, .int 0])), (q3, .inl (ca 0, 60, .inl (fun _ => 0))), (q4, .inl (ca 0, 60, .inl (fun _ => 0))), (q5, .inr (4, [.int (99 : Int32), .ref q6, .ref q7, .int 0])), (q6, .inl (ca 0, 60, .inl (fun _ => 0))), (q7, .inl (ca 0, 60, .inl (fun _ => 0))), (q8, .inl (ca 0, 6, .inl (fun _ => 0))), (q9, .inl (ca 0, 6, .inl (fun _ => 0))), (q10, .inl (ca 0, 6, .inl (fun _ => 0))), (q11, .inl (ca 0, 6, .inl (fun _ => 0))), (q12, .inl (ca 0, 6, .inl (fun _ => 0))), (q13, .inl (ca 0, 2, .inl (upd (upd (fun _ => 0) 0 (99 : Int32)) 1 (99 : Int32)))), (q14, .inl (ca 0, 6, .inl (fun _ => 0))), (q15, .inl (ca 0, 6, .inl (fun _ => 0)))] := hD
  refine va_putF (D := D) (ci := 1) (v := .ref q15) (ty := .array (.int)) (Ts := tblG) hx hb hts fcX1.1 tyX1 tyX1_ok nmX1 hown hK.1 hP hD hS 0 rfl rfl 8 (by decide) (hts _ ck_137) (fun _ h9 => h9) rfl hin rfl (by decide +kernel) rfl rfl (Nat.le_of_ble_eq_true rfl) (dg hi_Rp 59 rfl) (fun H locs hP hD hS => ?_)
  have hP : va_P D vwCl [(h0, .inr (1, [.ref q1, .ref q8, .ref q9, .ref q10, .ref q11, .ref q12, .ref q13, .ref q14, .ref q15, .int 0, .int 0, .int 0, .int 0, .int 0, .int 0])), (q1, .inl (ca 1, 2, .inr (.inr (.inr (.inr (va_up (va_up (fun _ => none) 0 (some q2)) 1 (some q5))))))), (q2, .inr (4, [.int (20 : Int32), .ref q3, .ref q4, .int 0])), (q3, .inl (ca 0, 60, .inl (fun _ => 0))), (q4, .inl (ca 0, 60, .inl (fun _ => 0))), (q5, .inr (4, [.int (99 : Int32), .ref q6, .ref q7, .int 0])), (q6, .inl (ca 0, 60, .inl (fun _ => 0))), (q7, .inl (ca 0, 60, .inl (fun _ => 0))), (q8, .inl (ca 0, 6, .inl (fun _ => 0))), (q9, .inl (ca 0, 6, .inl (fun _ => 0))), (q10, .inl (ca 0, 6, .inl (fun _ => 0))), (q11, .inl (ca 0, 6, .inl (fun _ => 0))), (q12, .inl (ca 0, 6, .inl (fun _ => 0))), (q13, .inl (ca 0, 2, .inl (upd (upd (fun _ => 0) 0 (99 : Int32)) 1 (99 : Int32)))), (q14, .inl (ca 0, 6, .inl (fun _ => 0))), (q15, .inl (ca 0, 6, .inl (fun _ => 0)))] H := hP
  have hD : va_D A [(h0, .inr (1, [.ref q1, .ref q8, .ref q9, .ref q10, .ref q11, .ref q12, .ref q13, .ref q14, .ref q15, .int 0, .int 0, .int 0, .int 0, .int 0, .int 0])), (q1, .inl (ca 1, 2, .inr (.inr (.inr (.inr (va_up (va_up (fun _ => none) 0 (some q2)) 1 (some q5))))))), (q2, .inr (4, [.int (20 : Int32), .ref q3, .ref q4, .int 0])), (q3, .inl (ca 0, 60, .inl (fun _ => 0))), (q4, .inl (ca 0, 60, .inl (fun _ => 0))), (q5, .inr (4, [.int (99 : Int32), .ref q6, .ref q7, .int 0])), (q6, .inl (ca 0, 60, .inl (fun _ => 0))), (q7, .inl (ca 0, 60, .inl (fun _ => 0))), (q8, .inl (ca 0, 6, .inl (fun _ => 0))), (q9, .inl (ca 0, 6, .inl (fun _ => 0))), (q10, .inl (ca 0, 6, .inl (fun _ => 0))), (q11, .inl (ca 0, 6, .inl (fun _ => 0))), (q12, .inl (ca 0, 6, .inl (fun _ => 0))), (q13, .inl (ca 0, 2, .inl (upd (upd (fun _ => 0) 0 (99 : Int32)) 1 (99 : Int32)))), (q14, .inl (ca 0, 6, .inl (fun _ => 0))), (q15, .inl (ca 0, 6, .inl (fun _ => 0)))] := hD
  refine lv_aload_n hx hb (dg hi_Rp 60 rfl) rfl (lvk_at0 hl rfl) ?_
  refine lv_iconst (v := (-1 : Int32)) hx hb (dg hi_Rp 61 rfl) (by decide) ?_
  refine va_put (D := D) (ci := 1) (v := .int (-1 : Int32)) (ty := .int) (Ts := tblG) hx hb hts fcX1.1 tyX1 tyX1_ok nmX1 hown hK.1 hP hD hS 0 rfl rfl 11 (by decide) (hts _ ck_143) (fun _ h9 => h9) rfl (by decide +kernel) rfl rfl (Nat.le_of_ble_eq_true rfl) (dg hi_Rp 62 rfl) (fun H locs hP hD hS => ?_)
  have hP : va_P D vwCl [(h0, .inr (1, [.ref q1, .ref q8, .ref q9, .ref q10, .ref q11, .ref q12, .ref q13, .ref q14, .ref q15, .int 0, .int 0, .int (-1 : Int32), .int 0, .int 0, .int 0])), (q1, .inl (ca 1, 2, .inr (.inr (.inr (.inr (va_up (va_up (fun _ => none) 0 (some q2)) 1 (some q5))))))), (q2, .inr (4, [.int (20 : Int32), .ref q3, .ref q4, .int 0])), (q3, .inl (ca 0, 60, .inl (fun _ => 0))), (q4, .inl (ca 0, 60, .inl (fun _ => 0))), (q5, .inr (4, [.int (99 : Int32), .ref q6, .ref q7, .int 0])), (q6, .inl (ca 0, 60, .inl (fun _ => 0))), (q7, .inl (ca 0, 60, .inl (fun _ => 0))), (q8, .inl (ca 0, 6, .inl (fun _ => 0))), (q9, .inl (ca 0, 6, .inl (fun _ => 0))), (q10, .inl (ca 0, 6, .inl (fun _ => 0))), (q11, .inl (ca 0, 6, .inl (fun _ => 0))), (q12, .inl (ca 0, 6, .inl (fun _ => 0))), (q13, .inl (ca 0, 2, .inl (upd (upd (fun _ => 0) 0 (99 : Int32)) 1 (99 : Int32)))), (q14, .inl (ca 0, 6, .inl (fun _ => 0))), (q15, .inl (ca 0, 6, .inl (fun _ => 0)))] H := hP
  have hD : va_D A [(h0, .inr (1, [.ref q1, .ref q8, .ref q9, .ref q10, .ref q11, .ref q12, .ref q13, .ref q14, .ref q15, .int 0, .int 0, .int (-1 : Int32), .int 0, .int 0, .int 0])), (q1, .inl (ca 1, 2, .inr (.inr (.inr (.inr (va_up (va_up (fun _ => none) 0 (some q2)) 1 (some q5))))))), (q2, .inr (4, [.int (20 : Int32), .ref q3, .ref q4, .int 0])), (q3, .inl (ca 0, 60, .inl (fun _ => 0))), (q4, .inl (ca 0, 60, .inl (fun _ => 0))), (q5, .inr (4, [.int (99 : Int32), .ref q6, .ref q7, .int 0])), (q6, .inl (ca 0, 60, .inl (fun _ => 0))), (q7, .inl (ca 0, 60, .inl (fun _ => 0))), (q8, .inl (ca 0, 6, .inl (fun _ => 0))), (q9, .inl (ca 0, 6, .inl (fun _ => 0))), (q10, .inl (ca 0, 6, .inl (fun _ => 0))), (q11, .inl (ca 0, 6, .inl (fun _ => 0))), (q12, .inl (ca 0, 6, .inl (fun _ => 0))), (q13, .inl (ca 0, 2, .inl (upd (upd (fun _ => 0) 0 (99 : Int32)) 1 (99 : Int32)))), (q14, .inl (ca 0, 6, .inl (fun _ => 0))), (q15, .inl (ca 0, 6, .inl (fun _ => 0)))] := hD
  refine lv_aload_n hx hb (dg hi_Rp 63 rfl) rfl (lvk_at0 hl rfl) ?_
  refine lv_bipush (v := (30 : Int32)) hx hb (dg hi_Rp 64 rfl) (by decide) ?_
  refine va_put (D := D) (ci := 1) (v := .int (30 : Int32)) (ty := .int) (Ts := tblG) hx hb hts fcX1.1 tyX1 tyX1_ok nmX1 hown hK.1 hP hD hS 0 rfl rfl 12 (by decide) (hts _ ck_145) (fun _ h9 => h9) rfl (by decide +kernel) rfl rfl (Nat.le_of_ble_eq_true rfl) (dg hi_Rp 65 rfl) (fun H locs hP hD hS => ?_)
  have hP : va_P D vwCl [(h0, .inr (1, [.ref q1, .ref q8, .ref q9, .ref q10, .ref q11, .ref q12, .ref q13, .ref q14, .ref q15, .int 0, .int 0, .int (-1 : Int32), .int (30 : Int32), .int 0, .int 0])), (q1, .inl (ca 1, 2, .inr (.inr (.inr (.inr (va_up (va_up (fun _ => none) 0 (some q2)) 1 (some q5))))))), (q2, .inr (4, [.int (20 : Int32), .ref q3, .ref q4, .int 0])), (q3, .inl (ca 0, 60, .inl (fun _ => 0))), (q4, .inl (ca 0, 60, .inl (fun _ => 0))), (q5, .inr (4, [.int (99 : Int32), .ref q6, .ref q7, .int 0])), (q6, .inl (ca 0, 60, .inl (fun _ => 0))), (q7, .inl (ca 0, 60, .inl (fun _ => 0))), (q8, .inl (ca 0, 6, .inl (fun _ => 0))), (q9, .inl (ca 0, 6, .inl (fun _ => 0))), (q10, .inl (ca 0, 6, .inl (fun _ => 0))), (q11, .inl (ca 0, 6, .inl (fun _ => 0))), (q12, .inl (ca 0, 6, .inl (fun _ => 0))), (q13, .inl (ca 0, 2, .inl (upd (upd (fun _ => 0) 0 (99 : Int32)) 1 (99 : Int32)))), (q14, .inl (ca 0, 6, .inl (fun _ => 0))), (q15, .inl (ca 0, 6, .inl (fun _ => 0)))] H := hP
  have hD : va_D A [(h0, .inr (1, [.ref q1, .ref q8, .ref q9, .ref q10, .ref q11, .ref q12, .ref q13, .ref q14, .ref q15, .int 0, .int 0, .int (-1 : Int32), .int (30 : Int32), .int 0, .int 0])), (q1, .inl (ca 1, 2, .inr (.inr (.inr (.inr (va_up (va_up (fun _ => none) 0 (some q2)) 1 (some q5))))))), (q2, .inr (4, [.int (20 : Int32), .ref q3, .ref q4, .int 0])), (q3, .inl (ca 0, 60, .inl (fun _ => 0))), (q4, .inl (ca 0, 60, .inl (fun _ => 0))), (q5, .inr (4, [.int (99 : Int32), .ref q6, .ref q7, .int 0])), (q6, .inl (ca 0, 60, .inl (fun _ => 0))), (q7, .inl (ca 0, 60, .inl (fun _ => 0))), (q8, .inl (ca 0, 6, .inl (fun _ => 0))), (q9, .inl (ca 0, 6, .inl (fun _ => 0))), (q10, .inl (ca 0, 6, .inl (fun _ => 0))), (q11, .inl (ca 0, 6, .inl (fun _ => 0))), (q12, .inl (ca 0, 6, .inl (fun _ => 0))), (q13, .inl (ca 0, 2, .inl (upd (upd (fun _ => 0) 0 (99 : Int32)) 1 (99 : Int32)))), (q14, .inl (ca 0, 6, .inl (fun _ => 0))), (q15, .inl (ca 0, 6, .inl (fun _ => 0)))] := hD
  refine lv_aload_n hx hb (dg hi_Rp 66 rfl) rfl (lvk_at0 hl rfl) ?_
  refine lv_iconst (v := (1 : Int32)) hx hb (dg hi_Rp 67 rfl) (by decide) ?_
  refine va_put (D := D) (ci := 1) (v := .int (1 : Int32)) (ty := .int) (Ts := tblG) hx hb hts fcX1.1 tyX1 tyX1_ok nmX1 hown hK.1 hP hD hS 0 rfl rfl 14 (by decide) (hts _ ck_149) (fun _ h9 => h9) rfl (by decide +kernel) rfl rfl (Nat.le_of_ble_eq_true rfl) (dg hi_Rp 68 rfl) (fun H locs hP hD hS => ?_)
  have hP : va_P D vwCl [(h0, .inr (1, [.ref q1, .ref q8, .ref q9, .ref q10, .ref q11, .ref q12, .ref q13, .ref q14, .ref q15, .int 0, .int 0, .int (-1 : Int32), .int (30 : Int32), .int 0, .int (1 : Int32)])), (q1, .inl (ca 1, 2, .inr (.inr (.inr (.inr (va_up (va_up (fun _ => none) 0 (some q2)) 1 (some q5))))))), (q2, .inr (4, [.int (20 : Int32), .ref q3, .ref q4, .int 0])), (q3, .inl (ca 0, 60, .inl (fun _ => 0))), (q4, .inl (ca 0, 60, .inl (fun _ => 0))), (q5, .inr (4, [.int (99 : Int32), .ref q6, .ref q7, .int 0])), (q6, .inl (ca 0, 60, .inl (fun _ => 0))), (q7, .inl (ca 0, 60, .inl (fun _ => 0))), (q8, .inl (ca 0, 6, .inl (fun _ => 0))), (q9, .inl (ca 0, 6, .inl (fun _ => 0))), (q10, .inl (ca 0, 6, .inl (fun _ => 0))), (q11, .inl (ca 0, 6, .inl (fun _ => 0))), (q12, .inl (ca 0, 6, .inl (fun _ => 0))), (q13, .inl (ca 0, 2, .inl (upd (upd (fun _ => 0) 0 (99 : Int32)) 1 (99 : Int32)))), (q14, .inl (ca 0, 6, .inl (fun _ => 0))), (q15, .inl (ca 0, 6, .inl (fun _ => 0)))] H := hP
  have hD : va_D A [(h0, .inr (1, [.ref q1, .ref q8, .ref q9, .ref q10, .ref q11, .ref q12, .ref q13, .ref q14, .ref q15, .int 0, .int 0, .int (-1 : Int32), .int (30 : Int32), .int 0, .int (1 : Int32)])), (q1, .inl (ca 1, 2, .inr (.inr (.inr (.inr (va_up (va_up (fun _ => none) 0 (some q2)) 1 (some q5))))))), (q2, .inr (4, [.int (20 : Int32), .ref q3, .ref q4, .int 0])), (q3, .inl (ca 0, 60, .inl (fun _ => 0))), (q4, .inl (ca 0, 60, .inl (fun _ => 0))), (q5, .inr (4, [.int (99 : Int32), .ref q6, .ref q7, .int 0])), (q6, .inl (ca 0, 60, .inl (fun _ => 0))), (q7, .inl (ca 0, 60, .inl (fun _ => 0))), (q8, .inl (ca 0, 6, .inl (fun _ => 0))), (q9, .inl (ca 0, 6, .inl (fun _ => 0))), (q10, .inl (ca 0, 6, .inl (fun _ => 0))), (q11, .inl (ca 0, 6, .inl (fun _ => 0))), (q12, .inl (ca 0, 6, .inl (fun _ => 0))), (q13, .inl (ca 0, 2, .inl (upd (upd (fun _ => 0) 0 (99 : Int32)) 1 (99 : Int32)))), (q14, .inl (ca 0, 6, .inl (fun _ => 0))), (q15, .inl (ca 0, 6, .inl (fun _ => 0)))] := hD
  exact W.vret hx hb hr (fun t ht hW => ⟨⟨(), rfl, trivial, q1, q2, q3, q4, q5, q6, q7, q8, q9, q10, q11, q12, q13, q14, q15, by rw [ht]; exact hP, hD⟩, hS.F ht⟩) hS.2.2 (dg hi_Rp 69 rfl)
