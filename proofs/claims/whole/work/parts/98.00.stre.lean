/-! what a constructor may use of the tape's own text -/
def Noth : Nat → Prop := fun _ => False
/-- a text's constant: its bytes, the switch for short texts, the maker of messages -/
def StrOK (q w n : Nat) (f : Nat → Int32) (A : Nat → Prop) (U : State) (H : Heap) : Prop := va_O "java/lang/String" q A U H ∧ va_OF "java/lang/String" "coder" "B" (.int 0) q A U H ∧ va_OF "java/lang/String" "value" "[B" (.ref w) q A U H ∧ va_T .byte w n (fun j => .int (f j)) A U H ∧ va_Z "java/lang/String" "COMPACT_STRINGS" "Z" (.int 1) A U H ∧ va_Zq "jdk/internal/util/Preconditions" "SIOOBE_FORMATTER" "Ljava/util/function/BiFunction;" A U H
theorem StrOK.moved {q w n : Nat} {f : Nat → Int32} {A : Nat → Prop} {u U : State} {H : Heap} (hvm : u.vm.Alike U.vm) (h : StrOK q w n f A u H) : StrOK q w n f A U H := ⟨va_O.moved hvm h.1, va_OF.moved hvm h.2.1, va_OF.moved hvm h.2.2.1, va_T.moved hvm h.2.2.2.1, va_Z.moved hvm h.2.2.2.2.1, va_Zq.moved hvm h.2.2.2.2.2⟩
theorem StrOK.kept {q w n : Nat} {f : Nat → Int32} {A : Nat → Prop} {U : State} {H H1 : Heap} (h : StrOK q w n f A U H) (hq : ∀ a : Nat, a < H.size → ¬ A a → H1[a]? = H[a]?) : StrOK q w n f A U H1 := ⟨h.1.kept hq, h.2.1.kept hq, h.2.2.1.kept hq, h.2.2.2.1.kept hq, h.2.2.2.2.1.kept hq, h.2.2.2.2.2.kept hq⟩
theorem StrOK.narrow {q w n : Nat} {f : Nat → Int32} {A B : Nat → Prop} {U : State} {H : Heap} (h : StrOK q w n f A U H) (hAB : ∀ q, B q → A q) : StrOK q w n f B U H := ⟨h.1.narrow hAB, h.2.1.narrow hAB, h.2.2.1.narrow hAB, h.2.2.2.1.narrow hAB, h.2.2.2.2.1.narrow hAB, h.2.2.2.2.2.narrow hAB⟩
/-- what the callee sees of it -/
theorem StrOK.at {q w n : Nat} {f : Nat → Int32} {A : Nat → Prop} {s U : State} {H : Heap} {locs : List Loc} (h : StrOK q w n f A s s.heap) (hS : va_S A s.heap H locs) (hU : U.heap = H) (hW : s.WarmedH U.vm) : StrOK q w n f Noth U U.heap := by
  rw [hU]
  exact ((h.kept hS.2.1).narrow (fun _ z => z.elim)).moved hW.alike
def tpTxt : String := "given lane fetch alu is when else times end show add sub mul min max tex less same both either flip pick copy "
def tpB : List Int32 := [103, 105, 118, 101, 110, 32, 108, 97, 110, 101, 32, 102, 101, 116, 99, 104, 32, 97, 108, 117, 32, 105, 115, 32, 119, 104, 101, 110, 32, 101, 108, 115, 101, 32, 116, 105, 109, 101, 115, 32, 101, 110, 100, 32, 115, 104, 111, 119, 32, 97, 100, 100, 32, 115, 117, 98, 32, 109, 117, 108, 32, 109, 105, 110, 32, 109, 97, 120, 32, 116, 101, 120, 32, 108, 101, 115, 115, 32, 115, 97, 109, 101, 32, 98, 111, 116, 104, 32, 101, 105, 116, 104, 101, 114, 32, 102, 108, 105, 112, 32, 112, 105, 99, 107, 32, 99, 111, 112, 121, 32]
def tpf (j : Nat) : Int32 := tpB.getD j 0
def TE (A : Nat → Prop) (U : State) : Prop := ∃ q w : Nat, StrOK q w 110 tpf A U U.heap ∧ vk_R "ShaderReady$Tape" 19 tpTxt q U
theorem TE.at {A : Nat → Prop} {s U : State} {H : Heap} {locs : List Loc} (h : TE A s) (hS : va_S A s.heap H locs) (hU : U.heap = H) (hW : s.WarmedH U.vm) : TE A U := by
  obtain ⟨q, w, h1, h2⟩ := h
  refine ⟨q, w, ?_, vk_R.warm hW h2⟩
  rw [hU]
  exact (h1.kept hS.2.1).moved hW.alike
theorem TE.blind {A : Nat → Prop} {U : State} {g : JFrame} {mk : MethodId} {a : Array Value} (h : TE A U) : TE A (U.calling g mk a) := by
  obtain ⟨q, w, h1, h2⟩ := h
  exact ⟨q, w, StrOK.moved (u := U) (U := U.calling g mk a) (Vm.Alike.refl U.vm) h1, vk_R.same (u := U) rfl h2⟩
