/-! THE JDK'S STRING: length and charAt of a constant; nothing is written -/
def RC (p : Program) (s : State) (m : MethodId) (args : Array Value) (meth : Method) (c : Code) (own : String) (cc : ByteArray) (nL : Nat) (rt : Option FieldType) : Prop := p.tables.exec = Jvm.exec ∧ c.code = cc ∧ c.maxLocals = nL ∧ s.vm.findClass own = some m.cls ∧ (∀ w ∈ gt, w.before args s = true) ∧ meth.sig.returnType = rt ∧ meth.locks = false
theorem ro_mk {y : MethodName} {bytes : ByteArray} {maxL : Nat} {rt : Option FieldType} {fr lo : Nat} {av : List Value} {E : State → Prop} {Qc : Array Value → State → Outcome → State → Prop} (hy : plainFor y = true) (hn : (lg_sl av).length ≤ maxL)
    (body : ∀ (p : Program) (l : Launch) (e : Env) (s : State) (m : MethodId) (args : Array Value) (below : List Frame) (meth : Method) (c : Code) (ls : Array Slot), RC p s m args meth c y.cls bytes maxL rt → E s → lv_has ls maxL (lv_args 0 av) → W p l e { frames := fr, cells := 0, slots := 0, locals := lo } s m args below meth c s.heap [] 0 0 (MQ below Qc args s 0 0 Noth) (F0 m 0 ls [])) (l : Launch) : Met l y (Cond.code y bytes maxL rt :: gt) { frames := fr, cells := 0, slots := 0, locals := lo } (va_Pc av E) Qc 0 0 Noth := by
  refine MetFree.of_bodySF (code := bytes) (maxLocals := maxL) (ret := rt) hy ?_ ?_
  · intro args s m h hnm
    obtain ⟨meth, c, h1, h2, h3, h4, h5, h6, -, -⟩ := Cond.code_spec hnm (atoms_spec (ws := Cond.code y bytes maxL rt :: gt) h _ List.mem_cons_self)
    exact ⟨meth, c, h1, h2, h3, h4, h5, h6⟩
  · intro p e s m args below meth c s₁ B hml hP0 _
    have hh0 : s₁.heap = s.heap := by rw [B.state]; rfl
    obtain ⟨rfl, hE⟩ := hP0
    have hts := atoms_spec (ws := Cond.code y bytes maxL rt :: gt) B.pre
    have hown : s.vm.findClass y.cls = some m.cls := findClass_of_methodNamed B.named
    have hl := lv_entry av (n := maxL) hn
    have hb := body p l e s m _ below meth c _ ⟨B.exec, B.bytes, hml, hown, fun w hw => hts w (List.mem_cons_of_mem _ hw), B.returns, B.notSynchronized⟩ hE hl
    rw [lg_entry_eq]
    obtain ⟨t, a1, o1, b1, b2, b3⟩ := hb s₁ hh0 (Stand.of_body B)
    exact ⟨t, o1, a1, b1, b2, b3⟩
abbrev QI (v : Int32) : Array Value → State → Outcome → State → Prop := va_Qi (fun (r : Int32) (_ : Unit) => r = v) (fun _ _ => True) Noth
abbrev QV : Array Value → State → Outcome → State → Prop := va_Qv (fun (_ : Unit) => True) (fun _ _ => True) Noth
def StrE (q w n : Nat) (f : Nat → Int32) : State → Prop := fun U => StrOK q w n f Noth U U.heap
theorem StrE_blind {av : List Value} {q w n : Nat} {f : Nat → Int32} : FrameBlind (va_Pc av (StrE q w n f)) := fun a U g mk z => ⟨z.1, StrOK.moved (u := U) (U := U.calling g mk a) (Vm.Alike.refl U.vm) z.2⟩
theorem True_blind {av : List Value} : FrameBlind (va_Pc av (fun _ => True)) := fun a U g mk z => ⟨z.1, trivial⟩
theorem ZE_blind {av : List Value} {C n d : String} : FrameBlind (va_Pc av (fun U => va_Zq C n d Noth U U.heap)) := fun a U g mk z => ⟨z.1, va_Zq.moved (u := U) (U := U.calling g mk a) (Vm.Alike.refl U.vm) z.2⟩
set_option maxHeartbeats 4000000 in
set_option maxRecDepth 20000 in
theorem st_pre {k n : Nat} (hk : k < n) (hn : n < 2 ^ 31) (x : Value) (hx : x.category = 1) (hsl : (lg_sl [.int (nI k), .int (nI n), x]).length ≤ 3) (h3 : lv_args 0 [.int (nI k), .int (nI n), x] = [(0, .int (nI k)), (1, .int (nI n)), (2, x)]) (l : Launch) : Met l yJ3_checkIndex_8e157 (Cond.code yJ3_checkIndex_8e157 cJ3_checkIndex_8e157 3 (some .int) :: gt) { frames := 0, cells := 0, slots := 0, locals := 0 } (va_Pc [.int (nI k), .int (nI n), x] (fun _ => True)) (QI (nI k)) 0 0 Noth := by
  refine ro_mk (by decide +kernel) hsl ?_ l
  intro p l e s m args below meth c ls X _ hl
  rw [h3] at hl
  refine lv_iload_n X.1 X.2.1 dJ3_checkIndex_8e157_0 rfl (lv_at hl 0 rfl) ?_
  refine lv_if_lt (tgt := 9) X.1 X.2.1 dJ3_checkIndex_8e157_1 (by decide) (fun z => absurd z (nI_pos (by omega))) (fun _ => ?_)
  refine lv_iload_n X.1 X.2.1 dJ3_checkIndex_8e157_4 rfl (lv_at hl 0 rfl) ?_
  refine lv_iload_n X.1 X.2.1 dJ3_checkIndex_8e157_5 rfl (lv_at hl 1 rfl) ?_
  refine lv_icmp_lt (tgt := 16) X.1 X.2.1 dJ3_checkIndex_8e157_6 (by decide) (fun _ => ?_) (fun z => absurd (nI_lt hk hn) z)
  refine lv_iload_n X.1 X.2.1 dJ3_checkIndex_8e157_16 rfl (lv_at hl 0 rfl) ?_
  exact W.iret X.1 X.2.1 X.2.2.2.2.2.1 (fun t ht hW => ⟨⟨_, (), rfl, rfl, trivial⟩, (va_S.rf (A := Noth)).F ht⟩) (fun _ h => nomatch h) dJ3_checkIndex_8e157_17 X.2.2.2.2.2.2
