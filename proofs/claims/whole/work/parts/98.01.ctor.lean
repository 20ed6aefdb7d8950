/-! CONSTRUCTORS: worlds that grow, in the order of making -/
def NC (p : Program) (s : State) (m : MethodId) (args : Array Value) (meth : Method) (c : Code) (own : String) (cc : ByteArray) (nL : Nat) (D : va_G) (cA : Nat → ClassId) (A : Nat → Prop) : Prop := p.tables.exec = Jvm.exec ∧ c.code = cc ∧ c.maxLocals = nL ∧ s.vm.findClass own = some m.cls ∧ (∀ w ∈ gt, w.before args s = true) ∧ meth.name = "<init>" ∧ va_K D vwCl (tysL cA) s ∧ (∀ q, s.heap.size ≤ q → A q) ∧ meth.sig.returnType = none ∧ meth.locks = false ∧ NWs s ∧ va_AOA .int s ∧ TE A s
def NS (D : va_G) (A : Nat → Prop) (s : State) (ws : va_W) (H : Heap) (locs : List Loc) : Prop := va_P D vwCl ws H ∧ va_D A ws ∧ va_S A s.heap H locs
theorem wj_at {ws news : va_W} {j : Nat} {x : Nat × va_E} (hj : j < ws.length) : (ws.set j x ++ news)[j]? = some x := by
  rw [List.getElem?_append_left (by rw [List.length_set]; exact hj), List.getElem?_set_self hj]
theorem wj_set {ws news : va_W} {j : Nat} {x y : Nat × va_E} (hj : j < ws.length) : (ws.set j x ++ news).set j y = ws.set j y ++ news := by
  rw [List.set_append_left _ _ (by rw [List.length_set]; exact hj), List.set_set]
theorem wj_new {ws news : va_W} {j i : Nat} {x : Nat × va_E} : (ws.set j x ++ news)[ws.length + i]? = news[i]? := by
  rw [List.getElem?_append_right (by rw [List.length_set]; omega), List.length_set]
  congr 1
  omega
theorem wj_nset {ws news nn : va_W} {j i : Nat} {x y : Nat × va_E} : (ws.set j x ++ news).set (ws.length + i) y ++ nn = ws.set j x ++ (news.set i y ++ nn) := by
  rw [List.set_append_right _ _ (by rw [List.length_set]; omega), List.length_set, List.append_assoc]
  congr 3
  omega
theorem wj_id {ws : va_W} {j : Nat} {x : Nat × va_E} (h : ws[j]? = some x) : ws.set j x ++ [] = ws := by
  rw [List.append_nil]
  apply List.ext_getElem?
  intro k
  by_cases e : k = j
  · subst e
    rw [List.getElem?_set_self (List.getElem?_eq_some_iff.mp h).1, h]
  · rw [List.getElem?_set_ne (fun z => e z.symm)]
section NRows
variable {p : Program} {l : Launch} {e : Env} {R : Room} {s : State} {m : MethodId} {args : Array Value} {below : List Frame} {meth : Method} {c : Code} {H : Heap} {locs : List Loc} {cells slots : Nat} {Q : State → Prop} {own : String} {cc : ByteArray} {nL pc : Nat} {D : va_G} {cA : Nat → ClassId} {A : Nat → Prop} {ls : Array Slot} {rest : List Value} {ws0 news : va_W} {j a ci : Nat} {fs : List Value}
theorem n_putF {k index N : Nat} {C : String} {T : u_T} {ty0 : Nat → FieldType} {v : Value} {ty : FieldType} (X : NC p s m args meth c own cc nL D cA A) (S : NS D A s (ws0.set j (a, .inr (ci, fs)) ++ news) H locs) (hj : j < ws0.length) (hC : ClOk ci C T N ty0) (hk : k < N) (hl : Cond.fieldLink own index (T k).1 (T k).2.1 (T k).2.2.1 ∈ gt) (hfin : (T k).2.2.2 = true) (hdecl : (T k).1 = own) (hd : parseFieldDescriptor (T k).2.2.1 = some ty) (hn : narrow ty v = v) (hfit : fits ty v = true) (hlen : k < fs.length) (hdg : decode cc pc = .ok (.putfield index, 3)) (kk : ∀ (H1 : Heap) (locs1 : List Loc), NS D A s (ws0.set j (a, .inr (ci, fs.set k v)) ++ news) H1 locs1 → W p l e R s m args below meth c H1 locs1 cells slots Q (F0 m (pc + 3) ls rest)) : W p l e R s m args below meth c H locs cells slots Q (F0 m pc ls (v :: .ref a :: rest)) := by
  obtain ⟨hx, hb, hml, hown, hts, hin, hK, hA, -⟩ := X
  obtain ⟨c1, c2, c3, c4, c5⟩ := hC
  refine va_putF hx hb hts c3 ty0 c4 c5 hown hK S.1 S.2.1 S.2.2 j (wj_at hj) c1 k hk (hts _ hl) (fun _ h => h) hfin hin hdecl hd hn hfit hlen hdg (fun H1 locs1 h1 h2 h3 => kk H1 locs1 ⟨?_, ?_, h3⟩)
  · rw [wj_set hj] at h1; exact h1
  · rw [wj_set hj] at h2; exact h2
theorem n_put {k index N : Nat} {C : String} {T : u_T} {ty0 : Nat → FieldType} {v : Value} {ty : FieldType} (X : NC p s m args meth c own cc nL D cA A) (S : NS D A s (ws0.set j (a, .inr (ci, fs)) ++ news) H locs) (hj : j < ws0.length) (hC : ClOk ci C T N ty0) (hk : k < N) (hl : Cond.fieldLink own index (T k).1 (T k).2.1 (T k).2.2.1 ∈ gt) (hfin : (T k).2.2.2 = false) (hd : parseFieldDescriptor (T k).2.2.1 = some ty) (hn : narrow ty v = v) (hfit : fits ty v = true) (hlen : k < fs.length) (hdg : decode cc pc = .ok (.putfield index, 3)) (kk : ∀ (H1 : Heap) (locs1 : List Loc), NS D A s (ws0.set j (a, .inr (ci, fs.set k v)) ++ news) H1 locs1 → W p l e R s m args below meth c H1 locs1 cells slots Q (F0 m (pc + 3) ls rest)) : W p l e R s m args below meth c H locs cells slots Q (F0 m pc ls (v :: .ref a :: rest)) := by
  obtain ⟨hx, hb, hml, hown, hts, hin, hK, hA, -⟩ := X
  obtain ⟨c1, c2, c3, c4, c5⟩ := hC
  refine va_put hx hb hts c3 ty0 c4 c5 hown hK S.1 S.2.1 S.2.2 j (wj_at hj) c1 k hk (hts _ hl) (fun _ h => h) hfin hd hn hfit hlen hdg (fun H1 locs1 h1 h2 h3 => kk H1 locs1 ⟨?_, ?_, h3⟩)
  · rw [wj_set hj] at h1; exact h1
  · rw [wj_set hj] at h2; exact h2
theorem cA_eq {cA' : ClassId} {ty : FieldType} {k : Nat} (hK : va_K D vwCl (tysL cA) s) (hK' : va_K D vwCl (tysL cA ++ [(cA', ty)]) s) (hk : (tysL cA)[k]? = some (cA (k + 1), ty)) (hty : ∀ C, ty ≠ .object C) : cA' = cA (k + 1) := by
  have h1 := (hK.2 k _ hk).2
  have h2 := (hK'.2 5 (cA', ty) rfl).2
  unfold va_RA at h1 h2
  cases ty with
  | object C => exact absurd rfl (hty C)
  | _ => exact Option.some.inj (h2.symm.trans h1)
theorem n_newa {atype : ArrayType} {ty : FieldType} {k : Nat} {n : Int32} {N' : Nat} {a0 : vp_A} (X : NC p s m args meth c own cc nL D cA A) (S : NS D A s (ws0.set j (a, .inr (ci, fs)) ++ news) H locs) (harr : Cond.arrayClass (newarray.typeOf atype) ∈ gt) (hty : newarray.typeOf atype = ty) (hk : (tysL cA)[k]? = some (cA (k + 1), ty)) (hto : ∀ C, ty ≠ .object C) (ha : ∀ cA : ClassId, vp_cell cA a0 = arrV cA N' (fun _ => defaultValue ty)) (hn : ¬ n < 0) (hN : n.toNatClampNeg = N') (hbytes : N' * componentBytes ty ≤ 536870912) (hcells : cells + 1 ≤ R.cells) (hslots : slots + N' ≤ R.slots) (hdg : decode cc pc = .ok (.newarray atype, 2))
    (kk : ∀ (q : Nat) (H1 : Heap), NS D A s (ws0.set j (a, .inr (ci, fs)) ++ (news ++ [(q, .inl (cA (k + 1), a0))])) H1 locs → W p l e R s m args below meth c H1 locs (cells + 1) (slots + N') Q (F0 m (pc + 2) ls (.ref q :: rest))) : W p l e R s m args below meth c H locs cells slots Q (F0 m pc ls (.int n :: rest)) := by
  obtain ⟨hx, hb, hml, hown, hts, hin, hK, hA, -⟩ := X
  refine va_newa (atype := atype) hx hb (hts _ harr) hty hK S.1 S.2.1 S.2.2 hA ha hn hN hbytes hcells hslots hdg (fun q cA' H1 hK' h1 h2 h3 => ?_)
  have e := cA_eq hK hK' hk hto
  subst e
  rw [List.append_assoc] at h1 h2
  exact kk q H1 ⟨h1, h2, h3⟩
theorem n_new {index N ci' : Nat} {C : String} {T : u_T} {ty0 : Nat → FieldType} {fs' : List Value} (X : NC p s m args meth c own cc nL D cA A) (S : NS D A s (ws0.set j (a, .inr (ci, fs)) ++ news) H locs) (hC : ClOk ci' C T N ty0) (hcl : Cond.classLink own index C ∈ gt) (hinst : Cond.instantiable C N ∈ gt) (hini : Cond.initialized C ∈ gt) (hfs : ∀ j, j < N → defaultValue (ty0 j) = vp_V fs' j) (hcells : cells + 1 ≤ R.cells) (hslots : slots + N ≤ R.slots) (hdg : decode cc pc = .ok (.new index, 3))
    (kk : ∀ (q : Nat) (H1 : Heap), NS D A s (ws0.set j (a, .inr (ci, fs)) ++ (news ++ [(q, .inr (ci', fs'))])) H1 locs → W p l e R s m args below meth c H1 locs (cells + 1) (slots + N) Q (F0 m (pc + 3) ls (.ref q :: rest))) : W p l e R s m args below meth c H locs cells slots Q (F0 m pc ls rest) := by
  obtain ⟨hx, hb, hml, hown, hts, hin, hK, hA, -⟩ := X
  obtain ⟨c1, c2, c3, c4, c5⟩ := hC
  refine va_new hx hb hts c3 ty0 c4 hown (hts _ hcl) (hts _ hinst) (hts _ hini) hK S.1 S.2.1 S.2.2 hA c1 hfs hcells hslots hdg (fun q H1 h1 h2 h3 => ?_)
  rw [List.append_assoc] at h1 h2
  exact kk q H1 ⟨h1, h2, h3⟩
theorem n_obj {index : Nat} {b : Nat} (X : NC p s m args meth c own cc nL D cA A) (hls : ls.size = nL) (h1 : Cond.methodLink own index Lib.objectInit ∈ gt) (h2 : Cond.instanceMethod Lib.objectInit ∈ gt) (h3 : Cond.code Lib.objectInit ⟨#[0xb1]⟩ 1 none ∈ gt) (hf : 1 ≤ R.frames) (hlo : 12 ≤ R.locals) (hdg : decode cc pc = .ok (.invokespecial index, 3)) (kk : W p l e R s m args below meth c H locs cells slots Q (F0 m (pc + 3) ls [])) : W p l e R s m args below meth c H locs cells slots Q (F0 m pc ls [.ref b]) := by
  obtain ⟨hx, hb, hml, hown, hts, hin, hK, hA, -⟩ := X
  exact W.objInit hx hb hown (hts _ h1) (hts _ h2) (hts _ h3) rfl (by rw [hml]; exact hls) rfl hdg hf hlo kk
end NRows
theorem AOA_moved {u U : State} (hvm : u.vm.Alike U.vm) (h : va_AOA .int u) : va_AOA .int U := by
  unfold va_AOA Cond.before Cond.holds at *
  simp only [Cond.value] at *
  rw [beq_iff_eq] at *
  cases h1 : u.vm.findClass (FieldType.array .int).toString with
  | none => rw [h1] at h; cases h
  | some comp =>
    rw [h1] at h
    simp only [Option.bind_some, Option.bind_eq_some_iff, Option.map_eq_some_iff] at h
    obtain ⟨c, hi, k, hk, hb⟩ := h
    obtain ⟨k', hk', he⟩ := hvm.2.2 _ _ hk
    have f1 : U.vm.findClass (FieldType.array .int).toString = some comp := by rw [hvm.findClass]; exact h1
    have e1 := va_idx_bare U.vm comp
    have e2 := va_idx_bare u.vm comp
    first | rw [← hvm.bare_eq] at e1 | rw [hvm.bare_eq] at e1
    have hi' := e1.symm.trans (e2.trans hi)
    rw [f1]
    simp only [Option.bind_some, Option.bind_eq_some_iff, Option.map_eq_some_iff]
    refine ⟨c, hi', k', hk', ?_⟩
    rw [he, hvm.findClass]
    exact hb
theorem NWs_warm {s U : State} (hN : NWs s) (hW : s.WarmedH U.vm) : NWs U := fun w hw => by
  have h9 := hN w hw
  have hf := (List.mem_filter.mp hw).2
  cases w with
  | fieldLinkNest a i b n d h => exact va_Nw.warmF hW h9
  | methodLinkNest a i x h => exact va_Nw.warmM hW h9
  | _ => cases hf
/-- a constructor: what it makes of the object, what it makes beside it -/
def Ctor (y : MethodName) (bytes : ByteArray) (maxL fr lo mc ms ci : Nat) (dfl : List Value) (na : Nat) (F : (Nat → ClassId) → List Nat → (Nat → Nat) → List Value × va_W) : Prop :=
  ∀ (l : Launch) (D : va_G) (cA : Nat → ClassId) (A : Nat → Prop) (ws0 : va_W) (j a sz : Nat) (av : List Nat), av.length = na → ws0[j]? = some (a, .inr (ci, dfl)) → (∀ q, sz ≤ q → A q) →
    Met l y (Cond.code y bytes maxL none :: gt) { frames := fr, cells := mc, slots := ms, locals := lo } (va_Pc (.ref a :: av.map Value.ref) (fun U => U.heap.size = sz ∧ va_P D vwCl ws0 U.heap ∧ va_K D vwCl (tysL cA) U ∧ va_D A ws0 ∧ NWs U ∧ va_AOA .int U ∧ TE A U)) (va_Qv (fun _ : Nat → Nat => True) (fun u t => va_P D vwCl (ws0.set j (a, .inr (ci, (F cA av u).1)) ++ (F cA av u).2) t.heap ∧ va_K D vwCl (tysL cA) t ∧ va_D A (ws0.set j (a, .inr (ci, (F cA av u).1)) ++ (F cA av u).2)) A) mc ms A
set_option maxHeartbeats 4000000 in
set_option maxRecDepth 20000 in
theorem Ctor_mk {y : MethodName} {bytes : ByteArray} {maxL fr lo mc ms ci : Nat} {dfl : List Value} {na : Nat} {F : (Nat → ClassId) → List Nat → (Nat → Nat) → List Value × va_W} (hy : plainName y.cls = true) (hin : y.name = "<init>") (hn : na + 1 ≤ maxL)
    (body : ∀ (p : Program) (l : Launch) (e : Env) (s : State) (m : MethodId) (args : Array Value) (below : List Frame) (meth : Method) (c : Code) (D : va_G) (cA : Nat → ClassId) (A : Nat → Prop) (ws0 : va_W) (j a : Nat) (av : List Nat) (ls : Array Slot), NC p s m args meth c y.cls bytes maxL D cA A → j < ws0.length → av.length = na → NS D A s (ws0.set j (a, .inr (ci, dfl)) ++ []) s.heap [] → lv_has ls maxL (lv_args 0 (.ref a :: av.map Value.ref)) →
      (∀ (H : Heap) (locs : List Loc) (ls : Array Slot) (pc : Nat) (u : Nat → Nat), NS D A s (ws0.set j (a, .inr (ci, (F cA av u).1)) ++ (F cA av u).2) H locs → decode bytes pc = .ok (.return_, 1) → W p l e { frames := fr, cells := mc, slots := ms, locals := lo } s m args below meth c H locs mc ms (MQ below (va_Qv (fun _ : Nat → Nat => True) (fun u t => va_P D vwCl (ws0.set j (a, .inr (ci, (F cA av u).1)) ++ (F cA av u).2) t.heap ∧ va_K D vwCl (tysL cA) t ∧ va_D A (ws0.set j (a, .inr (ci, (F cA av u).1)) ++ (F cA av u).2)) A) args s mc ms A) (F0 m pc ls [])) →
      W p l e { frames := fr, cells := mc, slots := ms, locals := lo } s m args below meth c s.heap [] 0 0 (MQ below (va_Qv (fun _ : Nat → Nat => True) (fun u t => va_P D vwCl (ws0.set j (a, .inr (ci, (F cA av u).1)) ++ (F cA av u).2) t.heap ∧ va_K D vwCl (tysL cA) t ∧ va_D A (ws0.set j (a, .inr (ci, (F cA av u).1)) ++ (F cA av u).2)) A) args s mc ms A) (F0 m 0 ls [])) : Ctor y bytes maxL fr lo mc ms ci dfl na F := by
  intro l D cA A ws0 j a sz av hav hj hA
  refine Met.ofW (cc := bytes) (maxL := maxL) (ret := none) hy rfl ?_
  intro p e s m args below meth c s₁ B hml hv
  obtain ⟨rfl, hsz, hP, hK, hD, hNW, hAO, hTE⟩ := hv
  subst hsz
  have hts := atoms_spec (ws := Cond.code y bytes maxL none :: gt) B.pre
  have hown : s.vm.findClass y.cls = some m.cls := findClass_of_methodNamed B.named
  have hnm : meth.name = "<init>" := by rw [← hin]; exact (name_of_methodNamed B.named B.method).1
  have X : NC p s m (.ref a :: av.map Value.ref).toArray meth c y.cls bytes maxL D cA A := ⟨B.exec, B.bytes, hml, hown, fun w hw => hts w (List.mem_cons_of_mem _ hw), hnm, hK, hA, B.returns, B.notSynchronized, hNW, hAO, hTE⟩
  have hlen : (lg_sl (.ref a :: av.map Value.ref)).length ≤ maxL := by
    have : ∀ L : List Nat, (lg_sl (L.map Value.ref)).length = L.length := fun L => by
      induction L with
      | nil => rfl
      | cons q L ih =>
        unfold lg_sl at ih ⊢
        rw [List.map_cons, List.flatMap_cons, List.length_append, ih, List.length_cons]
        exact Nat.add_comm _ _
    have h2 := this (a :: av)
    rw [List.map_cons] at h2
    rw [h2, List.length_cons, hav]
    exact hn
  have hl := lv_entry (.ref a :: av.map Value.ref) (n := maxL) hlen
  rw [lg_entry_eq]
  refine body p l e s m _ below meth c D cA A ws0 j a av _ X (List.getElem?_eq_some_iff.mp hj).1 hav ⟨by rw [wj_id hj]; exact hP, by rw [wj_id hj]; exact hD, va_S.rf⟩ hl (fun H locs ls pc u S hd => ?_)
  exact W.vret B.exec B.bytes B.returns (fun t ht hW => ⟨⟨u, rfl, trivial, by rw [ht]; exact S.1, va_K.moved hW.alike hK, S.2.1⟩, S.2.2.F ht⟩) S.2.2.2.2 hd B.notSynchronized
section NRows2
variable {p : Program} {l : Launch} {e : Env} {R : Room} {s : State} {m : MethodId} {args : Array Value} {below : List Frame} {meth : Method} {c : Code} {H : Heap} {locs : List Loc} {cells slots : Nat} {Q : State → Prop} {own : String} {cc : ByteArray} {nL pc : Nat} {D : va_G} {cA : Nat → ClassId} {A : Nat → Prop} {ls : Array Slot} {rest : List Value} {ws0 news : va_W} {j a ci : Nat} {fs : List Value}
set_option maxHeartbeats 4000000 in
set_option maxRecDepth 20000 in
theorem n_init {y : MethodName} {bytes : ByteArray} {maxL fr lo mc ms ci' : Nat} {dfl : List Value} {na index i q : Nat} {F : (Nat → ClassId) → List Nat → (Nat → Nat) → List Value × va_W} {av : List Nat} {st : List Value} (X : NC p s m args meth c own cc nL D cA A) (S : NS D A s (ws0.set j (a, .inr (ci, fs)) ++ news) H locs) (hls : ls.size = nL) (hc : Ctor y bytes maxL fr lo mc ms ci' dfl na F) (hav : av.length = na) (hi : news[i]? = some (q, .inr (ci', dfl))) (w1 : Cond.code y bytes maxL none ∈ gt) (w2 : Cond.initialized y.cls ∈ gt) (w3 : Cond.methodLink own index y ∈ gt) (w4 : Cond.instanceMethod y ∈ gt) (hy : y.name = "<init>") (hd : y.cls ≠ "java/lang/invoke/MethodHandle" ∧ y.cls ≠ "java/lang/invoke/VarHandle" ∧ (parseMethodDescriptor y.desc).map (fun d => d.parameters.length) = some na) (hroom : fr + 1 ≤ R.frames ∧ 8 + (maxL + 11) + lo ≤ R.locals) (hst : st = (av.map Value.ref).reverse ++ .ref q :: rest) (hcat : (rest.map fun v => v.category).sum ≤ 8) (hdg : decode cc pc = .ok (.invokespecial index, 3)) (hcs : cells + mc ≤ R.cells ∧ slots + ms ≤ R.slots)
    (kk : ∀ (u : Nat → Nat) (H1 : Heap) (locs1 : List Loc), NS D A s (ws0.set j (a, .inr (ci, fs)) ++ (news.set i (q, .inr (ci', (F cA av u).1)) ++ (F cA av u).2)) H1 locs1 → W p l e R s m args below meth c H1 locs1 (cells + mc) (slots + ms) Q (F0 m (pc + 3) ls rest)) : W p l e R s m args below meth c H locs cells slots Q (F0 m pc ls st) := by
  obtain ⟨hx, hb, hml, hown, hts, hin, hK, hA, -, -, hNW, hAO, hTE⟩ := X
  subst hst
  have hM := hc l D cA A (ws0.set j (a, .inr (ci, fs)) ++ news) (ws0.length + i) q H.size av hav (by rw [wj_new]; exact hi) (fun z hz => hA z (Nat.le_trans S.2.2.1 hz))
  refine va_callv (va_runI (As := av.map Value.ref) (rest := rest) ⟨hx, hb, hml, hown, hts⟩ hM (cwI na hts (good_in w1) rfl rfl rfl (hts _ w2) (hts _ w3) (hts _ w4) hy hd hroom) ⟨fun a' U g mk z => ?_, fun U hU hW => ⟨rfl, by rw [hU], by rw [hU]; exact S.1, va_K.moved hW.alike hK, S.2.1, NWs_warm hNW hW, AOA_moved hW.alike hAO, hTE.at S.2.2 hU hW⟩⟩ rfl (by rw [List.length_map]; exact hav) hls rfl (lv_room hcat) hdg hcs) S.2.2 (fun z _ h => h) (fun z h => h) (fun u t H1 locs1 ht hvm _ hB hz1 hk1 hS1 => ?_)
  · obtain ⟨z0, z1, z2, z3, z4, z5, z6, z7⟩ := z
    exact ⟨z0, z1, z2, va_K.moved (u := U) (U := U.calling g mk a') (Vm.Alike.refl U.vm) z3, z4, fun w hw => va_Nw.same (u := U) (U := U.calling g mk a') (by
      have hf := (List.mem_filter.mp hw).2
      cases w <;> first | rfl | cases hf) rfl (z5 w hw), AOA_moved (u := U) (U := U.calling g mk a') (Vm.Alike.refl U.vm) z6, z7.blind⟩
  · obtain ⟨hB1, -, hB3⟩ := hB
    rw [ht] at hB1
    rw [wj_nset] at hB1 hB3
    exact kk u H1 locs1 ⟨hB1, hB3, hS1⟩
set_option maxHeartbeats 4000000 in
set_option maxRecDepth 20000 in
theorem n_initN {y : MethodName} {bytes : ByteArray} {maxL fr lo mc ms ci' : Nat} {dfl : List Value} {na index i q : Nat} {F : (Nat → ClassId) → List Nat → (Nat → Nat) → List Value × va_W} {av : List Nat} {st : List Value} (X : NC p s m args meth c own cc nL D cA A) (S : NS D A s (ws0.set j (a, .inr (ci, fs)) ++ news) H locs) (hls : ls.size = nL) (hc : Ctor y bytes maxL fr lo mc ms ci' dfl na F) (hav : av.length = na) (hi : news[i]? = some (q, .inr (ci', dfl))) (w1 : Cond.code y bytes maxL none ∈ gt) (w2 : Cond.initialized y.cls ∈ gt) (w3 : Cond.methodLinkNest own index y "ShaderReady" ∈ nestW) (w4 : Cond.instanceMethod y ∈ gt) (hy : y.name = "<init>") (hd : y.cls ≠ "java/lang/invoke/MethodHandle" ∧ y.cls ≠ "java/lang/invoke/VarHandle" ∧ (parseMethodDescriptor y.desc).map (fun d => d.parameters.length) = some na) (hroom : fr + 1 ≤ R.frames ∧ 8 + (maxL + 11) + lo ≤ R.locals) (hst : st = (av.map Value.ref).reverse ++ .ref q :: rest) (hcat : (rest.map fun v => v.category).sum ≤ 8) (hdg : decode cc pc = .ok (.invokespecial index, 3)) (hcs : cells + mc ≤ R.cells ∧ slots + ms ≤ R.slots)
    (kk : ∀ (u : Nat → Nat) (H1 : Heap) (locs1 : List Loc), NS D A s (ws0.set j (a, .inr (ci, fs)) ++ (news.set i (q, .inr (ci', (F cA av u).1)) ++ (F cA av u).2)) H1 locs1 → W p l e R s m args below meth c H1 locs1 (cells + mc) (slots + ms) Q (F0 m (pc + 3) ls rest)) : W p l e R s m args below meth c H locs cells slots Q (F0 m pc ls st) := by
  obtain ⟨hx, hb, hml, hown, hts, hin, hK, hA, -, -, hNW, hAO, hTE⟩ := X
  subst hst
  have hM := hc l D cA A (ws0.set j (a, .inr (ci, fs)) ++ news) (ws0.length + i) q H.size av hav (by rw [wj_new]; exact hi) (fun z hz => hA z (Nat.le_trans S.2.2.1 hz))
  refine va_callv (va_runIN (host := "ShaderReady") (As := av.map Value.ref) (rest := rest) ⟨hx, hb, hml, hown, hts⟩ hM ⟨va_cnB na hts (good_in w1) rfl rfl rfl (hNW _ w3) (hts _ w2) hd hroom, hy, hts _ w4⟩ ⟨fun a' U g mk z => ?_, fun U hU hW => ⟨rfl, by rw [hU], by rw [hU]; exact S.1, va_K.moved hW.alike hK, S.2.1, NWs_warm hNW hW, AOA_moved hW.alike hAO, hTE.at S.2.2 hU hW⟩⟩ rfl (by rw [List.length_map]; exact hav) hls rfl (lv_room hcat) hdg hcs) S.2.2 (fun z _ h => h) (fun z h => h) (fun u t H1 locs1 ht hvm _ hB hz1 hk1 hS1 => ?_)
  · obtain ⟨z0, z1, z2, z3, z4, z5, z6, z7⟩ := z
    exact ⟨z0, z1, z2, va_K.moved (u := U) (U := U.calling g mk a') (Vm.Alike.refl U.vm) z3, z4, fun w hw => va_Nw.same (u := U) (U := U.calling g mk a') (by
      have hf := (List.mem_filter.mp hw).2
      cases w <;> first | rfl | cases hf) rfl (z5 w hw), AOA_moved (u := U) (U := U.calling g mk a') (Vm.Alike.refl U.vm) z6, z7.blind⟩
  · obtain ⟨hB1, -, hB3⟩ := hB
    rw [ht] at hB1
    rw [wj_nset] at hB1 hB3
    exact kk u H1 locs1 ⟨hB1, hB3, hS1⟩
theorem n_get {k index N : Nat} {C : String} {T : u_T} {ty0 : Nat → FieldType} {v : Value} (X : NC p s m args meth c own cc nL D cA A) (S : NS D A s (ws0.set j (a, .inr (ci, fs)) ++ news) H locs) (hj : j < ws0.length) (hC : ClOk ci C T N ty0) (hk : k < N) (hl : Cond.fieldLink own index (T k).1 (T k).2.1 (T k).2.2.1 ∈ gt) (hv : fs[k]? = some v) (hdg : decode cc pc = .ok (.getfield index, 3)) (kk : W p l e R s m args below meth c H locs cells slots Q (F0 m (pc + 3) ls (v :: rest))) : W p l e R s m args below meth c H locs cells slots Q (F0 m pc ls (.ref a :: rest)) := by
  obtain ⟨hx, hb, hml, hown, hts, hin, hK, hA, -⟩ := X
  obtain ⟨c1, c2, c3, c4, c5⟩ := hC
  exact va_get hx hb hts c3 hown hK S.1 j (wj_at hj) c1 k hk (hts _ hl) (fun _ h => h) hv hdg kk
set_option maxHeartbeats 4000000 in
set_option maxRecDepth 20000 in
theorem n_mna {index : Nat} {n k : Int32} {N' K' : Nat} (X : NC p s m args meth c own cc nL D cA A) (S : NS D A s (ws0.set j (a, .inr (ci, fs)) ++ news) H locs) (hcl : Cond.classLink own index "[[I" ∈ gt) (harr : Cond.arrayClass .int ∈ gt) (hn : ¬ n < 0) (hk : ¬ k < 0) (hN : n.toNatClampNeg = N') (hM : k.toNatClampNeg = K') (hb1 : N' * 4 ≤ 536870912) (hb2 : K' * componentBytes .int ≤ 536870912) (hb3 : K' ≤ 536870912) (hcells : cells + (1 + N') ≤ R.cells) (hslots : slots + (N' + N' * K') ≤ R.slots) (hdg : decode cc pc = .ok (.multianewarray index 2, 4))
    (kk : ∀ (q : Nat) (r : Nat → Nat) (H1 : Heap), NS D A s (ws0.set j (a, .inr (ci, fs)) ++ (news ++ ((q, .inl (cA 5, N', .inr (.inr (.inr (.inr (fun i => ((List.range N').map r)[i]?)))))) :: (List.range N').map (fun i => (r i, .inl (cA 1, K', .inl (fun _ => 0))))))) H1 locs → W p l e R s m args below meth c H1 locs (cells + 1 + N') (slots + N' + N' * K') Q (F0 m (pc + 4) ls (.ref q :: rest))) : W p l e R s m args below meth c H locs cells slots Q (F0 m pc ls (.int k :: .int n :: rest)) := by
  obtain ⟨hx, hb, hml, hown, hts, hin, hK, hA, -, -, -, hAO, -⟩ := X
  have hfc : s.vm.findClass (FieldType.array .int).toString = some (cA 1) := (hK.2 0 (cA 1, .int) rfl).2
  have hP0 : va_P D vwCl ((ws0.set j (a, .inr (ci, fs)) ++ news) ++ va_pl [] (fun _ => .inl (cA 1, 0, .inl (fun _ => 0)))) H := by
    show va_P D vwCl ((ws0.set j (a, .inr (ci, fs)) ++ news) ++ []) H
    rw [List.append_nil]; exact S.1
  have hD0 : va_D A ((ws0.set j (a, .inr (ci, fs)) ++ news) ++ va_pl [] (fun _ => .inl (cA 1, 0, .inl (fun _ => 0)))) := by
    show va_D A ((ws0.set j (a, .inr (ci, fs)) ++ news) ++ [])
    rw [List.append_nil]; exact S.2.1
  refine va_mna (ty := .int) (cy := cA 1) (z := (K', .inl (fun _ => 0))) hx hb hown (hts _ hcl) hAO (hts _ harr) hfc hK hP0 hD0 S.2.2 hA hn hk hN hM hb1 hb2 hb3 rfl rfl hcells hslots (fun c => ?_) hdg (fun q r cA' H1 hr1 hr2 hK' h1 h2 h3 => ?_)
  · show Jvm.Free.Multi.innerC c K' (.int 0) = arrV c K' (fun _ => .int 0)
    rw [← arrV_new]
    rfl
  · have e : cA' = cA 5 := cA_eq (k := 4) hK hK' rfl (fun C z => by cases z)
    subst e
    have er : va_pl ([] ++ (List.range N').map r) (vr_up (fun _ => .inl (cA 1, 0, .inl (fun _ => 0))) ((List.range N').map r) (.inl (cA 1, K', .inl (fun _ => 0)))) = (List.range N').map (fun i => ((r i, .inl (cA 1, K', .inl (fun _ => 0))) : Nat × va_E)) := by
      unfold va_pl
      rw [List.nil_append, List.map_map]
      apply List.map_congr_left
      intro i hi
      show (r i, vr_up _ _ _ (r i)) = _
      rw [vr_up_in (List.mem_map.mpr ⟨i, hi, rfl⟩)]
    have ef : (fun i => if i < N' then some (r i) else none) = (fun i => ((List.range N').map r)[i]?) := by
      funext i
      rw [List.getElem?_map]
      by_cases z : i < N'
      · rw [if_pos z, List.getElem?_range z]; rfl
      · rw [if_neg z, List.getElem?_eq_none (by rw [List.length_range]; omega)]; rfl
    rw [er, ef, List.append_assoc, List.append_assoc] at h1 h2
    exact kk q r H1 ⟨h1, h2, h3⟩
end NRows2
