/-! CALLS: a method's contract (Cn) out of its body's rows, and its use at a call. -/
def Cn (y : MethodName) (bytes : ByteArray) (maxL : Nat) (ret : Option FieldType) (fr lo : Nat) (av : List Vl) (M : Mem) (o : Option (Option Vl × Mem)) : Prop :=
  ∀ (l : Launch) (D : va_G) (cA : Nat → ClassId) (ad : Nat → Nat), injA ad → okM M → okS av → ∀ r, o = some r →
    Met l y (Cond.code y bytes maxL ret :: gt) { frames := fr, cells := 0, slots := 0, locals := lo } (va_Pc (av.map (toV ad)) (World D cA ad M)) (Post D cA ad r) 0 0 (Fr ad)
def entL : List Vl → Nat → List (Option Vl)
  | [], n => List.replicate n none
  | .inr (.inl x) :: vs, n => some (.inr (.inl x)) :: none :: entL vs (n - 2)
  | v :: vs, n => some v :: entL vs (n - 1)
theorem entL_mem {ad : Nat → Nat} : ∀ (av : List Vl) (n j i : Nat) (v : Vl), (entL av n)[i]? = some (some v) → (j + i, toV ad v) ∈ lv_args j (av.map (toV ad)) ∧ v ∈ av
  | [], n, j, i, v, h => by
    exfalso
    unfold entL at h
    rw [List.getElem?_replicate] at h
    split at h <;> cases h
  | .inl x :: vs, n, j, i, v, h => by
    cases i with
    | zero =>
      cases h
      exact ⟨List.mem_cons_self, List.mem_cons_self⟩
    | succ i =>
      have := entL_mem (ad := ad) vs (n - 1) (j + 1) i v h
      refine ⟨List.mem_cons_of_mem _ ?_, List.mem_cons_of_mem _ this.2⟩
      rw [show j + (i + 1) = j + 1 + i by omega]
      exact this.1
  | .inr (.inl x) :: vs, n, j, i, v, h => by
    cases i with
    | zero =>
      cases h
      exact ⟨List.mem_cons_self, List.mem_cons_self⟩
    | succ i =>
      cases i with
      | zero => cases h
      | succ i =>
        have := entL_mem (ad := ad) vs (n - 2) (j + 2) i v h
        refine ⟨List.mem_cons_of_mem _ ?_, List.mem_cons_of_mem _ this.2⟩
        rw [show j + (i + 1 + 1) = j + 2 + i by omega]
        exact this.1
  | .inr (.inr x) :: vs, n, j, i, v, h => by
    cases i with
    | zero =>
      cases h
      exact ⟨List.mem_cons_self, List.mem_cons_self⟩
    | succ i =>
      have := entL_mem (ad := ad) vs (n - 1) (j + 1) i v h
      refine ⟨List.mem_cons_of_mem _ ?_, List.mem_cons_of_mem _ this.2⟩
      rw [show j + (i + 1) = j + 1 + i by omega]
      exact this.1
def szL : List Vl → Nat
  | [] => 0
  | .inr (.inl _) :: vs => szL vs + 2
  | _ :: vs => szL vs + 1
theorem szL_ok {ad : Nat → Nat} : ∀ av : List Vl, (lg_sl (av.map (toV ad))).length = szL av
  | [] => rfl
  | .inl x :: vs => by
    have := szL_ok (ad := ad) vs
    unfold lg_sl at this ⊢
    rw [List.map_cons, List.flatMap_cons, List.length_append, this]
    exact Nat.add_comm _ _
  | .inr (.inl x) :: vs => by
    have := szL_ok (ad := ad) vs
    unfold lg_sl at this ⊢
    rw [List.map_cons, List.flatMap_cons, List.length_append, this]
    exact Nat.add_comm _ _
  | .inr (.inr x) :: vs => by
    have := szL_ok (ad := ad) vs
    unfold lg_sl at this ⊢
    rw [List.map_cons, List.flatMap_cons, List.length_append, this]
    exact Nat.add_comm _ _
/-- a contract out of the rows of the body -/
theorem Cn_mk {y : MethodName} {bytes : ByteArray} {maxL : Nat} {ret : Option FieldType} {fr lo : Nat} {av : List Vl} {M : Mem} {β : Type} {o : Option β} {out : β → Option Vl × Mem} {own : String} (ho : y.cls = own) (hy : plainName y.cls = true) (hn : szL av ≤ maxL) (al : List (Option Vl)) (hal : entL av maxL = al)
    (body : ∀ G, Cx G own bytes ret fr lo → gnl G = maxL → Rf G 0 al [] M o (fun q => some (out q))) : Cn y bytes maxL ret fr lo av M (o.map out) := by
  intro l D cA ad hinj hM hav r hr
  subst hal
  subst ho
  refine Met.ofW (cc := bytes) (maxL := maxL) (ret := ret) hy rfl ?_
  intro p e s m args below meth c s₁ B hml hv
  obtain ⟨rfl, hP, hK, hNW⟩ := hv
  have hts := atoms_spec (ws := Cond.code y bytes maxL ret :: gt) B.pre
  have hown : s.vm.findClass y.cls = some m.cls := findClass_of_methodNamed B.named
  have C : Cx (p, l, e, { frames := fr, cells := 0, slots := 0, locals := lo }, s, m, (av.map (toV ad)).toArray, below, meth, c, D, cA, ad, maxL) y.cls bytes ret fr lo :=
    ⟨B.exec, B.bytes, hml, hown, fun w hw => hts w (List.mem_cons_of_mem _ hw), B.returns, B.notSynchronized, hK, hNW, hinj, rfl, rfl⟩
  have hb := body _ C rfl r (by
    cases o with
    | none => cases hr
    | some q => exact hr)
  have hl := lv_entry (av.map (toV ad)) (n := maxL) (by rw [szL_ok]; exact hn)
  rw [lg_entry_eq]
  refine hb s.heap [] _ ⟨hM, trivial, fun i v h => okS_of hav v (entL_mem (ad := ad) av maxL 0 i v h).2, ⟨hl.1, hl.2.1, fun i v h => ?_⟩, hP, va_S.rf⟩
  have := hl.2.2 _ (entL_mem (ad := ad) av maxL 0 i v h).1
  simpa using this
theorem gt_good : ∀ w ∈ gt, (w.onTables && w.keeps) = true ∨ ∃ ty, w = .arrayClass ty := fun w hw => good_of_word (List.mem_filter.mp hw).2
theorem good_in {y : MethodName} {bytes : ByteArray} {maxL : Nat} {ret : Option FieldType} (hc : Cond.code y bytes maxL ret ∈ gt) : GoodIn gt (Cond.code y bytes maxL ret :: gt) := fun w hw => by
  rcases List.mem_cons.mp hw with rfl | h
  · exact ⟨hc, gt_good _ hc⟩
  · exact ⟨h, gt_good _ h⟩
/-- the words of a call by an object: link, method, choice, class, code -/
def LkV (own : String) (index : Nat) (y : MethodName) (bytes : ByteArray) (maxL : Nat) (rt : Option FieldType) (n : Nat) : Prop :=
  Cond.methodLink own index y ∈ gt ∧ Cond.instanceMethod y ∈ gt ∧ Cond.selects y.cls y y ∈ gt ∧ Cond.initialized y.cls ∈ gt ∧ Cond.code y bytes maxL rt ∈ gt ∧ y.cls ≠ "java/lang/invoke/MethodHandle" ∧ y.cls ≠ "java/lang/invoke/VarHandle" ∧ (parseMethodDescriptor y.desc).map (fun d => d.parameters.length) = some n
def LkS (own : String) (index : Nat) (y : MethodName) (bytes : ByteArray) (maxL : Nat) (rt : Option FieldType) (n : Nat) : Prop :=
  Cond.methodLink own index y ∈ gt ∧ Cond.static y ∈ gt ∧ Cond.initialized y.cls ∈ gt ∧ Cond.code y bytes maxL rt ∈ gt ∧ y.cls ≠ "java/lang/invoke/MethodHandle" ∧ y.cls ≠ "java/lang/invoke/VarHandle" ∧ (parseMethodDescriptor y.desc).map (fun d => d.parameters.length) = some n
def LkN (own : String) (index : Nat) (y : MethodName) (host : String) (bytes : ByteArray) (maxL : Nat) (rt : Option FieldType) (n : Nat) : Prop :=
  Cond.methodLinkNest own index y host ∈ nestW ∧ Cond.static y ∈ gt ∧ Cond.initialized y.cls ∈ gt ∧ Cond.code y bytes maxL rt ∈ gt ∧ y.cls ≠ "java/lang/invoke/MethodHandle" ∧ y.cls ≠ "java/lang/invoke/VarHandle" ∧ (parseMethodDescriptor y.desc).map (fun d => d.parameters.length) = some n
def catS : List Vl → Nat
  | [] => 0
  | .inr (.inl _) :: vs => 2 + catS vs
  | _ :: vs => 1 + catS vs
theorem catS_ok {ad : Nat → Nat} : ∀ st : List Vl, (((st.map (toV ad)).map fun v => v.category).sum) = catS st
  | [] => rfl
  | .inl x :: vs => by rw [List.map_cons, List.map_cons, List.sum_cons, catS_ok vs]; rfl
  | .inr (.inl x) :: vs => by rw [List.map_cons, List.map_cons, List.sum_cons, catS_ok vs]; rfl
  | .inr (.inr x) :: vs => by rw [List.map_cons, List.map_cons, List.sum_cons, catS_ok vs]; rfl
section Calls2
variable {β : Type} {G : Gx} {own : String} {cc : ByteArray} {ret : Option FieldType} {fr lo pc : Nat} {al : List (Option Vl)} {st : List Vl} {M : Mem} {K : β → Option (Option Vl × Mem)}
/-- behind a call: the callee's end is where the caller goes on -/
theorem call_on {p : Program} {l : Launch} {e : Env} {R : Room} {s : State} {m : MethodId} {args : Array Value} {below : List Frame} {meth : Method} {c : Code} {D : va_G} {cA : Nat → ClassId} {ad : Nat → Nat} {nL : Nat} {H : Heap} {locs : List Loc} {ls : Array Slot} {rest : List Vl} {st0 : List Value} {q : Option Vl × Mem} {r : Option Vl × Mem} {av : Array Value}
    (S : St (p, l, e, R, s, m, args, below, meth, c, D, cA, ad, nL) M al rest H locs ls)
    (hrun : va_Run p l e R s m args below meth c H locs 0 0 0 0 (F0 m pc ls st0) (rest.map (toV ad)) (Post D cA ad q av) (Fr ad))
    (kk : ∀ (H1 : Heap) (locs1 : List Loc), St (p, l, e, R, s, m, args, below, meth, c, D, cA, ad, nL) q.2 al (q.1.toList ++ rest) H1 locs1 ls → WW (p, l, e, R, s, m, args, below, meth, c, D, cA, ad, nL) H1 locs1 r (pc + 3) ls ((q.1.toList ++ rest).map (toV ad))) :
    WW (p, l, e, R, s, m, args, below, meth, c, D, cA, ad, nL) H locs r pc ls st0 := by
  intro T hT X
  obtain ⟨v, st₀, t, T', L, h0, X', hL, e1, e2, ⟨hv, hW, hok, hz, hk⟩, hgo⟩ := hrun T hT X
  have hv2 : v = q.1.map (toV ad) := Outcome.returned.inj hv
  subst hv2
  rw [h0] at hz hk
  obtain ⟨s1, s2, s3, s4, s5, s6⟩ := S
  have hS2 : St (p, l, e, R, s, m, args, below, meth, c, D, cA, ad, nL) q.2 al (q.1.toList ++ rest) T'.heap (locs ++ L) ls := by
    refine ⟨hok.1, ?_, s3, s4, by rw [e1]; exact hW.1, ⟨Nat.le_trans s6.1 (by rw [e1]; exact hz), fun a h1 h2 => ?_, fun a ha => ?_⟩⟩
    · rw [okS_app]
      refine ⟨?_, s2⟩
      cases hq : q.1 with
      | none => trivial
      | some w => exact ⟨hok.2 w hq, trivial⟩
    · rw [e1, hk a (Nat.lt_of_lt_of_le h1 s6.1) h2]
      exact s6.2.1 a h1 h2
    · rcases List.mem_append.mp ha with h | h
      · exact s6.2.2 a h
      · exact hL a h
  obtain ⟨t2, a1, b1⟩ := kk T'.heap (locs ++ L) hS2 T' rfl X'
  refine ⟨t2, hgo t2 ?_, b1⟩
  have e3 : ((q.1.toList ++ rest).map (toV ad)) = (q.1.map (toV ad)).toList ++ rest.map (toV ad) := by
    rw [List.map_append]
    congr 1
    cases q.1 <;> rfl
  rw [e3] at a1
  exact a1
theorem blind {D : va_G} {cA : Nat → ClassId} {ad : Nat → Nat} {av : List Value} : FrameBlind (va_Pc av (World D cA ad M)) := fun a U g mk q => by
  obtain ⟨q0, qP, qK, qN⟩ := q
  exact ⟨q0, qP, va_K.moved (u := U) (U := U.calling g mk a) (Vm.Alike.refl U.vm) qK, fun w hw => va_Nw.same (u := U) (U := U.calling g mk a) (by
    have hf := (List.mem_filter.mp hw).2
    cases w <;> first | rfl | cases hf) rfl (qN w hw)⟩
theorem world_at {D : va_G} {cA : Nat → ClassId} {ad : Nat → Nat} {s U : State} {H : Heap} (hP : va_P D vwCl (toW cA ad M) H) (hK : va_K D vwCl (tysL cA) s) (hN : NWs s) (hU : U.heap = H) (hW : s.WarmedH U.vm) : World D cA ad M U := by
  refine ⟨by rw [hU]; exact hP, va_K.moved hW.alike hK, fun w hw => ?_⟩
  have h9 := hN w hw
  have hf := (List.mem_filter.mp hw).2
  cases w with
  | fieldLinkNest a i b n d h => exact va_Nw.warmF hW h9
  | methodLinkNest a i x h => exact va_Nw.warmM hW h9
  | _ => cases hf
theorem r_callV {y : MethodName} {bytes : ByteArray} {maxL n : Nat} {rt : Option FieldType} {fr' lo' index a ci : Nat} {av rest : List Vl} {γ : Type} {f : Option γ} {out : γ → Option Vl × Mem} {h : γ → Option β} {T : u_T} {N : Nat} (C : Cx G own cc ret fr lo) (hc : Cn y bytes maxL rt fr' lo' (zr a :: av) M (f.map out)) (hw : LkV own index y bytes maxL rt n) (hk : kd a = (0, ci)) (hcl : vwCl[ci]? = some (y.cls, T, N)) (hn : av.length = n)
    (hst : st = av.reverse ++ zr a :: rest) (hcat : catS rest ≤ 8) (hroom : fr' + 1 ≤ fr ∧ 8 + (maxL + 11) + lo' ≤ lo) (hd : decode cc pc = .ok (.invokevirtual index, 3)) (k : ∀ q, f = some q → Rf G (pc + 3) al ((out q).1.toList ++ rest) (out q).2 (h q) K) : Rf G pc al st M (f.bind h) K := by
  obtain ⟨p, l, e, R, s, m, args, below, meth, c, D, cA, ad, nL⟩ := G
  obtain ⟨hx, hb, hml, hown, hts, hr1, hr2, hK, hNW, hinj, hfr, hlo⟩ := C
  obtain ⟨w1, w2, w3, w4, w5, w6, w7, w8⟩ := hw
  intro r hr H locs ls S
  cases hf : f with
  | none => rw [hf] at hr; cases hr
  | some q =>
    rw [hf] at hr
    subst hst
    have hok := okS_app.mp S.2.1
    have hM := hc l D cA ad hinj S.1 ⟨trivial, okS_rev.mp hok.1⟩ (out q) (by rw [hf]; rfl)
    have hN : a < NN := kd_lt (by rw [hk]; exact fun z => by cases z)
    obtain ⟨s1, s2, s3, s4, s5, s6⟩ := S
    refine call_on (q := out q) (rest := rest) ⟨s1, hok.2.2, s3, s4, s5, s6⟩ (va_runV (n := n) (C := y.cls) (As := av.map (toV ad)) ⟨hx, hb, hml, hown, hts⟩ hM (cwV n hts (fun w hw => ?_) rfl rfl rfl ⟨rfl, w6, w7, w8⟩ ⟨by rw [hfr]; exact hroom.1, by rw [hlo]; exact hroom.2⟩) ⟨blind, va_recv hK s5 (q0 := a) hcl ((toW_get hN).trans (congrArg (fun e => some (ad a, e)) (ent_o hk))), fun U hU hW => ⟨rfl, world_at s5 hK hNW hU hW⟩⟩ rfl (by rw [List.length_map]; exact hn) s4.1 ?_ (lv_room (by rw [catS_ok]; exact hcat)) hd ⟨Nat.zero_le _, Nat.zero_le _⟩) (fun H1 locs1 S2 => k q hf r hr H1 locs1 ls S2)
    · rcases List.mem_append.mp hw with h9 | h9
      · simp only [List.mem_cons, List.not_mem_nil, or_false] at h9
        rcases h9 with rfl | rfl | rfl | rfl
        · exact ⟨w1, gt_good _ w1⟩
        · exact ⟨w2, gt_good _ w2⟩
        · exact ⟨w3, gt_good _ w3⟩
        · exact ⟨w4, gt_good _ w4⟩
      · exact good_in w5 w h9
    · show List.map (toV ad) (av.reverse ++ zr a :: rest) = _
      rw [List.map_append, List.map_reverse]
      rfl
theorem r_callS {y : MethodName} {bytes : ByteArray} {maxL n : Nat} {rt : Option FieldType} {fr' lo' index : Nat} {av rest : List Vl} {γ : Type} {f : Option γ} {out : γ → Option Vl × Mem} {h : γ → Option β} (C : Cx G own cc ret fr lo) (hc : Cn y bytes maxL rt fr' lo' av M (f.map out)) (hw : LkS own index y bytes maxL rt n) (hn : av.length = n)
    (hst : st = av.reverse ++ rest) (hcat : catS rest ≤ 8) (hroom : fr' + 1 ≤ fr ∧ 8 + (maxL + 11) + lo' ≤ lo) (hd : decode cc pc = .ok (.invokestatic index, 3)) (k : ∀ q, f = some q → Rf G (pc + 3) al ((out q).1.toList ++ rest) (out q).2 (h q) K) : Rf G pc al st M (f.bind h) K := by
  obtain ⟨p, l, e, R, s, m, args, below, meth, c, D, cA, ad, nL⟩ := G
  obtain ⟨hx, hb, hml, hown, hts, hr1, hr2, hK, hNW, hinj, hfr, hlo⟩ := C
  obtain ⟨w1, w2, w4, w5, w6, w7, w8⟩ := hw
  intro r hr H locs ls S
  cases hf : f with
  | none => rw [hf] at hr; cases hr
  | some q =>
    rw [hf] at hr
    subst hst
    have hok := okS_app.mp S.2.1
    have hM := hc l D cA ad hinj S.1 (okS_rev.mp hok.1) (out q) (by rw [hf]; rfl)
    obtain ⟨s1, s2, s3, s4, s5, s6⟩ := S
    refine call_on (q := out q) (rest := rest) ⟨s1, hok.2, s3, s4, s5, s6⟩ (va_runS (n := n) (As := av.map (toV ad)) ⟨hx, hb, hml, hown, hts⟩ hM ⟨callB_of n hts (good_in w5) rfl rfl rfl (hts _ w4) (hts _ w1) ⟨w6, w7, w8⟩ ⟨by rw [hfr]; exact hroom.1, by rw [hlo]; exact hroom.2⟩, hts _ w2⟩ ⟨blind, fun U hU hW => ⟨rfl, world_at s5 hK hNW hU hW⟩⟩ rfl (by rw [List.length_map]; exact hn) s4.1 ?_ (lv_room (by rw [catS_ok]; exact hcat)) hd ⟨Nat.zero_le _, Nat.zero_le _⟩) (fun H1 locs1 S2 => k q hf r hr H1 locs1 ls S2)
    show List.map (toV ad) (av.reverse ++ rest) = _
    rw [List.map_append, List.map_reverse]
theorem r_callN {y : MethodName} {bytes : ByteArray} {maxL n : Nat} {host : String} {rt : Option FieldType} {fr' lo' index : Nat} {av rest : List Vl} {γ : Type} {f : Option γ} {out : γ → Option Vl × Mem} {h : γ → Option β} (C : Cx G own cc ret fr lo) (hc : Cn y bytes maxL rt fr' lo' av M (f.map out)) (hw : LkN own index y host bytes maxL rt n) (hn : av.length = n)
    (hst : st = av.reverse ++ rest) (hcat : catS rest ≤ 8) (hroom : fr' + 1 ≤ fr ∧ 8 + (maxL + 11) + lo' ≤ lo) (hd : decode cc pc = .ok (.invokestatic index, 3)) (k : ∀ q, f = some q → Rf G (pc + 3) al ((out q).1.toList ++ rest) (out q).2 (h q) K) : Rf G pc al st M (f.bind h) K := by
  obtain ⟨p, l, e, R, s, m, args, below, meth, c, D, cA, ad, nL⟩ := G
  obtain ⟨hx, hb, hml, hown, hts, hr1, hr2, hK, hNW, hinj, hfr, hlo⟩ := C
  obtain ⟨w1, w2, w4, w5, w6, w7, w8⟩ := hw
  intro r hr H locs ls S
  cases hf : f with
  | none => rw [hf] at hr; cases hr
  | some q =>
    rw [hf] at hr
    subst hst
    have hok := okS_app.mp S.2.1
    have hM := hc l D cA ad hinj S.1 (okS_rev.mp hok.1) (out q) (by rw [hf]; rfl)
    obtain ⟨s1, s2, s3, s4, s5, s6⟩ := S
    refine call_on (q := out q) (rest := rest) ⟨s1, hok.2, s3, s4, s5, s6⟩ (va_runSN (n := n) (host := host) (As := av.map (toV ad)) ⟨hx, hb, hml, hown, hts⟩ hM ⟨va_cnB n hts (good_in w5) rfl rfl rfl (hNW _ w1) (hts _ w4) ⟨w6, w7, w8⟩ ⟨by rw [hfr]; exact hroom.1, by rw [hlo]; exact hroom.2⟩, hts _ w2, trivial⟩ ⟨blind, fun U hU hW => ⟨rfl, world_at s5 hK hNW hU hW⟩⟩ rfl (by rw [List.length_map]; exact hn) s4.1 ?_ (lv_room (by rw [catS_ok]; exact hcat)) hd ⟨Nat.zero_le _, Nat.zero_le _⟩) (fun H1 locs1 S2 => k q hf r hr H1 locs1 ls S2)
    show List.map (toV ad) (av.reverse ++ rest) = _
    rw [List.map_append, List.map_reverse]
end Calls2
/-- what comes of a method: an int (or boolean), a long, nothing -/
def oI (q : Int × Mem) : Option Vl × Mem := (some (zi q.1), q.2)
def oJ (q : Int × Mem) : Option Vl × Mem := (some (zl q.1), q.2)
def oU (q : Mem) : Option Vl × Mem := (none, q)
