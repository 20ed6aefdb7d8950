/-! WIDE ROWS: a frame whose world may move (id 115 is made anew); cells may be made -/
def WC (p : Program) (s : State) (m : MethodId) (args : Array Value) (c : Code) (own : String) (cc : ByteArray) (nL : Nat) (D : va_G) (cA : Nat → ClassId) (A : Nat → Prop) : Prop := p.tables.exec = Jvm.exec ∧ c.code = cc ∧ c.maxLocals = nL ∧ s.vm.findClass own = some m.cls ∧ (∀ w ∈ gt, w.before args s = true) ∧ va_K D vwCl (tysL cA) s ∧ NWs s ∧ (∀ q, s.heap.size ≤ q → A q)
def AdOK (A : Nat → Prop) (ad : Nat → Nat) : Prop := injA ad ∧ ∀ a, a < NN → A (ad a)
def WSt (D : va_G) (cA : Nat → ClassId) (A : Nat → Prop) (s : State) (ad : Nat → Nat) (M : Mem) (H : Heap) (locs : List Loc) : Prop := okM M ∧ AdOK A ad ∧ va_P D vwCl (toW cA ad M) H ∧ va_S A s.heap H locs
theorem AdOK.D {A : Nat → Prop} {ad : Nat → Nat} {cA : Nat → ClassId} {M : Mem} (h : AdOK A ad) : va_D A (toW cA ad M) := by
  refine ⟨fun i j p q hi hj e => ?_, fun k q hk => ?_⟩
  · obtain ⟨h1, rfl⟩ := toW_lt hi
    obtain ⟨h2, rfl⟩ := toW_lt hj
    exact h.1 i j h1 h2 e
  · obtain ⟨h1, rfl⟩ := toW_lt hk
    exact h.2 k h1
theorem AdOK.fr {A : Nat → Prop} {ad : Nat → Nat} (h : AdOK A ad) : ∀ q, Fr ad q → A q := fun q ⟨a, ha, e⟩ => by rw [e]; exact h.2 a ha
section WRows
variable {p : Program} {l : Launch} {e : Env} {R : Room} {s : State} {m : MethodId} {args : Array Value} {below : List Frame} {meth : Method} {c : Code} {H : Heap} {locs : List Loc} {cells slots : Nat} {Q : State → Prop} {own : String} {cc : ByteArray} {nL pc : Nat} {D : va_G} {cA : Nat → ClassId} {A : Nat → Prop} {ls : Array Slot} {rest : List Value} {ad : Nat → Nat} {M : Mem}
theorem w_getv {a ci k index N : Nat} {C : String} {T : u_T} {ty0 : Nat → FieldType} {v : Value} (X : WC p s m args c own cc nL D cA A) (S : WSt D cA A s ad M H locs) (hC : ClOk ci C T N ty0) (hk : kd a = (0, ci)) (hkN : k < N) (hl : Cond.fieldLink own index (T k).1 (T k).2.1 (T k).2.2.1 ∈ gt) (hd : decode cc pc = .ok (.getfield index, 3)) (hv : fvl ad (ft ci k) (M a k) = v)
    (kk : W p l e R s m args below meth c H locs cells slots Q (F0 m (pc + 3) ls (v :: rest))) : W p l e R s m args below meth c H locs cells slots Q (F0 m pc ls (.ref (ad a) :: rest)) := by
  obtain ⟨hx, hb, hml, hown, hts, hK, hNW, hA⟩ := X
  obtain ⟨c1, c2, c3, c4, c5⟩ := hC
  have hN : a < NN := kd_lt (by rw [hk]; exact fun q => by cases q)
  refine va_get (v := v) hx hb hts c3 hown hK S.2.2.1 a ((toW_get hN).trans (congrArg (fun e => some (ad a, e)) (ent_o hk))) c1 k hkN (hts _ hl) (fun _ h9 => h9) ?_ hd kk
  rw [List.getElem?_map, List.getElem?_range (by rw [← c2]; exact hkN)]
  exact congrArg some hv
theorem w_geti {a ci k index N : Nat} {kz : Int} {C : String} {T : u_T} {ty0 : Nat → FieldType} (X : WC p s m args c own cc nL D cA A) (S : WSt D cA A s ad M H locs) (hC : ClOk ci C T N ty0) (hk : kd a = (0, ci)) (hkN : k < N) (hl : Cond.fieldLink own index (T k).1 (T k).2.1 (T k).2.2.1 ∈ gt) (hd : decode cc pc = .ok (.getfield index, 3)) (hf : ft ci k = 0) (hz : (k : Int) = kz)
    (kk : i32 (M a kz) → W p l e R s m args below meth c H locs cells slots Q (F0 m (pc + 3) ls (.int (Int32.ofInt (M a kz)) :: rest))) : W p l e R s m args below meth c H locs cells slots Q (F0 m pc ls (.ref (ad a) :: rest)) := by
  subst hz
  refine w_getv X S hC hk hkN hl hd (v := .int (Int32.ofInt (M a k))) (by rw [hf]; rfl) (kk (S.1.2.1 a k ?_))
  unfold is32
  rw [hk]
  show (decide (ft ci (k : Int).toNat = 0) || decide (ft ci (k : Int).toNat = 1)) = true
  rw [Int.toNat_natCast, hf]
  rfl
theorem w_getp {a ci k index N b : Nat} {C : String} {T : u_T} {ty0 : Nat → FieldType} (X : WC p s m args c own cc nL D cA A) (S : WSt D cA A s ad M H locs) (hC : ClOk ci C T N ty0) (hk : kd a = (0, ci)) (hkN : k < N) (hl : Cond.fieldLink own index (T k).1 (T k).2.1 (T k).2.2.1 ∈ gt) (hd : decode cc pc = .ok (.getfield index, 3)) (hp : ptr a k = some b)
    (kk : W p l e R s m args below meth c H locs cells slots Q (F0 m (pc + 3) ls (.ref (ad b) :: rest))) : W p l e R s m args below meth c H locs cells slots Q (F0 m pc ls (.ref (ad a) :: rest)) := by
  have h1 : M a k = (b : Int) := S.1.2.2.1 a k b hp
  have h3 : ft ci k = 3 := by
    rcases ptr_ty hp with q | q
    · rw [hk] at q; exact q.2
    · rw [hk] at q; cases q
  exact w_getv X S hC hk hkN hl hd (v := .ref (ad b)) (by rw [h3, h1]; rfl) kk
theorem w_getm {a ci k index N t : Nat} {kz : Int} {C : String} {T : u_T} {ty0 : Nat → FieldType} (X : WC p s m args c own cc nL D cA A) (S : WSt D cA A s ad M H locs) (hC : ClOk ci C T N ty0) (hk : kd a = (0, ci)) (hkN : k < N) (hl : Cond.fieldLink own index (T k).1 (T k).2.1 (T k).2.2.1 ∈ gt) (hd : decode cc pc = .ok (.getfield index, 3)) (hf : ft ci k = 4) (hz : (k : Int) = kz) (ht : M a kz = (t : Int))
    (kk : W p l e R s m args below meth c H locs cells slots Q (F0 m (pc + 3) ls (.ref (ad t) :: rest))) : W p l e R s m args below meth c H locs cells slots Q (F0 m pc ls (.ref (ad a) :: rest)) :=
  w_getv X S hC hk hkN hl hd (v := .ref (ad t)) (by rw [hf, hz, ht]; rfl) kk
theorem w_puti {a ci k index N : Nat} {kz : Int} {C : String} {T : u_T} {ty0 : Nat → FieldType} {x : Int} (X : WC p s m args c own cc nL D cA A) (S : WSt D cA A s ad M H locs) (hC : ClOk ci C T N ty0) (hk : kd a = (0, ci)) (hkN : k < N) (hl : Cond.fieldLink own index (T k).1 (T k).2.1 (T k).2.2.1 ∈ gt) (hfin : (T k).2.2.2 = false) (hd : decode cc pc = .ok (.putfield index, 3)) (hf : ft ci k = 0) (hty : ty0 k = .int) (hz : (k : Int) = kz) (hx9 : i32 x)
    (kk : ∀ (H1 : Heap) (locs1 : List Loc), WSt D cA A s ad (wr M a kz x) H1 locs1 → W p l e R s m args below meth c H1 locs1 cells slots Q (F0 m (pc + 3) ls rest)) : W p l e R s m args below meth c H locs cells slots Q (F0 m pc ls (.int (Int32.ofInt x) :: .ref (ad a) :: rest)) := by
  subst hz
  obtain ⟨hx, hb, hml, hown, hts, hK, hNW, hA⟩ := X
  obtain ⟨c1, c2, c3, c4, c5⟩ := hC
  have hN : a < NN := kd_lt (by rw [hk]; exact fun q => by cases q)
  have hkn : k < nf ci := by rw [← c2]; exact hkN
  refine va_put (v := .int (Int32.ofInt x)) hx hb hts c3 ty0 c4 c5 hown hK S.2.2.1 S.2.1.D S.2.2.2 a ((toW_get hN).trans (congrArg (fun e => some (ad a, e)) (ent_o hk))) c1 k hkN (hts _ hl) (fun _ h9 => h9) hfin (c4 k hkN) (by rw [hty]; rfl) (by rw [hty]; rfl) (by simpa using hkn) hd (fun H1 locs1 hP _ hS => ?_)
  rw [ent_put (cA := cA) (ad := ad) (M := M) (x := x) hk hkn (by rw [hf]; rfl)] at hP
  have hP2 : va_P D vwCl (toW cA ad (wr M a k x)) H1 := by rw [← toW_set hN]; exact hP
  refine kk H1 locs1 ⟨okM_wr S.1 hN (i64_32 hx9) (fun _ => hx9) (fun j t hj ht => ?_), S.2.1, hP2, hS⟩
  have hjk : j = k := by omega
  subst hjk
  rcases ptr_ty ht with q | q
  · rw [hk, hf] at q; exact absurd q.2 (by decide)
  · rw [hk] at q; cases q
theorem w_iald {a : Nat} {i v : Int} (X : WC p s m args c own cc nL D cA A) (S : WSt D cA A s ad M H locs) (hi : i32 i) (hv : ldI M a i = some v) (hd : decode cc pc = .ok (.iaload, 1))
    (kk : i32 v → W p l e R s m args below meth c H locs cells slots Q (F0 m (pc + 1) ls (.int (Int32.ofInt v) :: rest))) : W p l e R s m args below meth c H locs cells slots Q (F0 m pc ls (.int (Int32.ofInt i) :: .ref (ad a) :: rest)) := by
  obtain ⟨hx, hb, hml, hown, hts, hK, hNW, hA⟩ := X
  by_cases hc : (kd a).1 = 1 ∧ 0 ≤ i ∧ i < len M a
  · have hld : ldI M a i = some (M a i) := if_pos hc
    rw [hld] at hv
    cases hv
    have hN : a < NN := kd_lt (by rw [hc.1]; decide)
    refine va_iald hx hb hK S.2.2.1 a 0 ((toW_get hN).trans (congrArg (fun e => some (ad a, e)) (ent_i hc.1 (Or.inl rfl)))) rfl (ix_in hi hc.2.1 hc.2.2) hd ?_
    rw [ix_cl hi, Int.toNat_of_nonneg hc.2.1]
    exact kk (S.1.2.1 a i (is_arr (Or.inl hc.1)))
  · rw [show ldI M a i = none from if_neg hc] at hv
    cases hv
theorem w_iast {a : Nat} {i x : Int} {M1 : Mem} (X : WC p s m args c own cc nL D cA A) (S : WSt D cA A s ad M H locs) (hi : i32 i) (hx9 : i32 x) (hv : stI M a i x = some M1) (hd : decode cc pc = .ok (.iastore, 1))
    (kk : ∀ (H1 : Heap) (locs1 : List Loc), WSt D cA A s ad M1 H1 locs1 → W p l e R s m args below meth c H1 locs1 cells slots Q (F0 m (pc + 1) ls rest)) : W p l e R s m args below meth c H locs cells slots Q (F0 m pc ls (.int (Int32.ofInt x) :: .int (Int32.ofInt i) :: .ref (ad a) :: rest)) := by
  obtain ⟨hx, hb, hml, hown, hts, hK, hNW, hA⟩ := X
  by_cases hc : (kd a).1 = 1 ∧ 0 ≤ i ∧ i < len M a
  · have hst : stI M a i x = some (wr M a i x) := if_pos hc
    rw [hst] at hv
    cases hv
    have hN : a < NN := kd_lt (by rw [hc.1]; decide)
    refine va_iast hx hb hK S.2.2.1 S.2.1.D S.2.2.2 a 0 ((toW_get hN).trans (congrArg (fun e => some (ad a, e)) (ent_i hc.1 (Or.inl rfl)))) rfl (ix_in hi hc.2.1 hc.2.2) hd (fun H1 locs1 hP _ hS => ?_)
    rw [ix_cl hi, upd_wr hc.2.1 rfl, ← len_wr (M := M) (a := a) (b := a) (i := i) (x := x) hN, ← ent_i hc.1 (Or.inl rfl), toW_set hN] at hP
    exact kk H1 locs1 ⟨okM_arr S.1 (Or.inl hc.1) (i64_32 hx9) (fun _ => hx9), S.2.1, hP, hS⟩
  · rw [show stI M a i x = none from if_neg hc] at hv
    cases hv
theorem w_lald {a : Nat} {i v : Int} (X : WC p s m args c own cc nL D cA A) (S : WSt D cA A s ad M H locs) (hi : i32 i) (hv : ldJ M a i = some v) (hd : decode cc pc = .ok (.laload, 1))
    (kk : i64 v → W p l e R s m args below meth c H locs cells slots Q (F0 m (pc + 1) ls (.long (Int64.ofInt v) :: rest))) : W p l e R s m args below meth c H locs cells slots Q (F0 m pc ls (.int (Int32.ofInt i) :: .ref (ad a) :: rest)) := by
  obtain ⟨hx, hb, hml, hown, hts, hK, hNW, hA⟩ := X
  by_cases hc : (kd a).1 = 4 ∧ 0 ≤ i ∧ i < len M a
  · have hld : ldJ M a i = some (M a i) := if_pos hc
    rw [hld] at hv
    cases hv
    have hN : a < NN := kd_lt (by rw [hc.1]; decide)
    refine va_lald hx hb hK S.2.2.1 a 3 ((toW_get hN).trans (congrArg (fun e => some (ad a, e)) (ent_l hc.1))) rfl (ix_in hi hc.2.1 hc.2.2) hd ?_
    rw [ix_cl hi, Int.toNat_of_nonneg hc.2.1]
    exact kk (S.1.1 a i)
  · rw [show ldJ M a i = none from if_neg hc] at hv
    cases hv
theorem w_last {a : Nat} {i x : Int} {M1 : Mem} (X : WC p s m args c own cc nL D cA A) (S : WSt D cA A s ad M H locs) (hi : i32 i) (hx9 : i64 x) (hv : stJ M a i x = some M1) (hd : decode cc pc = .ok (.lastore, 1))
    (kk : ∀ (H1 : Heap) (locs1 : List Loc), WSt D cA A s ad M1 H1 locs1 → W p l e R s m args below meth c H1 locs1 cells slots Q (F0 m (pc + 1) ls rest)) : W p l e R s m args below meth c H locs cells slots Q (F0 m pc ls (.long (Int64.ofInt x) :: .int (Int32.ofInt i) :: .ref (ad a) :: rest)) := by
  obtain ⟨hx, hb, hml, hown, hts, hK, hNW, hA⟩ := X
  by_cases hc : (kd a).1 = 4 ∧ 0 ≤ i ∧ i < len M a
  · have hst : stJ M a i x = some (wr M a i x) := if_pos hc
    rw [hst] at hv
    cases hv
    have hN : a < NN := kd_lt (by rw [hc.1]; decide)
    refine va_last hx hb hK S.2.2.1 S.2.1.D S.2.2.2 a 3 ((toW_get hN).trans (congrArg (fun e => some (ad a, e)) (ent_l hc.1))) rfl (ix_in hi hc.2.1 hc.2.2) hd (fun H1 locs1 hP _ hS => ?_)
    rw [ix_cl hi, updL_wr hc.2.1, ← len_wr (M := M) (a := a) (b := a) (i := i) (x := x) hN, ← ent_l hc.1, toW_set hN] at hP
    exact kk H1 locs1 ⟨okM_arr S.1 (Or.inr (Or.inr (Or.inr hc.1))) hx9 (fun q => absurd hc.1 q), S.2.1, hP, hS⟩
  · rw [show stJ M a i x = none from if_neg hc] at hv
    cases hv
theorem w_alen {a : Nat} (X : WC p s m args c own cc nL D cA A) (S : WSt D cA A s ad M H locs) (hk : (kd a).1 = 1) (hd : decode cc pc = .ok (.arraylength, 1))
    (kk : 0 ≤ len M a → i32 (len M a) → W p l e R s m args below meth c H locs cells slots Q (F0 m (pc + 1) ls (.int (Int32.ofInt (len M a)) :: rest))) : W p l e R s m args below meth c H locs cells slots Q (F0 m pc ls (.ref (ad a) :: rest)) := by
  obtain ⟨hx, hb, hml, hown, hts, hK, hNW, hA⟩ := X
  have hN : a < NN := kd_lt (by rw [hk]; decide)
  have hb2 : 0 ≤ len M a ∧ i32 (len M a) := by
    unfold len i32
    split
    · have := S.1.2.2.2; omega
    · have h2 : ∀ b, b < NN → (kd b).2 ≤ 10000 := by decide +kernel
      have := h2 a hN
      omega
  refine va_alen hx hb hK S.2.2.1 a 0 ((toW_get hN).trans (congrArg (fun e => some (ad a, e)) (ent_i hk (Or.inl rfl)))) rfl (v := Int32.ofInt (len M a)) ?_ hd (kk hb2.1 hb2.2)
  show Int32.ofNat (len M a).toNat = _
  rw [← Int32.ofInt_eq_ofNat, Int.toNat_of_nonneg hb2.1]
/-! calls -/
theorem w_on {U0 : Type} {mc ms : Nat} {st0 : List Value} {free : Addr → Prop} {Qa : State → Outcome → State → Prop} (val : U0 → Option Value) (B : U0 → State → Prop) (hr : va_Run p l e R s m args below meth c H locs cells slots mc ms (F0 m pc ls st0) rest Qa free) (hQ : ∀ st oc t, Qa st oc t → ∃ u : U0, oc = .returned (val u) ∧ B u t ∧ va_F A st t) (hS : va_S A s.heap H locs) (hf : ∀ q, free q → A q)
    (kk : ∀ (u : U0) (t : State) (H1 : Heap) (locs1 : List Loc), t.heap = H1 → B u t → va_S A s.heap H1 locs1 → W p l e R s m args below meth c H1 locs1 (cells + mc) (slots + ms) Q (F0 m (pc + 3) ls ((val u).toList ++ rest))) : W p l e R s m args below meth c H locs cells slots Q (F0 m pc ls st0) := by
  intro T hT X
  obtain ⟨v, st₀, t, T', L, h0, X', hL, e1, e2, hq, st⟩ := hr T hT X
  obtain ⟨u, hv, hb, hz, hk⟩ := hQ _ _ _ hq
  have hv := Outcome.returned.inj hv
  subst hv
  rw [h0] at hz hk
  obtain ⟨t2, a1, b1⟩ := kk u t T'.heap (locs ++ L) e1.symm hb ⟨Nat.le_trans hS.1 (by rw [e1]; exact hz), fun q h1 h2 => by rw [e1, hk q (Nat.lt_of_lt_of_le h1 hS.1) h2]; exact hS.2.1 q h1 h2, fun q hq => by
      rcases List.mem_append.mp hq with h | h
      · exact hS.2.2 q h
      · exact hf _ (hL q h)⟩ T' rfl X'
  exact ⟨t2, st t2 a1, b1⟩
theorem F_wide {ad : Nat → Nat} (h : AdOK A ad) {st t : State} (hF : va_F (Fr ad) st t) : va_F A st t := ⟨hF.1, fun z h1 h2 => hF.2 z h1 (fun hz => h2 (h.fr z hz))⟩
set_option maxHeartbeats 4000000 in
set_option maxRecDepth 20000 in
theorem w_callV {y : MethodName} {bytes : ByteArray} {maxL n : Nat} {rt : Option FieldType} {fr' lo' index a ci : Nat} {av : List Vl} {q : Option Vl × Mem} {T : u_T} {N : Nat} {st : List Value} (X : WC p s m args c own cc nL D cA A) (S : WSt D cA A s ad M H locs) (hls : ls.size = nL) (hc : Cn y bytes maxL rt fr' lo' (zr a :: av) M (some q)) (hav : okS av) (hw : LkV own index y bytes maxL rt n) (hk : kd a = (0, ci)) (hcl : vwCl[ci]? = some (y.cls, T, N)) (hn : av.length = n) (hst : st = (av.map (toV ad)).reverse ++ .ref (ad a) :: rest) (hcat : (rest.map fun v => v.category).sum ≤ 8) (hroom : fr' + 1 ≤ R.frames ∧ 8 + (maxL + 11) + lo' ≤ R.locals) (hcs : cells ≤ R.cells ∧ slots ≤ R.slots) (hd : decode cc pc = .ok (.invokevirtual index, 3))
    (kk : ∀ (H1 : Heap) (locs1 : List Loc), WSt D cA A s ad q.2 H1 locs1 → okO q → W p l e R s m args below meth c H1 locs1 cells slots Q (F0 m (pc + 3) ls ((q.1.map (toV ad)).toList ++ rest))) : W p l e R s m args below meth c H locs cells slots Q (F0 m pc ls st) := by
  obtain ⟨hx, hb, hml, hown, hts, hK, hNW, hA⟩ := X
  obtain ⟨w1, w2, w3, w4, w5, w6, w7, w8⟩ := hw
  subst hst
  have hM := hc l D cA ad S.2.1.1 S.1 ⟨trivial, hav⟩ q rfl
  have hN : a < NN := kd_lt (by rw [hk]; exact fun z => by cases z)
  refine w_on (U0 := Unit) (fun _ => q.1.map (toV ad)) (fun _ t => World D cA ad q.2 t ∧ okO q) (va_runV (n := n) (C := y.cls) (As := av.map (toV ad)) (rest := rest) ⟨hx, hb, hml, hown, hts⟩ hM (cwV n hts (fun w hw => ?_) rfl rfl rfl ⟨rfl, w6, w7, w8⟩ hroom) ⟨blind, va_recv hK S.2.2.1 (q0 := a) hcl ((toW_get hN).trans (congrArg (fun e => some (ad a, e)) (ent_o hk))), fun U hU hW => ⟨rfl, world_at S.2.2.1 hK hNW hU hW⟩⟩ rfl (by rw [List.length_map]; exact hn) hls rfl (lv_room hcat) hd hcs) (fun st oc t h => ⟨(), h.1, ⟨h.2.1, h.2.2.1⟩, F_wide S.2.1 h.2.2.2⟩) S.2.2.2 S.2.1.fr (fun _ t H1 locs1 ht hB hS1 => kk H1 locs1 ⟨hB.2.1, S.2.1, by rw [← ht]; exact hB.1.1, hS1⟩ hB.2)
  rcases List.mem_append.mp hw with h9 | h9
  · simp only [List.mem_cons, List.not_mem_nil, or_false] at h9
    rcases h9 with rfl | rfl | rfl | rfl
    · exact ⟨w1, gt_good _ w1⟩
    · exact ⟨w2, gt_good _ w2⟩
    · exact ⟨w3, gt_good _ w3⟩
    · exact ⟨w4, gt_good _ w4⟩
  · exact good_in w5 w h9
set_option maxHeartbeats 4000000 in
set_option maxRecDepth 20000 in
theorem w_callS {y : MethodName} {bytes : ByteArray} {maxL n : Nat} {rt : Option FieldType} {fr' lo' index : Nat} {av : List Vl} {q : Option Vl × Mem} {st : List Value} (X : WC p s m args c own cc nL D cA A) (S : WSt D cA A s ad M H locs) (hls : ls.size = nL) (hc : Cn y bytes maxL rt fr' lo' av M (some q)) (hav : okS av) (hw : LkS own index y bytes maxL rt n) (hn : av.length = n) (hst : st = (av.map (toV ad)).reverse ++ rest) (hcat : (rest.map fun v => v.category).sum ≤ 8) (hroom : fr' + 1 ≤ R.frames ∧ 8 + (maxL + 11) + lo' ≤ R.locals) (hcs : cells ≤ R.cells ∧ slots ≤ R.slots) (hd : decode cc pc = .ok (.invokestatic index, 3))
    (kk : ∀ (H1 : Heap) (locs1 : List Loc), WSt D cA A s ad q.2 H1 locs1 → okO q → W p l e R s m args below meth c H1 locs1 cells slots Q (F0 m (pc + 3) ls ((q.1.map (toV ad)).toList ++ rest))) : W p l e R s m args below meth c H locs cells slots Q (F0 m pc ls st) := by
  obtain ⟨hx, hb, hml, hown, hts, hK, hNW, hA⟩ := X
  obtain ⟨w1, w2, w4, w5, w6, w7, w8⟩ := hw
  subst hst
  have hM := hc l D cA ad S.2.1.1 S.1 hav q rfl
  exact w_on (U0 := Unit) (fun _ => q.1.map (toV ad)) (fun _ t => World D cA ad q.2 t ∧ okO q) (va_runS (n := n) (As := av.map (toV ad)) (rest := rest) ⟨hx, hb, hml, hown, hts⟩ hM ⟨callB_of n hts (good_in w5) rfl rfl rfl (hts _ w4) (hts _ w1) ⟨w6, w7, w8⟩ hroom, hts _ w2⟩ ⟨blind, fun U hU hW => ⟨rfl, world_at S.2.2.1 hK hNW hU hW⟩⟩ rfl (by rw [List.length_map]; exact hn) hls rfl (lv_room hcat) hd hcs) (fun st oc t h => ⟨(), h.1, ⟨h.2.1, h.2.2.1⟩, F_wide S.2.1 h.2.2.2⟩) S.2.2.2 S.2.1.fr (fun _ t H1 locs1 ht hB hS1 => kk H1 locs1 ⟨hB.2.1, S.2.1, by rw [← ht]; exact hB.1.1, hS1⟩ hB.2)
theorem w_imax {a b : Int} {index : Nat} (X : WC p s m args c own cc nL D cA A) (hls : ls.size = nL) (h1 : Cond.methodLink own index Lib.Math.max.name ∈ gt) (hf : 1 ≤ R.frames) (hl : (rest.map fun v => v.category).sum + 13 ≤ R.locals) (hcs : cells ≤ R.cells ∧ slots ≤ R.slots) (ha : i32 a) (hb9 : i32 b) (hd : decode cc pc = .ok (.invokestatic index, 3)) (k : i32 (imax a b) → W p l e R s m args below meth c H locs cells slots Q (F0 m (pc + 3) ls (.int (Int32.ofInt (imax a b)) :: rest))) : W p l e R s m args below meth c H locs cells slots Q (F0 m pc ls (.int (Int32.ofInt b) :: .int (Int32.ofInt a) :: rest)) := by
  obtain ⟨hx, hb, hml, hown, hts, hK, hNW, hA⟩ := X
  refine va_mmax hx hb (hml.trans hls.symm) hown (hts _ h1) (hts _ jm_maxi_1) (hts _ jm_maxi_2) (hts _ jm_maxi_3) hf hl hcs.1 hcs.2 hd ?_
  have hok : i32 (imax a b) := by unfold imax; split <;> assumption
  have h := k hok
  have e9 : (if Int32.ofInt a < Int32.ofInt b then Int32.ofInt b else Int32.ofInt a) = Int32.ofInt (imax a b) := by
    unfold imax
    by_cases q : a < b
    · rw [if_pos ((i32_lt ha hb9).mpr q), if_pos q]
    · rw [if_neg (fun z => q ((i32_lt ha hb9).mp z)), if_neg q]
  rw [e9]
  exact h
end WRows
/-! contracts of methods that may make the one array anew -/
def PostW (D : va_G) (cA : Nat → ClassId) (A : Nat → Prop) (ad : Nat → Nat) (r : Option Vl × Mem) : Array Value → State → Outcome → State → Prop := fun _ st oc t => (∃ ad' : Nat → Nat, (∀ a, a ≠ 115 → ad' a = ad a) ∧ AdOK A ad' ∧ oc = .returned (r.1.map (toV ad')) ∧ World D cA ad' r.2 t) ∧ okO r ∧ va_F A st t
def CnW (y : MethodName) (bytes : ByteArray) (maxL : Nat) (ret : Option FieldType) (fr lo mc ms : Nat) (av : List Vl) (M : Mem) (o : Option (Option Vl × Mem)) : Prop :=
  ∀ (l : Launch) (D : va_G) (cA : Nat → ClassId) (A : Nat → Prop) (ad : Nat → Nat) (sz : Nat), AdOK A ad → okM M → okS av → (∀ q, sz ≤ q → A q) → ∀ r, o = some r →
    Met l y (Cond.code y bytes maxL ret :: gt) { frames := fr, cells := mc, slots := ms, locals := lo } (va_Pc (av.map (toV ad)) (fun U => U.heap.size = sz ∧ World D cA ad M U)) (PostW D cA A ad r) mc ms A
set_option maxHeartbeats 4000000 in
set_option maxRecDepth 20000 in
theorem CnW_mk {y : MethodName} {bytes : ByteArray} {maxL : Nat} {ret : Option FieldType} {fr lo mc ms : Nat} {av : List Vl} {M : Mem} {o : Option (Option Vl × Mem)} (hy : plainName y.cls = true) (hn : szL av ≤ maxL)
    (body : ∀ (p : Program) (l : Launch) (e : Env) (s : State) (m : MethodId) (args : Array Value) (below : List Frame) (meth : Method) (c : Code) (D : va_G) (cA : Nat → ClassId) (A : Nat → Prop) (ad : Nat → Nat) (ls : Array Slot) (r : Option Vl × Mem), o = some r → WC p s m args c y.cls bytes maxL D cA A → okS av → WSt D cA A s ad M s.heap [] → lv_has ls maxL (lv_args 0 (av.map (toV ad))) → meth.sig.returnType = ret → meth.locks = false → W p l e { frames := fr, cells := mc, slots := ms, locals := lo } s m args below meth c s.heap [] 0 0 (MQ below (PostW D cA A ad r) args s mc ms A) (F0 m 0 ls [])) : CnW y bytes maxL ret fr lo mc ms av M o := by
  intro l D cA A ad sz hAd hM hav hsz r hr
  refine Met.ofW (cc := bytes) (maxL := maxL) (ret := ret) hy rfl ?_
  intro p e s m args below meth c s₁ B hml hv
  obtain ⟨rfl, hz, hP, hK, hNW⟩ := hv
  subst hz
  have hts := atoms_spec (ws := Cond.code y bytes maxL ret :: gt) B.pre
  have hown : s.vm.findClass y.cls = some m.cls := findClass_of_methodNamed B.named
  have hl := lv_entry (av.map (toV ad)) (n := maxL) (by rw [szL_ok]; exact hn)
  rw [lg_entry_eq]
  exact body p l e s m _ below meth c D cA A ad _ r hr ⟨B.exec, B.bytes, hml, hown, fun w hw => hts w (List.mem_cons_of_mem _ hw), hK, hNW, hsz⟩ hav ⟨hM, hAd, hP, va_S.rf⟩ hl B.returns B.notSynchronized
section WRows2
variable {p : Program} {l : Launch} {e : Env} {R : Room} {s : State} {m : MethodId} {args : Array Value} {below : List Frame} {meth : Method} {c : Code} {H : Heap} {locs : List Loc} {cells slots : Nat} {Q : State → Prop} {own : String} {cc : ByteArray} {nL pc : Nat} {D : va_G} {cA : Nat → ClassId} {A : Nat → Prop} {ls : Array Slot} {rest : List Value} {ad : Nat → Nat} {M : Mem}
theorem w_iret {x : Int} {ad0 : Nat → Nat} {mc ms : Nat} (X : WC p s m args c own cc nL D cA A) (S : WSt D cA A s ad M H locs) (had : ∀ b, b ≠ 115 → ad b = ad0 b) (hret : meth.sig.returnType = some .int) (hlk : meth.locks = false) (hx9 : i32 x) (hc : cells ≤ mc) (hs : slots ≤ ms) (hd : decode cc pc = .ok (.ireturn, 1)) : W p l e R s m args below meth c H locs cells slots (MQ below (PostW D cA A ad0 (some (zi x), M)) args s mc ms A) (F0 m pc ls [.int (Int32.ofInt x)]) :=
  W.widen hc hs (W.iret X.1 X.2.1 hret (fun t ht hW => ⟨⟨ad, had, S.2.1, rfl, by rw [ht]; exact S.2.2.1, va_K.moved hW.alike X.2.2.2.2.2.1, NWs_warm X.2.2.2.2.2.2.1 hW⟩, ⟨S.1, fun v hv => by cases hv; exact hx9⟩, S.2.2.2.F ht⟩) S.2.2.2.2.2 hd hlk)
theorem blindW {sz : Nat} {av : List Value} : FrameBlind (va_Pc av (fun U => U.heap.size = sz ∧ World D cA ad M U)) := fun a U g mk q => by
  obtain ⟨q0, qz, qP, qK, qN⟩ := q
  exact ⟨q0, qz, qP, va_K.moved (u := U) (U := U.calling g mk a) (Vm.Alike.refl U.vm) qK, fun w hw => va_Nw.same (u := U) (U := U.calling g mk a) (by
    have hf := (List.mem_filter.mp hw).2
    cases w <;> first | rfl | cases hf) rfl (qN w hw)⟩
set_option maxHeartbeats 4000000 in
set_option maxRecDepth 20000 in
theorem w_callW {y : MethodName} {bytes : ByteArray} {maxL n : Nat} {rt : Option FieldType} {fr' lo' mc ms index a ci : Nat} {av : List Vl} {q : Option Vl × Mem} {T : u_T} {N : Nat} {st : List Value} (X : WC p s m args c own cc nL D cA A) (S : WSt D cA A s ad M H locs) (hls : ls.size = nL) (hc : CnW y bytes maxL rt fr' lo' mc ms (zr a :: av) M (some q)) (hav : okS av) (hw : LkV own index y bytes maxL rt n) (hk : kd a = (0, ci)) (hcl : vwCl[ci]? = some (y.cls, T, N)) (hn : av.length = n) (hst : st = (av.map (toV ad)).reverse ++ .ref (ad a) :: rest) (hcat : (rest.map fun v => v.category).sum ≤ 8) (hroom : fr' + 1 ≤ R.frames ∧ 8 + (maxL + 11) + lo' ≤ R.locals) (hcs : cells + mc ≤ R.cells ∧ slots + ms ≤ R.slots) (hd : decode cc pc = .ok (.invokevirtual index, 3))
    (kk : ∀ (ad' : Nat → Nat) (H1 : Heap) (locs1 : List Loc), (∀ b, b ≠ 115 → ad' b = ad b) → WSt D cA A s ad' q.2 H1 locs1 → okO q → W p l e R s m args below meth c H1 locs1 (cells + mc) (slots + ms) Q (F0 m (pc + 3) ls ((q.1.map (toV ad')).toList ++ rest))) : W p l e R s m args below meth c H locs cells slots Q (F0 m pc ls st) := by
  obtain ⟨hx, hb, hml, hown, hts, hK, hNW, hA⟩ := X
  obtain ⟨w1, w2, w3, w4, w5, w6, w7, w8⟩ := hw
  subst hst
  have hM := hc l D cA A ad H.size S.2.1 S.1 ⟨trivial, hav⟩ (fun z hz => hA z (Nat.le_trans S.2.2.2.1 hz)) q rfl
  have hN : a < NN := kd_lt (by rw [hk]; exact fun z => by cases z)
  refine w_on (U0 := Nat → Nat) (fun ad' => q.1.map (toV ad')) (fun ad' t => (∀ b, b ≠ 115 → ad' b = ad b) ∧ AdOK A ad' ∧ World D cA ad' q.2 t ∧ okO q) (va_runV (n := n) (C := y.cls) (As := av.map (toV ad)) (rest := rest) ⟨hx, hb, hml, hown, hts⟩ hM (cwV n hts (fun w hw => ?_) rfl rfl rfl ⟨rfl, w6, w7, w8⟩ hroom) ⟨blindW, va_recv hK S.2.2.1 (q0 := a) hcl ((toW_get hN).trans (congrArg (fun e => some (ad a, e)) (ent_o hk))), fun U hU hW => ⟨rfl, by rw [hU], world_at S.2.2.1 hK hNW hU hW⟩⟩ rfl (by rw [List.length_map]; exact hn) hls rfl (lv_room hcat) hd hcs) (fun st oc t h => ?_) S.2.2.2 (fun _ h => h) (fun ad' t H1 locs1 ht hB hS1 => kk ad' H1 locs1 hB.1 ⟨hB.2.2.2.1, hB.2.1, by rw [← ht]; exact hB.2.2.1.1, hS1⟩ hB.2.2.2)
  · rcases List.mem_append.mp hw with h9 | h9
    · simp only [List.mem_cons, List.not_mem_nil, or_false] at h9
      rcases h9 with rfl | rfl | rfl | rfl
      · exact ⟨w1, gt_good _ w1⟩
      · exact ⟨w2, gt_good _ w2⟩
      · exact ⟨w3, gt_good _ w3⟩
      · exact ⟨w4, gt_good _ w4⟩
    · exact good_in w5 w h9
  · obtain ⟨⟨ad', h1, h2, h3, h4⟩, h5, h6⟩ := h
    exact ⟨ad', h3, ⟨h1, h2, h4, h5⟩, h6⟩
end WRows2
