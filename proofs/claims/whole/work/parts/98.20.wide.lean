/-! WIDE ROWS: a frame whose world may move (id 115 is made anew); cells may be made -/
def WC (p : Program) (s : State) (m : MethodId) (args : Array Value) (c : Code) (own : String) (cc : ByteArray) (nL : Nat) (D : va_G) (cA : Nat → ClassId) (A : Nat → Prop) : Prop := p.tables.exec = Jvm.exec ∧ c.code = cc ∧ c.maxLocals = nL ∧ s.vm.findClass own = some m.cls ∧ (∀ w ∈ gt, w.before args s = true) ∧ va_K D vwCl (tysL cA) s ∧ NWs s ∧ (∀ q, s.heap.size ≤ q → A q)
def AdOK (A : Nat → Prop) (ad : Nat → Nat) : Prop := injA ad ∧ ∀ a, a < NN → A (ad a)
def WS (D : va_G) (cA : Nat → ClassId) (A : Nat → Prop) (s : State) (ad : Nat → Nat) (M : Mem) (H : Heap) (locs : List Loc) : Prop := okM M ∧ AdOK A ad ∧ va_P D vwCl (toW cA ad M) H ∧ va_S A s.heap H locs
theorem AdOK.D {A : Nat → Prop} {ad : Nat → Nat} {cA : Nat → ClassId} {M : Mem} (h : AdOK A ad) : va_D A (toW cA ad M) := by
  refine ⟨fun i j p q hi hj e => ?_, fun k q hk => ?_⟩
  · obtain ⟨h1, rfl⟩ := toW_lt hi
    obtain ⟨h2, rfl⟩ := toW_lt hj
    exact h.1 i j h1 h2 e
  · obtain ⟨h1, rfl⟩ := toW_lt hk
    exact h.2 k h1
theorem AdOK.fr {A : Nat → Prop} {ad : Nat → Nat} (h : AdOK A ad) : ∀ q, Fr ad q → A q := fun q ⟨a, ha, e⟩ => by rw [e]; exact h.2 a ha
section WRows
variable {p : Program} {l : Launch} {e : Env} {R : Room} {s : State} {m : MethodId} {args : Array Value} {below : List Frame} {meth : Method} {c : Code} {H : Heap} {locs : List Loc} {cells slots : Nat} {Q : State → Prop} {own : String} {cc : ByteArray} {nL pc : Nat} {D : va_G} {cA : Nat → ClassId} {A : Nat → Prop} {ls : Array Slot} {rest : List Value} {ad : Nat → Nat} {M : Mem}
theorem w_getv {a ci k index N : Nat} {C : String} {T : u_T} {ty0 : Nat → FieldType} {v : Value} (X : WC p s m args c own cc nL D cA A) (S : WS D cA A s ad M H locs) (hC : ClOk ci C T N ty0) (hk : kd a = (0, ci)) (hkN : k < N) (hl : Cond.fieldLink own index (T k).1 (T k).2.1 (T k).2.2.1 ∈ gt) (hd : decode cc pc = .ok (.getfield index, 3)) (hv : fvl ad (ft ci k) (M a k) = v)
    (kk : W p l e R s m args below meth c H locs cells slots Q (F0 m (pc + 3) ls (v :: rest))) : W p l e R s m args below meth c H locs cells slots Q (F0 m pc ls (.ref (ad a) :: rest)) := by
  obtain ⟨hx, hb, hml, hown, hts, hK, hNW, hA⟩ := X
  obtain ⟨c1, c2, c3, c4, c5⟩ := hC
  have hN : a < NN := kd_lt (by rw [hk]; exact fun q => by cases q)
  refine va_get (v := v) hx hb hts c3 hown hK S.2.2.1 a ((toW_get hN).trans (congrArg (fun e => some (ad a, e)) (ent_o hk))) c1 k hkN (hts _ hl) (fun _ h9 => h9) ?_ hd kk
  rw [List.getElem?_map, List.getElem?_range (by rw [← c2]; exact hkN)]
  exact congrArg some hv
theorem w_geti {a ci k index N : Nat} {C : String} {T : u_T} {ty0 : Nat → FieldType} (X : WC p s m args c own cc nL D cA A) (S : WS D cA A s ad M H locs) (hC : ClOk ci C T N ty0) (hk : kd a = (0, ci)) (hkN : k < N) (hl : Cond.fieldLink own index (T k).1 (T k).2.1 (T k).2.2.1 ∈ gt) (hd : decode cc pc = .ok (.getfield index, 3)) (hf : ft ci k = 0)
    (kk : i32 (M a k) → W p l e R s m args below meth c H locs cells slots Q (F0 m (pc + 3) ls (.int (Int32.ofInt (M a k)) :: rest))) : W p l e R s m args below meth c H locs cells slots Q (F0 m pc ls (.ref (ad a) :: rest)) := by
  refine w_getv X S hC hk hkN hl hd (v := .int (Int32.ofInt (M a k))) (by rw [hf]; rfl) (kk (S.1.2.1 a k ?_))
  unfold is32
  rw [hk]
  show (decide (ft ci (k : Int).toNat = 0) || decide (ft ci (k : Int).toNat = 1)) = true
  rw [Int.toNat_natCast, hf]
  rfl
theorem w_getp {a ci k index N b : Nat} {C : String} {T : u_T} {ty0 : Nat → FieldType} (X : WC p s m args c own cc nL D cA A) (S : WS D cA A s ad M H locs) (hC : ClOk ci C T N ty0) (hk : kd a = (0, ci)) (hkN : k < N) (hl : Cond.fieldLink own index (T k).1 (T k).2.1 (T k).2.2.1 ∈ gt) (hd : decode cc pc = .ok (.getfield index, 3)) (hp : ptr a k = some b)
    (kk : W p l e R s m args below meth c H locs cells slots Q (F0 m (pc + 3) ls (.ref (ad b) :: rest))) : W p l e R s m args below meth c H locs cells slots Q (F0 m pc ls (.ref (ad a) :: rest)) := by
  have h1 : M a k = (b : Int) := S.1.2.2.1 a k b hp
  have h3 : ft ci k = 3 := by
    rcases ptr_ty hp with q | q
    · rw [hk] at q; exact q.2
    · rw [hk] at q; cases q
  exact w_getv X S hC hk hkN hl hd (v := .ref (ad b)) (by rw [h3, h1]; rfl) kk
theorem w_getm {a ci k index N t : Nat} {C : String} {T : u_T} {ty0 : Nat → FieldType} (X : WC p s m args c own cc nL D cA A) (S : WS D cA A s ad M H locs) (hC : ClOk ci C T N ty0) (hk : kd a = (0, ci)) (hkN : k < N) (hl : Cond.fieldLink own index (T k).1 (T k).2.1 (T k).2.2.1 ∈ gt) (hd : decode cc pc = .ok (.getfield index, 3)) (hf : ft ci k = 4) (ht : M a k = (t : Int))
    (kk : W p l e R s m args below meth c H locs cells slots Q (F0 m (pc + 3) ls (.ref (ad t) :: rest))) : W p l e R s m args below meth c H locs cells slots Q (F0 m pc ls (.ref (ad a) :: rest)) :=
  w_getv X S hC hk hkN hl hd (v := .ref (ad t)) (by rw [hf, ht]; rfl) kk
theorem w_puti {a ci k index N : Nat} {C : String} {T : u_T} {ty0 : Nat → FieldType} {x : Int} (X : WC p s m args c own cc nL D cA A) (S : WS D cA A s ad M H locs) (hC : ClOk ci C T N ty0) (hk : kd a = (0, ci)) (hkN : k < N) (hl : Cond.fieldLink own index (T k).1 (T k).2.1 (T k).2.2.1 ∈ gt) (hfin : (T k).2.2.2 = false) (hd : decode cc pc = .ok (.putfield index, 3)) (hf : ft ci k = 0) (hty : ty0 k = .int) (hx9 : i32 x)
    (kk : ∀ (H1 : Heap) (locs1 : List Loc), WS D cA A s ad (wr M a k x) H1 locs1 → W p l e R s m args below meth c H1 locs1 cells slots Q (F0 m (pc + 3) ls rest)) : W p l e R s m args below meth c H locs cells slots Q (F0 m pc ls (.int (Int32.ofInt x) :: .ref (ad a) :: rest)) := by
  obtain ⟨hx, hb, hml, hown, hts, hK, hNW, hA⟩ := X
  obtain ⟨c1, c2, c3, c4, c5⟩ := hC
  have hN : a < NN := kd_lt (by rw [hk]; exact fun q => by cases q)
  have hkn : k < nf ci := by rw [← c2]; exact hkN
  refine va_put (v := .int (Int32.ofInt x)) hx hb hts c3 ty0 c4 c5 hown hK S.2.2.1 S.2.1.D S.2.2.2 a ((toW_get hN).trans (congrArg (fun e => some (ad a, e)) (ent_o hk))) c1 k hkN (hts _ hl) (fun _ h9 => h9) hfin (c4 k hkN) (by rw [hty]; rfl) (by rw [hty]; rfl) (by simpa using hkn) hd (fun H1 locs1 hP _ hS => ?_)
  rw [ent_put (cA := cA) (ad := ad) (M := M) (x := x) hk hkn (by rw [hf]; rfl)] at hP
  have hP2 : va_P D vwCl (toW cA ad (wr M a k x)) H1 := by rw [← toW_set hN]; exact hP
  refine kk H1 locs1 ⟨okM_wr S.1 hN (i64_32 hx9) (fun _ => hx9) (fun j t hj ht => ?_), S.2.1, hP2, hS⟩
  have hjk : j = k := by omega
  subst hjk
  rcases ptr_ty ht with q | q
  · rw [hk, hf] at q; exact absurd q.2 (by decide)
  · rw [hk] at q; cases q
theorem w_iald {a : Nat} {i v : Int} (X : WC p s m args c own cc nL D cA A) (S : WS D cA A s ad M H locs) (hi : i32 i) (hv : ldI M a i = some v) (hd : decode cc pc = .ok (.iaload, 1))
    (kk : i32 v → W p l e R s m args below meth c H locs cells slots Q (F0 m (pc + 1) ls (.int (Int32.ofInt v) :: rest))) : W p l e R s m args below meth c H locs cells slots Q (F0 m pc ls (.int (Int32.ofInt i) :: .ref (ad a) :: rest)) := by
  obtain ⟨hx, hb, hml, hown, hts, hK, hNW, hA⟩ := X
  by_cases hc : (kd a).1 = 1 ∧ 0 ≤ i ∧ i < len M a
  · have hld : ldI M a i = some (M a i) := if_pos hc
    rw [hld] at hv
    cases hv
    have hN : a < NN := kd_lt (by rw [hc.1]; decide)
    refine va_iald hx hb hK S.2.2.1 a 0 ((toW_get hN).trans (congrArg (fun e => some (ad a, e)) (ent_i hc.1 (Or.inl rfl)))) rfl (ix_in hi hc.2.1 hc.2.2) hd ?_
    rw [ix_cl hi, Int.toNat_of_nonneg hc.2.1]
    exact kk (S.1.2.1 a i (is_arr (Or.inl hc.1)))
  · rw [show ldI M a i = none from if_neg hc] at hv
    cases hv
theorem w_iast {a : Nat} {i x : Int} {M1 : Mem} (X : WC p s m args c own cc nL D cA A) (S : WS D cA A s ad M H locs) (hi : i32 i) (hx9 : i32 x) (hv : stI M a i x = some M1) (hd : decode cc pc = .ok (.iastore, 1))
    (kk : ∀ (H1 : Heap) (locs1 : List Loc), WS D cA A s ad M1 H1 locs1 → W p l e R s m args below meth c H1 locs1 cells slots Q (F0 m (pc + 1) ls rest)) : W p l e R s m args below meth c H locs cells slots Q (F0 m pc ls (.int (Int32.ofInt x) :: .int (Int32.ofInt i) :: .ref (ad a) :: rest)) := by
  obtain ⟨hx, hb, hml, hown, hts, hK, hNW, hA⟩ := X
  by_cases hc : (kd a).1 = 1 ∧ 0 ≤ i ∧ i < len M a
  · have hst : stI M a i x = some (wr M a i x) := if_pos hc
    rw [hst] at hv
    cases hv
    have hN : a < NN := kd_lt (by rw [hc.1]; decide)
    refine va_iast hx hb hK S.2.2.1 S.2.1.D S.2.2.2 a 0 ((toW_get hN).trans (congrArg (fun e => some (ad a, e)) (ent_i hc.1 (Or.inl rfl)))) rfl (ix_in hi hc.2.1 hc.2.2) hd (fun H1 locs1 hP _ hS => ?_)
    refine kk H1 locs1 ⟨okM_arr S.1 (Or.inl hc.1) (i64_32 hx9) (fun _ => hx9), S.2.1, ?_, hS⟩
    rw [ix_cl hi] at hP
    rw [← toW_set hN, ← ent_ist hc.1 hc.2.1]
    exact hP
  · rw [show stI M a i x = none from if_neg hc] at hv
    cases hv
end WRows
