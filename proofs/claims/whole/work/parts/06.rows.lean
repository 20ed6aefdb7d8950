/-! ROWS. Rf: from here the machine does what the function's rest says (o, then K), if that says something. -/
abbrev Gx : Type := Program × Launch × Env × Room × State × MethodId × Array Value × List Frame × Method × Code × va_G × (Nat → ClassId) × (Nat → Nat) × Nat
def Cx (G : Gx) (own : String) (cc : ByteArray) (ret : Option FieldType) (fr lo : Nat) : Prop := match G with
  | (p, _, _, R, s, m, args, _, meth, c, D, cA, ad, nL) => p.tables.exec = Jvm.exec ∧ c.code = cc ∧ c.maxLocals = nL ∧ s.vm.findClass own = some m.cls ∧ (∀ w ∈ gt, w.before args s = true) ∧ meth.sig.returnType = ret ∧ meth.locks = false ∧ va_K D vwCl (tysL cA) s ∧ NWs s ∧ injA ad ∧ R.frames = fr ∧ R.locals = lo
def okS : List Vl → Prop
  | [] => True
  | v :: st => okV v ∧ okS st
def hasL (ad : Nat → Nat) (ls : Array Slot) (nL : Nat) (al : List (Option Vl)) : Prop := ls.size = nL ∧ lv_wf ls ∧ ∀ (i : Nat) (v : Vl), al[i]? = some (some v) → ls[i]? = some (Slot.val (toV ad v))
def okL (al : List (Option Vl)) : Prop := ∀ (i : Nat) (v : Vl), al[i]? = some (some v) → okV v
def St (G : Gx) (M : Mem) (al : List (Option Vl)) (st : List Vl) (H : Heap) (locs : List Loc) (ls : Array Slot) : Prop := match G with
  | (_, _, _, _, s, _, _, _, _, _, D, cA, ad, nL) => okM M ∧ okS st ∧ okL al ∧ hasL ad ls nL al ∧ va_P D vwCl (toW cA ad M) H ∧ va_S (Fr ad) s.heap H locs
def WW (G : Gx) (H : Heap) (locs : List Loc) (r : Option Vl × Mem) (pc : Nat) (ls : Array Slot) (st : List Value) : Prop := match G with
  | (p, l, e, R, s, m, args, below, meth, c, D, cA, ad, _) => W p l e R s m args below meth c H locs 0 0 (MQ below (Post D cA ad r) args s 0 0 (Fr ad)) (F0 m pc ls st)
def gad (G : Gx) : Nat → Nat := G.2.2.2.2.2.2.2.2.2.2.2.2.1
def Rf {β : Type} (G : Gx) (pc : Nat) (al : List (Option Vl)) (st : List Vl) (M : Mem) (o : Option β) (K : β → Option (Option Vl × Mem)) : Prop :=
  ∀ r, o.bind K = some r → ∀ (H : Heap) (locs : List Loc) (ls : Array Slot), St G M al st H locs ls → WW G H locs r pc ls (st.map (toV (gad G)))
theorem okS_mem {st : List Vl} (h : ∀ v ∈ st, okV v) : okS st := by
  induction st with
  | nil => trivial
  | cons v st ih => exact ⟨h v List.mem_cons_self, ih fun w hw => h w (List.mem_cons_of_mem _ hw)⟩
theorem okS_app {a b : List Vl} : okS (a ++ b) ↔ okS a ∧ okS b := by
  induction a with
  | nil => simp [okS]
  | cons v a ih => simp only [List.cons_append, okS, ih, and_assoc]
theorem okS_rev {a : List Vl} : okS a.reverse ↔ okS a := by
  induction a with
  | nil => simp
  | cons v a ih => simp only [List.reverse_cons, okS_app, okS, ih, and_true]; exact And.comm
theorem okS_of {st : List Vl} (h : okS st) : ∀ v ∈ st, okV v := by
  induction st with
  | nil => intro v hv; cases hv
  | cons v st ih =>
    intro w hw
    rcases List.mem_cons.mp hw with rfl | hw
    · exact h.1
    · exact ih h.2 w hw
section Rows
variable {β : Type} {G : Gx} {own : String} {cc : ByteArray} {ret : Option FieldType} {fr lo pc : Nat} {al : List (Option Vl)} {st : List Vl} {M : Mem} {o : Option β} {K : β → Option (Option Vl × Mem)}
/-- a block within: what it leaves goes on -/
theorem r_push {γ : Type} {x : Option γ} {h : γ → Option β} (k : Rf G pc al st M x (fun v => (h v).bind K)) : Rf G pc al st M (x.bind h) K := by
  intro r hr
  rw [Option.bind_assoc] at hr
  exact k r hr
theorem r_pop {γ : Type} {v : γ} {h : γ → Option β} (k : Rf G pc al st M (h v) K) : Rf G pc al st M (some v) (fun v => (h v).bind K) := k
theorem r_some {γ : Type} {v : γ} {h : γ → Option β} (k : Rf G pc al st M (h v) K) : Rf G pc al st M ((some v).bind h) K := k
theorem r_eq {o' : Option β} (e : o = o') (k : Rf G pc al st M o' K) : Rf G pc al st M o K := e ▸ k
theorem r_none : Rf G pc al st M (none : Option β) K := by
  intro r hr
  cases hr
/-- a pure test -/
theorem r_ite {c : Prop} [Decidable c] {a b : Option β} (k1 : c → Rf G pc al st M a K) (k2 : ¬ c → Rf G pc al st M b K) : Rf G pc al st M (if c then a else b) K := by
  by_cases h : c
  · rw [if_pos h]; exact k1 h
  · rw [if_neg h]; exact k2 h
/-- fewer locals are known -/
def lesL : List (Option Vl) → List Bool → List (Option Vl)
  | v :: l, b :: bs => (if b then v else none) :: lesL l bs
  | l, _ => l
theorem lesL_le {al : List (Option Vl)} {bs : List Bool} {i : Nat} {v : Vl} (h : (lesL al bs)[i]? = some (some v)) : al[i]? = some (some v) := by
  induction al generalizing bs i with
  | nil => cases bs <;> simpa [lesL] using h
  | cons w l ih =>
    cases bs with
    | nil => simpa [lesL] using h
    | cons b bs =>
      cases i with
      | zero =>
        simp only [lesL, List.getElem?_cons_zero] at h
        cases b
        · simp at h
        · simpa using h
      | succ i =>
        simp only [lesL, List.getElem?_cons_succ] at h
        rw [List.getElem?_cons_succ]
        exact ih h
theorem r_less {al' : List (Option Vl)} (bs : List Bool) (h : lesL al bs = al') (k : Rf G pc al' st M o K) : Rf G pc al st M o K := by
  obtain ⟨p, l, e, R, s, m, args, below, meth, c, D, cA, ad, nL⟩ := G
  subst h
  intro r hr H locs ls ⟨s1, s2, s3, s4, s5, s6⟩
  exact k r hr H locs ls ⟨s1, s2, fun i v hv => s3 i v (lesL_le hv), ⟨s4.1, s4.2.1, fun i v hv => s4.2.2 i v (lesL_le hv)⟩, s5, s6⟩

theorem r_iconst {n : Int} (C : Cx G own cc ret fr lo) (hd : decode cc pc = .ok (.iconst n, 1)) (hn : -32768 ≤ n ∧ n ≤ 32767) (k : Rf G (pc + 1) al (zi n :: st) M o K) : Rf G pc al st M o K := by
  obtain ⟨p, l, e, R, s, m, args, below, meth, c, D, cA, ad, nL⟩ := G
  intro r hr H locs ls ⟨s1, s2, s3, s4, s5, s6⟩
  exact lv_iconst C.1 C.2.1 hd rfl (k r hr H locs ls ⟨s1, ⟨by unfold okV i32; omega, s2⟩, s3, s4, s5, s6⟩)

theorem r_bipush {n : Int} (C : Cx G own cc ret fr lo) (hd : decode cc pc = .ok (.bipush n, 2)) (hn : -128 ≤ n ∧ n ≤ 127) (k : Rf G (pc + 2) al (zi n :: st) M o K) : Rf G pc al st M o K := by
  obtain ⟨p, l, e, R, s, m, args, below, meth, c, D, cA, ad, nL⟩ := G
  intro r hr H locs ls ⟨s1, s2, s3, s4, s5, s6⟩
  refine lv_bipush C.1 C.2.1 hd ?_ (k r hr H locs ls ⟨s1, ⟨by unfold okV i32; omega, s2⟩, s3, s4, s5, s6⟩)
  apply Int32.toInt_inj.mp
  rw [Int8.toInt_toInt32, Int8.toInt_ofInt_of_le (by omega) (by omega), Int32.toInt_ofInt_of_le (by omega) (by omega)]
theorem r_sipush {n : Int} (C : Cx G own cc ret fr lo) (hd : decode cc pc = .ok (.sipush n, 3)) (hn : -32768 ≤ n ∧ n ≤ 32767) (k : Rf G (pc + 3) al (zi n :: st) M o K) : Rf G pc al st M o K := by
  obtain ⟨p, l, e, R, s, m, args, below, meth, c, D, cA, ad, nL⟩ := G
  intro r hr H locs ls ⟨s1, s2, s3, s4, s5, s6⟩
  refine lv_sipush C.1 C.2.1 hd ?_ (k r hr H locs ls ⟨s1, ⟨by unfold okV i32; omega, s2⟩, s3, s4, s5, s6⟩)
  apply Int32.toInt_inj.mp
  rw [Int16.toInt_toInt32, Int16.toInt_ofInt_of_le (by omega) (by omega), Int32.toInt_ofInt_of_le (by omega) (by omega)]
theorem r_lconst {n : Fin 2} {v : Int} (C : Cx G own cc ret fr lo) (hd : decode cc pc = .ok (.lconst n, 1)) (hn : ((n : Nat) : Int) = v) (k : Rf G (pc + 1) al (zl v :: st) M o K) : Rf G pc al st M o K := by
  obtain ⟨p, l, e, R, s, m, args, below, meth, c, D, cA, ad, nL⟩ := G
  intro r hr H locs ls ⟨s1, s2, s3, s4, s5, s6⟩
  subst hn
  exact lv_lconst C.1 C.2.1 hd (by rw [← Int64.ofInt_eq_ofNat]) (k r hr H locs ls ⟨s1, ⟨by unfold okV i64; omega, s2⟩, s3, s4, s5, s6⟩)
theorem r_ldc {index : Nat} {v : Int32} {x : Int} (C : Cx G own cc ret fr lo) (hw : Jvm.Cond.constant own index v ∈ gt) (hx : v.toInt = x) (hd : decode cc pc = .ok (.ldc index, 2)) (k : Rf G (pc + 2) al (zi x :: st) M o K) : Rf G pc al st M o K := by
  obtain ⟨p, l, e, R, s, m, args, below, meth, c, D, cA, ad, nL⟩ := G
  intro r hr H locs ls ⟨s1, s2, s3, s4, s5, s6⟩
  subst hx
  refine lv_ldc C.1 C.2.1 C.2.2.2.1 (C.2.2.2.2.1 _ hw) hd ?_
  have h := k r hr H locs ls ⟨s1, ⟨i32_of v, s2⟩, s3, s4, s5, s6⟩
  simp only [List.map_cons, toV, Int32.ofInt_toInt] at h
  exact h
theorem r_ldcw {index : Nat} {v : Int32} {x : Int} (C : Cx G own cc ret fr lo) (hw : Jvm.Cond.constant own index v ∈ gt) (hx : v.toInt = x) (hd : decode cc pc = .ok (.ldc_w index, 3)) (k : Rf G (pc + 3) al (zi x :: st) M o K) : Rf G pc al st M o K := by
  obtain ⟨p, l, e, R, s, m, args, below, meth, c, D, cA, ad, nL⟩ := G
  intro r hr H locs ls ⟨s1, s2, s3, s4, s5, s6⟩
  subst hx
  refine lv_ldcw C.1 C.2.1 C.2.2.2.1 (C.2.2.2.2.1 _ hw) hd ?_
  have h := k r hr H locs ls ⟨s1, ⟨i32_of v, s2⟩, s3, s4, s5, s6⟩
  simp only [List.map_cons, toV, Int32.ofInt_toInt] at h
  exact h
theorem r_ldc2 {index : Nat} {v : Int64} {x : Int} (C : Cx G own cc ret fr lo) (hw : Jvm.Cond.constantLong own index v ∈ gt) (hx : v.toInt = x) (hd : decode cc pc = .ok (.ldc2_w index, 3)) (k : Rf G (pc + 3) al (zl x :: st) M o K) : Rf G pc al st M o K := by
  obtain ⟨p, l, e, R, s, m, args, below, meth, c, D, cA, ad, nL⟩ := G
  intro r hr H locs ls ⟨s1, s2, s3, s4, s5, s6⟩
  subst hx
  refine lv_ldc2 C.1 C.2.1 C.2.2.2.1 (C.2.2.2.2.1 _ hw) hd ?_
  have h := k r hr H locs ls ⟨s1, ⟨i64_of v, s2⟩, s3, s4, s5, s6⟩
  simp only [List.map_cons, toV, Int64.ofInt_toInt] at h
  exact h

theorem r_iload_n {q : Fin 4} {i : Nat} {x : Int} (C : Cx G own cc ret fr lo) (hd : decode cc pc = .ok (.iload_n q, 1)) (hi : (q : Nat) = i) (hl : al[i]? = some (some (zi x))) (k : Rf G (pc + 1) al (zi x :: st) M o K) : Rf G pc al st M o K := by
  obtain ⟨p, l, e, R, s, m, args, below, meth, c, D, cA, ad, nL⟩ := G
  intro r hr H locs ls ⟨s1, s2, s3, s4, s5, s6⟩
  exact lv_iload_n C.1 C.2.1 hd hi (s4.2.2 i _ hl) (k r hr H locs ls ⟨s1, ⟨s3 i _ hl, s2⟩, s3, s4, s5, s6⟩)
theorem r_iload {i : Nat} {x : Int} (C : Cx G own cc ret fr lo) (hd : decode cc pc = .ok (.iload i, 2)) (hl : al[i]? = some (some (zi x))) (k : Rf G (pc + 2) al (zi x :: st) M o K) : Rf G pc al st M o K := by
  obtain ⟨p, l, e, R, s, m, args, below, meth, c, D, cA, ad, nL⟩ := G
  intro r hr H locs ls ⟨s1, s2, s3, s4, s5, s6⟩
  exact lv_iload C.1 C.2.1 hd (s4.2.2 i _ hl) (k r hr H locs ls ⟨s1, ⟨s3 i _ hl, s2⟩, s3, s4, s5, s6⟩)

theorem r_lload_n {q : Fin 4} {i : Nat} {x : Int} (C : Cx G own cc ret fr lo) (hd : decode cc pc = .ok (.lload_n q, 1)) (hi : (q : Nat) = i) (hl : al[i]? = some (some (zl x))) (k : Rf G (pc + 1) al (zl x :: st) M o K) : Rf G pc al st M o K := by
  obtain ⟨p, l, e, R, s, m, args, below, meth, c, D, cA, ad, nL⟩ := G
  intro r hr H locs ls ⟨s1, s2, s3, s4, s5, s6⟩
  exact lv_lload_n C.1 C.2.1 hd hi (s4.2.2 i _ hl) (k r hr H locs ls ⟨s1, ⟨s3 i _ hl, s2⟩, s3, s4, s5, s6⟩)
theorem r_lload {i : Nat} {x : Int} (C : Cx G own cc ret fr lo) (hd : decode cc pc = .ok (.lload i, 2)) (hl : al[i]? = some (some (zl x))) (k : Rf G (pc + 2) al (zl x :: st) M o K) : Rf G pc al st M o K := by
  obtain ⟨p, l, e, R, s, m, args, below, meth, c, D, cA, ad, nL⟩ := G
  intro r hr H locs ls ⟨s1, s2, s3, s4, s5, s6⟩
  exact lv_lload C.1 C.2.1 hd (s4.2.2 i _ hl) (k r hr H locs ls ⟨s1, ⟨s3 i _ hl, s2⟩, s3, s4, s5, s6⟩)

theorem r_aload_n {q : Fin 4} {i : Nat} {x : Nat} (C : Cx G own cc ret fr lo) (hd : decode cc pc = .ok (.aload_n q, 1)) (hi : (q : Nat) = i) (hl : al[i]? = some (some (zr x))) (k : Rf G (pc + 1) al (zr x :: st) M o K) : Rf G pc al st M o K := by
  obtain ⟨p, l, e, R, s, m, args, below, meth, c, D, cA, ad, nL⟩ := G
  intro r hr H locs ls ⟨s1, s2, s3, s4, s5, s6⟩
  exact lv_aload_n C.1 C.2.1 hd hi (s4.2.2 i _ hl) (k r hr H locs ls ⟨s1, ⟨s3 i _ hl, s2⟩, s3, s4, s5, s6⟩)
theorem r_aload {i : Nat} {x : Nat} (C : Cx G own cc ret fr lo) (hd : decode cc pc = .ok (.aload i, 2)) (hl : al[i]? = some (some (zr x))) (k : Rf G (pc + 2) al (zr x :: st) M o K) : Rf G pc al st M o K := by
  obtain ⟨p, l, e, R, s, m, args, below, meth, c, D, cA, ad, nL⟩ := G
  intro r hr H locs ls ⟨s1, s2, s3, s4, s5, s6⟩
  exact lv_aload C.1 C.2.1 hd (s4.2.2 i _ hl) (k r hr H locs ls ⟨s1, ⟨s3 i _ hl, s2⟩, s3, s4, s5, s6⟩)

/-- the known locals as the kit has them -/
def asl (ad : Nat → Nat) (al : List (Option Vl)) : List (Nat × Value) := al.zipIdx.filterMap (fun q => q.1.map (fun v => (q.2, toV ad v)))
theorem asl_mem {ad : Nat → Nat} {al : List (Option Vl)} {i : Nat} {w : Value} : (i, w) ∈ asl ad al ↔ ∃ v, al[i]? = some (some v) ∧ w = toV ad v := by
  unfold asl
  rw [List.mem_filterMap]
  constructor
  · rintro ⟨⟨ov, j⟩, h1, h2⟩
    rw [List.mem_zipIdx_iff_getElem?] at h1
    cases ov with
    | none => simp at h2
    | some v =>
      simp only [Option.map_some, Option.some.injEq, Prod.mk.injEq] at h2
      obtain ⟨rfl, rfl⟩ := h2
      exact ⟨v, h1, rfl⟩
  · rintro ⟨v, h1, rfl⟩
    exact ⟨(some v, i), List.mem_zipIdx_iff_getElem?.mpr h1, rfl⟩
theorem hasL_lv {ad : Nat → Nat} {ls : Array Slot} {nL : Nat} {al : List (Option Vl)} (h : hasL ad ls nL al) : lv_has ls nL (asl ad al) := by
  refine ⟨h.1, h.2.1, fun q hq => ?_⟩
  obtain ⟨i, w⟩ := q
  obtain ⟨v, h1, rfl⟩ := asl_mem.mp hq
  exact h.2.2 i v h1
def clrL (al : List (Option Vl)) (i : Nat) : List (Option Vl) := match i with
  | 0 => al
  | k + 1 => match al[k]? with
    | some (some (.inr (.inl _))) => al.set k none
    | _ => al
def stl (al : List (Option Vl)) (i : Nat) (v : Vl) : List (Option Vl) := (clrL al i).set i (some v)
def stl2 (al : List (Option Vl)) (i : Nat) (v : Vl) : List (Option Vl) := ((clrL al i).set i (some v)).set (i + 1) none
theorem set_none {al : List (Option Vl)} {k j : Nat} {w : Vl} (h : (al.set k none)[j]? = some (some w)) : j ≠ k ∧ al[j]? = some (some w) := by
  by_cases hjk : j = k
  · subst hjk
    rw [List.getElem?_set] at h
    simp only [if_true] at h
    split at h <;> cases h
  · rw [List.getElem?_set_ne (Ne.symm hjk)] at h
    exact ⟨hjk, h⟩
theorem clrL_get {al : List (Option Vl)} {i j : Nat} {w : Vl} (h : (clrL al i)[j]? = some (some w)) : al[j]? = some (some w) ∧ (j + 1 = i → ∀ x, w ≠ zl x) := by
  unfold clrL at h
  cases i with
  | zero => exact ⟨h, fun q => by omega⟩
  | succ k =>
    dsimp only at h
    split at h
    · rename_i x hx
      obtain ⟨h1, h2⟩ := set_none h
      exact ⟨h2, fun q => by omega⟩
    · rename_i hn
      refine ⟨h, fun q x e => ?_⟩
      have : j = k := by omega
      subst this
      subst e
      exact hn x h
theorem stl_get {al : List (Option Vl)} {i j : Nat} {v w : Vl} (h : (stl al i v)[j]? = some (some w)) : (j = i ∧ w = v) ∨ (j ≠ i ∧ al[j]? = some (some w) ∧ (j + 1 = i → ∀ x, w ≠ zl x)) := by
  unfold stl at h
  by_cases hj : j = i
  · subst hj
    rw [List.getElem?_set] at h
    simp only [if_true] at h
    split at h
    · cases h; exact Or.inl ⟨rfl, rfl⟩
    · cases h
  · rw [List.getElem?_set_ne (Ne.symm hj)] at h
    obtain ⟨h1, h2⟩ := clrL_get h
    exact Or.inr ⟨hj, h1, h2⟩
theorem stl2_get {al : List (Option Vl)} {i j : Nat} {v w : Vl} (h : (stl2 al i v)[j]? = some (some w)) : (j = i ∧ w = v) ∨ (j ≠ i ∧ j ≠ i + 1 ∧ al[j]? = some (some w) ∧ (j + 1 = i → ∀ x, w ≠ zl x)) := by
  obtain ⟨h1, h2⟩ := set_none h
  rcases stl_get h2 with h3 | ⟨h3, h4, h5⟩
  · exact Or.inl h3
  · exact Or.inr ⟨h3, h1, h4, h5⟩
theorem cat_ne2 {ad : Nat → Nat} {w : Vl} (h : ∀ x, w ≠ zl x) : ((toV ad w).category == 2) = false := by
  rcases w with x | x | x
  · rfl
  · exact absurd rfl (h x)
  · rfl
theorem hasL_st1 {ad : Nat → Nat} {ls' : Array Slot} {nL i : Nat} {al : List (Option Vl)} {v : Vl} (h : lv_has ls' nL ((i, toV ad v) :: (asl ad al).filter (fun q => !(q.1 == i) && !(q.1 + 1 == i && q.2.category == 2)))) : hasL ad ls' nL (stl al i v) := by
  refine ⟨h.1, h.2.1, fun j w hw => ?_⟩
  rcases stl_get hw with ⟨rfl, rfl⟩ | ⟨h1, h2, h3⟩
  · exact h.2.2 (j, _) List.mem_cons_self
  · refine h.2.2 (j, toV ad w) (List.mem_cons_of_mem _ (List.mem_filter.mpr ⟨asl_mem.mpr ⟨w, h2, rfl⟩, ?_⟩))
    have e1 : (j == i) = false := by simpa using h1
    by_cases e2 : j + 1 = i
    · simp [e1, cat_ne2 (h3 e2)]
    · simp [e1, e2]
theorem hasL_st2 {ad : Nat → Nat} {ls' : Array Slot} {nL i : Nat} {al : List (Option Vl)} {v : Vl} (h : lv_has ls' nL ((i, toV ad v) :: (asl ad al).filter (fun q => !(q.1 == i) && (!(q.1 == i + 1) && !(q.1 + 1 == i && q.2.category == 2))))) : hasL ad ls' nL (stl2 al i v) := by
  refine ⟨h.1, h.2.1, fun j w hw => ?_⟩
  rcases stl2_get hw with ⟨rfl, rfl⟩ | ⟨h1, h0, h2, h3⟩
  · exact h.2.2 (j, _) List.mem_cons_self
  · refine h.2.2 (j, toV ad w) (List.mem_cons_of_mem _ (List.mem_filter.mpr ⟨asl_mem.mpr ⟨w, h2, rfl⟩, ?_⟩))
    have e1 : (j == i) = false := by simpa using h1
    have e0 : (j == i + 1) = false := by simpa using h0
    by_cases e2 : j + 1 = i
    · simp [e1, e0, cat_ne2 (h3 e2)]
    · simp [e1, e0, e2]
theorem okL_st {al : List (Option Vl)} {i : Nat} {v : Vl} (h : okL al) (hv : okV v) : okL (stl al i v) := fun j w hw => by
  rcases stl_get hw with ⟨rfl, rfl⟩ | ⟨-, h2, -⟩
  · exact hv
  · exact h j w h2
theorem okL_st2 {al : List (Option Vl)} {i : Nat} {v : Vl} (h : okL al) (hv : okV v) : okL (stl2 al i v) := fun j w hw => by
  rcases stl2_get hw with ⟨rfl, rfl⟩ | ⟨-, -, h2, -⟩
  · exact hv
  · exact h j w h2

def gnl (G : Gx) : Nat := G.2.2.2.2.2.2.2.2.2.2.2.2.2

theorem r_istore_n {q : Fin 4} {i : Nat} {x : Int} {al' : List (Option Vl)} (C : Cx G own cc ret fr lo) (hd : decode cc pc = .ok (.istore_n q, 1)) (hi : (q : Nat) = i) (hn : i < gnl G) (ha : stl al i (zi x) = al') (k : Rf G (pc + 1) al' st M o K) : Rf G pc al (zi x :: st) M o K := by
  obtain ⟨p, l, e, R, s, m, args, below, meth, c, D, cA, ad, nL⟩ := G
  intro r hr H locs ls ⟨s1, s2, s3, s4, s5, s6⟩
  subst ha
  exact lv_istore_n C.1 C.2.1 hd hi (hasL_lv s4) hn rfl (fun ls' h' => k r hr H locs ls' ⟨s1, s2.2, okL_st s3 s2.1, hasL_st1 h', s5, s6⟩)

theorem r_istore {i : Nat} {x : Int} {al' : List (Option Vl)} (C : Cx G own cc ret fr lo) (hd : decode cc pc = .ok (.istore i, 2)) (hn : i < gnl G) (ha : stl al i (zi x) = al') (k : Rf G (pc + 2) al' st M o K) : Rf G pc al (zi x :: st) M o K := by
  obtain ⟨p, l, e, R, s, m, args, below, meth, c, D, cA, ad, nL⟩ := G
  intro r hr H locs ls ⟨s1, s2, s3, s4, s5, s6⟩
  subst ha
  exact lv_istore C.1 C.2.1 hd (hasL_lv s4) hn rfl (fun ls' h' => k r hr H locs ls' ⟨s1, s2.2, okL_st s3 s2.1, hasL_st1 h', s5, s6⟩)

theorem r_astore_n {q : Fin 4} {i : Nat} {x : Nat} {al' : List (Option Vl)} (C : Cx G own cc ret fr lo) (hd : decode cc pc = .ok (.astore_n q, 1)) (hi : (q : Nat) = i) (hn : i < gnl G) (ha : stl al i (zr x) = al') (k : Rf G (pc + 1) al' st M o K) : Rf G pc al (zr x :: st) M o K := by
  obtain ⟨p, l, e, R, s, m, args, below, meth, c, D, cA, ad, nL⟩ := G
  intro r hr H locs ls ⟨s1, s2, s3, s4, s5, s6⟩
  subst ha
  exact lv_astore_n C.1 C.2.1 hd hi (hasL_lv s4) hn rfl (fun ls' h' => k r hr H locs ls' ⟨s1, s2.2, okL_st s3 s2.1, hasL_st1 h', s5, s6⟩)

theorem r_astore {i : Nat} {x : Nat} {al' : List (Option Vl)} (C : Cx G own cc ret fr lo) (hd : decode cc pc = .ok (.astore i, 2)) (hn : i < gnl G) (ha : stl al i (zr x) = al') (k : Rf G (pc + 2) al' st M o K) : Rf G pc al (zr x :: st) M o K := by
  obtain ⟨p, l, e, R, s, m, args, below, meth, c, D, cA, ad, nL⟩ := G
  intro r hr H locs ls ⟨s1, s2, s3, s4, s5, s6⟩
  subst ha
  exact lv_astore C.1 C.2.1 hd (hasL_lv s4) hn rfl (fun ls' h' => k r hr H locs ls' ⟨s1, s2.2, okL_st s3 s2.1, hasL_st1 h', s5, s6⟩)

theorem r_lstore_n {q : Fin 4} {i : Nat} {x : Int} {al' : List (Option Vl)} (C : Cx G own cc ret fr lo) (hd : decode cc pc = .ok (.lstore_n q, 1)) (hi : (q : Nat) = i) (hn : i + 1 < gnl G) (ha : stl2 al i (zl x) = al') (k : Rf G (pc + 1) al' st M o K) : Rf G pc al (zl x :: st) M o K := by
  obtain ⟨p, l, e, R, s, m, args, below, meth, c, D, cA, ad, nL⟩ := G
  intro r hr H locs ls ⟨s1, s2, s3, s4, s5, s6⟩
  subst ha
  exact lv_lstore_n C.1 C.2.1 hd hi (hasL_lv s4) hn rfl (fun ls' h' => k r hr H locs ls' ⟨s1, s2.2, okL_st2 s3 s2.1, hasL_st2 h', s5, s6⟩)

theorem r_lstore {i : Nat} {x : Int} {al' : List (Option Vl)} (C : Cx G own cc ret fr lo) (hd : decode cc pc = .ok (.lstore i, 2)) (hn : i + 1 < gnl G) (ha : stl2 al i (zl x) = al') (k : Rf G (pc + 2) al' st M o K) : Rf G pc al (zl x :: st) M o K := by
  obtain ⟨p, l, e, R, s, m, args, below, meth, c, D, cA, ad, nL⟩ := G
  intro r hr H locs ls ⟨s1, s2, s3, s4, s5, s6⟩
  subst ha
  exact lv_lstore C.1 C.2.1 hd (hasL_lv s4) hn rfl (fun ls' h' => k r hr H locs ls' ⟨s1, s2.2, okL_st2 s3 s2.1, hasL_st2 h', s5, s6⟩)

theorem r_iinc {i : Nat} {n x : Int} {al' : List (Option Vl)} (C : Cx G own cc ret fr lo) (hd : decode cc pc = .ok (.iinc i n, 3)) (hl : al[i]? = some (some (zi x))) (hn : i < gnl G) (ha : stl al i (zi (w32 (x + n))) = al') (k : Rf G (pc + 3) al' st M o K) : Rf G pc al st M o K := by
  obtain ⟨p, l, e, R, s, m, args, below, meth, c, D, cA, ad, nL⟩ := G
  intro r hr H locs ls ⟨s1, s2, s3, s4, s5, s6⟩
  subst ha
  obtain ⟨q, hq⟩ := List.getElem?_of_mem (asl_mem.mpr ⟨zi x, hl, rfl⟩ : (i, toV ad (zi x)) ∈ asl ad al)
  refine lv_iinc (v := Int32.ofInt (w32 (x + n))) C.1 C.2.1 hd (hasL_lv s4) (k := q) hq (by rw [w32_of, Int32.ofInt_add]) hn rfl (fun ls' h' => k r hr H locs ls' ⟨s1, s2, okL_st s3 (w32_in _), hasL_st1 h', s5, s6⟩)

def iand (a b : Int) : Int := (Int32.ofInt a &&& Int32.ofInt b).toInt
def ior (a b : Int) : Int := (Int32.ofInt a ||| Int32.ofInt b).toInt
def ixor (a b : Int) : Int := (Int32.ofInt a ^^^ Int32.ofInt b).toInt
def ishl (a b : Int) : Int := (Int32.ofInt a <<< (Int32.ofInt b &&& 31)).toInt
def ishr (a b : Int) : Int := (Int32.ofInt a >>> (Int32.ofInt b &&& 31)).toInt
def iushr (a b : Int) : Int := ((Int32.ofInt a).toUInt32 >>> ((Int32.ofInt b).toUInt32 &&& Int32.toUInt32 31)).toInt32.toInt
def idv (a b : Int) : Int := (Int32.ofInt a / Int32.ofInt b).toInt
def irm (a b : Int) : Int := (Int32.ofInt a - Int32.ofInt a / Int32.ofInt b * Int32.ofInt b).toInt
def land (a b : Int) : Int := (Int64.ofInt a &&& Int64.ofInt b).toInt
def lor (a b : Int) : Int := (Int64.ofInt a ||| Int64.ofInt b).toInt
def lxor (a b : Int) : Int := (Int64.ofInt a ^^^ Int64.ofInt b).toInt
def lshl (a b : Int) : Int := (Int64.ofInt a <<< ((Int32.ofInt b).toInt64 &&& 63)).toInt
def lshr (a b : Int) : Int := (Int64.ofInt a >>> ((Int32.ofInt b).toInt64 &&& 63)).toInt
def lushr (a b : Int) : Int := ((Int64.ofInt a).toUInt64 >>> ((Int32.ofInt b).toInt64.toUInt64 &&& Int64.toUInt64 63)).toInt64.toInt
def lc (a b : Int) : Int := (lg_cmp (Int64.ofInt a) (Int64.ofInt b)).toInt
def i2b (a : Int) : Int := (Int32.ofInt a).toInt8.toInt32.toInt
def nz (a : Int) : Int := (vp_nar .boolean (Int32.ofInt a)).toInt
def nb (a : Int) : Int := (vp_nar .byte (Int32.ofInt a)).toInt

theorem r_iadd {a b : Int} (C : Cx G own cc ret fr lo) (hd : decode cc pc = .ok (.iadd, 1)) (k : Rf G (pc + 1) al (zi (w32 (a + b)) :: st) M o K) : Rf G pc al (zi b :: zi a :: st) M o K := by
  obtain ⟨p, l, e, R, s, m, args, below, meth, c, D, cA, ad, nL⟩ := G
  intro r hr H locs ls ⟨s1, ⟨sb, sa, s2⟩, s3, s4, s5, s6⟩
  have h := k r hr H locs ls ⟨s1, ⟨by first | exact w32_in _ | exact i32_of _, s2⟩, s3, s4, s5, s6⟩
  refine lv_iadd C.1 C.2.1 hd ?_
  simp only [List.map_cons, toV, w32_of, Int32.ofInt_add, Int32.ofInt_sub, Int32.ofInt_mul, iand, ior, ixor, ishl, ishr, idv, irm, Int32.ofInt_toInt] at h
  exact h

theorem r_isub {a b : Int} (C : Cx G own cc ret fr lo) (hd : decode cc pc = .ok (.isub, 1)) (k : Rf G (pc + 1) al (zi (w32 (a - b)) :: st) M o K) : Rf G pc al (zi b :: zi a :: st) M o K := by
  obtain ⟨p, l, e, R, s, m, args, below, meth, c, D, cA, ad, nL⟩ := G
  intro r hr H locs ls ⟨s1, ⟨sb, sa, s2⟩, s3, s4, s5, s6⟩
  have h := k r hr H locs ls ⟨s1, ⟨by first | exact w32_in _ | exact i32_of _, s2⟩, s3, s4, s5, s6⟩
  refine lv_isub C.1 C.2.1 hd ?_
  simp only [List.map_cons, toV, w32_of, Int32.ofInt_add, Int32.ofInt_sub, Int32.ofInt_mul, iand, ior, ixor, ishl, ishr, idv, irm, Int32.ofInt_toInt] at h
  exact h

theorem r_imul {a b : Int} (C : Cx G own cc ret fr lo) (hd : decode cc pc = .ok (.imul, 1)) (k : Rf G (pc + 1) al (zi (w32 (a * b)) :: st) M o K) : Rf G pc al (zi b :: zi a :: st) M o K := by
  obtain ⟨p, l, e, R, s, m, args, below, meth, c, D, cA, ad, nL⟩ := G
  intro r hr H locs ls ⟨s1, ⟨sb, sa, s2⟩, s3, s4, s5, s6⟩
  have h := k r hr H locs ls ⟨s1, ⟨by first | exact w32_in _ | exact i32_of _, s2⟩, s3, s4, s5, s6⟩
  refine lv_imul C.1 C.2.1 hd ?_
  simp only [List.map_cons, toV, w32_of, Int32.ofInt_add, Int32.ofInt_sub, Int32.ofInt_mul, iand, ior, ixor, ishl, ishr, idv, irm, Int32.ofInt_toInt] at h
  exact h

theorem r_iand {a b : Int} (C : Cx G own cc ret fr lo) (hd : decode cc pc = .ok (.iand, 1)) (k : Rf G (pc + 1) al (zi (iand a b) :: st) M o K) : Rf G pc al (zi b :: zi a :: st) M o K := by
  obtain ⟨p, l, e, R, s, m, args, below, meth, c, D, cA, ad, nL⟩ := G
  intro r hr H locs ls ⟨s1, ⟨sb, sa, s2⟩, s3, s4, s5, s6⟩
  have h := k r hr H locs ls ⟨s1, ⟨by first | exact w32_in _ | exact i32_of _, s2⟩, s3, s4, s5, s6⟩
  refine lv_iand C.1 C.2.1 hd ?_
  simp only [List.map_cons, toV, w32_of, Int32.ofInt_add, Int32.ofInt_sub, Int32.ofInt_mul, iand, ior, ixor, ishl, ishr, idv, irm, Int32.ofInt_toInt] at h
  exact h

theorem r_ior {a b : Int} (C : Cx G own cc ret fr lo) (hd : decode cc pc = .ok (.ior, 1)) (k : Rf G (pc + 1) al (zi (ior a b) :: st) M o K) : Rf G pc al (zi b :: zi a :: st) M o K := by
  obtain ⟨p, l, e, R, s, m, args, below, meth, c, D, cA, ad, nL⟩ := G
  intro r hr H locs ls ⟨s1, ⟨sb, sa, s2⟩, s3, s4, s5, s6⟩
  have h := k r hr H locs ls ⟨s1, ⟨by first | exact w32_in _ | exact i32_of _, s2⟩, s3, s4, s5, s6⟩
  refine lv_ior C.1 C.2.1 hd ?_
  simp only [List.map_cons, toV, w32_of, Int32.ofInt_add, Int32.ofInt_sub, Int32.ofInt_mul, iand, ior, ixor, ishl, ishr, idv, irm, Int32.ofInt_toInt] at h
  exact h

theorem r_ixor {a b : Int} (C : Cx G own cc ret fr lo) (hd : decode cc pc = .ok (.ixor, 1)) (k : Rf G (pc + 1) al (zi (ixor a b) :: st) M o K) : Rf G pc al (zi b :: zi a :: st) M o K := by
  obtain ⟨p, l, e, R, s, m, args, below, meth, c, D, cA, ad, nL⟩ := G
  intro r hr H locs ls ⟨s1, ⟨sb, sa, s2⟩, s3, s4, s5, s6⟩
  have h := k r hr H locs ls ⟨s1, ⟨by first | exact w32_in _ | exact i32_of _, s2⟩, s3, s4, s5, s6⟩
  refine lv_ixor C.1 C.2.1 hd ?_
  simp only [List.map_cons, toV, w32_of, Int32.ofInt_add, Int32.ofInt_sub, Int32.ofInt_mul, iand, ior, ixor, ishl, ishr, idv, irm, Int32.ofInt_toInt] at h
  exact h

theorem r_ishl {a b : Int} (C : Cx G own cc ret fr lo) (hd : decode cc pc = .ok (.ishl, 1)) (k : Rf G (pc + 1) al (zi (ishl a b) :: st) M o K) : Rf G pc al (zi b :: zi a :: st) M o K := by
  obtain ⟨p, l, e, R, s, m, args, below, meth, c, D, cA, ad, nL⟩ := G
  intro r hr H locs ls ⟨s1, ⟨sb, sa, s2⟩, s3, s4, s5, s6⟩
  have h := k r hr H locs ls ⟨s1, ⟨by first | exact w32_in _ | exact i32_of _, s2⟩, s3, s4, s5, s6⟩
  refine lv_ishl C.1 C.2.1 hd ?_
  simp only [List.map_cons, toV, w32_of, Int32.ofInt_add, Int32.ofInt_sub, Int32.ofInt_mul, iand, ior, ixor, ishl, ishr, idv, irm, Int32.ofInt_toInt] at h
  exact h

theorem r_ishr {a b : Int} (C : Cx G own cc ret fr lo) (hd : decode cc pc = .ok (.ishr, 1)) (k : Rf G (pc + 1) al (zi (ishr a b) :: st) M o K) : Rf G pc al (zi b :: zi a :: st) M o K := by
  obtain ⟨p, l, e, R, s, m, args, below, meth, c, D, cA, ad, nL⟩ := G
  intro r hr H locs ls ⟨s1, ⟨sb, sa, s2⟩, s3, s4, s5, s6⟩
  have h := k r hr H locs ls ⟨s1, ⟨by first | exact w32_in _ | exact i32_of _, s2⟩, s3, s4, s5, s6⟩
  refine lv_ishr C.1 C.2.1 hd ?_
  simp only [List.map_cons, toV, w32_of, Int32.ofInt_add, Int32.ofInt_sub, Int32.ofInt_mul, iand, ior, ixor, ishl, ishr, idv, irm, Int32.ofInt_toInt] at h
  exact h

theorem r_idiv {a b : Int} (C : Cx G own cc ret fr lo) (hd : decode cc pc = .ok (.idiv, 1)) (hz : b ≠ 0) (k : Rf G (pc + 1) al (zi (idv a b) :: st) M o K) : Rf G pc al (zi b :: zi a :: st) M o K := by
  obtain ⟨p, l, e, R, s, m, args, below, meth, c, D, cA, ad, nL⟩ := G
  intro r hr H locs ls ⟨s1, ⟨sb, sa, s2⟩, s3, s4, s5, s6⟩
  have h := k r hr H locs ls ⟨s1, ⟨by first | exact w32_in _ | exact i32_of _, s2⟩, s3, s4, s5, s6⟩
  refine lv_idiv C.1 C.2.1 hd (fun q => hz (by have h0 := congrArg Int32.toInt q; rw [i32_to sb] at h0; exact h0)) ?_
  simp only [List.map_cons, toV, w32_of, Int32.ofInt_add, Int32.ofInt_sub, Int32.ofInt_mul, iand, ior, ixor, ishl, ishr, idv, irm, Int32.ofInt_toInt] at h
  exact h

theorem r_irem {a b : Int} (C : Cx G own cc ret fr lo) (hd : decode cc pc = .ok (.irem, 1)) (hz : b ≠ 0) (k : Rf G (pc + 1) al (zi (irm a b) :: st) M o K) : Rf G pc al (zi b :: zi a :: st) M o K := by
  obtain ⟨p, l, e, R, s, m, args, below, meth, c, D, cA, ad, nL⟩ := G
  intro r hr H locs ls ⟨s1, ⟨sb, sa, s2⟩, s3, s4, s5, s6⟩
  have h := k r hr H locs ls ⟨s1, ⟨by first | exact w32_in _ | exact i32_of _, s2⟩, s3, s4, s5, s6⟩
  refine lv_irem C.1 C.2.1 hd (fun q => hz (by have h0 := congrArg Int32.toInt q; rw [i32_to sb] at h0; exact h0)) ?_
  simp only [List.map_cons, toV, w32_of, Int32.ofInt_add, Int32.ofInt_sub, Int32.ofInt_mul, iand, ior, ixor, ishl, ishr, idv, irm, Int32.ofInt_toInt] at h
  exact h

theorem r_iushr {a b : Int} (C : Cx G own cc ret fr lo) (hd : decode cc pc = .ok (.iushr, 1)) (k : Rf G (pc + 1) al (zi (iushr a b) :: st) M o K) : Rf G pc al (zi b :: zi a :: st) M o K := by
  obtain ⟨p, l, e, R, s, m, args, below, meth, c, D, cA, ad, nL⟩ := G
  intro r hr H locs ls ⟨s1, ⟨sb, sa, s2⟩, s3, s4, s5, s6⟩
  have h := k r hr H locs ls ⟨s1, ⟨i32_of _, s2⟩, s3, s4, s5, s6⟩
  refine lv_iushr C.1 C.2.1 hd rfl ?_
  simp only [List.map_cons, toV, iushr, Int32.ofInt_toInt] at h
  exact h

theorem r_ladd {a b : Int} (C : Cx G own cc ret fr lo) (hd : decode cc pc = .ok (.ladd, 1)) (k : Rf G (pc + 1) al (zl (w64 (a + b)) :: st) M o K) : Rf G pc al (zl b :: zl a :: st) M o K := by
  obtain ⟨p, l, e, R, s, m, args, below, meth, c, D, cA, ad, nL⟩ := G
  intro r hr H locs ls ⟨s1, ⟨sb, sa, s2⟩, s3, s4, s5, s6⟩
  have h := k r hr H locs ls ⟨s1, ⟨by first | exact w64_in _ | exact i64_of _, s2⟩, s3, s4, s5, s6⟩
  refine lv_ladd C.1 C.2.1 hd ?_
  simp only [List.map_cons, toV, w64_of, Int64.ofInt_add, Int64.ofInt_sub, Int64.ofInt_mul, land, lor, lxor, Int64.ofInt_toInt] at h
  exact h

theorem r_lsub {a b : Int} (C : Cx G own cc ret fr lo) (hd : decode cc pc = .ok (.lsub, 1)) (k : Rf G (pc + 1) al (zl (w64 (a - b)) :: st) M o K) : Rf G pc al (zl b :: zl a :: st) M o K := by
  obtain ⟨p, l, e, R, s, m, args, below, meth, c, D, cA, ad, nL⟩ := G
  intro r hr H locs ls ⟨s1, ⟨sb, sa, s2⟩, s3, s4, s5, s6⟩
  have h := k r hr H locs ls ⟨s1, ⟨by first | exact w64_in _ | exact i64_of _, s2⟩, s3, s4, s5, s6⟩
  refine lv_lsub C.1 C.2.1 hd ?_
  simp only [List.map_cons, toV, w64_of, Int64.ofInt_add, Int64.ofInt_sub, Int64.ofInt_mul, land, lor, lxor, Int64.ofInt_toInt] at h
  exact h

theorem r_lmul {a b : Int} (C : Cx G own cc ret fr lo) (hd : decode cc pc = .ok (.lmul, 1)) (k : Rf G (pc + 1) al (zl (w64 (a * b)) :: st) M o K) : Rf G pc al (zl b :: zl a :: st) M o K := by
  obtain ⟨p, l, e, R, s, m, args, below, meth, c, D, cA, ad, nL⟩ := G
  intro r hr H locs ls ⟨s1, ⟨sb, sa, s2⟩, s3, s4, s5, s6⟩
  have h := k r hr H locs ls ⟨s1, ⟨by first | exact w64_in _ | exact i64_of _, s2⟩, s3, s4, s5, s6⟩
  refine lv_lmul C.1 C.2.1 hd ?_
  simp only [List.map_cons, toV, w64_of, Int64.ofInt_add, Int64.ofInt_sub, Int64.ofInt_mul, land, lor, lxor, Int64.ofInt_toInt] at h
  exact h

theorem r_land {a b : Int} (C : Cx G own cc ret fr lo) (hd : decode cc pc = .ok (.land, 1)) (k : Rf G (pc + 1) al (zl (land a b) :: st) M o K) : Rf G pc al (zl b :: zl a :: st) M o K := by
  obtain ⟨p, l, e, R, s, m, args, below, meth, c, D, cA, ad, nL⟩ := G
  intro r hr H locs ls ⟨s1, ⟨sb, sa, s2⟩, s3, s4, s5, s6⟩
  have h := k r hr H locs ls ⟨s1, ⟨by first | exact w64_in _ | exact i64_of _, s2⟩, s3, s4, s5, s6⟩
  refine lv_land C.1 C.2.1 hd ?_
  simp only [List.map_cons, toV, w64_of, Int64.ofInt_add, Int64.ofInt_sub, Int64.ofInt_mul, land, lor, lxor, Int64.ofInt_toInt] at h
  exact h

theorem r_lor {a b : Int} (C : Cx G own cc ret fr lo) (hd : decode cc pc = .ok (.lor, 1)) (k : Rf G (pc + 1) al (zl (lor a b) :: st) M o K) : Rf G pc al (zl b :: zl a :: st) M o K := by
  obtain ⟨p, l, e, R, s, m, args, below, meth, c, D, cA, ad, nL⟩ := G
  intro r hr H locs ls ⟨s1, ⟨sb, sa, s2⟩, s3, s4, s5, s6⟩
  have h := k r hr H locs ls ⟨s1, ⟨by first | exact w64_in _ | exact i64_of _, s2⟩, s3, s4, s5, s6⟩
  refine lv_lor C.1 C.2.1 hd ?_
  simp only [List.map_cons, toV, w64_of, Int64.ofInt_add, Int64.ofInt_sub, Int64.ofInt_mul, land, lor, lxor, Int64.ofInt_toInt] at h
  exact h

theorem r_lxor {a b : Int} (C : Cx G own cc ret fr lo) (hd : decode cc pc = .ok (.lxor, 1)) (k : Rf G (pc + 1) al (zl (lxor a b) :: st) M o K) : Rf G pc al (zl b :: zl a :: st) M o K := by
  obtain ⟨p, l, e, R, s, m, args, below, meth, c, D, cA, ad, nL⟩ := G
  intro r hr H locs ls ⟨s1, ⟨sb, sa, s2⟩, s3, s4, s5, s6⟩
  have h := k r hr H locs ls ⟨s1, ⟨by first | exact w64_in _ | exact i64_of _, s2⟩, s3, s4, s5, s6⟩
  refine lv_lxor C.1 C.2.1 hd ?_
  simp only [List.map_cons, toV, w64_of, Int64.ofInt_add, Int64.ofInt_sub, Int64.ofInt_mul, land, lor, lxor, Int64.ofInt_toInt] at h
  exact h

theorem r_lshl {a b : Int} (C : Cx G own cc ret fr lo) (hd : decode cc pc = .ok (.lshl, 1)) (k : Rf G (pc + 1) al (zl (lshl a b) :: st) M o K) : Rf G pc al (zi b :: zl a :: st) M o K := by
  obtain ⟨p, l, e, R, s, m, args, below, meth, c, D, cA, ad, nL⟩ := G
  intro r hr H locs ls ⟨s1, ⟨sb, sa, s2⟩, s3, s4, s5, s6⟩
  have h := k r hr H locs ls ⟨s1, ⟨i64_of _, s2⟩, s3, s4, s5, s6⟩
  refine lv_lshl C.1 C.2.1 hd rfl ?_
  simp only [List.map_cons, toV, lshl, Int64.ofInt_toInt] at h
  exact h

theorem r_lshr {a b : Int} (C : Cx G own cc ret fr lo) (hd : decode cc pc = .ok (.lshr, 1)) (k : Rf G (pc + 1) al (zl (lshr a b) :: st) M o K) : Rf G pc al (zi b :: zl a :: st) M o K := by
  obtain ⟨p, l, e, R, s, m, args, below, meth, c, D, cA, ad, nL⟩ := G
  intro r hr H locs ls ⟨s1, ⟨sb, sa, s2⟩, s3, s4, s5, s6⟩
  have h := k r hr H locs ls ⟨s1, ⟨i64_of _, s2⟩, s3, s4, s5, s6⟩
  refine lv_lshr C.1 C.2.1 hd rfl ?_
  simp only [List.map_cons, toV, lshr, Int64.ofInt_toInt] at h
  exact h

theorem r_lushr {a b : Int} (C : Cx G own cc ret fr lo) (hd : decode cc pc = .ok (.lushr, 1)) (k : Rf G (pc + 1) al (zl (lushr a b) :: st) M o K) : Rf G pc al (zi b :: zl a :: st) M o K := by
  obtain ⟨p, l, e, R, s, m, args, below, meth, c, D, cA, ad, nL⟩ := G
  intro r hr H locs ls ⟨s1, ⟨sb, sa, s2⟩, s3, s4, s5, s6⟩
  have h := k r hr H locs ls ⟨s1, ⟨i64_of _, s2⟩, s3, s4, s5, s6⟩
  refine lv_lushr C.1 C.2.1 hd rfl ?_
  simp only [List.map_cons, toV, lushr, Int64.ofInt_toInt] at h
  exact h

theorem r_lcmp {a b : Int} (C : Cx G own cc ret fr lo) (hd : decode cc pc = .ok (.lcmp, 1)) (k : Rf G (pc + 1) al (zi (lc a b) :: st) M o K) : Rf G pc al (zl b :: zl a :: st) M o K := by
  obtain ⟨p, l, e, R, s, m, args, below, meth, c, D, cA, ad, nL⟩ := G
  intro r hr H locs ls ⟨s1, ⟨sb, sa, s2⟩, s3, s4, s5, s6⟩
  have h := k r hr H locs ls ⟨s1, ⟨i32_of _, s2⟩, s3, s4, s5, s6⟩
  refine W.lcmp C.1 C.2.1 hd ?_
  simp only [List.map_cons, toV, lc, Int32.ofInt_toInt] at h
  exact h
theorem r_i2l {a : Int} (C : Cx G own cc ret fr lo) (hd : decode cc pc = .ok (.i2l, 1)) (k : Rf G (pc + 1) al (zl a :: st) M o K) : Rf G pc al (zi a :: st) M o K := by
  obtain ⟨p, l, e, R, s, m, args, below, meth, c, D, cA, ad, nL⟩ := G
  intro r hr H locs ls ⟨s1, ⟨sa, s2⟩, s3, s4, s5, s6⟩
  refine lv_i2l C.1 C.2.1 hd ?_ (k r hr H locs ls ⟨s1, ⟨i64_32 sa, s2⟩, s3, s4, s5, s6⟩)
  apply Int64.toInt_inj.mp
  rw [Int32.toInt_toInt64, i32_to sa, i64_to (i64_32 sa)]
theorem r_l2i {a : Int} (C : Cx G own cc ret fr lo) (hd : decode cc pc = .ok (.l2i, 1)) (k : Rf G (pc + 1) al (zi (w32 a) :: st) M o K) : Rf G pc al (zl a :: st) M o K := by
  obtain ⟨p, l, e, R, s, m, args, below, meth, c, D, cA, ad, nL⟩ := G
  intro r hr H locs ls ⟨s1, ⟨sa, s2⟩, s3, s4, s5, s6⟩
  refine lv_l2i C.1 C.2.1 hd ?_ (k r hr H locs ls ⟨s1, ⟨w32_in _, s2⟩, s3, s4, s5, s6⟩)
  rw [Int64.toInt32_ofInt, w32_of]
theorem r_i2b {a : Int} (C : Cx G own cc ret fr lo) (hd : decode cc pc = .ok (.i2b, 1)) (k : Rf G (pc + 1) al (zi (i2b a) :: st) M o K) : Rf G pc al (zi a :: st) M o K := by
  obtain ⟨p, l, e, R, s, m, args, below, meth, c, D, cA, ad, nL⟩ := G
  intro r hr H locs ls ⟨s1, ⟨sa, s2⟩, s3, s4, s5, s6⟩
  have h := k r hr H locs ls ⟨s1, ⟨i32_of _, s2⟩, s3, s4, s5, s6⟩
  refine lv_i2b C.1 C.2.1 hd rfl ?_
  simp only [List.map_cons, toV, i2b, Int32.ofInt_toInt] at h
  exact h
def cat1 : Vl → Bool
  | .inr (.inl _) => false
  | _ => true
theorem cat1_ok {ad : Nat → Nat} {v : Vl} (h : cat1 v = true) : (toV ad v).category = 1 := by
  rcases v with x | x | x
  · rfl
  · cases h
  · rfl
theorem r_dup {v : Vl} (C : Cx G own cc ret fr lo) (hd : decode cc pc = .ok (.dup, 1)) (hv : cat1 v = true) (k : Rf G (pc + 1) al (v :: v :: st) M o K) : Rf G pc al (v :: st) M o K := by
  obtain ⟨p, l, e, R, s, m, args, below, meth, c, D, cA, ad, nL⟩ := G
  intro r hr H locs ls ⟨s1, ⟨sa, s2⟩, s3, s4, s5, s6⟩
  exact lv_dup C.1 C.2.1 hd (cat1_ok hv) (k r hr H locs ls ⟨s1, ⟨sa, sa, s2⟩, s3, s4, s5, s6⟩)
theorem r_pop1 {v : Vl} (C : Cx G own cc ret fr lo) (hd : decode cc pc = .ok (.pop, 1)) (hv : cat1 v = true) (k : Rf G (pc + 1) al st M o K) : Rf G pc al (v :: st) M o K := by
  obtain ⟨p, l, e, R, s, m, args, below, meth, c, D, cA, ad, nL⟩ := G
  intro r hr H locs ls ⟨s1, ⟨sa, s2⟩, s3, s4, s5, s6⟩
  exact lv_pop C.1 C.2.1 hd (cat1_ok hv) (k r hr H locs ls ⟨s1, s2, s3, s4, s5, s6⟩)
theorem r_dup2 {v w : Vl} (C : Cx G own cc ret fr lo) (hd : decode cc pc = .ok (.dup2, 1)) (hv : cat1 v = true) (hw : cat1 w = true) (k : Rf G (pc + 1) al (v :: w :: v :: w :: st) M o K) : Rf G pc al (v :: w :: st) M o K := by
  obtain ⟨p, l, e, R, s, m, args, below, meth, c, D, cA, ad, nL⟩ := G
  intro r hr H locs ls ⟨s1, ⟨sa, sb, s2⟩, s3, s4, s5, s6⟩
  exact lv_dup2_11 C.1 C.2.1 hd (cat1_ok hv) (cat1_ok hw) (k r hr H locs ls ⟨s1, ⟨sa, sb, sa, sb, s2⟩, s3, s4, s5, s6⟩)
theorem r_goto {off : Int} {tgt : Nat} (C : Cx G own cc ret fr lo) (hd : decode cc pc = .ok (.goto off, 3)) (ht : (pc : Int) + off = (tgt : Int)) (k : Rf G tgt al st M o K) : Rf G pc al st M o K := by
  obtain ⟨p, l, e, R, s, m, args, below, meth, c, D, cA, ad, nL⟩ := G
  intro r hr H locs ls S
  exact lv_goto C.1 C.2.1 hd ht (k r hr H locs ls S)

theorem r_icmp_eq {a b : Int} {off : Int} {tgt : Nat} (C : Cx G own cc ret fr lo) (hd : decode cc pc = .ok (.if_icmp .eq off, 3)) (ht : (pc : Int) + off = (tgt : Int)) (kt : a = b → Rf G tgt al st M o K) (kf : ¬ (a = b) → Rf G (pc + 3) al st M o K) : Rf G pc al (zi b :: zi a :: st) M o K := by
  obtain ⟨p, l, e, R, s, m, args, below, meth, c, D, cA, ad, nL⟩ := G
  intro r hr H locs ls ⟨s1, ⟨sb, sa, s2⟩, s3, s4, s5, s6⟩
  refine lv_icmp_eq C.1 C.2.1 hd ht (fun h => kt (by first | exact (i32_lt sa sb).mp h | exact (i32_le sa sb).mp h | exact (i32_eq sa sb).mp h | exact (i32_lt sb sa).mp h | exact (i32_le sb sa).mp h) r hr H locs ls ⟨s1, s2, s3, s4, s5, s6⟩) (fun h => kf (fun q => h (by first | exact (i32_lt sa sb).mpr q | exact (i32_le sa sb).mpr q | exact (i32_eq sa sb).mpr q | exact (i32_lt sb sa).mpr q | exact (i32_le sb sa).mpr q)) r hr H locs ls ⟨s1, s2, s3, s4, s5, s6⟩)
theorem r_if_eq {a : Int} {off : Int} {tgt : Nat} (C : Cx G own cc ret fr lo) (hd : decode cc pc = .ok (.ifCond .eq off, 3)) (ht : (pc : Int) + off = (tgt : Int)) (kt : a = 0 → Rf G tgt al st M o K) (kf : ¬ (a = 0) → Rf G (pc + 3) al st M o K) : Rf G pc al (zi a :: st) M o K := by
  obtain ⟨p, l, e, R, s, m, args, below, meth, c, D, cA, ad, nL⟩ := G
  intro r hr H locs ls ⟨s1, ⟨sa, s2⟩, s3, s4, s5, s6⟩
  have sb : i32 0 := by unfold i32; omega
  refine lv_if_eq C.1 C.2.1 hd ht (fun h => kt (by first | exact (i32_lt sa sb).mp h | exact (i32_le sa sb).mp h | exact (i32_eq sa sb).mp h | exact (i32_lt sb sa).mp h | exact (i32_le sb sa).mp h) r hr H locs ls ⟨s1, s2, s3, s4, s5, s6⟩) (fun h => kf (fun q => h (by first | exact (i32_lt sa sb).mpr q | exact (i32_le sa sb).mpr q | exact (i32_eq sa sb).mpr q | exact (i32_lt sb sa).mpr q | exact (i32_le sb sa).mpr q)) r hr H locs ls ⟨s1, s2, s3, s4, s5, s6⟩)

theorem r_icmp_ne {a b : Int} {off : Int} {tgt : Nat} (C : Cx G own cc ret fr lo) (hd : decode cc pc = .ok (.if_icmp .ne off, 3)) (ht : (pc : Int) + off = (tgt : Int)) (kt : ¬ a = b → Rf G tgt al st M o K) (kf : a = b → Rf G (pc + 3) al st M o K) : Rf G pc al (zi b :: zi a :: st) M o K := by
  obtain ⟨p, l, e, R, s, m, args, below, meth, c, D, cA, ad, nL⟩ := G
  intro r hr H locs ls ⟨s1, ⟨sb, sa, s2⟩, s3, s4, s5, s6⟩
  exact lv_icmp_ne C.1 C.2.1 hd ht (fun h => kt (fun q => h ((i32_eq sa sb).mpr q)) r hr H locs ls ⟨s1, s2, s3, s4, s5, s6⟩) (fun h => kf ((i32_eq sa sb).mp h) r hr H locs ls ⟨s1, s2, s3, s4, s5, s6⟩)
theorem r_if_ne {a : Int} {off : Int} {tgt : Nat} (C : Cx G own cc ret fr lo) (hd : decode cc pc = .ok (.ifCond .ne off, 3)) (ht : (pc : Int) + off = (tgt : Int)) (kt : ¬ a = 0 → Rf G tgt al st M o K) (kf : a = 0 → Rf G (pc + 3) al st M o K) : Rf G pc al (zi a :: st) M o K := by
  obtain ⟨p, l, e, R, s, m, args, below, meth, c, D, cA, ad, nL⟩ := G
  intro r hr H locs ls ⟨s1, ⟨sa, s2⟩, s3, s4, s5, s6⟩
  have sb : i32 0 := by unfold i32; omega
  exact lv_if_ne C.1 C.2.1 hd ht (fun h => kt (fun q => h ((i32_eq sa sb).mpr q)) r hr H locs ls ⟨s1, s2, s3, s4, s5, s6⟩) (fun h => kf ((i32_eq sa sb).mp h) r hr H locs ls ⟨s1, s2, s3, s4, s5, s6⟩)

theorem r_icmp_lt {a b : Int} {off : Int} {tgt : Nat} (C : Cx G own cc ret fr lo) (hd : decode cc pc = .ok (.if_icmp .lt off, 3)) (ht : (pc : Int) + off = (tgt : Int)) (kt : a < b → Rf G tgt al st M o K) (kf : ¬ (a < b) → Rf G (pc + 3) al st M o K) : Rf G pc al (zi b :: zi a :: st) M o K := by
  obtain ⟨p, l, e, R, s, m, args, below, meth, c, D, cA, ad, nL⟩ := G
  intro r hr H locs ls ⟨s1, ⟨sb, sa, s2⟩, s3, s4, s5, s6⟩
  refine lv_icmp_lt C.1 C.2.1 hd ht (fun h => kt (by first | exact (i32_lt sa sb).mp h | exact (i32_le sa sb).mp h | exact (i32_eq sa sb).mp h | exact (i32_lt sb sa).mp h | exact (i32_le sb sa).mp h) r hr H locs ls ⟨s1, s2, s3, s4, s5, s6⟩) (fun h => kf (fun q => h (by first | exact (i32_lt sa sb).mpr q | exact (i32_le sa sb).mpr q | exact (i32_eq sa sb).mpr q | exact (i32_lt sb sa).mpr q | exact (i32_le sb sa).mpr q)) r hr H locs ls ⟨s1, s2, s3, s4, s5, s6⟩)
theorem r_if_lt {a : Int} {off : Int} {tgt : Nat} (C : Cx G own cc ret fr lo) (hd : decode cc pc = .ok (.ifCond .lt off, 3)) (ht : (pc : Int) + off = (tgt : Int)) (kt : a < 0 → Rf G tgt al st M o K) (kf : ¬ (a < 0) → Rf G (pc + 3) al st M o K) : Rf G pc al (zi a :: st) M o K := by
  obtain ⟨p, l, e, R, s, m, args, below, meth, c, D, cA, ad, nL⟩ := G
  intro r hr H locs ls ⟨s1, ⟨sa, s2⟩, s3, s4, s5, s6⟩
  have sb : i32 0 := by unfold i32; omega
  refine lv_if_lt C.1 C.2.1 hd ht (fun h => kt (by first | exact (i32_lt sa sb).mp h | exact (i32_le sa sb).mp h | exact (i32_eq sa sb).mp h | exact (i32_lt sb sa).mp h | exact (i32_le sb sa).mp h) r hr H locs ls ⟨s1, s2, s3, s4, s5, s6⟩) (fun h => kf (fun q => h (by first | exact (i32_lt sa sb).mpr q | exact (i32_le sa sb).mpr q | exact (i32_eq sa sb).mpr q | exact (i32_lt sb sa).mpr q | exact (i32_le sb sa).mpr q)) r hr H locs ls ⟨s1, s2, s3, s4, s5, s6⟩)

theorem r_icmp_ge {a b : Int} {off : Int} {tgt : Nat} (C : Cx G own cc ret fr lo) (hd : decode cc pc = .ok (.if_icmp .ge off, 3)) (ht : (pc : Int) + off = (tgt : Int)) (kt : b ≤ a → Rf G tgt al st M o K) (kf : ¬ (b ≤ a) → Rf G (pc + 3) al st M o K) : Rf G pc al (zi b :: zi a :: st) M o K := by
  obtain ⟨p, l, e, R, s, m, args, below, meth, c, D, cA, ad, nL⟩ := G
  intro r hr H locs ls ⟨s1, ⟨sb, sa, s2⟩, s3, s4, s5, s6⟩
  refine lv_icmp_ge C.1 C.2.1 hd ht (fun h => kt (by first | exact (i32_lt sa sb).mp h | exact (i32_le sa sb).mp h | exact (i32_eq sa sb).mp h | exact (i32_lt sb sa).mp h | exact (i32_le sb sa).mp h) r hr H locs ls ⟨s1, s2, s3, s4, s5, s6⟩) (fun h => kf (fun q => h (by first | exact (i32_lt sa sb).mpr q | exact (i32_le sa sb).mpr q | exact (i32_eq sa sb).mpr q | exact (i32_lt sb sa).mpr q | exact (i32_le sb sa).mpr q)) r hr H locs ls ⟨s1, s2, s3, s4, s5, s6⟩)
theorem r_if_ge {a : Int} {off : Int} {tgt : Nat} (C : Cx G own cc ret fr lo) (hd : decode cc pc = .ok (.ifCond .ge off, 3)) (ht : (pc : Int) + off = (tgt : Int)) (kt : 0 ≤ a → Rf G tgt al st M o K) (kf : ¬ (0 ≤ a) → Rf G (pc + 3) al st M o K) : Rf G pc al (zi a :: st) M o K := by
  obtain ⟨p, l, e, R, s, m, args, below, meth, c, D, cA, ad, nL⟩ := G
  intro r hr H locs ls ⟨s1, ⟨sa, s2⟩, s3, s4, s5, s6⟩
  have sb : i32 0 := by unfold i32; omega
  refine lv_if_ge C.1 C.2.1 hd ht (fun h => kt (by first | exact (i32_lt sa sb).mp h | exact (i32_le sa sb).mp h | exact (i32_eq sa sb).mp h | exact (i32_lt sb sa).mp h | exact (i32_le sb sa).mp h) r hr H locs ls ⟨s1, s2, s3, s4, s5, s6⟩) (fun h => kf (fun q => h (by first | exact (i32_lt sa sb).mpr q | exact (i32_le sa sb).mpr q | exact (i32_eq sa sb).mpr q | exact (i32_lt sb sa).mpr q | exact (i32_le sb sa).mpr q)) r hr H locs ls ⟨s1, s2, s3, s4, s5, s6⟩)

theorem r_icmp_gt {a b : Int} {off : Int} {tgt : Nat} (C : Cx G own cc ret fr lo) (hd : decode cc pc = .ok (.if_icmp .gt off, 3)) (ht : (pc : Int) + off = (tgt : Int)) (kt : b < a → Rf G tgt al st M o K) (kf : ¬ (b < a) → Rf G (pc + 3) al st M o K) : Rf G pc al (zi b :: zi a :: st) M o K := by
  obtain ⟨p, l, e, R, s, m, args, below, meth, c, D, cA, ad, nL⟩ := G
  intro r hr H locs ls ⟨s1, ⟨sb, sa, s2⟩, s3, s4, s5, s6⟩
  refine lv_icmp_gt C.1 C.2.1 hd ht (fun h => kt (by first | exact (i32_lt sa sb).mp h | exact (i32_le sa sb).mp h | exact (i32_eq sa sb).mp h | exact (i32_lt sb sa).mp h | exact (i32_le sb sa).mp h) r hr H locs ls ⟨s1, s2, s3, s4, s5, s6⟩) (fun h => kf (fun q => h (by first | exact (i32_lt sa sb).mpr q | exact (i32_le sa sb).mpr q | exact (i32_eq sa sb).mpr q | exact (i32_lt sb sa).mpr q | exact (i32_le sb sa).mpr q)) r hr H locs ls ⟨s1, s2, s3, s4, s5, s6⟩)
theorem r_if_gt {a : Int} {off : Int} {tgt : Nat} (C : Cx G own cc ret fr lo) (hd : decode cc pc = .ok (.ifCond .gt off, 3)) (ht : (pc : Int) + off = (tgt : Int)) (kt : 0 < a → Rf G tgt al st M o K) (kf : ¬ (0 < a) → Rf G (pc + 3) al st M o K) : Rf G pc al (zi a :: st) M o K := by
  obtain ⟨p, l, e, R, s, m, args, below, meth, c, D, cA, ad, nL⟩ := G
  intro r hr H locs ls ⟨s1, ⟨sa, s2⟩, s3, s4, s5, s6⟩
  have sb : i32 0 := by unfold i32; omega
  refine lv_if_gt C.1 C.2.1 hd ht (fun h => kt (by first | exact (i32_lt sa sb).mp h | exact (i32_le sa sb).mp h | exact (i32_eq sa sb).mp h | exact (i32_lt sb sa).mp h | exact (i32_le sb sa).mp h) r hr H locs ls ⟨s1, s2, s3, s4, s5, s6⟩) (fun h => kf (fun q => h (by first | exact (i32_lt sa sb).mpr q | exact (i32_le sa sb).mpr q | exact (i32_eq sa sb).mpr q | exact (i32_lt sb sa).mpr q | exact (i32_le sb sa).mpr q)) r hr H locs ls ⟨s1, s2, s3, s4, s5, s6⟩)

theorem r_icmp_le {a b : Int} {off : Int} {tgt : Nat} (C : Cx G own cc ret fr lo) (hd : decode cc pc = .ok (.if_icmp .le off, 3)) (ht : (pc : Int) + off = (tgt : Int)) (kt : a ≤ b → Rf G tgt al st M o K) (kf : ¬ (a ≤ b) → Rf G (pc + 3) al st M o K) : Rf G pc al (zi b :: zi a :: st) M o K := by
  obtain ⟨p, l, e, R, s, m, args, below, meth, c, D, cA, ad, nL⟩ := G
  intro r hr H locs ls ⟨s1, ⟨sb, sa, s2⟩, s3, s4, s5, s6⟩
  refine lv_icmp_le C.1 C.2.1 hd ht (fun h => kt (by first | exact (i32_lt sa sb).mp h | exact (i32_le sa sb).mp h | exact (i32_eq sa sb).mp h | exact (i32_lt sb sa).mp h | exact (i32_le sb sa).mp h) r hr H locs ls ⟨s1, s2, s3, s4, s5, s6⟩) (fun h => kf (fun q => h (by first | exact (i32_lt sa sb).mpr q | exact (i32_le sa sb).mpr q | exact (i32_eq sa sb).mpr q | exact (i32_lt sb sa).mpr q | exact (i32_le sb sa).mpr q)) r hr H locs ls ⟨s1, s2, s3, s4, s5, s6⟩)
theorem r_if_le {a : Int} {off : Int} {tgt : Nat} (C : Cx G own cc ret fr lo) (hd : decode cc pc = .ok (.ifCond .le off, 3)) (ht : (pc : Int) + off = (tgt : Int)) (kt : a ≤ 0 → Rf G tgt al st M o K) (kf : ¬ (a ≤ 0) → Rf G (pc + 3) al st M o K) : Rf G pc al (zi a :: st) M o K := by
  obtain ⟨p, l, e, R, s, m, args, below, meth, c, D, cA, ad, nL⟩ := G
  intro r hr H locs ls ⟨s1, ⟨sa, s2⟩, s3, s4, s5, s6⟩
  have sb : i32 0 := by unfold i32; omega
  refine lv_if_le C.1 C.2.1 hd ht (fun h => kt (by first | exact (i32_lt sa sb).mp h | exact (i32_le sa sb).mp h | exact (i32_eq sa sb).mp h | exact (i32_lt sb sa).mp h | exact (i32_le sb sa).mp h) r hr H locs ls ⟨s1, s2, s3, s4, s5, s6⟩) (fun h => kf (fun q => h (by first | exact (i32_lt sa sb).mpr q | exact (i32_le sa sb).mpr q | exact (i32_eq sa sb).mpr q | exact (i32_lt sb sa).mpr q | exact (i32_le sb sa).mpr q)) r hr H locs ls ⟨s1, s2, s3, s4, s5, s6⟩)

end Rows
