/-! ROWS as the printed functions take them. -/
def pI (M : Mem) (a : Nat) (k x : Int) : Option Mem := some (wr M a k x)
/-- as Cn_mk, for a method of a class of which some other methods are the machine's own -/
theorem Cn_mkF {y : MethodName} {bytes : ByteArray} {maxL : Nat} {ret : Option FieldType} {fr lo : Nat} {av : List Vl} {M : Mem} {β : Type} {o : Option β} {out : β → Option Vl × Mem} {own : String} (ho : y.cls = own) (hy : plainFor y = true) (hn : szL av ≤ maxL) (al : List (Option Vl)) (hal : entL av maxL = al)
    (body : ∀ G, Cx G own bytes ret fr lo → gnl G = maxL → Rf G 0 al [] M o (fun q => some (out q))) : Cn y bytes maxL ret fr lo av M (o.map out) := by
  intro l D cA ad hinj hM hav r hr
  subst hal
  subst ho
  refine MetFree.of_bodySF (code := bytes) (maxLocals := maxL) (ret := ret) hy ?_ ?_
  · intro args s m h hnm
    obtain ⟨meth, c, h1, h2, h3, h4, h5, h6, -, -⟩ := Cond.code_spec hnm (atoms_spec (ws := Cond.code y bytes maxL ret :: gt) h _ List.mem_cons_self)
    exact ⟨meth, c, h1, h2, h3, h4, h5, h6⟩
  · intro p e s m args below meth c s₁ B hml hP0 _
    have hh0 : s₁.heap = s.heap := by rw [B.state]; rfl
    obtain ⟨rfl, hP, hK, hNW⟩ := hP0
    have hts := atoms_spec (ws := Cond.code y bytes maxL ret :: gt) B.pre
    have hown : s.vm.findClass y.cls = some m.cls := findClass_of_methodNamed B.named
    have C : Cx (p, l, e, { frames := fr, cells := 0, slots := 0, locals := lo }, s, m, (av.map (toV ad)).toArray, below, meth, c, D, cA, ad, maxL) y.cls bytes ret fr lo :=
      ⟨B.exec, B.bytes, hml, hown, fun w hw => hts w (List.mem_cons_of_mem _ hw), B.returns, B.notSynchronized, hK, hNW, hinj, rfl, rfl⟩
    have hb := body _ C rfl r (by
      cases o with
      | none => cases hr
      | some q => exact hr)
    have hl := lv_entry (av.map (toV ad)) (n := maxL) (by rw [szL_ok]; exact hn)
    rw [lg_entry_eq]
    obtain ⟨t, a1, o1, b1, b2, b3⟩ := hb s.heap [] _ ⟨hM, trivial, fun i v h => okS_of hav v (entL_mem (ad := ad) av maxL 0 i v h).2, ⟨hl.1, hl.2.1, fun i v h => by
      have := hl.2.2 _ (entL_mem (ad := ad) av maxL 0 i v h).1
      simpa using this⟩, hP, va_S.rf⟩ s₁ hh0 (Stand.of_body B)
    exact ⟨t, o1, a1, b1, b2, b3⟩
section Rows2
variable {β : Type} {G : Gx} {own : String} {cc : ByteArray} {ret : Option FieldType} {fr lo pc : Nat} {al : List (Option Vl)} {st : List Vl} {M : Mem} {o : Option β} {K : β → Option (Option Vl × Mem)}
theorem r_let {e : Int} {h : Int → Option β} (k : ∀ v, v = e → Rf G pc al (zi v :: st) M (h v) K) : Rf G pc al (zi e :: st) M ((some e).bind h) K := k e rfl
theorem r_letl {e : Int} {h : Int → Option β} (k : ∀ v, v = e → Rf G pc al (zl v :: st) M (h v) K) : Rf G pc al (zl e :: st) M ((some e).bind h) K := k e rfl
theorem r_guard {b : Int} {h : Unit → Option β} (k : b ≠ 0 → Rf G pc al st M (h ()) K) : Rf G pc al st M ((if b = 0 then none else some ()).bind h) K := by
  by_cases hb : b = 0
  · rw [if_pos hb]; exact r_none
  · rw [if_neg hb]; exact k hb
theorem r_itp {c : Prop} [Decidable c] {p0 p1 : Nat} {a b : Option β} (k1 : c → Rf G p0 al st M a K) (k2 : ¬ c → Rf G p1 al st M b K) : Rf G (if c then p0 else p1) al st M (if c then a else b) K := by
  by_cases h : c
  · rw [if_pos h, if_pos h]; exact k1 h
  · rw [if_neg h, if_neg h]; exact k2 h
theorem r_sw {x : Int} (tgt : Nat) (J : Rf G tgt al st M o K) (k : Rf G tgt al st M o K → Rf G pc al (zi x :: st) M o K) : Rf G pc al (zi x :: st) M o K := k J
theorem r_join {γ : Type} {x : Option γ} {h : γ → Option β} {pcJ : γ → Nat} {al' : γ → List (Option Vl)} {st' : γ → List Vl} {M' : γ → Mem} (J : ∀ q, Rf G (pcJ q) (al' q) (st' q) (M' q) (h q) K) (k : (∀ q, Rf G (pcJ q) (al' q) (st' q) (M' q) (some q) (fun v => (h v).bind K)) → Rf G pc al st M x (fun v => (h v).bind K)) : Rf G pc al st M (x.bind h) K := r_push (k (fun q => r_pop (J q)))
theorem r_lp {S R : Type} {f : S → Option (S ⊕ R)} {h : R → Option β} {pcX : Nat} {AL : S → List (Option Vl)} {MM : S → Mem} {AX : R → List (Option Vl)} {MX : R → Mem} (J : ∀ q, Rf G pcX (AX q) st (MX q) (h q) K)
    (hbody : ∀ g : S → Option β, (∀ s, Rf G pc (AL s) st (MM s) (some (.inl s : S ⊕ R)) (fun v => (Sum.elim g h v).bind K)) → (∀ q, Rf G pcX (AX q) st (MX q) (some (.inr q : S ⊕ R)) (fun v => (Sum.elim g h v).bind K)) → ∀ s, Rf G pc (AL s) st (MM s) (f s) (fun v => (Sum.elim g h v).bind K)) (s : S) : Rf G pc (AL s) st (MM s) ((lp f s).bind h) K :=
  r_loop AL MM (fun g hg s => hbody g (fun s => hg s) (fun q => J q) s) s
theorem r_lpr {S X R : Type} {f : S → Option (S ⊕ (X ⊕ R))} {hx : X → Option β} {hr : R → Option β} {pcX : Nat} {AL : S → List (Option Vl)} {MM : S → Mem} {AX : X → List (Option Vl)} {MX : X → Mem} (J : ∀ q, Rf G pcX (AX q) st (MX q) (hx q) K)
    (hbody : ∀ g : S → Option β, (∀ s, Rf G pc (AL s) st (MM s) (some (.inl s : S ⊕ (X ⊕ R))) (fun v => (Sum.elim g (Sum.elim hx hr) v).bind K)) → (∀ q, Rf G pcX (AX q) st (MX q) (some (.inr (.inl q) : S ⊕ (X ⊕ R))) (fun v => (Sum.elim g (Sum.elim hx hr) v).bind K)) → ∀ s, Rf G pc (AL s) st (MM s) (f s) (fun v => (Sum.elim g (Sum.elim hx hr) v).bind K)) (s : S) : Rf G pc (AL s) st (MM s) ((lp f s).bind (Sum.elim hx hr)) K :=
  r_loop AL MM (fun g hg s => hbody g (fun s => hg s) (fun q => J q) s) s

theorem q_icmp_eq {a b : Int} {off : Int} {tgt : Nat} {A B : Option β} (C : Cx G own cc ret fr lo) (hd : decode cc pc = .ok (.if_icmp .eq off, 3)) (ht : (pc : Int) + off = (tgt : Int)) (kt : a = b → Rf G tgt al st M A K) (kf : ¬ (a = b) → Rf G (pc + 3) al st M B K) : Rf G pc al (zi b :: zi a :: st) M (if a = b then A else B) K :=
  r_icmp_eq C hd ht (fun h => by rw [if_pos h]; exact kt h) (fun h => by rw [if_neg h]; exact kf h)
theorem q_if_eq {a : Int} {off : Int} {tgt : Nat} {A B : Option β} (C : Cx G own cc ret fr lo) (hd : decode cc pc = .ok (.ifCond .eq off, 3)) (ht : (pc : Int) + off = (tgt : Int)) (kt : a = 0 → Rf G tgt al st M A K) (kf : ¬ (a = 0) → Rf G (pc + 3) al st M B K) : Rf G pc al (zi a :: st) M (if a = 0 then A else B) K :=
  r_if_eq C hd ht (fun h => by rw [if_pos h]; exact kt h) (fun h => by rw [if_neg h]; exact kf h)
theorem q_icmp_lt {a b : Int} {off : Int} {tgt : Nat} {A B : Option β} (C : Cx G own cc ret fr lo) (hd : decode cc pc = .ok (.if_icmp .lt off, 3)) (ht : (pc : Int) + off = (tgt : Int)) (kt : a < b → Rf G tgt al st M A K) (kf : ¬ (a < b) → Rf G (pc + 3) al st M B K) : Rf G pc al (zi b :: zi a :: st) M (if a < b then A else B) K :=
  r_icmp_lt C hd ht (fun h => by rw [if_pos h]; exact kt h) (fun h => by rw [if_neg h]; exact kf h)
theorem q_if_lt {a : Int} {off : Int} {tgt : Nat} {A B : Option β} (C : Cx G own cc ret fr lo) (hd : decode cc pc = .ok (.ifCond .lt off, 3)) (ht : (pc : Int) + off = (tgt : Int)) (kt : a < 0 → Rf G tgt al st M A K) (kf : ¬ (a < 0) → Rf G (pc + 3) al st M B K) : Rf G pc al (zi a :: st) M (if a < 0 then A else B) K :=
  r_if_lt C hd ht (fun h => by rw [if_pos h]; exact kt h) (fun h => by rw [if_neg h]; exact kf h)
theorem q_icmp_ge {a b : Int} {off : Int} {tgt : Nat} {A B : Option β} (C : Cx G own cc ret fr lo) (hd : decode cc pc = .ok (.if_icmp .ge off, 3)) (ht : (pc : Int) + off = (tgt : Int)) (kt : b ≤ a → Rf G tgt al st M A K) (kf : ¬ (b ≤ a) → Rf G (pc + 3) al st M B K) : Rf G pc al (zi b :: zi a :: st) M (if b ≤ a then A else B) K :=
  r_icmp_ge C hd ht (fun h => by rw [if_pos h]; exact kt h) (fun h => by rw [if_neg h]; exact kf h)
theorem q_if_ge {a : Int} {off : Int} {tgt : Nat} {A B : Option β} (C : Cx G own cc ret fr lo) (hd : decode cc pc = .ok (.ifCond .ge off, 3)) (ht : (pc : Int) + off = (tgt : Int)) (kt : 0 ≤ a → Rf G tgt al st M A K) (kf : ¬ (0 ≤ a) → Rf G (pc + 3) al st M B K) : Rf G pc al (zi a :: st) M (if 0 ≤ a then A else B) K :=
  r_if_ge C hd ht (fun h => by rw [if_pos h]; exact kt h) (fun h => by rw [if_neg h]; exact kf h)
theorem q_icmp_gt {a b : Int} {off : Int} {tgt : Nat} {A B : Option β} (C : Cx G own cc ret fr lo) (hd : decode cc pc = .ok (.if_icmp .gt off, 3)) (ht : (pc : Int) + off = (tgt : Int)) (kt : b < a → Rf G tgt al st M A K) (kf : ¬ (b < a) → Rf G (pc + 3) al st M B K) : Rf G pc al (zi b :: zi a :: st) M (if b < a then A else B) K :=
  r_icmp_gt C hd ht (fun h => by rw [if_pos h]; exact kt h) (fun h => by rw [if_neg h]; exact kf h)
theorem q_if_gt {a : Int} {off : Int} {tgt : Nat} {A B : Option β} (C : Cx G own cc ret fr lo) (hd : decode cc pc = .ok (.ifCond .gt off, 3)) (ht : (pc : Int) + off = (tgt : Int)) (kt : 0 < a → Rf G tgt al st M A K) (kf : ¬ (0 < a) → Rf G (pc + 3) al st M B K) : Rf G pc al (zi a :: st) M (if 0 < a then A else B) K :=
  r_if_gt C hd ht (fun h => by rw [if_pos h]; exact kt h) (fun h => by rw [if_neg h]; exact kf h)
theorem q_icmp_le {a b : Int} {off : Int} {tgt : Nat} {A B : Option β} (C : Cx G own cc ret fr lo) (hd : decode cc pc = .ok (.if_icmp .le off, 3)) (ht : (pc : Int) + off = (tgt : Int)) (kt : a ≤ b → Rf G tgt al st M A K) (kf : ¬ (a ≤ b) → Rf G (pc + 3) al st M B K) : Rf G pc al (zi b :: zi a :: st) M (if a ≤ b then A else B) K :=
  r_icmp_le C hd ht (fun h => by rw [if_pos h]; exact kt h) (fun h => by rw [if_neg h]; exact kf h)
theorem q_if_le {a : Int} {off : Int} {tgt : Nat} {A B : Option β} (C : Cx G own cc ret fr lo) (hd : decode cc pc = .ok (.ifCond .le off, 3)) (ht : (pc : Int) + off = (tgt : Int)) (kt : a ≤ 0 → Rf G tgt al st M A K) (kf : ¬ (a ≤ 0) → Rf G (pc + 3) al st M B K) : Rf G pc al (zi a :: st) M (if a ≤ 0 then A else B) K :=
  r_if_le C hd ht (fun h => by rw [if_pos h]; exact kt h) (fun h => by rw [if_neg h]; exact kf h)
theorem q_icmp_ne {a b : Int} {off : Int} {tgt : Nat} {A B : Option β} (C : Cx G own cc ret fr lo) (hd : decode cc pc = .ok (.if_icmp .ne off, 3)) (ht : (pc : Int) + off = (tgt : Int)) (kt : ¬ a = b → Rf G tgt al st M B K) (kf : a = b → Rf G (pc + 3) al st M A K) : Rf G pc al (zi b :: zi a :: st) M (if a = b then A else B) K :=
  r_icmp_ne C hd ht (fun h => by rw [if_neg h]; exact kt h) (fun h => by rw [if_pos h]; exact kf h)
theorem q_if_ne {a : Int} {off : Int} {tgt : Nat} {A B : Option β} (C : Cx G own cc ret fr lo) (hd : decode cc pc = .ok (.ifCond .ne off, 3)) (ht : (pc : Int) + off = (tgt : Int)) (kt : ¬ a = 0 → Rf G tgt al st M B K) (kf : a = 0 → Rf G (pc + 3) al st M A K) : Rf G pc al (zi a :: st) M (if a = 0 then A else B) K :=
  r_if_ne C hd ht (fun h => by rw [if_neg h]; exact kt h) (fun h => by rw [if_pos h]; exact kf h)
theorem q_geti {a ci k index : Nat} {kz : Int} {C : String} {T : u_T} {N : Nat} {ty0 : Nat → FieldType} (Cc : Cx G own cc ret fr lo) (hC : ClOk ci C T N ty0) (hk : kd a = (0, ci)) (hkN : k < N) (hl : Cond.fieldLink own index (T k).1 (T k).2.1 (T k).2.2.1 ∈ gt) (hd : decode cc pc = .ok (.getfield index, 3)) (hz : (k : Int) = kz) (hf : ft ci k = 0 ∨ ft ci k = 1) (kk : Rf G (pc + 3) al (zi (M a kz) :: st) M o K) : Rf G pc al (zr a :: st) M o K := by
  subst hz
  exact r_geti Cc hC hk hkN hl hd hf kk
theorem q_getl {a ci k index : Nat} {kz : Int} {C : String} {T : u_T} {N : Nat} {ty0 : Nat → FieldType} (Cc : Cx G own cc ret fr lo) (hC : ClOk ci C T N ty0) (hk : kd a = (0, ci)) (hkN : k < N) (hl : Cond.fieldLink own index (T k).1 (T k).2.1 (T k).2.2.1 ∈ gt) (hd : decode cc pc = .ok (.getfield index, 3)) (hz : (k : Int) = kz) (hf : ft ci k = 2) (kk : Rf G (pc + 3) al (zl (M a kz) :: st) M o K) : Rf G pc al (zr a :: st) M o K := by
  subst hz
  exact r_getl Cc hC hk hkN hl hd hf kk
theorem q_puti {a ci k index : Nat} {C : String} {T : u_T} {N : Nat} {ty0 : Nat → FieldType} {x : Int} {h : Mem → Option β} (Cc : Cx G own cc ret fr lo) (hC : ClOk ci C T N ty0) (hk : kd a = (0, ci)) (hkN : k < N) (hl : Cond.fieldLink own index (T k).1 (T k).2.1 (T k).2.2.1 ∈ gt) (hfin : (T k).2.2.2 = false) (hd : decode cc pc = .ok (.putfield index, 3)) (hf : ft ci k = 0) (hty : ty0 k = .int) (kk : ∀ M', Rf G (pc + 3) al st M' (h M') K) : Rf G pc al (zi x :: zr a :: st) M ((pI M a k x).bind h) K := r_puti Cc hC hk hkN hl hfin hd hf hty (kk _)
theorem q_putl {a ci k index : Nat} {C : String} {T : u_T} {N : Nat} {ty0 : Nat → FieldType} {x : Int} {h : Mem → Option β} (Cc : Cx G own cc ret fr lo) (hC : ClOk ci C T N ty0) (hk : kd a = (0, ci)) (hkN : k < N) (hl : Cond.fieldLink own index (T k).1 (T k).2.1 (T k).2.2.1 ∈ gt) (hfin : (T k).2.2.2 = false) (hd : decode cc pc = .ok (.putfield index, 3)) (hf : ft ci k = 2) (hty : ty0 k = .long) (kk : ∀ M', Rf G (pc + 3) al st M' (h M') K) : Rf G pc al (zl x :: zr a :: st) M ((pI M a k x).bind h) K := r_putl Cc hC hk hkN hl hfin hd hf hty (kk _)
theorem q_putz {a ci k index : Nat} {C : String} {T : u_T} {N : Nat} {ty0 : Nat → FieldType} {x : Int} {h : Mem → Option β} (Cc : Cx G own cc ret fr lo) (hC : ClOk ci C T N ty0) (hk : kd a = (0, ci)) (hkN : k < N) (hl : Cond.fieldLink own index (T k).1 (T k).2.1 (T k).2.2.1 ∈ gt) (hfin : (T k).2.2.2 = false) (hd : decode cc pc = .ok (.putfield index, 3)) (hf : ft ci k = 1) (hty : ty0 k = .boolean) (kk : ∀ M', Rf G (pc + 3) al st M' (h M') K) : Rf G pc al (zi x :: zr a :: st) M ((pz M a k x).bind h) K := r_putz Cc hC hk hkN hl hfin hd hf hty (kk _)
theorem q_putm {a ci k index : Nat} {C : String} {T : u_T} {N : Nat} {ty0 : Nat → FieldType} {b : Nat} {E : String} {h : Mem → Option β} (Cc : Cx G own cc ret fr lo) (hC : ClOk ci C T N ty0) (hk : kd a = (0, ci)) (hkN : k < N) (hl : Cond.fieldLink own index (T k).1 (T k).2.1 (T k).2.2.1 ∈ gt) (hfin : (T k).2.2.2 = false) (hd : decode cc pc = .ok (.putfield index, 3)) (hf : ft ci k = 4) (hty : ty0 k = .object E) (hb : b = 5 ∨ b = 119) (kk : ∀ M', Rf G (pc + 3) al st M' (h M') K) : Rf G pc al (zr b :: zr a :: st) M ((pI M a k (b : Int)).bind h) K := r_putm Cc hC hk hkN hl hfin hd hf hty hb (kk _)
theorem q_callVi {y : MethodName} {bytes : ByteArray} {maxL n : Nat} {rt : Option FieldType} {fr' lo' index a ci : Nat} {av rest : List Vl} {f : Option (Int × Mem)} {h : Int × Mem → Option β} {T : u_T} {N : Nat} (C : Cx G own cc ret fr lo) (hc : Cn y bytes maxL rt fr' lo' (zr a :: av) M (f.map oI)) (hw : LkV own index y bytes maxL rt n) (hk : kd a = (0, ci)) (hcl : vwCl[ci]? = some (y.cls, T, N)) (hn : av.length = n)
    (hst : st = av.reverse ++ zr a :: rest) (hcat : catS rest ≤ 8) (hroom : fr' + 1 ≤ fr ∧ 8 + (maxL + 11) + lo' ≤ lo) (hd : decode cc pc = .ok (.invokevirtual index, 3)) (k : ∀ q, f = some q → Rf G (pc + 3) al (zi q.1 :: rest) q.2 (h q) K) : Rf G pc al st M (f.bind h) K := r_callV C hc hw hk hcl hn hst hcat hroom hd k
theorem q_callSi {y : MethodName} {bytes : ByteArray} {maxL n : Nat} {rt : Option FieldType} {fr' lo' index : Nat} {av rest : List Vl} {f : Option (Int × Mem)} {h : Int × Mem → Option β} (C : Cx G own cc ret fr lo) (hc : Cn y bytes maxL rt fr' lo' av M (f.map oI)) (hw : LkS own index y bytes maxL rt n) (hn : av.length = n)
    (hst : st = av.reverse ++ rest) (hcat : catS rest ≤ 8) (hroom : fr' + 1 ≤ fr ∧ 8 + (maxL + 11) + lo' ≤ lo) (hd : decode cc pc = .ok (.invokestatic index, 3)) (k : ∀ q, f = some q → Rf G (pc + 3) al (zi q.1 :: rest) q.2 (h q) K) : Rf G pc al st M (f.bind h) K := r_callS C hc hw hn hst hcat hroom hd k
theorem q_callNi {y : MethodName} {bytes : ByteArray} {maxL n : Nat} {host : String} {rt : Option FieldType} {fr' lo' index : Nat} {av rest : List Vl} {f : Option (Int × Mem)} {h : Int × Mem → Option β} (C : Cx G own cc ret fr lo) (hc : Cn y bytes maxL rt fr' lo' av M (f.map oI)) (hw : LkN own index y host bytes maxL rt n) (hn : av.length = n)
    (hst : st = av.reverse ++ rest) (hcat : catS rest ≤ 8) (hroom : fr' + 1 ≤ fr ∧ 8 + (maxL + 11) + lo' ≤ lo) (hd : decode cc pc = .ok (.invokestatic index, 3)) (k : ∀ q, f = some q → Rf G (pc + 3) al (zi q.1 :: rest) q.2 (h q) K) : Rf G pc al st M (f.bind h) K := r_callN C hc hw hn hst hcat hroom hd k
theorem q_callVj {y : MethodName} {bytes : ByteArray} {maxL n : Nat} {rt : Option FieldType} {fr' lo' index a ci : Nat} {av rest : List Vl} {f : Option (Int × Mem)} {h : Int × Mem → Option β} {T : u_T} {N : Nat} (C : Cx G own cc ret fr lo) (hc : Cn y bytes maxL rt fr' lo' (zr a :: av) M (f.map oJ)) (hw : LkV own index y bytes maxL rt n) (hk : kd a = (0, ci)) (hcl : vwCl[ci]? = some (y.cls, T, N)) (hn : av.length = n)
    (hst : st = av.reverse ++ zr a :: rest) (hcat : catS rest ≤ 8) (hroom : fr' + 1 ≤ fr ∧ 8 + (maxL + 11) + lo' ≤ lo) (hd : decode cc pc = .ok (.invokevirtual index, 3)) (k : ∀ q, f = some q → Rf G (pc + 3) al (zl q.1 :: rest) q.2 (h q) K) : Rf G pc al st M (f.bind h) K := r_callV C hc hw hk hcl hn hst hcat hroom hd k
theorem q_callSj {y : MethodName} {bytes : ByteArray} {maxL n : Nat} {rt : Option FieldType} {fr' lo' index : Nat} {av rest : List Vl} {f : Option (Int × Mem)} {h : Int × Mem → Option β} (C : Cx G own cc ret fr lo) (hc : Cn y bytes maxL rt fr' lo' av M (f.map oJ)) (hw : LkS own index y bytes maxL rt n) (hn : av.length = n)
    (hst : st = av.reverse ++ rest) (hcat : catS rest ≤ 8) (hroom : fr' + 1 ≤ fr ∧ 8 + (maxL + 11) + lo' ≤ lo) (hd : decode cc pc = .ok (.invokestatic index, 3)) (k : ∀ q, f = some q → Rf G (pc + 3) al (zl q.1 :: rest) q.2 (h q) K) : Rf G pc al st M (f.bind h) K := r_callS C hc hw hn hst hcat hroom hd k
theorem q_callNj {y : MethodName} {bytes : ByteArray} {maxL n : Nat} {host : String} {rt : Option FieldType} {fr' lo' index : Nat} {av rest : List Vl} {f : Option (Int × Mem)} {h : Int × Mem → Option β} (C : Cx G own cc ret fr lo) (hc : Cn y bytes maxL rt fr' lo' av M (f.map oJ)) (hw : LkN own index y host bytes maxL rt n) (hn : av.length = n)
    (hst : st = av.reverse ++ rest) (hcat : catS rest ≤ 8) (hroom : fr' + 1 ≤ fr ∧ 8 + (maxL + 11) + lo' ≤ lo) (hd : decode cc pc = .ok (.invokestatic index, 3)) (k : ∀ q, f = some q → Rf G (pc + 3) al (zl q.1 :: rest) q.2 (h q) K) : Rf G pc al st M (f.bind h) K := r_callN C hc hw hn hst hcat hroom hd k
theorem q_callVv {y : MethodName} {bytes : ByteArray} {maxL n : Nat} {rt : Option FieldType} {fr' lo' index a ci : Nat} {av rest : List Vl} {f : Option (Mem)} {h : Mem → Option β} {T : u_T} {N : Nat} (C : Cx G own cc ret fr lo) (hc : Cn y bytes maxL rt fr' lo' (zr a :: av) M (f.map oU)) (hw : LkV own index y bytes maxL rt n) (hk : kd a = (0, ci)) (hcl : vwCl[ci]? = some (y.cls, T, N)) (hn : av.length = n)
    (hst : st = av.reverse ++ zr a :: rest) (hcat : catS rest ≤ 8) (hroom : fr' + 1 ≤ fr ∧ 8 + (maxL + 11) + lo' ≤ lo) (hd : decode cc pc = .ok (.invokevirtual index, 3)) (k : ∀ q, f = some q → Rf G (pc + 3) al (rest) q (h q) K) : Rf G pc al st M (f.bind h) K := r_callV C hc hw hk hcl hn hst hcat hroom hd k
theorem q_callSv {y : MethodName} {bytes : ByteArray} {maxL n : Nat} {rt : Option FieldType} {fr' lo' index : Nat} {av rest : List Vl} {f : Option (Mem)} {h : Mem → Option β} (C : Cx G own cc ret fr lo) (hc : Cn y bytes maxL rt fr' lo' av M (f.map oU)) (hw : LkS own index y bytes maxL rt n) (hn : av.length = n)
    (hst : st = av.reverse ++ rest) (hcat : catS rest ≤ 8) (hroom : fr' + 1 ≤ fr ∧ 8 + (maxL + 11) + lo' ≤ lo) (hd : decode cc pc = .ok (.invokestatic index, 3)) (k : ∀ q, f = some q → Rf G (pc + 3) al (rest) q (h q) K) : Rf G pc al st M (f.bind h) K := r_callS C hc hw hn hst hcat hroom hd k
theorem q_callNv {y : MethodName} {bytes : ByteArray} {maxL n : Nat} {host : String} {rt : Option FieldType} {fr' lo' index : Nat} {av rest : List Vl} {f : Option (Mem)} {h : Mem → Option β} (C : Cx G own cc ret fr lo) (hc : Cn y bytes maxL rt fr' lo' av M (f.map oU)) (hw : LkN own index y host bytes maxL rt n) (hn : av.length = n)
    (hst : st = av.reverse ++ rest) (hcat : catS rest ≤ 8) (hroom : fr' + 1 ≤ fr ∧ 8 + (maxL + 11) + lo' ≤ lo) (hd : decode cc pc = .ok (.invokestatic index, 3)) (k : ∀ q, f = some q → Rf G (pc + 3) al (rest) q (h q) K) : Rf G pc al st M (f.bind h) K := r_callN C hc hw hn hst hcat hroom hd k
end Rows2
theorem kd_g0 {g : Nat} (h : g = 62 ∨ g = 88) : kd g = (0, 2) := by rcases h with rfl | rfl <;> decide +kernel
theorem kd_g13 {g : Nat} (h : g = 62 ∨ g = 88) : kd (g + 13) = (0, 7) := by rcases h with rfl | rfl <;> decide +kernel
theorem kd_g4 {g : Nat} (h : g = 62 ∨ g = 88) : kd (g + 4) = (0, 5) := by rcases h with rfl | rfl <;> decide +kernel
theorem kd_t0 {t : Nat} (h : t = 5 ∨ t = 119) : kd t = (0, 3) := by rcases h with rfl | rfl <;> decide +kernel
theorem kd_0 : kd 0 = (0, 11) := by decide +kernel
theorem kd_1 : kd 1 = (0, 8) := by decide +kernel
theorem kd_101 : kd 101 = (0, 7) := by decide +kernel
theorem kd_114 : kd 114 = (0, 1) := by decide +kernel
theorem kd_132 : kd 132 = (0, 12) := by decide +kernel
theorem kd_22 : kd 22 = (0, 10) := by decide +kernel
theorem kd_23 : kd 23 = (0, 9) := by decide +kernel
theorem kd_4 : kd 4 = (0, 6) := by decide +kernel
theorem kd_44 : kd 44 = (0, 9) := by decide +kernel
theorem kd_51 : kd 51 = (0, 0) := by decide +kernel
theorem kd_56 : kd 56 = (0, 4) := by decide +kernel
theorem kd_62 : kd 62 = (0, 2) := by decide +kernel
theorem kd_66 : kd 66 = (0, 5) := by decide +kernel
theorem kd_75 : kd 75 = (0, 7) := by decide +kernel
theorem kd_88 : kd 88 = (0, 2) := by decide +kernel
theorem kd_92 : kd 92 = (0, 5) := by decide +kernel
theorem pt_g0_0 {g : Nat} (h : g = 62 ∨ g = 88) : ptr g 0 = some 44 := by rcases h with rfl | rfl <;> decide +kernel
theorem pt_g0_1 {g : Nat} (h : g = 62 ∨ g = 88) : ptr g 1 = some (g + 1) := by rcases h with rfl | rfl <;> decide +kernel
theorem pt_g0_2 {g : Nat} (h : g = 62 ∨ g = 88) : ptr g 2 = some (g + 2) := by rcases h with rfl | rfl <;> decide +kernel
theorem pt_g0_3 {g : Nat} (h : g = 62 ∨ g = 88) : ptr g 3 = some (g + 3) := by rcases h with rfl | rfl <;> decide +kernel
theorem pt_g13_0 {g : Nat} (h : g = 62 ∨ g = 88) : ptr (g + 13) 0 = some 44 := by rcases h with rfl | rfl <;> decide +kernel
theorem pt_g13_1 {g : Nat} (h : g = 62 ∨ g = 88) : ptr (g + 13) 1 = some g := by rcases h with rfl | rfl <;> decide +kernel
theorem pt_g13_10 {g : Nat} (h : g = 62 ∨ g = 88) : ptr (g + 13) 10 = some (g + 20) := by rcases h with rfl | rfl <;> decide +kernel
theorem pt_g13_11 {g : Nat} (h : g = 62 ∨ g = 88) : ptr (g + 13) 11 = some (g + 21) := by rcases h with rfl | rfl <;> decide +kernel
theorem pt_g13_12 {g : Nat} (h : g = 62 ∨ g = 88) : ptr (g + 13) 12 = some (g + 22) := by rcases h with rfl | rfl <;> decide +kernel
theorem pt_g13_13 {g : Nat} (h : g = 62 ∨ g = 88) : ptr (g + 13) 13 = some (g + 23) := by rcases h with rfl | rfl <;> decide +kernel
theorem pt_g13_14 {g : Nat} (h : g = 62 ∨ g = 88) : ptr (g + 13) 14 = some (g + 24) := by rcases h with rfl | rfl <;> decide +kernel
theorem pt_g13_15 {g : Nat} (h : g = 62 ∨ g = 88) : ptr (g + 13) 15 = some (g + 25) := by rcases h with rfl | rfl <;> decide +kernel
theorem pt_g13_2 {g : Nat} (h : g = 62 ∨ g = 88) : ptr (g + 13) 2 = some (g + 4) := by rcases h with rfl | rfl <;> decide +kernel
theorem pt_g13_3 {g : Nat} (h : g = 62 ∨ g = 88) : ptr (g + 13) 3 = some (g + 14) := by rcases h with rfl | rfl <;> decide +kernel
theorem pt_g13_5 {g : Nat} (h : g = 62 ∨ g = 88) : ptr (g + 13) 5 = some (g + 15) := by rcases h with rfl | rfl <;> decide +kernel
theorem pt_g13_6 {g : Nat} (h : g = 62 ∨ g = 88) : ptr (g + 13) 6 = some (g + 16) := by rcases h with rfl | rfl <;> decide +kernel
theorem pt_g13_7 {g : Nat} (h : g = 62 ∨ g = 88) : ptr (g + 13) 7 = some (g + 17) := by rcases h with rfl | rfl <;> decide +kernel
theorem pt_g13_8 {g : Nat} (h : g = 62 ∨ g = 88) : ptr (g + 13) 8 = some (g + 18) := by rcases h with rfl | rfl <;> decide +kernel
theorem pt_g13_9 {g : Nat} (h : g = 62 ∨ g = 88) : ptr (g + 13) 9 = some (g + 19) := by rcases h with rfl | rfl <;> decide +kernel
theorem pt_g4_0 {g : Nat} (h : g = 62 ∨ g = 88) : ptr (g + 4) 0 = some 44 := by rcases h with rfl | rfl <;> decide +kernel
theorem pt_g4_1 {g : Nat} (h : g = 62 ∨ g = 88) : ptr (g + 4) 1 = some g := by rcases h with rfl | rfl <;> decide +kernel
theorem pt_g4_10 {g : Nat} (h : g = 62 ∨ g = 88) : ptr (g + 4) 10 = some (g + 11) := by rcases h with rfl | rfl <;> decide +kernel
theorem pt_g4_11 {g : Nat} (h : g = 62 ∨ g = 88) : ptr (g + 4) 11 = some (g + 12) := by rcases h with rfl | rfl <;> decide +kernel
theorem pt_g4_2 {g : Nat} (h : g = 62 ∨ g = 88) : ptr (g + 4) 2 = some (g + 5) := by rcases h with rfl | rfl <;> decide +kernel
theorem pt_g4_5 {g : Nat} (h : g = 62 ∨ g = 88) : ptr (g + 4) 5 = some (g + 6) := by rcases h with rfl | rfl <;> decide +kernel
theorem pt_g4_6 {g : Nat} (h : g = 62 ∨ g = 88) : ptr (g + 4) 6 = some (g + 7) := by rcases h with rfl | rfl <;> decide +kernel
theorem pt_g4_7 {g : Nat} (h : g = 62 ∨ g = 88) : ptr (g + 4) 7 = some (g + 8) := by rcases h with rfl | rfl <;> decide +kernel
theorem pt_g4_8 {g : Nat} (h : g = 62 ∨ g = 88) : ptr (g + 4) 8 = some (g + 9) := by rcases h with rfl | rfl <;> decide +kernel
theorem pt_g4_9 {g : Nat} (h : g = 62 ∨ g = 88) : ptr (g + 4) 9 = some (g + 10) := by rcases h with rfl | rfl <;> decide +kernel
theorem pt_t0_1 {t : Nat} (h : t = 5 ∨ t = 119) : ptr t 1 = some (t + 1) := by rcases h with rfl | rfl <;> decide +kernel
theorem pt_t0_11 {t : Nat} (h : t = 5 ∨ t = 119) : ptr t 11 = some (t + 10) := by rcases h with rfl | rfl <;> decide +kernel
theorem pt_t0_12 {t : Nat} (h : t = 5 ∨ t = 119) : ptr t 12 = some (t + 11) := by rcases h with rfl | rfl <;> decide +kernel
theorem pt_t0_13 {t : Nat} (h : t = 5 ∨ t = 119) : ptr t 13 = some (t + 12) := by rcases h with rfl | rfl <;> decide +kernel
theorem pt_t0_2 {t : Nat} (h : t = 5 ∨ t = 119) : ptr t 2 = some (t + 2) := by rcases h with rfl | rfl <;> decide +kernel
theorem pt_t0_3 {t : Nat} (h : t = 5 ∨ t = 119) : ptr t 3 = some (t + 3) := by rcases h with rfl | rfl <;> decide +kernel
theorem pt_t0_4 {t : Nat} (h : t = 5 ∨ t = 119) : ptr t 4 = some (t + 4) := by rcases h with rfl | rfl <;> decide +kernel
theorem pt_t0_5 {t : Nat} (h : t = 5 ∨ t = 119) : ptr t 5 = some (t + 5) := by rcases h with rfl | rfl <;> decide +kernel
theorem pt_t0_6 {t : Nat} (h : t = 5 ∨ t = 119) : ptr t 6 = some (t + 6) := by rcases h with rfl | rfl <;> decide +kernel
theorem pt_t0_7 {t : Nat} (h : t = 5 ∨ t = 119) : ptr t 7 = some (t + 7) := by rcases h with rfl | rfl <;> decide +kernel
theorem pt_t0_8 {t : Nat} (h : t = 5 ∨ t = 119) : ptr t 8 = some (t + 8) := by rcases h with rfl | rfl <;> decide +kernel
theorem pt_t0_9 {t : Nat} (h : t = 5 ∨ t = 119) : ptr t 9 = some (t + 9) := by rcases h with rfl | rfl <;> decide +kernel
theorem pt_0_0 : ptr 0 0 = some 1 := by decide +kernel
theorem pt_0_1 : ptr 0 1 = some 4 := by decide +kernel
theorem pt_0_10 : ptr 0 10 = some 92 := by decide +kernel
theorem pt_0_11 : ptr 0 11 = some 101 := by decide +kernel
theorem pt_0_2 : ptr 0 2 = some 22 := by decide +kernel
theorem pt_0_3 : ptr 0 3 = some 44 := by decide +kernel
theorem pt_0_4 : ptr 0 4 = some 51 := by decide +kernel
theorem pt_0_5 : ptr 0 5 = some 56 := by decide +kernel
theorem pt_0_6 : ptr 0 6 = some 62 := by decide +kernel
theorem pt_0_7 : ptr 0 7 = some 66 := by decide +kernel
theorem pt_0_8 : ptr 0 8 = some 75 := by decide +kernel
theorem pt_0_9 : ptr 0 9 = some 88 := by decide +kernel
theorem pt_1_0 : ptr 1 0 = some 2 := by decide +kernel
theorem pt_1_1 : ptr 1 1 = some 3 := by decide +kernel
theorem pt_101_11 : ptr 101 11 = some 109 := by decide +kernel
theorem pt_101_8 : ptr 101 8 = some 106 := by decide +kernel
theorem pt_114_0 : ptr 114 0 = some 44 := by decide +kernel
theorem pt_114_1 : ptr 114 1 = some 62 := by decide +kernel
theorem pt_114_2 : ptr 114 2 = some 66 := by decide +kernel
theorem pt_114_3 : ptr 114 3 = some 115 := by decide +kernel
theorem pt_114_4 : ptr 114 4 = some 116 := by decide +kernel
theorem pt_114_5 : ptr 114 5 = some 117 := by decide +kernel
theorem pt_114_6 : ptr 114 6 = some 118 := by decide +kernel
theorem pt_132_1 : ptr 132 1 = some 133 := by decide +kernel
theorem pt_132_10 : ptr 132 10 = some 138 := by decide +kernel
theorem pt_132_11 : ptr 132 11 = some 139 := by decide +kernel
theorem pt_132_12 : ptr 132 12 = some 140 := by decide +kernel
theorem pt_132_13 : ptr 132 13 = some 141 := by decide +kernel
theorem pt_132_15 : ptr 132 15 = some 142 := by decide +kernel
theorem pt_132_16 : ptr 132 16 = some 143 := by decide +kernel
theorem pt_132_17 : ptr 132 17 = some 144 := by decide +kernel
theorem pt_132_20 : ptr 132 20 = some 145 := by decide +kernel
theorem pt_132_21 : ptr 132 21 = some 146 := by decide +kernel
theorem pt_132_22 : ptr 132 22 = some 147 := by decide +kernel
theorem pt_132_23 : ptr 132 23 = some 148 := by decide +kernel
theorem pt_132_24 : ptr 132 24 = some 149 := by decide +kernel
theorem pt_132_25 : ptr 132 25 = some 150 := by decide +kernel
theorem pt_132_26 : ptr 132 26 = some 151 := by decide +kernel
theorem pt_132_27 : ptr 132 27 = some 152 := by decide +kernel
theorem pt_132_29 : ptr 132 29 = some 153 := by decide +kernel
theorem pt_132_30 : ptr 132 30 = some 154 := by decide +kernel
theorem pt_132_31 : ptr 132 31 = some 155 := by decide +kernel
theorem pt_132_32 : ptr 132 32 = some 156 := by decide +kernel
theorem pt_132_33 : ptr 132 33 = some 157 := by decide +kernel
theorem pt_132_34 : ptr 132 34 = some 158 := by decide +kernel
theorem pt_132_35 : ptr 132 35 = some 159 := by decide +kernel
theorem pt_132_36 : ptr 132 36 = some 160 := by decide +kernel
theorem pt_132_37 : ptr 132 37 = some 161 := by decide +kernel
theorem pt_132_4 : ptr 132 4 = some 134 := by decide +kernel
theorem pt_132_40 : ptr 132 40 = some 162 := by decide +kernel
theorem pt_132_42 : ptr 132 42 = some 163 := by decide +kernel
theorem pt_132_43 : ptr 132 43 = some 164 := by decide +kernel
theorem pt_132_44 : ptr 132 44 = some 165 := by decide +kernel
theorem pt_132_45 : ptr 132 45 = some 166 := by decide +kernel
theorem pt_132_46 : ptr 132 46 = some 167 := by decide +kernel
theorem pt_132_47 : ptr 132 47 = some 168 := by decide +kernel
theorem pt_132_49 : ptr 132 49 = some 169 := by decide +kernel
theorem pt_132_5 : ptr 132 5 = some 135 := by decide +kernel
theorem pt_132_51 : ptr 132 51 = some 170 := by decide +kernel
theorem pt_132_52 : ptr 132 52 = some 171 := by decide +kernel
theorem pt_132_53 : ptr 132 53 = some 172 := by decide +kernel
theorem pt_132_6 : ptr 132 6 = some 136 := by decide +kernel
theorem pt_132_9 : ptr 132 9 = some 137 := by decide +kernel
theorem pt_22_0 : ptr 22 0 = some 23 := by decide +kernel
theorem pt_22_1 : ptr 22 1 = some 30 := by decide +kernel
theorem pt_22_2 : ptr 22 2 = some 31 := by decide +kernel
theorem pt_22_3 : ptr 22 3 = some 36 := by decide +kernel
theorem pt_22_4 : ptr 22 4 = some 41 := by decide +kernel
theorem pt_22_5 : ptr 22 5 = some 42 := by decide +kernel
theorem pt_22_6 : ptr 22 6 = some 43 := by decide +kernel
theorem pt_23_1 : ptr 23 1 = some 24 := by decide +kernel
theorem pt_23_2 : ptr 23 2 = some 25 := by decide +kernel
theorem pt_23_3 : ptr 23 3 = some 26 := by decide +kernel
theorem pt_23_4 : ptr 23 4 = some 27 := by decide +kernel
theorem pt_23_6 : ptr 23 6 = some 28 := by decide +kernel
theorem pt_23_7 : ptr 23 7 = some 29 := by decide +kernel
theorem pt_4_0 : ptr 4 0 = some 1 := by decide +kernel
theorem pt_4_2 : ptr 4 2 = some 18 := by decide +kernel
theorem pt_4_3 : ptr 4 3 = some 19 := by decide +kernel
theorem pt_4_4 : ptr 4 4 = some 20 := by decide +kernel
theorem pt_4_6 : ptr 4 6 = some 21 := by decide +kernel
theorem pt_44_1 : ptr 44 1 = some 45 := by decide +kernel
theorem pt_44_2 : ptr 44 2 = some 46 := by decide +kernel
theorem pt_44_3 : ptr 44 3 = some 47 := by decide +kernel
theorem pt_44_4 : ptr 44 4 = some 48 := by decide +kernel
theorem pt_44_6 : ptr 44 6 = some 49 := by decide +kernel
theorem pt_44_7 : ptr 44 7 = some 50 := by decide +kernel
theorem pt_51_0 : ptr 51 0 = some 52 := by decide +kernel
theorem pt_51_1 : ptr 51 1 = some 53 := by decide +kernel
theorem pt_51_2 : ptr 51 2 = some 54 := by decide +kernel
theorem pt_51_3 : ptr 51 3 = some 55 := by decide +kernel
theorem pt_56_0 : ptr 56 0 = some 51 := by decide +kernel
theorem pt_56_1 : ptr 56 1 = some 57 := by decide +kernel
theorem pt_56_2 : ptr 56 2 = some 58 := by decide +kernel
theorem pt_56_3 : ptr 56 3 = some 59 := by decide +kernel
theorem pt_56_4 : ptr 56 4 = some 60 := by decide +kernel
theorem pt_56_5 : ptr 56 5 = some 61 := by decide +kernel
theorem pt_62_1 : ptr 62 1 = some 63 := by decide +kernel
theorem pt_62_2 : ptr 62 2 = some 64 := by decide +kernel
theorem pt_62_3 : ptr 62 3 = some 65 := by decide +kernel
theorem pt_66_10 : ptr 66 10 = some 73 := by decide +kernel
theorem pt_66_11 : ptr 66 11 = some 74 := by decide +kernel
theorem pt_66_2 : ptr 66 2 = some 67 := by decide +kernel
theorem pt_66_7 : ptr 66 7 = some 70 := by decide +kernel
theorem pt_66_8 : ptr 66 8 = some 71 := by decide +kernel
theorem pt_66_9 : ptr 66 9 = some 72 := by decide +kernel
theorem pt_75_0 : ptr 75 0 = some 44 := by decide +kernel
theorem pt_75_1 : ptr 75 1 = some 62 := by decide +kernel
theorem pt_75_11 : ptr 75 11 = some 83 := by decide +kernel
theorem pt_75_12 : ptr 75 12 = some 84 := by decide +kernel
theorem pt_75_13 : ptr 75 13 = some 85 := by decide +kernel
theorem pt_75_14 : ptr 75 14 = some 86 := by decide +kernel
theorem pt_75_15 : ptr 75 15 = some 87 := by decide +kernel
theorem pt_75_2 : ptr 75 2 = some 66 := by decide +kernel
theorem pt_75_3 : ptr 75 3 = some 76 := by decide +kernel
theorem pt_75_5 : ptr 75 5 = some 77 := by decide +kernel
theorem pt_75_6 : ptr 75 6 = some 78 := by decide +kernel
theorem pt_75_7 : ptr 75 7 = some 79 := by decide +kernel
theorem pt_75_8 : ptr 75 8 = some 80 := by decide +kernel
theorem pt_75_9 : ptr 75 9 = some 81 := by decide +kernel
theorem mmax_iX2_65 : Cond.methodLink RX2 65 Lib.Math.max.name ∈ gt := (gt_t (i := 923) (by decide +kernel) rfl)
theorem mmax_iX5_99 : Cond.methodLink RX5 99 Lib.Math.max.name ∈ gt := (gt_t (i := 979) (by decide +kernel) rfl)
theorem mmax_iX7_129 : Cond.methodLink RX7 129 Lib.Math.max.name ∈ gt := (gt_t (i := 1010) (by decide +kernel) rfl)
theorem mmax_iX11_386 : Cond.methodLink RX11 386 Lib.Math.max.name ∈ gt := (gt_t (i := 1118) (by decide +kernel) rfl)
theorem mmax_lX11_377 : Cond.methodLink RX11 377 Lib.MathLoose.max_long.x ∈ gt := (gt_t (i := 938) (by decide +kernel) rfl)
theorem mmin_iX1_90 : Cond.methodLink RX1 90 Lib.Math.min.name ∈ gt := (gt_t (i := 1245) (by decide +kernel) rfl)
theorem mmin_iX2_59 : Cond.methodLink RX2 59 Lib.Math.min.name ∈ gt := (gt_t (i := 920) (by decide +kernel) rfl)
theorem mmin_iX11_383 : Cond.methodLink RX11 383 Lib.Math.min.name ∈ gt := (gt_t (i := 1117) (by decide +kernel) rfl)
theorem mmin_lX11_371 : Cond.methodLink RX11 371 Lib.MathLoose.min_long.x ∈ gt := (gt_t (i := 935) (by decide +kernel) rfl)
theorem mc_X9_64 : Cond.methodLink RX9 64 arraycopyName ∈ gt := (gt_t (i := 895) (by decide +kernel) rfl)
theorem mc_X10_107 : Cond.methodLink RX10 107 arraycopyName ∈ gt := (gt_t (i := 864) (by decide +kernel) rfl)
theorem jm_maxi_1 : Cond.static Lib.Math.max.name ∈ gt := (gt_t (i := 924) (by decide +kernel) rfl)
theorem jm_maxi_2 : Cond.initialized "java/lang/Math" ∈ gt := (gt_t (i := 19) (by decide +kernel) rfl)
theorem jm_maxi_3 : Cond.code Lib.Math.max.name Lib.Math.max.code 2 (some .int) ∈ gt := (gt_t (i := 925) (by decide +kernel) rfl)
theorem jm_maxl_1 : Cond.static Lib.MathLoose.max_long.x ∈ gt := (gt_t (i := 939) (by decide +kernel) rfl)
theorem jm_maxl_2 : Cond.initialized "java/lang/Math" ∈ gt := (gt_t (i := 19) (by decide +kernel) rfl)
theorem jm_maxl_3 : Cond.code Lib.MathLoose.max_long.x Lib.MathLoose.max_long.code 4 (some .long) ∈ gt := (gt_t (i := 940) (by decide +kernel) rfl)
theorem jm_mini_1 : Cond.static Lib.Math.min.name ∈ gt := (gt_t (i := 921) (by decide +kernel) rfl)
theorem jm_mini_2 : Cond.initialized "java/lang/Math" ∈ gt := (gt_t (i := 19) (by decide +kernel) rfl)
theorem jm_mini_3 : Cond.code Lib.Math.min.name Lib.Math.min.code 2 (some .int) ∈ gt := (gt_t (i := 922) (by decide +kernel) rfl)
theorem jm_minl_1 : Cond.static Lib.MathLoose.min_long.x ∈ gt := (gt_t (i := 936) (by decide +kernel) rfl)
theorem jm_minl_2 : Cond.initialized "java/lang/Math" ∈ gt := (gt_t (i := 19) (by decide +kernel) rfl)
theorem jm_minl_3 : Cond.code Lib.MathLoose.min_long.x Lib.MathLoose.min_long.code 4 (some .long) ∈ gt := (gt_t (i := 937) (by decide +kernel) rfl)
theorem jm_ac1 : Cond.native arraycopyName ∈ gt := (gt_t (i := 866) (by decide +kernel) rfl)
theorem jm_ac2 : Cond.static arraycopyName ∈ gt := (gt_t (i := 865) (by decide +kernel) rfl)
theorem jm_ac3 : Cond.initialized "java/lang/System" ∈ gt := (gt_t (i := 18) (by decide +kernel) rfl)
