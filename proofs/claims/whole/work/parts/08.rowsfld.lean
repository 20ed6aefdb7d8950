/-! FIELDS, SWITCHES, RETURNS, LOOPS. -/
theorem gt_t {i : Nat} {w : Cond} (h : tables_1[i]? = some w) (hg : goodWord w = true) : w ∈ gt := List.mem_filter.mpr ⟨List.mem_append_right _ (List.mem_of_getElem? h), hg⟩
theorem gt_s {i : Nat} {w : Cond} (h : (k2_sels lw_privs)[i]? = some w) (hg : goodWord w = true) : w ∈ gt := List.mem_filter.mpr ⟨List.mem_append_left _ (List.mem_of_getElem? h), hg⟩
/-- a class as the tables have it: its fields' words, their types by the codes of ft -/
def ClOk (ci : Nat) (C : String) (T : u_T) (N : Nat) (ty0 : Nat → FieldType) : Prop := vwCl[ci]? = some (C, T, N) ∧ N = nf ci ∧ (∀ w ∈ u_ws C T N, w ∈ gt) ∧ (∀ j, j < N → parseFieldDescriptor (T j).2.2.1 = some (ty0 j)) ∧ (∀ a, a < N → ∀ b, b < N → a ≠ b → (T a).2.1 ≠ (T b).2.1)
section RowsF
variable {β : Type} {G : Gx} {own : String} {cc : ByteArray} {ret : Option FieldType} {fr lo pc : Nat} {al : List (Option Vl)} {st : List Vl} {M : Mem} {o : Option β} {K : β → Option (Option Vl × Mem)}
theorem r_getv {a ci k index : Nat} {C : String} {T : u_T} {N : Nat} {ty0 : Nat → FieldType} {v : Vl} (Cc : Cx G own cc ret fr lo) (hC : ClOk ci C T N ty0) (hk : kd a = (0, ci)) (hkN : k < N) (hl : Cond.fieldLink own index (T k).1 (T k).2.1 (T k).2.2.1 ∈ gt) (hd : decode cc pc = .ok (.getfield index, 3))
    (hv : fvl (gad G) (ft ci k) (M a k) = toV (gad G) v) (hok : okM M → okV v) (kk : Rf G (pc + 3) al (v :: st) M o K) : Rf G pc al (zr a :: st) M o K := by
  obtain ⟨p, l, e, R, s, m, args, below, meth, c, D, cA, ad, nL⟩ := G
  obtain ⟨c1, c2, c3, c4, c5⟩ := hC
  intro r hr H locs ls ⟨s1, ⟨sa, s2⟩, s3, s4, s5, s6⟩
  have hN : a < NN := kd_lt (by rw [hk]; exact fun q => by cases q)
  refine va_get (v := toV ad v) Cc.1 Cc.2.1 Cc.2.2.2.2.1 c3 Cc.2.2.2.1 Cc.2.2.2.2.2.2.2.1 s5 a ((toW_get hN).trans (congrArg (fun e => some (ad a, e)) (ent_o hk))) c1 k hkN (Cc.2.2.2.2.1 _ hl) (fun _ h9 => h9) ?_ hd (kk r hr H locs ls ⟨s1, ⟨hok s1, s2⟩, s3, s4, s5, s6⟩)
  rw [List.getElem?_map, List.getElem?_range (by rw [← c2]; exact hkN)]
  exact congrArg some hv
/-- an int or boolean field -/
theorem r_geti {a ci k index : Nat} {C : String} {T : u_T} {N : Nat} {ty0 : Nat → FieldType} (Cc : Cx G own cc ret fr lo) (hC : ClOk ci C T N ty0) (hk : kd a = (0, ci)) (hkN : k < N) (hl : Cond.fieldLink own index (T k).1 (T k).2.1 (T k).2.2.1 ∈ gt) (hd : decode cc pc = .ok (.getfield index, 3))
    (hf : ft ci k = 0 ∨ ft ci k = 1) (kk : Rf G (pc + 3) al (zi (M a k) :: st) M o K) : Rf G pc al (zr a :: st) M o K := by
  refine r_getv Cc hC hk hkN hl hd (v := zi (M a k)) ?_ (fun h => h.2.1 a k ?_) kk
  · rcases hf with h | h <;> rw [h] <;> rfl
  · unfold is32
    rw [hk]
    show (decide (ft ci (k : Int).toNat = 0) || decide (ft ci (k : Int).toNat = 1)) = true
    rw [Int.toNat_natCast]
    rcases hf with h | h <;> rw [h] <;> rfl
theorem r_getl {a ci k index : Nat} {C : String} {T : u_T} {N : Nat} {ty0 : Nat → FieldType} (Cc : Cx G own cc ret fr lo) (hC : ClOk ci C T N ty0) (hk : kd a = (0, ci)) (hkN : k < N) (hl : Cond.fieldLink own index (T k).1 (T k).2.1 (T k).2.2.1 ∈ gt) (hd : decode cc pc = .ok (.getfield index, 3))
    (hf : ft ci k = 2) (kk : Rf G (pc + 3) al (zl (M a k) :: st) M o K) : Rf G pc al (zr a :: st) M o K := by
  refine r_getv Cc hC hk hkN hl hd (v := zl (M a k)) ?_ (fun h => h.1 a k) kk
  rw [hf]
  rfl
/-- a pointer that stays -/
theorem r_getp {a ci k index b : Nat} {C : String} {T : u_T} {N : Nat} {ty0 : Nat → FieldType} (Cc : Cx G own cc ret fr lo) (hC : ClOk ci C T N ty0) (hk : kd a = (0, ci)) (hkN : k < N) (hl : Cond.fieldLink own index (T k).1 (T k).2.1 (T k).2.2.1 ∈ gt) (hd : decode cc pc = .ok (.getfield index, 3))
    (hp : ptr a k = some b) (kk : Rf G (pc + 3) al (zr b :: st) M o K) : Rf G pc al (zr a :: st) M o K := by
  obtain ⟨p, l, e, R, s, m, args, below, meth, c, D, cA, ad, nL⟩ := G
  intro r hr H locs ls S
  have h1 : M a k = (b : Int) := S.1.2.2.1 a k b hp
  have h3 : ft ci k = 3 := by
    rcases ptr_ty hp with q | q
    · rw [hk] at q; exact q.2
    · rw [hk] at q; cases q
  exact r_getv (G := (p, l, e, R, s, m, args, below, meth, c, D, cA, ad, nL)) Cc hC hk hkN hl hd (v := zr b) (by rw [h3, h1]; rfl) (fun _ => trivial) kk r hr H locs ls S
/-- the pointer that moves -/
theorem r_getm {a ci k index : Nat} {C : String} {T : u_T} {N : Nat} {ty0 : Nat → FieldType} {h : Nat → Option β} (Cc : Cx G own cc ret fr lo) (hC : ClOk ci C T N ty0) (hk : kd a = (0, ci)) (hkN : k < N) (hl : Cond.fieldLink own index (T k).1 (T k).2.1 (T k).2.2.1 ∈ gt) (hd : decode cc pc = .ok (.getfield index, 3))
    (hf : ft ci k = 4) (kk : ∀ t, gm M a k = some t → (t = 5 ∨ t = 119) → Rf G (pc + 3) al (zr t :: st) M (h t) K) : Rf G pc al (zr a :: st) M ((gm M a k).bind h) K := by
  by_cases hc : M a k = 5 ∨ M a k = 119
  · have hg : gm M a k = some (M a k).toNat := if_pos hc
    refine r_eq (o' := h (M a k).toNat) (by rw [hg]; rfl) ?_
    refine r_getv Cc hC hk hkN hl hd (v := zr (M a k).toNat) (by rw [hf]; rfl) (fun _ => trivial) (kk _ hg ?_)
    rcases hc with q | q <;> rw [q]
    · exact Or.inl rfl
    · exact Or.inr rfl
  · refine r_eq (o' := none) (by rw [show gm M a k = none from if_neg hc]; rfl) r_none
theorem ent_put {cA : Nat → ClassId} {ad : Nat → Nat} {M : Mem} {a ci k : Nat} {x : Int} {v : Value} (hk : kd a = (0, ci)) (hkN : k < nf ci) (hv : fvl ad (ft ci k) x = v) : (.inr (ci, ((List.range (nf ci)).map (fun k : Nat => fvl ad (ft ci k) (M a k))).set k v) : va_E) = ent cA ad (wr M a k x) a := by
  rw [ent_o hk]
  congr 2
  apply List.ext_getElem?
  intro j
  by_cases hj : j = k
  · subst hj
    rw [List.getElem?_set_self (by simpa using hkN), List.getElem?_map, List.getElem?_range hkN]
    show some v = some (fvl ad (ft ci j) (wr M a j x a j))
    rw [wr_at, if_pos rfl, hv]
  · rw [List.getElem?_set_ne (Ne.symm hj), List.getElem?_map, List.getElem?_map]
    by_cases hl : j < nf ci
    · rw [List.getElem?_range hl]
      show some _ = some (fvl ad (ft ci j) (wr M a k x a j))
      rw [wr_at, if_neg (by omega)]
    · rw [List.getElem?_eq_none (by simpa using hl)]
      rfl
theorem r_putv {a ci k index : Nat} {C : String} {T : u_T} {N : Nat} {ty0 : Nat → FieldType} {v : Vl} {x : Int} (Cc : Cx G own cc ret fr lo) (hC : ClOk ci C T N ty0) (hk : kd a = (0, ci)) (hkN : k < N) (hl : Cond.fieldLink own index (T k).1 (T k).2.1 (T k).2.2.1 ∈ gt) (hfin : (T k).2.2.2 = false) (hd : decode cc pc = .ok (.putfield index, 3))
    (hv : fvl (gad G) (ft ci k) x = toV (gad G) v) (hnar : okV v → narrow (ty0 k) (toV (gad G) v) = toV (gad G) v) (hfit : okV v → fits (ty0 k) (toV (gad G) v) = true) (hok : okV v → i64 x ∧ (is32 a k = true → i32 x)) (hf3 : ft ci k ≠ 3) (kk : Rf G (pc + 3) al st (wr M a k x) o K) : Rf G pc al (v :: zr a :: st) M o K := by
  obtain ⟨p, l, e, R, s, m, args, below, meth, c, D, cA, ad, nL⟩ := G
  obtain ⟨c1, c2, c3, c4, c5⟩ := hC
  intro r hr H locs ls ⟨s1, ⟨sv, sa, s2⟩, s3, s4, s5, s6⟩
  have hN : a < NN := kd_lt (by rw [hk]; exact fun q => by cases q)
  have hkn : k < nf ci := by rw [← c2]; exact hkN
  refine va_put (v := toV ad v) Cc.1 Cc.2.1 Cc.2.2.2.2.1 c3 ty0 c4 c5 Cc.2.2.2.1 Cc.2.2.2.2.2.2.2.1 s5 (toW_D Cc.2.2.2.2.2.2.2.2.2.1) s6 a ((toW_get hN).trans (congrArg (fun e => some (ad a, e)) (ent_o hk))) c1 k hkN (Cc.2.2.2.2.1 _ hl) (fun _ h9 => h9) hfin (c4 k hkN) (hnar sv) (hfit sv) (by simpa using hkn) hd (fun H1 locs1 hP _ hS => ?_)
  rw [ent_put (cA := cA) (ad := ad) (M := M) hk hkn (show fvl ad (ft ci k) x = toV ad v from hv)] at hP
  have hP2 : va_P D vwCl (toW cA ad (wr M a k x)) H1 := by rw [← toW_set hN]; exact hP
  refine kk r hr H1 locs1 ls ⟨okM_wr s1 hN (hok sv).1 (hok sv).2 (fun j t hj ht => ?_), s2, s3, s4, hP2, hS⟩
  have hjk : j = k := by omega
  subst hjk
  rcases ptr_ty ht with q | q
  · rw [hk] at q; exact hf3 q.2
  · rw [hk] at q; cases q
theorem r_puti {a ci k index : Nat} {C : String} {T : u_T} {N : Nat} {ty0 : Nat → FieldType} {x : Int} (Cc : Cx G own cc ret fr lo) (hC : ClOk ci C T N ty0) (hk : kd a = (0, ci)) (hkN : k < N) (hl : Cond.fieldLink own index (T k).1 (T k).2.1 (T k).2.2.1 ∈ gt) (hfin : (T k).2.2.2 = false) (hd : decode cc pc = .ok (.putfield index, 3))
    (hf : ft ci k = 0) (hty : ty0 k = .int) (kk : Rf G (pc + 3) al st (wr M a k x) o K) : Rf G pc al (zi x :: zr a :: st) M o K :=
  r_putv Cc hC hk hkN hl hfin hd (v := zi x) (by rw [hf]; rfl) (fun _ => by rw [hty]; rfl) (fun _ => by rw [hty]; rfl) (fun h => ⟨i64_32 h, fun _ => h⟩) (by rw [hf]; decide) kk
theorem r_putl {a ci k index : Nat} {C : String} {T : u_T} {N : Nat} {ty0 : Nat → FieldType} {x : Int} (Cc : Cx G own cc ret fr lo) (hC : ClOk ci C T N ty0) (hk : kd a = (0, ci)) (hkN : k < N) (hl : Cond.fieldLink own index (T k).1 (T k).2.1 (T k).2.2.1 ∈ gt) (hfin : (T k).2.2.2 = false) (hd : decode cc pc = .ok (.putfield index, 3))
    (hf : ft ci k = 2) (hty : ty0 k = .long) (kk : Rf G (pc + 3) al st (wr M a k x) o K) : Rf G pc al (zl x :: zr a :: st) M o K :=
  r_putv Cc hC hk hkN hl hfin hd (v := zl x) (by rw [hf]; rfl) (fun _ => by rw [hty]; rfl) (fun _ => by rw [hty]; rfl) (fun h => ⟨h, fun q => by unfold is32 at q; rw [hk] at q; simp only [Int.toNat_natCast, hf] at q; cases q⟩) (by rw [hf]; decide) kk
theorem r_putm {a ci k index b : Nat} {C : String} {T : u_T} {N : Nat} {ty0 : Nat → FieldType} {E : String} (Cc : Cx G own cc ret fr lo) (hC : ClOk ci C T N ty0) (hk : kd a = (0, ci)) (hkN : k < N) (hl : Cond.fieldLink own index (T k).1 (T k).2.1 (T k).2.2.1 ∈ gt) (hfin : (T k).2.2.2 = false) (hd : decode cc pc = .ok (.putfield index, 3))
    (hf : ft ci k = 4) (hty : ty0 k = .object E) (hb : b = 5 ∨ b = 119) (kk : Rf G (pc + 3) al st (wr M a k (b : Int)) o K) : Rf G pc al (zr b :: zr a :: st) M o K :=
  r_putv Cc hC hk hkN hl hfin hd (v := zr b) (by rw [hf]; rfl) (fun _ => by rw [hty]; rfl) (fun _ => by rw [hty]; rfl) (fun _ => ⟨by rcases hb with rfl | rfl <;> (unfold i64; decide), fun q => by unfold is32 at q; rw [hk] at q; simp only [Int.toNat_natCast, hf] at q; cases q⟩) (by rw [hf]; decide) kk
theorem z_nar {x : Int} (h : x = 0 ∨ x = 1) : narrow .boolean (.int (Int32.ofInt x)) = .int (Int32.ofInt x) ∧ fits .boolean (.int (Int32.ofInt x)) = true := by
  rcases h with rfl | rfl <;> exact ⟨by decide, by decide⟩
theorem r_putz {a ci k index : Nat} {C : String} {T : u_T} {N : Nat} {ty0 : Nat → FieldType} {x : Int} {h : Mem → Option β} (Cc : Cx G own cc ret fr lo) (hC : ClOk ci C T N ty0) (hk : kd a = (0, ci)) (hkN : k < N) (hl : Cond.fieldLink own index (T k).1 (T k).2.1 (T k).2.2.1 ∈ gt) (hfin : (T k).2.2.2 = false) (hd : decode cc pc = .ok (.putfield index, 3))
    (hf : ft ci k = 1) (hty : ty0 k = .boolean) (kk : Rf G (pc + 3) al st (wr M a k x) (h (wr M a k x)) K) : Rf G pc al (zi x :: zr a :: st) M ((pz M a k x).bind h) K := by
  by_cases hc : x = 0 ∨ x = 1
  · refine r_eq (o' := h (wr M a k x)) (by rw [show pz M a k x = some (wr M a k x) from if_pos hc]; rfl) ?_
    exact r_putv Cc hC hk hkN hl hfin hd (v := zi x) (by rw [hf]; rfl) (fun _ => by rw [hty]; exact (z_nar hc).1) (fun _ => by rw [hty]; exact (z_nar hc).2) (fun h => ⟨i64_32 h, fun _ => h⟩) (by rw [hf]; decide) kk
  · refine r_eq (o' := none) (by rw [show pz M a k x = none from if_neg hc]; rfl) r_none
/-- switches -/
theorem r_tabIn {x n dflt l0 h0 off : Int} {offs : Array Int} {len tgt : Nat} (C : Cx G own cc ret fr lo) (hd : decode cc pc = .ok (.tableswitch dflt l0 h0 offs, len)) (hx : x = n) (h1 : ¬ n < l0) (h2 : ¬ h0 < n) (ho : offs[(n - l0).toNat]? = some off) (ht : (pc : Int) + off = (tgt : Int)) (k : Rf G tgt al st M o K) : Rf G pc al (zi x :: st) M o K := by
  obtain ⟨p, l, e, R, s, m, args, below, meth, c, D, cA, ad, nL⟩ := G
  subst hx
  intro r hr H locs ls ⟨s1, ⟨sx, s2⟩, s3, s4, s5, s6⟩
  exact lv_tableIn C.1 C.2.1 hd (by rw [i32_to sx]; exact h1) (by rw [i32_to sx]; exact h2) (by rw [i32_to sx]; exact ho) ht (k r hr H locs ls ⟨s1, s2, s3, s4, s5, s6⟩)
theorem r_tabOut {x dflt l0 h0 : Int} {offs : Array Int} {len tgt : Nat} (C : Cx G own cc ret fr lo) (hd : decode cc pc = .ok (.tableswitch dflt l0 h0 offs, len)) (h : x < l0 ∨ h0 < x) (ht : (pc : Int) + dflt = (tgt : Int)) (k : Rf G tgt al st M o K) : Rf G pc al (zi x :: st) M o K := by
  obtain ⟨p, l, e, R, s, m, args, below, meth, c, D, cA, ad, nL⟩ := G
  intro r hr H locs ls ⟨s1, ⟨sx, s2⟩, s3, s4, s5, s6⟩
  exact lv_tableOut C.1 C.2.1 hd (by rw [i32_to sx]; exact h) ht (k r hr H locs ls ⟨s1, s2, s3, s4, s5, s6⟩)
theorem r_look {x dflt off : Int} {ps : Array (Int × Int)} {len tgt : Nat} (C : Cx G own cc ret fr lo) (hd : decode cc pc = .ok (.lookupswitch dflt ps, len)) (hp : (ps.toList.zip (ps.toList.drop 1)).all (fun (a, next) => a.1 < next.1) = true) (ho : Op.lookupswitch.offset ps.toList dflt x = off) (ht : (pc : Int) + off = (tgt : Int)) (k : Rf G tgt al st M o K) : Rf G pc al (zi x :: st) M o K := by
  obtain ⟨p, l, e, R, s, m, args, below, meth, c, D, cA, ad, nL⟩ := G
  intro r hr H locs ls ⟨s1, ⟨sx, s2⟩, s3, s4, s5, s6⟩
  exact lv_lookup C.1 C.2.1 hd hp (by rw [i32_to sx]; exact ho) ht (k r hr H locs ls ⟨s1, s2, s3, s4, s5, s6⟩)
/-- returns -/
theorem post_of {p : Program} {l : Launch} {e : Env} {R : Room} {s : State} {m : MethodId} {args : Array Value} {below : List Frame} {meth : Method} {c : Code} {D : va_G} {cA : Nat → ClassId} {ad : Nat → Nat} {nL : Nat} {H : Heap} {locs : List Loc} {ls : Array Slot} {r : Option Vl × Mem} (C : Cx (p, l, e, R, s, m, args, below, meth, c, D, cA, ad, nL) own cc ret fr lo) (S : St (p, l, e, R, s, m, args, below, meth, c, D, cA, ad, nL) M al st H locs ls) (hM : r.2 = M) (hv : ∀ v, r.1 = some v → okV v) {t : State} (ht : t.heap = H) (hW : s.WarmedH t.vm) : Post D cA ad r args s (.returned (r.1.map (toV ad))) t := by
  refine ⟨rfl, ⟨?_, va_K.moved hW.alike C.2.2.2.2.2.2.2.1, fun w hw => ?_⟩, ⟨?_, hv⟩, S.2.2.2.2.2.F ht⟩
  · rw [ht, hM]; exact S.2.2.2.2.1
  · have h9 := C.2.2.2.2.2.2.2.2.1 w hw
    have hf := (List.mem_filter.mp hw).2
    cases w with
    | fieldLinkNest a i b n d h => exact va_Nw.warmF hW h9
    | methodLinkNest a i x h => exact va_Nw.warmM hW h9
    | _ => cases hf
  · rw [hM]; exact S.1
theorem r_ireturn {q : β} {x : Int} (C : Cx G own cc (some .int) fr lo) (hd : decode cc pc = .ok (.ireturn, 1)) (hK : K q = some (some (zi x), M)) : Rf G pc al [zi x] M (some q) K := by
  obtain ⟨p, l, e, R, s, m, args, below, meth, c, D, cA, ad, nL⟩ := G
  intro r hr H locs ls S
  have hr2 : some (some (zi x), M) = some r := hK.symm.trans hr
  cases hr2
  exact W.iret C.1 C.2.1 C.2.2.2.2.2.1 (fun t ht hW => post_of C S rfl (fun v hv => by cases hv; exact S.2.1.1) ht hW) S.2.2.2.2.2.2.2 hd C.2.2.2.2.2.2.1
theorem r_lreturn {q : β} {x : Int} (C : Cx G own cc (some .long) fr lo) (hd : decode cc pc = .ok (.lreturn, 1)) (hK : K q = some (some (zl x), M)) : Rf G pc al [zl x] M (some q) K := by
  obtain ⟨p, l, e, R, s, m, args, below, meth, c, D, cA, ad, nL⟩ := G
  intro r hr H locs ls S
  have hr2 : some (some (zl x), M) = some r := hK.symm.trans hr
  cases hr2
  exact W.lret C.1 C.2.1 C.2.2.2.2.2.1 (fun t ht hW => post_of C S rfl (fun v hv => by cases hv; exact S.2.1.1) ht hW) S.2.2.2.2.2.2.2 hd C.2.2.2.2.2.2.1
theorem r_return {q : β} (C : Cx G own cc none fr lo) (hd : decode cc pc = .ok (.return_, 1)) (hK : K q = some (none, M)) : Rf G pc al [] M (some q) K := by
  obtain ⟨p, l, e, R, s, m, args, below, meth, c, D, cA, ad, nL⟩ := G
  intro r hr H locs ls S
  have hr2 : some (none, M) = some r := hK.symm.trans hr
  cases hr2
  exact W.vret C.1 C.2.1 C.2.2.2.2.2.1 (fun t ht hW => post_of C S rfl (fun v hv => by cases hv) ht hW) S.2.2.2.2.2.2.2 hd C.2.2.2.2.2.2.1
theorem r_zreturn {K : Int × Mem → Option (Option Vl × Mem)} {x : Int} (C : Cx G own cc (some .boolean) fr lo) (hd : decode cc pc = .ok (.ireturn, 1)) (hK : K (x, M) = some (some (zi x), M)) : Rf G pc al [zi x] M (rz x M) K := by
  obtain ⟨p, l, e, R, s, m, args, below, meth, c, D, cA, ad, nL⟩ := G
  by_cases hc : x = 0 ∨ x = 1
  · rw [show rz x M = some (x, M) from if_pos hc]
    intro r hr H locs ls S
    have hr2 : some (some (zi x), M) = some r := hK.symm.trans hr
    cases hr2
    exact W.zret C.1 C.2.1 C.2.2.2.2.2.1 (z_nar hc).1 (fun t ht hW => post_of C S rfl (fun v hv => by cases hv; exact S.2.1.1) ht hW) S.2.2.2.2.2.2.2 hd C.2.2.2.2.2.2.1
  · rw [show rz x M = none from if_neg hc]
    exact r_none
/-- the same, with more to say behind: a boolean answer given within a block -/
theorem r_zreturnB {x : Int} {h : Int × Mem → Option β} (C : Cx G own cc (some .boolean) fr lo) (hd : decode cc pc = .ok (.ireturn, 1)) (hK : (h (x, M)).bind K = some (some (zi x), M)) : Rf G pc al [zi x] M ((rz x M).bind h) K := by
  obtain ⟨p, l, e, R, s, m, args, below, meth, c, D, cA, ad, nL⟩ := G
  by_cases hc : x = 0 ∨ x = 1
  · rw [show rz x M = some (x, M) from if_pos hc]
    intro r hr H locs ls S
    have hr2 : some (some (zi x), M) = some r := hK.symm.trans hr
    cases hr2
    exact W.zret C.1 C.2.1 C.2.2.2.2.2.1 (z_nar hc).1 (fun t ht hW => post_of C S rfl (fun v hv => by cases hv; exact S.2.1.1) ht hW) S.2.2.2.2.2.2.2 hd C.2.2.2.2.2.2.1
  · rw [show rz x M = none from if_neg hc]
    exact r_none
end RowsF
/-! LOOPS: what a loop comes to, without counting its turns -/
def whl {S R : Type} (f : S → Option (S ⊕ R)) : Nat → S → Option R
  | 0, _ => none
  | n + 1, s => (f s).bind (Sum.elim (whl f n) some)
theorem whl_mono {S R : Type} {f : S → Option (S ⊕ R)} {n : Nat} : ∀ {s : S} {r : R}, whl f n s = some r → whl f (n + 1) s = some r := by
  induction n with
  | zero => intro s r h; cases h
  | succ n ih =>
    intro s r h
    unfold whl at h ⊢
    cases hf : f s with
    | none => rw [hf] at h; cases h
    | some q =>
      rw [hf] at h
      cases q with
      | inl s' => exact ih h
      | inr r' => exact h
theorem whl_le {S R : Type} {f : S → Option (S ⊕ R)} {n m : Nat} (hnm : n ≤ m) {s : S} {r : R} (h : whl f n s = some r) : whl f m s = some r := by
  induction hnm with
  | refl => exact h
  | step _ ih => exact whl_mono ih
theorem whl_det {S R : Type} {f : S → Option (S ⊕ R)} {n m : Nat} {s : S} {r r' : R} (h : whl f n s = some r) (h' : whl f m s = some r') : r = r' := by
  rcases Nat.le_total n m with q | q
  · have := whl_le q h
    rw [this] at h'
    exact Option.some.inj h'
  · have := whl_le q h'
    rw [this] at h
    exact (Option.some.inj h).symm
noncomputable def lp {S R : Type} (f : S → Option (S ⊕ R)) (s : S) : Option R := Classical.epsilon (fun o : Option R => (∃ r n, o = some r ∧ whl f n s = some r) ∨ (o = none ∧ ∀ n, whl f n s = none))
theorem lp_spec {S R : Type} (f : S → Option (S ⊕ R)) (s : S) : (∃ r n, lp f s = some r ∧ whl f n s = some r) ∨ (lp f s = none ∧ ∀ n, whl f n s = none) := by
  refine Classical.epsilon_spec (p := fun o : Option R => (∃ r n, o = some r ∧ whl f n s = some r) ∨ (o = none ∧ ∀ n, whl f n s = none)) ?_
  by_cases h : ∃ n r, whl f n s = some r
  · obtain ⟨n, r, h⟩ := h
    exact ⟨some r, Or.inl ⟨r, n, rfl, h⟩⟩
  · refine ⟨none, Or.inr ⟨rfl, fun n => ?_⟩⟩
    cases hq : whl f n s with
    | none => rfl
    | some r => exact absurd ⟨n, r, hq⟩ h
theorem lp_iff {S R : Type} {f : S → Option (S ⊕ R)} {s : S} {r : R} : lp f s = some r ↔ ∃ n, whl f n s = some r := by
  rcases lp_spec f s with ⟨r', n, h1, h2⟩ | ⟨h1, h2⟩
  · constructor
    · intro h
      rw [h1] at h
      cases h
      exact ⟨n, h2⟩
    · rintro ⟨m, h⟩
      rw [h1, whl_det h2 h]
  · constructor
    · intro h
      rw [h1] at h
      cases h
    · rintro ⟨m, h⟩
      rw [h2 m] at h
      cases h
theorem lp_eq {S R : Type} (f : S → Option (S ⊕ R)) (s : S) : lp f s = (f s).bind (Sum.elim (lp f) some) := by
  apply Option.ext
  intro r
  rw [lp_iff]
  constructor
  · rintro ⟨n, h⟩
    cases n with
    | zero => cases h
    | succ n =>
      unfold whl at h
      cases hf : f s with
      | none => rw [hf] at h; cases h
      | some q =>
        rw [hf] at h
        cases q with
        | inl s' => exact lp_iff.mpr ⟨n, h⟩
        | inr r' => exact h
  · intro h
    cases hf : f s with
    | none => rw [hf] at h; cases h
    | some q =>
      rw [hf] at h
      cases q with
      | inl s' =>
        obtain ⟨n, hn⟩ := lp_iff.mp (show lp f s' = some r from h)
        exact ⟨n + 1, by unfold whl; rw [hf]; exact hn⟩
      | inr r' => exact ⟨1, by unfold whl; rw [hf]; exact h⟩
theorem r_loop {β : Type} {G : Gx} {pc : Nat} {st : List Vl} {K : β → Option (Option Vl × Mem)} {S R : Type} {f : S → Option (S ⊕ R)} {h : R → Option β} (AL : S → List (Option Vl)) (MM : S → Mem)
    (hbody : ∀ g : S → Option β, (∀ s, Rf G pc (AL s) st (MM s) (g s) K) → ∀ s, Rf G pc (AL s) st (MM s) (f s) (fun q => (Sum.elim g h q).bind K)) (s : S) : Rf G pc (AL s) st (MM s) ((lp f s).bind h) K := by
  have key : ∀ n s, Rf G pc (AL s) st (MM s) ((whl f n s).bind h) K := by
    intro n
    induction n with
    | zero => intro s r hr; cases hr
    | succ n ih =>
      intro s r hr
      refine hbody (fun s => (whl f n s).bind h) ih s r ?_
      unfold whl at hr
      rw [Option.bind_assoc, Option.bind_assoc] at hr
      rw [← hr]
      congr 1
      funext q
      cases q with
      | inl s' =>
        show ((whl f n s').bind h).bind K = (whl f n s').bind fun y => (h y).bind K
        rw [Option.bind_assoc]
      | inr r' => rfl
  intro r hr
  cases hl : lp f s with
  | none => rw [hl] at hr; cases hr
  | some q =>
    obtain ⟨n, hn⟩ := lp_iff.mp hl
    rw [hl, ← hn] at hr
    exact key n s r hr
