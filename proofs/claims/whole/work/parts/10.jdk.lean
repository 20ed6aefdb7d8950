/-! The JDK's own: max and min, the copying of int arrays. -/
def imax (a b : Int) : Int := if a < b then b else a
def imin (a b : Int) : Int := if b < a then b else a
def cpy (M : Mem) (a : Nat) (sp : Int) (b : Nat) (dp n : Int) : Option Mem := if (kd a).1 = 1 ∧ (kd b).1 = 1 ∧ 0 ≤ sp ∧ 0 ≤ dp ∧ 0 ≤ n ∧ sp + n ≤ len M a ∧ dp + n ≤ len M b then some (fun c j => if c = b then (if dp ≤ j ∧ j < dp + n then M a (sp + (j - dp)) else M c j) else M c j) else none
theorem i64_lt {a b : Int} (ha : i64 a) (hb : i64 b) : Int64.ofInt a < Int64.ofInt b ↔ a < b := by
  rw [Int64.lt_iff_toInt_lt, i64_to ha, i64_to hb]
/-- one array is another: the world with it -/
theorem toW_upd {cA : Nat → ClassId} {ad : Nat → Nat} {M M' : Mem} {a : Nat} (h : a < NN) (hM : ∀ b, b ≠ a → M' b = M b) : (toW cA ad M).set a (ad a, ent cA ad M' a) = toW cA ad M' := by
  apply List.ext_getElem?
  intro b
  by_cases hb : b = a
  · subst hb
    rw [List.getElem?_set_self (by simpa [toW] using h), toW_get h]
  · rw [List.getElem?_set_ne (Ne.symm hb)]
    by_cases hl : b < NN
    · rw [toW_get hl, toW_get hl]
      have h2 : len M' b = len M b := by
        unfold len
        rw [hM 1000 (NN_k h)]
      unfold ent
      rw [hM b hb, h2]
    · have e1 : (toW cA ad M)[b]? = none := by simp [toW]; omega
      have e2 : (toW cA ad M')[b]? = none := by simp [toW]; omega
      rw [e1, e2]
section RowsJ
variable {β : Type} {G : Gx} {own : String} {cc : ByteArray} {ret : Option FieldType} {fr lo pc : Nat} {al : List (Option Vl)} {st : List Vl} {M : Mem} {o : Option β} {K : β → Option (Option Vl × Mem)}
theorem r_imax {a b : Int} {index : Nat} (C : Cx G own cc ret fr lo) (h1 : Cond.methodLink own index Lib.Math.max.name ∈ gt) (h2 : Cond.static Lib.Math.max.name ∈ gt) (h3 : Cond.initialized "java/lang/Math" ∈ gt) (h4 : Cond.code Lib.Math.max.name Lib.Math.max.code 2 (some .int) ∈ gt) (hf : 1 ≤ fr) (hl : catS st + 13 ≤ lo) (hd : decode cc pc = .ok (.invokestatic index, 3)) (k : Rf G (pc + 3) al (zi (imax a b) :: st) M o K) : Rf G pc al (zi b :: zi a :: st) M o K := by
  obtain ⟨p, l, e, R, s, m, args, below, meth, c, D, cA, ad, nL⟩ := G
  obtain ⟨hx, hb, hml, hown, hts, hr1, hr2, hK, hNW, hinj, hfr, hlo⟩ := C
  intro r hr H locs ls ⟨s1, ⟨sb, sa, s2⟩, s3, s4, s5, s6⟩
  refine va_mmax hx hb (hml.trans s4.1.symm) hown (hts _ h1) (hts _ h2) (hts _ h3) (hts _ h4) (by rw [hfr]; exact hf) (by rw [hlo, catS_ok]; exact hl) (Nat.zero_le _) (Nat.zero_le _) hd ?_
  have hok : i32 (imax a b) := by unfold imax; split <;> assumption
  have h := k r hr H locs ls ⟨s1, ⟨hok, s2⟩, s3, s4, s5, s6⟩
  have e9 : (if Int32.ofInt a < Int32.ofInt b then Int32.ofInt b else Int32.ofInt a) = Int32.ofInt (imax a b) := by
    unfold imax
    by_cases q : a < b
    · rw [if_pos ((i32_lt sa sb).mpr q), if_pos q]
    · rw [if_neg (fun z => q ((i32_lt sa sb).mp z)), if_neg q]
  rw [e9]
  exact h
theorem r_imin {a b : Int} {index : Nat} (C : Cx G own cc ret fr lo) (h1 : Cond.methodLink own index Lib.Math.min.name ∈ gt) (h2 : Cond.static Lib.Math.min.name ∈ gt) (h3 : Cond.initialized "java/lang/Math" ∈ gt) (h4 : Cond.code Lib.Math.min.name Lib.Math.min.code 2 (some .int) ∈ gt) (hf : 1 ≤ fr) (hl : catS st + 13 ≤ lo) (hd : decode cc pc = .ok (.invokestatic index, 3)) (k : Rf G (pc + 3) al (zi (imin a b) :: st) M o K) : Rf G pc al (zi b :: zi a :: st) M o K := by
  obtain ⟨p, l, e, R, s, m, args, below, meth, c, D, cA, ad, nL⟩ := G
  obtain ⟨hx, hb, hml, hown, hts, hr1, hr2, hK, hNW, hinj, hfr, hlo⟩ := C
  intro r hr H locs ls ⟨s1, ⟨sb, sa, s2⟩, s3, s4, s5, s6⟩
  refine va_mmin hx hb (hml.trans s4.1.symm) hown (hts _ h1) (hts _ h2) (hts _ h3) (hts _ h4) (by rw [hfr]; exact hf) (by rw [hlo, catS_ok]; exact hl) (Nat.zero_le _) (Nat.zero_le _) hd ?_
  have hok : i32 (imin a b) := by unfold imin; split <;> assumption
  have h := k r hr H locs ls ⟨s1, ⟨hok, s2⟩, s3, s4, s5, s6⟩
  have e9 : (if Int32.ofInt b < Int32.ofInt a then Int32.ofInt b else Int32.ofInt a) = Int32.ofInt (imin a b) := by
    unfold imin
    by_cases q : b < a
    · rw [if_pos ((i32_lt sb sa).mpr q), if_pos q]
    · rw [if_neg (fun z => q ((i32_lt sb sa).mp z)), if_neg q]
  rw [e9]
  exact h
theorem r_lmax {a b : Int} {index : Nat} (C : Cx G own cc ret fr lo) (h1 : Cond.methodLink own index Lib.MathLoose.max_long.x ∈ gt) (h2 : Cond.static Lib.MathLoose.max_long.x ∈ gt) (h3 : Cond.initialized "java/lang/Math" ∈ gt) (h4 : Cond.code Lib.MathLoose.max_long.x Lib.MathLoose.max_long.code 4 (some .long) ∈ gt) (hf : 1 ≤ fr) (hl : catS st + 15 ≤ lo) (hd : decode cc pc = .ok (.invokestatic index, 3)) (k : Rf G (pc + 3) al (zl (imax a b) :: st) M o K) : Rf G pc al (zl b :: zl a :: st) M o K := by
  obtain ⟨p, l, e, R, s, m, args, below, meth, c, D, cA, ad, nL⟩ := G
  obtain ⟨hx, hb, hml, hown, hts, hr1, hr2, hK, hNW, hinj, hfr, hlo⟩ := C
  intro r hr H locs ls ⟨s1, ⟨sb, sa, s2⟩, s3, s4, s5, s6⟩
  refine va_mmax_long hx hb (hml.trans s4.1.symm) hown (hts _ h1) (hts _ h2) (hts _ h3) (hts _ h4) (by rw [hfr]; exact hf) (by rw [hlo, catS_ok]; exact hl) (Nat.zero_le _) (Nat.zero_le _) hd ?_
  have hok : i64 (imax a b) := by unfold imax; split <;> assumption
  have h := k r hr H locs ls ⟨s1, ⟨hok, s2⟩, s3, s4, s5, s6⟩
  have e9 : (if Int64.ofInt b < Int64.ofInt a then Int64.ofInt a else Int64.ofInt b) = Int64.ofInt (imax a b) := by
    unfold imax
    by_cases q : a < b
    · rw [if_neg (fun z => by have := (i64_lt sb sa).mp z; omega), if_pos q]
    · rw [if_neg q]
      by_cases q2 : b < a
      · rw [if_pos ((i64_lt sb sa).mpr q2)]
      · rw [if_neg (fun z => q2 ((i64_lt sb sa).mp z)), show a = b by omega]
  rw [e9]
  exact h
theorem r_lmin {a b : Int} {index : Nat} (C : Cx G own cc ret fr lo) (h1 : Cond.methodLink own index Lib.MathLoose.min_long.x ∈ gt) (h2 : Cond.static Lib.MathLoose.min_long.x ∈ gt) (h3 : Cond.initialized "java/lang/Math" ∈ gt) (h4 : Cond.code Lib.MathLoose.min_long.x Lib.MathLoose.min_long.code 4 (some .long) ∈ gt) (hf : 1 ≤ fr) (hl : catS st + 15 ≤ lo) (hd : decode cc pc = .ok (.invokestatic index, 3)) (k : Rf G (pc + 3) al (zl (imin a b) :: st) M o K) : Rf G pc al (zl b :: zl a :: st) M o K := by
  obtain ⟨p, l, e, R, s, m, args, below, meth, c, D, cA, ad, nL⟩ := G
  obtain ⟨hx, hb, hml, hown, hts, hr1, hr2, hK, hNW, hinj, hfr, hlo⟩ := C
  intro r hr H locs ls ⟨s1, ⟨sb, sa, s2⟩, s3, s4, s5, s6⟩
  refine va_mmin_long hx hb (hml.trans s4.1.symm) hown (hts _ h1) (hts _ h2) (hts _ h3) (hts _ h4) (by rw [hfr]; exact hf) (by rw [hlo, catS_ok]; exact hl) (Nat.zero_le _) (Nat.zero_le _) hd ?_
  have hok : i64 (imin a b) := by unfold imin; split <;> assumption
  have h := k r hr H locs ls ⟨s1, ⟨hok, s2⟩, s3, s4, s5, s6⟩
  have e9 : (if Int64.ofInt b < Int64.ofInt a then Int64.ofInt b else Int64.ofInt a) = Int64.ofInt (imin a b) := by
    unfold imin
    by_cases q : b < a
    · rw [if_pos ((i64_lt sb sa).mpr q), if_pos q]
    · rw [if_neg (fun z => q ((i64_lt sb sa).mp z)), if_neg q]
  rw [e9]
  exact h
theorem r_copy {a b : Nat} {sp dp n : Int} {index : Nat} {h : Mem → Option β} (C : Cx G own cc ret fr lo) (h1 : Cond.methodLink own index arraycopyName ∈ gt) (h2 : Cond.native arraycopyName ∈ gt) (h3 : Cond.static arraycopyName ∈ gt) (h4 : Cond.initialized "java/lang/System" ∈ gt) (hf : 1 ≤ fr) (hl : catS st + 18 ≤ lo) (hd : decode cc pc = .ok (.invokestatic index, 3)) (k : ∀ M', cpy M a sp b dp n = some M' → Rf G (pc + 3) al st M' (h M') K) : Rf G pc al (zi n :: zi dp :: zr b :: zi sp :: zr a :: st) M ((cpy M a sp b dp n).bind h) K := by
  obtain ⟨p, l, e, R, s, m, args, below, meth, c, D, cA, ad, nL⟩ := G
  obtain ⟨hx, hb, hml, hown, hts, hr1, hr2, hK, hNW, hinj, hfr, hlo⟩ := C
  intro r hr H locs ls ⟨s1, ⟨sn, sd, sb, ssp, sa, s2⟩, s3, s4, s5, s6⟩
  by_cases hc : (kd a).1 = 1 ∧ (kd b).1 = 1 ∧ 0 ≤ sp ∧ 0 ≤ dp ∧ 0 ≤ n ∧ sp + n ≤ len M a ∧ dp + n ≤ len M b
  · have hld : cpy M a sp b dp n = some (fun c j => if c = b then (if dp ≤ j ∧ j < dp + n then M a (sp + (j - dp)) else M c j) else M c j) := if_pos hc
    rw [hld] at hr
    generalize hMe : (fun c j => if c = b then (if dp ≤ j ∧ j < dp + n then M a (sp + (j - dp)) else M c j) else M c j : Mem) = M2 at hld hr
    have hN : a < NN := kd_lt (by rw [hc.1]; decide)
    have hNb : b < NN := kd_lt (by rw [hc.2.1]; decide)
    have i0 : ∀ {z : Int}, i32 z → 0 ≤ z → ¬ Int32.ofInt z < 0 := fun hz h0 q => by
      have := (i32_lt hz (by unfold i32; omega : i32 0)).mp q
      omega
    have hM2 : ∀ c, c ≠ b → M2 c = M c := fun c hcb => by
      subst hMe
      funext j
      exact if_neg hcb
    have hlen : len M2 b = len M b := by
      unfold len
      rw [hM2 1000 (NN_k hNb)]
    refine va_copyi hx hb (hml.trans s4.1.symm) hown (hts _ h1) (hts _ h2) (hts _ h3) (hts _ h4) hK s5 (toW_D hinj) s6 a b 0 0 ((toW_get hN).trans (congrArg (fun e => some (ad a, e)) (ent_i hc.1 (Or.inl rfl)))) ((toW_get hNb).trans (congrArg (fun e => some (ad b, e)) (ent_i hc.2.1 (Or.inl rfl)))) rfl rfl rfl (i0 ssp hc.2.2.1) (i0 sd hc.2.2.2.1) (i0 sn hc.2.2.2.2.1) (by rw [ix_cl ssp, ix_cl sn]; omega) (by rw [ix_cl sd, ix_cl sn]; omega) (fun _ _ => rfl) (by rw [hfr]; exact hf) (by rw [hlo, catS_ok]; exact hl) hd (fun H1 locs1 hP _ hS => ?_)
    rw [ix_cl ssp, ix_cl sn, ix_cl sd] at hP
    have hfun : va_cpy (fun j : Nat => Int32.ofInt (M a j)) (fun j : Nat => Int32.ofInt (M b j)) sp.toNat dp.toNat n.toNat = fun j : Nat => Int32.ofInt (M2 b j) := by
      subst hMe
      funext j
      unfold va_cpy
      show _ = Int32.ofInt (if b = b then (if dp ≤ (j : Int) ∧ (j : Int) < dp + n then M a (sp + ((j : Int) - dp)) else M b j) else M b j)
      rw [if_pos rfl]
      by_cases q : dp ≤ (j : Int) ∧ (j : Int) < dp + n
      · rw [if_pos q, if_pos (by omega)]
        show Int32.ofInt (M a ((sp.toNat + (j - dp.toNat) : Nat) : Int)) = Int32.ofInt (M a (sp + ((j : Int) - dp)))
        rw [show ((sp.toNat + (j - dp.toNat) : Nat) : Int) = sp + ((j : Int) - dp) by omega]
      · rw [if_neg q, if_neg (by omega)]
    rw [hfun, ← hlen, ← ent_i (M := M2) hc.2.1 (Or.inl rfl), toW_upd hNb hM2] at hP
    refine k _ hld r hr H1 locs1 ls ⟨⟨fun c j => ?_, fun c j hq => ?_, fun c j t ht => ?_, ?_⟩, s2, s3, s4, hP, hS⟩
    · subst hMe
      show i64 (if c = b then _ else _)
      split
      · split
        · exact s1.1 _ _
        · exact s1.1 _ _
      · exact s1.1 _ _
    · subst hMe
      show i32 (if c = b then _ else _)
      split
      · split
        · exact s1.2.1 _ _ (is_arr (Or.inl hc.1))
        · exact s1.2.1 _ _ hq
      · exact s1.2.1 _ _ hq
    · rw [hM2 c (fun q => ?_)]
      · exact s1.2.2.1 c j t ht
      · subst q
        rcases ptr_ty ht with z | z
        · rw [hc.2.1] at z; exact absurd z.1 (by decide)
        · rw [hc.2.1] at z; exact absurd z (by decide)
    · rw [hM2 1000 (NN_k hNb)]
      exact s1.2.2.2
  · rw [show cpy M a sp b dp n = none from if_neg hc] at hr
    cases hr
end RowsJ
