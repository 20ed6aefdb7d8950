/-! MEMORY ROWS: arrays, fields, switches, returns. -/
def ldI (M : Mem) (a : Nat) (i : Int) : Option Int := if (kd a).1 = 1 ∧ 0 ≤ i ∧ i < len M a then some (M a i) else none
def ldZ (M : Mem) (a : Nat) (i : Int) : Option Int := if (kd a).1 = 2 ∧ 0 ≤ i ∧ i < len M a then some (M a i) else none
def ldB (M : Mem) (a : Nat) (i : Int) : Option Int := if (kd a).1 = 3 ∧ 0 ≤ i ∧ i < len M a then some (M a i) else none
def ldJ (M : Mem) (a : Nat) (i : Int) : Option Int := if (kd a).1 = 4 ∧ 0 ≤ i ∧ i < len M a then some (M a i) else none
def ldA (a : Nat) (i : Int) : Option Nat := if (kd a).1 = 5 ∧ 0 ≤ i ∧ i < ((kd a).2 : Int) then ptr a i.toNat else none
def stI (M : Mem) (a : Nat) (i x : Int) : Option Mem := if (kd a).1 = 1 ∧ 0 ≤ i ∧ i < len M a then some (wr M a i x) else none
def stZ (M : Mem) (a : Nat) (i x : Int) : Option Mem := if (kd a).1 = 2 ∧ 0 ≤ i ∧ i < len M a then some (wr M a i (nz x)) else none
def stB (M : Mem) (a : Nat) (i x : Int) : Option Mem := if (kd a).1 = 3 ∧ 0 ≤ i ∧ i < len M a then some (wr M a i (nb x)) else none
def stJ (M : Mem) (a : Nat) (i x : Int) : Option Mem := if (kd a).1 = 4 ∧ 0 ≤ i ∧ i < len M a then some (wr M a i x) else none
/-- the one pointer that moves: to one of the two objects of lines -/
def gm (M : Mem) (a : Nat) (k : Int) : Option Nat := if M a k = 5 ∨ M a k = 119 then some (M a k).toNat else none
/-- a boolean that is kept or answered -/
def rz (x : Int) (M : Mem) : Option (Int × Mem) := if x = 0 ∨ x = 1 then some (x, M) else none
def pz (M : Mem) (a : Nat) (k x : Int) : Option Mem := if x = 0 ∨ x = 1 then some (wr M a k x) else none
theorem kdL_len : kdL.length = 174 := by decide +kernel
theorem ptL_len : ptL.length = 174 := by decide +kernel
theorem kd_lt {a : Nat} (h : (kd a).1 ≠ 9) : a < NN := by
  refine Nat.lt_of_not_le fun q => h ?_
  have e : kdL[a]? = none := List.getElem?_eq_none (by rw [kdL_len]; exact q)
  unfold kd
  rw [List.getD_eq_getElem?_getD, e]
  rfl
theorem NN_k {a : Nat} (h : a < NN) : (1000 : Nat) ≠ a := fun q => by rw [← q] at h; exact absurd h (by decide)
theorem len_wr {M : Mem} {a b : Nat} {i x : Int} (h : a < NN) : len (wr M a i x) b = len M b := by
  unfold len
  rw [wr_ne (NN_k h)]
theorem ix_in {i n : Int} (hi : i32 i) (h0 : 0 ≤ i) (h1 : i < n) : vp_in (Int32.ofInt i) n.toNat := by
  rw [vp_in_iff, i32_to hi]
  omega
theorem ix_cl {i : Int} (hi : i32 i) : (Int32.ofInt i).toNatClampNeg = i.toNat := Int32.toNatClampNeg_ofInt_of_le (by have := hi.1; omega) (by have := hi.2; omega)
theorem ptr_ty_all : ∀ a, a < 174 → ∀ k, k < 54 → ptr a k ≠ none → ((kd a).1 = 0 ∧ ft (kd a).2 k = 3) ∨ (kd a).1 = 5 := by decide +kernel
theorem ptr_bd : ∀ l ∈ ptL, l.length ≤ 54 := by decide +kernel
theorem ptr_ty {a k r : Nat} (h : ptr a k = some r) : ((kd a).1 = 0 ∧ ft (kd a).2 k = 3) ∨ (kd a).1 = 5 := by
  have hn : ptr a k ≠ none := by rw [h]; exact fun q => by cases q
  have ha : a < 174 := by
    refine Nat.lt_of_not_le fun q => hn ?_
    have e : ptL[a]? = none := List.getElem?_eq_none (by rw [ptL_len]; exact q)
    have e2 : ptL.getD a [] = [] := by rw [List.getD_eq_getElem?_getD, e]; rfl
    unfold ptr
    rw [e2]
    rfl
  have hk : k < 54 := by
    refine Nat.lt_of_not_le fun q => hn ?_
    unfold ptr
    have hb : (ptL.getD a []).length ≤ 54 := by
      rw [List.getD_eq_getElem?_getD]
      cases hq : ptL[a]? with
      | none => simp
      | some l => exact ptr_bd l (List.mem_of_getElem? hq)
    have e : (ptL.getD a [])[k]? = none := List.getElem?_eq_none (by omega)
    rw [List.getD_eq_getElem?_getD, e]
    rfl
  exact ptr_ty_all a ha k hk hn
/-- a slot that is no pointer that stays is written: the memory stays sound -/
theorem okM_wr {M : Mem} {a : Nat} {i x : Int} (h : okM M) (ha : a < NN) (hx : i64 x) (h32 : is32 a i = true → i32 x) (hp : ∀ k r : Nat, (k : Int) = i → ptr a k = some r → False) : okM (wr M a i x) := by
  obtain ⟨h1, h2, h3, h4⟩ := h
  refine ⟨fun b j => ?_, fun b j hb => ?_, fun b k r hr => ?_, ?_⟩
  · unfold wr
    split
    · split
      · exact hx
      · exact h1 b j
    · exact h1 b j
  · unfold wr
    split
    · rename_i e
      subst e
      split
      · rename_i e2
        subst e2
        exact h32 hb
      · exact h2 b j hb
    · exact h2 b j hb
  · unfold wr
    split
    · rename_i e
      subst e
      split
      · rename_i e2
        exact (hp k r e2 hr).elim
      · exact h3 b k r hr
    · exact h3 b k r hr
  · rw [wr_ne (NN_k ha)]
    exact h4
theorem okM_arr {M : Mem} {a : Nat} {i x : Int} (h : okM M) (hk : (kd a).1 = 1 ∨ (kd a).1 = 2 ∨ (kd a).1 = 3 ∨ (kd a).1 = 4) (hx : i64 x) (h32 : (kd a).1 ≠ 4 → i32 x) : okM (wr M a i x) := by
  refine okM_wr h (kd_lt (by rcases hk with q | q | q | q <;> rw [q] <;> decide)) hx (fun q => h32 fun z => ?_) (fun k r _ hr => ?_)
  · unfold is32 at q
    rw [z] at q
    cases q
  · rcases ptr_ty hr with q | q
    · rcases hk with z | z | z | z <;> rw [z] at q <;> exact absurd q.1 (by decide)
    · rcases hk with z | z | z | z <;> rw [z] at q <;> exact absurd q (by decide)
section RowsM
variable {β : Type} {G : Gx} {own : String} {cc : ByteArray} {ret : Option FieldType} {fr lo pc : Nat} {al : List (Option Vl)} {st : List Vl} {M : Mem} {o : Option β} {K : β → Option (Option Vl × Mem)}
theorem ent_i {cA : Nat → ClassId} {ad : Nat → Nat} {M : Mem} {a k : Nat} (h : (kd a).1 = k) (h1 : k = 1 ∨ k = 2 ∨ k = 3) : ent cA ad M a = .inl (cA k, (len M a).toNat, .inl (fun j : Nat => Int32.ofInt (M a j))) := by
  unfold ent
  rcases h1 with rfl | rfl | rfl <;> rw [h] <;> rfl
theorem ent_l {cA : Nat → ClassId} {ad : Nat → Nat} {M : Mem} {a : Nat} (h : (kd a).1 = 4) : ent cA ad M a = .inl (cA 4, (len M a).toNat, .inr (.inl (fun j : Nat => Int64.ofInt (M a j)))) := by
  unfold ent
  rw [h]
  rfl
theorem ent_a {cA : Nat → ClassId} {ad : Nat → Nat} {M : Mem} {a : Nat} (h : (kd a).1 = 5) : ent cA ad M a = .inl (cA 5, (len M a).toNat, .inr (.inr (.inr (.inr (fun j : Nat => some (ad (M a j).toNat)))))) := by
  unfold ent
  rw [h]
  rfl
theorem ent_o {cA : Nat → ClassId} {ad : Nat → Nat} {M : Mem} {a ci : Nat} (h : kd a = (0, ci)) : ent cA ad M a = .inr (ci, (List.range (nf ci)).map (fun k : Nat => fvl ad (ft ci k) (M a k))) := by
  unfold ent
  rw [h]
  rfl
theorem is_arr {a : Nat} {i : Int} (h : (kd a).1 = 1 ∨ (kd a).1 = 2 ∨ (kd a).1 = 3) : is32 a i = true := by
  unfold is32
  rcases h with h | h | h <;> rw [h] <;> rfl
theorem r_iaload {a : Nat} {i : Int} {h : Int → Option β} (C : Cx G own cc ret fr lo) (hd : decode cc pc = .ok (.iaload, 1)) (k : ∀ v, ldI M a i = some v → Rf G (pc + 1) al (zi v :: st) M (h v) K) : Rf G pc al (zi i :: zr a :: st) M ((ldI M a i).bind h) K := by
  obtain ⟨p, l, e, R, s, m, args, below, meth, c, D, cA, ad, nL⟩ := G
  intro r hr H locs ls ⟨s1, ⟨si, sa, s2⟩, s3, s4, s5, s6⟩
  by_cases hc : (kd a).1 = 1 ∧ 0 ≤ i ∧ i < len M a
  · have hld : ldI M a i = some (M a i) := if_pos hc
    rw [hld] at hr
    have hw := k (M a i) hld r hr H locs ls ⟨s1, ⟨s1.2.1 a i (is_arr (Or.inl hc.1)), s2⟩, s3, s4, s5, s6⟩
    have hN : a < NN := kd_lt (by rw [hc.1]; decide)
    refine va_iald C.1 C.2.1 C.2.2.2.2.2.2.2.1 s5 a 0 ((toW_get hN).trans (congrArg (fun e => some (ad a, e)) (ent_i hc.1 (Or.inl rfl)))) rfl (ix_in si hc.2.1 hc.2.2) hd ?_
    rw [ix_cl si, Int.toNat_of_nonneg hc.2.1]
    exact hw
  · rw [show ldI M a i = none from if_neg hc] at hr
    cases hr
theorem r_zaload {a : Nat} {i : Int} {h : Int → Option β} (C : Cx G own cc ret fr lo) (hd : decode cc pc = .ok (.baload, 1)) (k : ∀ v, ldZ M a i = some v → Rf G (pc + 1) al (zi v :: st) M (h v) K) : Rf G pc al (zi i :: zr a :: st) M ((ldZ M a i).bind h) K := by
  obtain ⟨p, l, e, R, s, m, args, below, meth, c, D, cA, ad, nL⟩ := G
  intro r hr H locs ls ⟨s1, ⟨si, sa, s2⟩, s3, s4, s5, s6⟩
  by_cases hc : (kd a).1 = 2 ∧ 0 ≤ i ∧ i < len M a
  · have hld : ldZ M a i = some (M a i) := if_pos hc
    rw [hld] at hr
    have hw := k (M a i) hld r hr H locs ls ⟨s1, ⟨s1.2.1 a i (is_arr (Or.inr (Or.inl hc.1))), s2⟩, s3, s4, s5, s6⟩
    have hN : a < NN := kd_lt (by rw [hc.1]; decide)
    refine va_zald C.1 C.2.1 C.2.2.2.2.2.2.2.1 s5 a 1 ((toW_get hN).trans (congrArg (fun e => some (ad a, e)) (ent_i hc.1 (Or.inr (Or.inl rfl))))) rfl (ix_in si hc.2.1 hc.2.2) hd ?_
    rw [ix_cl si, Int.toNat_of_nonneg hc.2.1]
    exact hw
  · rw [show ldZ M a i = none from if_neg hc] at hr
    cases hr
theorem r_baload {a : Nat} {i : Int} {h : Int → Option β} (C : Cx G own cc ret fr lo) (hd : decode cc pc = .ok (.baload, 1)) (k : ∀ v, ldB M a i = some v → Rf G (pc + 1) al (zi v :: st) M (h v) K) : Rf G pc al (zi i :: zr a :: st) M ((ldB M a i).bind h) K := by
  obtain ⟨p, l, e, R, s, m, args, below, meth, c, D, cA, ad, nL⟩ := G
  intro r hr H locs ls ⟨s1, ⟨si, sa, s2⟩, s3, s4, s5, s6⟩
  by_cases hc : (kd a).1 = 3 ∧ 0 ≤ i ∧ i < len M a
  · have hld : ldB M a i = some (M a i) := if_pos hc
    rw [hld] at hr
    have hw := k (M a i) hld r hr H locs ls ⟨s1, ⟨s1.2.1 a i (is_arr (Or.inr (Or.inr hc.1))), s2⟩, s3, s4, s5, s6⟩
    have hN : a < NN := kd_lt (by rw [hc.1]; decide)
    refine va_bald C.1 C.2.1 C.2.2.2.2.2.2.2.1 s5 a 2 ((toW_get hN).trans (congrArg (fun e => some (ad a, e)) (ent_i hc.1 (Or.inr (Or.inr rfl))))) rfl (ix_in si hc.2.1 hc.2.2) hd ?_
    rw [ix_cl si, Int.toNat_of_nonneg hc.2.1]
    exact hw
  · rw [show ldB M a i = none from if_neg hc] at hr
    cases hr
theorem r_laload {a : Nat} {i : Int} {h : Int → Option β} (C : Cx G own cc ret fr lo) (hd : decode cc pc = .ok (.laload, 1)) (k : ∀ v, ldJ M a i = some v → Rf G (pc + 1) al (zl v :: st) M (h v) K) : Rf G pc al (zi i :: zr a :: st) M ((ldJ M a i).bind h) K := by
  obtain ⟨p, l, e, R, s, m, args, below, meth, c, D, cA, ad, nL⟩ := G
  intro r hr H locs ls ⟨s1, ⟨si, sa, s2⟩, s3, s4, s5, s6⟩
  by_cases hc : (kd a).1 = 4 ∧ 0 ≤ i ∧ i < len M a
  · have hld : ldJ M a i = some (M a i) := if_pos hc
    rw [hld] at hr
    have hw := k (M a i) hld r hr H locs ls ⟨s1, ⟨s1.1 a i, s2⟩, s3, s4, s5, s6⟩
    have hN : a < NN := kd_lt (by rw [hc.1]; decide)
    refine va_lald C.1 C.2.1 C.2.2.2.2.2.2.2.1 s5 a 3 ((toW_get hN).trans (congrArg (fun e => some (ad a, e)) (ent_l hc.1))) rfl (ix_in si hc.2.1 hc.2.2) hd ?_
    rw [ix_cl si, Int.toNat_of_nonneg hc.2.1]
    exact hw
  · rw [show ldJ M a i = none from if_neg hc] at hr
    cases hr
theorem r_aaload {a : Nat} {i : Int} {h : Nat → Option β} (C : Cx G own cc ret fr lo) (ha : a ≠ 115) (hd : decode cc pc = .ok (.aaload, 1)) (k : ∀ v, ldA a i = some v → Rf G (pc + 1) al (zr v :: st) M (h v) K) : Rf G pc al (zi i :: zr a :: st) M ((ldA a i).bind h) K := by
  obtain ⟨p, l, e, R, s, m, args, below, meth, c, D, cA, ad, nL⟩ := G
  intro r hr H locs ls ⟨s1, ⟨si, sa, s2⟩, s3, s4, s5, s6⟩
  by_cases hc : (kd a).1 = 5 ∧ 0 ≤ i ∧ i < ((kd a).2 : Int)
  · have hld : ldA a i = ptr a i.toNat := if_pos hc
    rw [hld] at hr
    cases hp : ptr a i.toNat with
    | none => rw [hp] at hr; cases hr
    | some v =>
      rw [hp] at hr
      have hw := k v (hld.trans hp) r hr H locs ls ⟨s1, ⟨trivial, s2⟩, s3, s4, s5, s6⟩
      have hN : a < NN := kd_lt (by rw [hc.1]; decide)
      have hlen : len M a = ((kd a).2 : Int) := if_neg ha
      have hcell := s5 a _ (toW_get hN)
      rw [ent_a hc.1] at hcell
      have hin : vp_in (Int32.ofInt i) (len M a).toNat := ix_in si hc.2.1 (by rw [hlen]; exact hc.2.2)
      have hlt : (Int32.ofInt i).toNatClampNeg < (len M a).toNat := Nat.not_le.mp fun q => hin (Or.inr q)
      have hv : M a (i.toNat : Int) = (v : Int) := s1.2.2.1 a i.toNat v hp
      refine W.aald (v := .ref (ad v)) C.1 C.2.1 hcell ((C.2.2.2.2.2.2.2.1.2 4 _ rfl).1 _ _) rfl (fun q => by cases q) (by show ¬ (_ < 0 ∨ (arrV _ _ _).slots.size ≤ _); rw [arrV_size]; exact hin) ?_ rfl rfl hd hw
      show (arrV _ _ _).slots[_]? = _
      rw [arrV_read _ _ hlt, ix_cl si]
      show some (va_rf (some (ad (M a (i.toNat : Int)).toNat))) = _
      rw [hv]
      rfl
  · rw [show ldA a i = none from if_neg hc] at hr
    cases hr
theorem upd_wr {M : Mem} {a : Nat} {i x : Int} {y : Int32} (h0 : 0 ≤ i) (hy : Int32.ofInt x = y) : upd (fun j : Nat => Int32.ofInt (M a j)) i.toNat y = fun j : Nat => Int32.ofInt (wr M a i x a j) := by
  funext j
  rw [wr_at]
  unfold upd
  by_cases hj : j = i.toNat
  · rw [if_pos hj, if_pos (by omega), hy]
  · rw [if_neg hj, if_neg (by omega)]
theorem updL_wr {M : Mem} {a : Nat} {i x : Int} (h0 : 0 ≤ i) : vp_updL (fun j : Nat => Int64.ofInt (M a j)) i.toNat (Int64.ofInt x) = fun j : Nat => Int64.ofInt (wr M a i x a j) := by
  funext j
  rw [wr_at]
  unfold vp_updL
  by_cases hj : j = i.toNat
  · rw [if_pos hj, if_pos (by omega)]
  · rw [if_neg hj, if_neg (by omega)]
theorem r_iastore {a : Nat} {i x : Int} {h : Mem → Option β} (C : Cx G own cc ret fr lo) (hd : decode cc pc = .ok (.iastore, 1)) (k : ∀ M', stI M a i x = some M' → Rf G (pc + 1) al st M' (h M') K) : Rf G pc al (zi x :: zi i :: zr a :: st) M ((stI M a i x).bind h) K := by
  obtain ⟨p, l, e, R, s, m, args, below, meth, c, D, cA, ad, nL⟩ := G
  intro r hr H locs ls ⟨s1, ⟨sx, si, sa, s2⟩, s3, s4, s5, s6⟩
  by_cases hc : (kd a).1 = 1 ∧ 0 ≤ i ∧ i < len M a
  · have hld : stI M a i x = some (wr M a i x) := if_pos hc
    rw [hld] at hr
    have hN : a < NN := kd_lt (by rw [hc.1]; decide)
    refine va_iast C.1 C.2.1 C.2.2.2.2.2.2.2.1 s5 (toW_D C.2.2.2.2.2.2.2.2.2.1) s6 a 0 ((toW_get hN).trans (congrArg (fun e => some (ad a, e)) (ent_i hc.1 (Or.inl rfl)))) rfl (ix_in si hc.2.1 hc.2.2) hd (fun H1 locs1 hP _ hS => ?_)
    rw [ix_cl si, upd_wr hc.2.1 rfl, ← len_wr (M := M) (a := a) (b := a) (i := i) (x := x) hN, ← ent_i hc.1 (Or.inl rfl), toW_set hN] at hP
    exact k _ hld r hr H1 locs1 ls ⟨okM_arr s1 (Or.inl hc.1) (i64_32 sx) (fun _ => sx), s2, s3, s4, hP, hS⟩
  · rw [show stI M a i x = none from if_neg hc] at hr
    cases hr
theorem r_zastore {a : Nat} {i x : Int} {h : Mem → Option β} (C : Cx G own cc ret fr lo) (hd : decode cc pc = .ok (.bastore, 1)) (k : ∀ M', stZ M a i x = some M' → Rf G (pc + 1) al st M' (h M') K) : Rf G pc al (zi x :: zi i :: zr a :: st) M ((stZ M a i x).bind h) K := by
  obtain ⟨p, l, e, R, s, m, args, below, meth, c, D, cA, ad, nL⟩ := G
  intro r hr H locs ls ⟨s1, ⟨sx, si, sa, s2⟩, s3, s4, s5, s6⟩
  by_cases hc : (kd a).1 = 2 ∧ 0 ≤ i ∧ i < len M a
  · have hld : stZ M a i x = some (wr M a i (nz x)) := if_pos hc
    rw [hld] at hr
    have hN : a < NN := kd_lt (by rw [hc.1]; decide)
    refine va_zast C.1 C.2.1 C.2.2.2.2.2.2.2.1 s5 (toW_D C.2.2.2.2.2.2.2.2.2.1) s6 a 1 ((toW_get hN).trans (congrArg (fun e => some (ad a, e)) (ent_i hc.1 (Or.inr (Or.inl rfl))))) rfl (ix_in si hc.2.1 hc.2.2) hd (fun H1 locs1 hP _ hS => ?_)
    rw [ix_cl si, upd_wr (x := nz x) hc.2.1 (Int32.ofInt_toInt _), ← len_wr (M := M) (a := a) (b := a) (i := i) (x := nz x) hN, ← ent_i hc.1 (Or.inr (Or.inl rfl)), toW_set hN] at hP
    exact k _ hld r hr H1 locs1 ls ⟨okM_arr s1 (Or.inr (Or.inl hc.1)) (i64_32 (i32_of _)) (fun _ => i32_of _), s2, s3, s4, hP, hS⟩
  · rw [show stZ M a i x = none from if_neg hc] at hr
    cases hr
theorem r_bastore {a : Nat} {i x : Int} {h : Mem → Option β} (C : Cx G own cc ret fr lo) (hd : decode cc pc = .ok (.bastore, 1)) (k : ∀ M', stB M a i x = some M' → Rf G (pc + 1) al st M' (h M') K) : Rf G pc al (zi x :: zi i :: zr a :: st) M ((stB M a i x).bind h) K := by
  obtain ⟨p, l, e, R, s, m, args, below, meth, c, D, cA, ad, nL⟩ := G
  intro r hr H locs ls ⟨s1, ⟨sx, si, sa, s2⟩, s3, s4, s5, s6⟩
  by_cases hc : (kd a).1 = 3 ∧ 0 ≤ i ∧ i < len M a
  · have hld : stB M a i x = some (wr M a i (nb x)) := if_pos hc
    rw [hld] at hr
    have hN : a < NN := kd_lt (by rw [hc.1]; decide)
    refine va_bast C.1 C.2.1 C.2.2.2.2.2.2.2.1 s5 (toW_D C.2.2.2.2.2.2.2.2.2.1) s6 a 2 ((toW_get hN).trans (congrArg (fun e => some (ad a, e)) (ent_i hc.1 (Or.inr (Or.inr rfl))))) rfl (ix_in si hc.2.1 hc.2.2) hd (fun H1 locs1 hP _ hS => ?_)
    rw [ix_cl si, upd_wr (x := nb x) hc.2.1 (Int32.ofInt_toInt _), ← len_wr (M := M) (a := a) (b := a) (i := i) (x := nb x) hN, ← ent_i hc.1 (Or.inr (Or.inr rfl)), toW_set hN] at hP
    exact k _ hld r hr H1 locs1 ls ⟨okM_arr s1 (Or.inr (Or.inr (Or.inl hc.1))) (i64_32 (i32_of _)) (fun _ => i32_of _), s2, s3, s4, hP, hS⟩
  · rw [show stB M a i x = none from if_neg hc] at hr
    cases hr
theorem r_lastore {a : Nat} {i x : Int} {h : Mem → Option β} (C : Cx G own cc ret fr lo) (hd : decode cc pc = .ok (.lastore, 1)) (k : ∀ M', stJ M a i x = some M' → Rf G (pc + 1) al st M' (h M') K) : Rf G pc al (zl x :: zi i :: zr a :: st) M ((stJ M a i x).bind h) K := by
  obtain ⟨p, l, e, R, s, m, args, below, meth, c, D, cA, ad, nL⟩ := G
  intro r hr H locs ls ⟨s1, ⟨sx, si, sa, s2⟩, s3, s4, s5, s6⟩
  by_cases hc : (kd a).1 = 4 ∧ 0 ≤ i ∧ i < len M a
  · have hld : stJ M a i x = some (wr M a i x) := if_pos hc
    rw [hld] at hr
    have hN : a < NN := kd_lt (by rw [hc.1]; decide)
    refine va_last C.1 C.2.1 C.2.2.2.2.2.2.2.1 s5 (toW_D C.2.2.2.2.2.2.2.2.2.1) s6 a 3 ((toW_get hN).trans (congrArg (fun e => some (ad a, e)) (ent_l hc.1))) rfl (ix_in si hc.2.1 hc.2.2) hd (fun H1 locs1 hP _ hS => ?_)
    rw [ix_cl si, updL_wr hc.2.1, ← len_wr (M := M) (a := a) (b := a) (i := i) (x := x) hN, ← ent_l hc.1, toW_set hN] at hP
    exact k _ hld r hr H1 locs1 ls ⟨okM_arr s1 (Or.inr (Or.inr (Or.inr hc.1))) sx (fun q => absurd hc.1 q), s2, s3, s4, hP, hS⟩
  · rw [show stJ M a i x = none from if_neg hc] at hr
    cases hr
/-- the length of an array -/
theorem r_alen {a : Nat} (C : Cx G own cc ret fr lo) (hk : (kd a).1 = 1) (hd : decode cc pc = .ok (.arraylength, 1)) (k : 0 ≤ len M a → Rf G (pc + 1) al (zi (len M a) :: st) M o K) : Rf G pc al (zr a :: st) M o K := by
  obtain ⟨p, l, e, R, s, m, args, below, meth, c, D, cA, ad, nL⟩ := G
  intro r hr H locs ls ⟨s1, ⟨sa, s2⟩, s3, s4, s5, s6⟩
  have hN : a < NN := kd_lt (by rw [hk]; decide)
  have hb : 0 ≤ len M a ∧ i32 (len M a) := by
    unfold len i32
    split
    · have := s1.2.2.2; omega
    · have h2 : ∀ b, b < NN → (kd b).2 ≤ 10000 := by decide +kernel
      have := h2 a hN
      omega
  refine va_alen C.1 C.2.1 C.2.2.2.2.2.2.2.1 s5 a 0 ((toW_get hN).trans (congrArg (fun e => some (ad a, e)) (ent_i hk (Or.inl rfl)))) rfl (v := Int32.ofInt (len M a)) ?_ hd (k hb.1 r hr H locs ls ⟨s1, ⟨hb.2, s2⟩, s3, s4, s5, s6⟩)
  show Int32.ofNat (len M a).toNat = _
  rw [← Int32.ofInt_eq_ofNat, Int.toNat_of_nonneg hb.1]
end RowsM
