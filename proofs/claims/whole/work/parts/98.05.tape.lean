/-! the tape's constructor: it reads its own text -/
def tpC (i : Nat) : Int32 := tpf i &&& 255
def tpW : Nat → Nat
  | 0 => 0
  | i + 1 => if tpC i = 32 then tpW i + 1 else tpW i
def tpG : Nat → Nat → Int64
  | 0 => fun _ => 0
  | i + 1 => if tpC i = 32 then tpG i else vp_updL (tpG i) (tpW i) (tpG i (tpW i) * 32 + (tpC i - 97 + 1).toInt64)
theorem tpW_lt : ∀ i, i < 110 → tpW i < 23 := by decide +kernel
theorem P_grown {D : va_G} {cl : List vw_C} {ws : va_W} {H H1 : Heap} (h : va_P D cl ws H) (hq : ∀ a : Nat, a < H.size → H1[a]? = H[a]?) : va_P D cl ws H1 := by
  refine h.kept (fun k q hk => ?_)
  have h1 := h k q hk
  obtain ⟨a, e⟩ := q
  have : a < H.size := by
    cases e with
    | inl x => exact (Array.getElem?_eq_some_iff.mp h1).1
    | inr x =>
      obtain ⟨q', -, cell, g1, -⟩ := h1
      exact (Array.getElem?_eq_some_iff.mp g1).1
  exact hq a this
theorem NS_grown {D : va_G} {A : Nat → Prop} {s : State} {ws : va_W} {H H1 : Heap} {locs locs1 : List Loc} (S : NS D A s ws H locs) (hq : ∀ a : Nat, a < H.size → H1[a]? = H[a]?) (hS : va_S A s.heap H1 locs1) : NS D A s ws H1 locs1 := ⟨P_grown S.1 hq, S.2.1, hS⟩
theorem wj_nset0 {ws news : va_W} {j i : Nat} {x y : Nat × va_E} : (ws.set j x ++ news).set (ws.length + i) y = ws.set j x ++ news.set i y := by
  rw [List.set_append_right _ _ (by rw [List.length_set]; omega), List.length_set]
  congr 2
  omega
theorem NC.fix {p : Program} {s : State} {m : MethodId} {args : Array Value} {meth : Method} {c : Code} {own : String} {cc : ByteArray} {nL : Nat} {D : va_G} {cA : Nat → ClassId} {A : Nat → Prop} (X : NC p s m args meth c own cc nL D cA A) : CallFix p m c cc nL s args gt own := ⟨X.1, X.2.1, X.2.2.1, X.2.2.2.1, X.2.2.2.2.1⟩
theorem wX8_31 : Cond.constantLong RX8 31 32 ∈ gt := gt_t (i := 88) (by decide +kernel) rfl
def wTp (cA : Nat → ClassId) (ws0 : va_W) (j a u0 u1 : Nat) (g : Nat → Int64) : va_W := ws0.set j (a, .inr (8, [.ref u0, .ref u1, .int 0, .int 0, .int 0, .int 0, .int 0, .long 0])) ++ [(u0, .inl (cA 3, 1000, .inl (fun _ => 0))), (u1, .inl (cA 4, 23, .inr (.inl g)))]
set_option maxHeartbeats 4000000 in
set_option maxRecDepth 20000 in
theorem tp_loop {p : Program} {l : Launch} {e : Env} {R : Room} {s : State} {m : MethodId} {args : Array Value} {below : List Frame} {meth : Method} {c : Code} {cells slots : Nat} {Q : State → Prop} {D : va_G} {cA : Nat → ClassId} {A : Nat → Prop} {ws0 : va_W} {j a u0 u1 : Nat} (X : NC p s m args meth c RX8 cX8_init 4 D cA A) (hj : j < ws0.length) (hR1 : 4 ≤ R.frames) (hR2 : 85 ≤ R.locals) (hcs : cells ≤ R.cells ∧ slots ≤ R.slots)
    (kk : ∀ (H : Heap) (locs : List Loc) (ls : Array Slot), NS D A s (wTp cA ws0 j a u0 u1 (tpG 110)) H locs → W p l e R s m args below meth c H locs cells slots Q (F0 m 89 ls [])) :
    ∀ (n i : Nat), i + n = 110 → ∀ (H : Heap) (locs : List Loc) (ls : Array Slot), lv_has ls 4 [(2, .int (nI i)), (1, .int (nI (tpW i))), (0, .ref a)] → NS D A s (wTp cA ws0 j a u0 u1 (tpG i)) H locs → W p l e R s m args below meth c H locs cells slots Q (F0 m 25 ls []) := by
  obtain ⟨q, w, hstr, hcst⟩ := X.2.2.2.2.2.2.2.2.2.2.2.2
  intro n
  induction n with
  | zero =>
    intro i hi H locs ls hl S
    have hi : i = 110 := by omega
    subst hi
    refine lv_iload_n X.1 X.2.1 dX8_init_25 rfl (lv_at hl 0 rfl) ?_
    refine va_ldcS X.1 X.2.1 X.2.2.2.1 hcst dX8_init_26 ?_
    refine s_iV (A := A) (b := q) (av := []) (rest := [.int (nI 110)]) X.fix (st_len (q := q) (w := w) (f := tpf) (n := 110) (by decide) l) lkX8_21 StrE_blind hstr.1 (fun U hU hW => hstr.at S.2.2 hU hW) hl.1 rfl rfl (show 1 ≤ 8 by decide) ⟨by omega, by omega⟩ hcs S.2.2 dX8_init_28 (fun H1 locs1 hz hq hS => ?_)
    exact lv_icmp_ge (tgt := 89) X.1 X.2.1 dX8_init_31 (by decide) (fun _ => kk H1 locs1 ls (NS_grown S hq hS)) (fun z => absurd (by decide) z)
  | succ n ih =>
    intro i hi H locs ls hl S
    have hlt : i < 110 := by omega
    have hw := tpW_lt i hlt
    refine lv_iload_n X.1 X.2.1 dX8_init_25 rfl (lv_at hl 0 rfl) ?_
    refine va_ldcS X.1 X.2.1 X.2.2.2.1 hcst dX8_init_26 ?_
    refine s_iV (A := A) (b := q) (av := []) (rest := [.int (nI i)]) X.fix (st_len (q := q) (w := w) (f := tpf) (n := 110) (by decide) l) lkX8_21 StrE_blind hstr.1 (fun U hU hW => hstr.at S.2.2 hU hW) hl.1 rfl rfl (show 1 ≤ 8 by decide) ⟨by omega, by omega⟩ hcs S.2.2 dX8_init_28 (fun H1 locs1 hz hq hS => ?_)
    have S := NS_grown S hq hS
    refine lv_icmp_ge (tgt := 89) X.1 X.2.1 dX8_init_31 (by decide) (fun z => absurd z (nI_ge hlt (by decide))) (fun _ => ?_)
    refine lv_iload_n X.1 X.2.1 dX8_init_34 rfl (lv_at hl 1 rfl) ?_
    refine lv_bipush (v := nI 23) X.1 X.2.1 dX8_init_35 (by decide) ?_
    refine lv_icmp_ge (tgt := 89) X.1 X.2.1 dX8_init_37 (by decide) (fun z => absurd z (nI_ge hw (by decide))) (fun _ => ?_)
    refine va_ldcS X.1 X.2.1 X.2.2.2.1 hcst dX8_init_40 ?_
    refine lv_iload_n X.1 X.2.1 dX8_init_42 rfl (lv_at hl 0 rfl) ?_
    refine s_iV (A := A) (b := q) (av := [.int (nI i)]) (rest := []) X.fix (st_at (q := q) (w := w) (f := tpf) (n := 110) hlt (by decide) l) lkX8_27 StrE_blind hstr.1 (fun U hU hW => hstr.at S.2.2 hU hW) hl.1 rfl rfl (show 0 ≤ 8 by decide) ⟨by omega, by omega⟩ hcs S.2.2 dX8_init_43 (fun H2 locs2 hz2 hq2 hS2 => ?_)
    have S := NS_grown S hq2 hS2
    refine lv_istore_n (x := tpC i) X.1 X.2.1 dX8_init_46 rfl hl (by decide) rfl (fun ls hl => ?_)
    have hl : lv_has ls 4 [(3, .int (tpC i)), (2, .int (nI i)), (1, .int (nI (tpW i))), (0, .ref a)] := hl
    refine lv_iload_n X.1 X.2.1 dX8_init_47 rfl (lv_at hl 0 rfl) ?_
    refine lv_bipush (v := 32) X.1 X.2.1 dX8_init_48 (by decide) ?_
    have tail : ∀ (w' : Nat) (H : Heap) (locs : List Loc) (ls : Array Slot), w' = tpW (i + 1) → lv_has ls 4 [(2, .int (nI i)), (1, .int (nI w')), (0, .ref a)] → NS D A s (wTp cA ws0 j a u0 u1 (tpG (i + 1))) H locs → W p l e R s m args below meth c H locs cells slots Q (F0 m 83 ls []) := by
      intro w' H locs ls e1 hl S
      subst e1
      refine lv_iinc (k := 0) (v := nI (i + 1)) X.1 X.2.1 dX8_init_83 hl rfl (nI_succ i).symm (by decide) rfl (fun ls hl => ?_)
      refine lv_goto (tgt := 25) X.1 X.2.1 dX8_init_86 (by decide) ?_
      exact ih (i + 1) (by omega) H locs ls hl S
    refine lv_icmp_ne (tgt := 59) X.1 X.2.1 dX8_init_50 (by decide) (fun hc => ?_) (fun hc => ?_)
    · have e1 : tpW (i + 1) = tpW i := by show (if tpC i = 32 then _ else _) = _; rw [if_neg hc]
      have e2 : tpG (i + 1) = vp_updL (tpG i) (tpW i) (tpG i (tpW i) * 32 + (tpC i - 97 + 1).toInt64) := by show (if tpC i = 32 then _ else _) = _; rw [if_neg hc]
      have hcl : (nI (tpW i)).toNatClampNeg = tpW i := nI_clamp (by omega)
      refine lv_aload_n X.1 X.2.1 dX8_init_59 rfl (lv_at hl 3 rfl) ?_
      refine n_get (v := .ref u1) (k := 1) X S hj clX8 (by decide) flX8_15 rfl dX8_init_60 ?_
      refine lv_iload_n X.1 X.2.1 dX8_init_63 rfl (lv_at hl 2 rfl) ?_
      refine lv_aload_n X.1 X.2.1 dX8_init_64 rfl (lv_at hl 3 rfl) ?_
      refine n_get (v := .ref u1) (k := 1) X S hj clX8 (by decide) flX8_15 rfl dX8_init_65 ?_
      refine lv_iload_n X.1 X.2.1 dX8_init_68 rfl (lv_at hl 2 rfl) ?_
      refine va_lald X.1 X.2.1 X.2.2.2.2.2.2.1 S.1 (ws0.length + 1) 3 wj_new rfl (vp_in_nI hw (by decide)) dX8_init_69 ?_
      rw [hcl]
      refine lv_ldc2 X.1 X.2.1 X.2.2.2.1 (X.2.2.2.2.1 _ wX8_31) dX8_init_70 ?_
      refine lv_lmul X.1 X.2.1 dX8_init_73 ?_
      refine lv_iload_n X.1 X.2.1 dX8_init_74 rfl (lv_at hl 0 rfl) ?_
      refine lv_bipush (v := 97) X.1 X.2.1 dX8_init_75 (by decide) ?_
      refine lv_isub X.1 X.2.1 dX8_init_77 ?_
      refine lv_iconst (v := 1) X.1 X.2.1 dX8_init_78 rfl ?_
      refine lv_iadd X.1 X.2.1 dX8_init_79 ?_
      refine lv_i2l X.1 X.2.1 dX8_init_80 rfl ?_
      refine lv_ladd X.1 X.2.1 dX8_init_81 ?_
      refine va_last X.1 X.2.1 X.2.2.2.2.2.2.1 S.1 S.2.1 S.2.2 (ws0.length + 1) 3 wj_new rfl (vp_in_nI hw (by decide)) dX8_init_82 (fun H3 locs3 h1 h2 h3 => ?_)
      rw [hcl] at h1 h2
      refine tail (tpW i) H3 locs3 ls e1.symm (lv_sub hl [1, 2, 3] rfl) ?_
      rw [e2]
      unfold wTp at h1 h2 ⊢
      rw [wj_nset0] at h1 h2
      exact ⟨h1, h2, h3⟩
    · have hc : tpC i = 32 := hc
      have e1 : tpW (i + 1) = tpW i + 1 := by show (if tpC i = 32 then _ else _) = _; rw [if_pos hc]
      have e2 : tpG (i + 1) = tpG i := by show (if tpC i = 32 then _ else _) = _; rw [if_pos hc]
      refine lv_iinc (k := 2) (v := nI (tpW i + 1)) X.1 X.2.1 dX8_init_53 hl rfl (nI_succ _).symm (by decide) rfl (fun ls hl => ?_)
      have hl : lv_has ls 4 [(1, .int (nI (tpW i + 1))), (3, .int (tpC i)), (2, .int (nI i)), (0, .ref a)] := hl
      refine lv_goto (tgt := 83) X.1 X.2.1 dX8_init_56 (by decide) ?_
      refine tail (tpW i + 1) H2 locs2 ls e1.symm (lv_sub hl [2, 0, 3] rfl) ?_
      rw [e2]
      exact S
def dfX8 : List Value := [.null, .null, .int 0, .int 0, .int 0, .int 0, .int 0, .long 0]
def FX8 : (Nat → ClassId) → List Nat → (Nat → Nat) → List Value × va_W := fun cA av u => ([.ref (u 0), .ref (u 1), .int 0, .int 0, .int 0, .int 0, .int 0, .long 0], [(u 0, .inl (cA 3, 1000, .inl (fun _ => 0))), (u 1, .inl (cA 4, 23, .inr (.inl (tpG 110))))])
theorem dfX8_ok : ∀ j, j < 8 → defaultValue (tyX8 j) = vp_V dfX8 j := by decide +kernel
set_option maxHeartbeats 4000000 in
set_option maxRecDepth 20000 in
theorem ctX8 : Ctor yX8_init cX8_init 4 4 85 2 1023 8 dfX8 0 FX8 := by
  refine Ctor_mk (by decide +kernel) rfl (by decide) ?_
  intro p l e s m args below meth c D cA A ws0 j a av ls X hj hav S hl ret
  have hav := List.eq_nil_of_length_eq_zero hav
  subst hav
  have hl : lv_has ls 4 [(0, .ref a)] := hl
  refine lv_aload_n X.1 X.2.1 dX8_init_0 rfl (lv_at hl 0 rfl) ?_
  refine n_obj X hl.1 (gt_t (i := 38) (by decide +kernel) (by decide +kernel)) (gt_t (i := 31) (by decide +kernel) (by decide +kernel)) obj_code (Nat.le_of_ble_eq_true rfl) (Nat.le_of_ble_eq_true rfl) dX8_init_1 ?_
  refine lv_aload_n X.1 X.2.1 dX8_init_4 rfl (lv_at hl 0 rfl) ?_
  refine lv_sipush (v := 1000) X.1 X.2.1 dX8_init_5 (by decide) ?_
  refine n_newa (atype := .byte) (ty := .byte) (k := 2) (N' := 1000) (a0 := (1000, .inl (fun _ => 0))) X S (gt_t (i := 119) (by decide +kernel) (by decide +kernel)) rfl rfl (fun C z => by cases z) (fun _ => rfl) (by decide) (by decide) (Nat.le_of_ble_eq_true rfl) (Nat.le_of_ble_eq_true rfl) (Nat.le_of_ble_eq_true rfl) dX8_init_8 (fun q0 H S => ?_)
  refine n_putF (ty := tyX8 0) (k := 0) X S hj clX8 (by decide) flX8_9 rfl rfl (by decide +kernel) rfl rfl (Nat.le_of_ble_eq_true rfl) dX8_init_10 (fun H locs S => ?_)
  refine lv_aload_n X.1 X.2.1 dX8_init_13 rfl (lv_at hl 0 rfl) ?_
  refine lv_bipush (v := 23) X.1 X.2.1 dX8_init_14 (by decide) ?_
  refine n_newa (atype := .long) (ty := .long) (k := 3) (N' := 23) (a0 := (23, .inr (.inl (fun _ => 0)))) X S (gt_t (i := 120) (by decide +kernel) (by decide +kernel)) rfl rfl (fun C z => by cases z) (fun _ => rfl) (by decide) (by decide) (Nat.le_of_ble_eq_true rfl) (Nat.le_of_ble_eq_true rfl) (Nat.le_of_ble_eq_true rfl) dX8_init_16 (fun q1 H S => ?_)
  refine n_putF (ty := tyX8 1) (k := 1) X S hj clX8 (by decide) flX8_15 rfl rfl (by decide +kernel) rfl rfl (Nat.le_of_ble_eq_true rfl) dX8_init_18 (fun H locs S => ?_)
  refine lv_iconst (v := nI 0) X.1 X.2.1 dX8_init_21 rfl ?_
  refine lv_istore_n X.1 X.2.1 dX8_init_22 rfl hl (by decide) rfl (fun ls hl => ?_)
  refine lv_iconst (v := nI 0) X.1 X.2.1 dX8_init_23 rfl ?_
  refine lv_istore_n X.1 X.2.1 dX8_init_24 rfl hl (by decide) rfl (fun ls hl => ?_)
  refine tp_loop X hj (Nat.le_refl 4) (Nat.le_refl 85) ⟨Nat.le_of_ble_eq_true rfl, Nat.le_of_ble_eq_true rfl⟩ (fun H locs ls S => ?_) 110 0 rfl H locs ls hl S
  exact ret H locs ls 89 (fun i => [q0, q1].getD i 0) S dX8_init_89
