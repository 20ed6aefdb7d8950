/-! the model's constructor -/
def wdL : List Int64 := [3913421, 237308, 3301730, 1074, 262, 458690, 107681, 10815598, 4027, 380237, 841, 14420, 10056, 9734, 9528, 14739, 240373, 375062, 50849, 76927149, 127105, 321581, 70441]
def wdG : Nat → Nat → Int64
  | 0 => fun _ => 0
  | k + 1 => vp_updL (wdG k) k (wdL.getD k 0)
def dfX12 : List Value := [.int 0, .null, .int 0, .int 0, .null, .null, .null, .int 0, .int 0, .null, .null, .null, .null, .null, .int 0, .null, .null, .null, .int 0, .int 0, .null, .null, .null, .null, .null, .null, .null, .null, .int 0, .null, .null, .null, .null, .null, .null, .null, .null, .null, .long 0, .long 0, .null, .int 0, .null, .null, .null, .null, .null, .null, .int 0, .null, .int 0, .null, .null, .null]
def HX12 (u : Nat → Nat) : List Value := ((((((((((((((((((((((((((((((((((((((((dfX12.set 1 (.ref (u 0))).set 4 (.ref (u 1))).set 5 (.ref (u 2))).set 6 (.ref (u 3))).set 9 (.ref (u 4))).set 10 (.ref (u 5))).set 11 (.ref (u 6))).set 12 (.ref (u 7))).set 13 (.ref (u 8))).set 15 (.ref (u 9))).set 16 (.ref (u 10))).set 17 (.ref (u 11))).set 20 (.ref (u 12))).set 21 (.ref (u 13))).set 22 (.ref (u 14))).set 23 (.ref (u 15))).set 24 (.ref (u 16))).set 25 (.ref (u 17))).set 26 (.ref (u 18))).set 27 (.ref (u 19))).set 29 (.ref (u 20))).set 30 (.ref (u 21))).set 31 (.ref (u 22))).set 32 (.ref (u 23))).set 33 (.ref (u 24))).set 34 (.ref (u 25))).set 35 (.ref (u 26))).set 36 (.ref (u 27))).set 37 (.ref (u 28))).set 40 (.ref (u 29))).set 42 (.ref (u 30))).set 43 (.ref (u 31))).set 44 (.ref (u 32))).set 45 (.ref (u 33))).set 46 (.ref (u 34))).set 47 (.ref (u 35))).set 49 (.ref (u 36))).set 51 (.ref (u 37))).set 52 (.ref (u 38))).set 53 (.ref (u 39)))
def GX12 (cA : Nat → ClassId) (td : Nat → Int32) (u : Nat → Nat) : va_W := [(u 0, .inl (cA 1, 1000, .inl (fun _ => 0))), (u 1, .inl (cA 1, 1002, .inl (fun _ => 0))), (u 2, .inl (cA 1, 1002, .inl (fun _ => 0))), (u 3, .inl (cA 4, 1002, .inr (.inl (fun _ => 0)))), (u 4, .inl (cA 4, 23, .inr (.inl (wdG 23)))), (u 5, .inl (cA 1, 824, .inl td)), (u 6, .inl (cA 1, 5040, .inl (fun _ => 0))), (u 7, .inl (cA 4, 20, .inr (.inl (fun _ => 0)))), (u 8, .inl (cA 1, 20, .inl (fun _ => 0))), (u 9, .inl (cA 1, 4, .inl (fun _ => 0))), (u 10, .inl (cA 1, 4, .inl (fun _ => 0))), (u 11, .inl (cA 1, 4, .inl (fun _ => 0))), (u 12, .inl (cA 1, 20, .inl (fun _ => 0))), (u 13, .inl (cA 1, 80, .inl (fun _ => 0))), (u 14, .inl (cA 1, 80, .inl (fun _ => 0))), (u 15, .inl (cA 1, 4, .inl (fun _ => 0))), (u 16, .inl (cA 1, 4, .inl (fun _ => 0))), (u 17, .inl (cA 1, 12, .inl (fun _ => 0))), (u 18, .inl (cA 1, 24, .inl (fun _ => 0))), (u 19, .inl (cA 1, 16, .inl (fun _ => 0))), (u 20, .inl (cA 1, 64, .inl (fun _ => 0))), (u 21, .inl (cA 1, 64, .inl (fun _ => 0))), (u 22, .inl (cA 2, 64, .inl (fun _ => 0))), (u 23, .inl (cA 2, 64, .inl (fun _ => 0))), (u 24, .inl (cA 1, 64, .inl (fun _ => 0))), (u 25, .inl (cA 1, 64, .inl (fun _ => 0))), (u 26, .inl (cA 4, 64, .inr (.inl (fun _ => 0)))), (u 27, .inl (cA 4, 64, .inr (.inl (fun _ => 0)))), (u 28, .inl (cA 1, 64, .inl (fun _ => 0))), (u 29, .inl (cA 1, 64, .inl (fun _ => 0))), (u 30, .inl (cA 1, 64, .inl (fun _ => 0))), (u 31, .inl (cA 1, 64, .inl (fun _ => 0))), (u 32, .inl (cA 1, 64, .inl (fun _ => 0))), (u 33, .inl (cA 1, 64, .inl (fun _ => 0))), (u 34, .inl (cA 1, 2, .inl (fun _ => 0))), (u 35, .inl (cA 1, 256, .inl (fun _ => 0))), (u 36, .inl (cA 1, 256, .inl (fun _ => 0))), (u 37, .inl (cA 1, 256, .inl (fun _ => 0))), (u 38, .inl (cA 1, 12, .inl (fun _ => 0))), (u 39, .inl (cA 2, 4096, .inl (fun _ => 0)))]
def FX12 : (Nat → ClassId) → List Nat → (Nat → Nat) → List Value × va_W := fun cA _ u => (HX12 u, GX12 cA tdG u)
theorem dfX12_ok : ∀ j, j < 54 → defaultValue (tyX12 j) = vp_V dfX12 j := by decide +kernel
section NRows4
variable {p : Program} {l : Launch} {e : Env} {R : Room} {s : State} {m : MethodId} {args : Array Value} {below : List Frame} {meth : Method} {c : Code} {H : Heap} {locs : List Loc} {cells slots : Nat} {Q : State → Prop} {own : String} {cc : ByteArray} {nL pc : Nat} {D : va_G} {cA : Nat → ClassId} {A : Nat → Prop} {ls : Array Slot} {rest : List Value} {ws0 news : va_W} {j a ci : Nat} {fs : List Value}
set_option maxHeartbeats 4000000 in
set_option maxRecDepth 20000 in
theorem n_newaO {atype : ArrayType} {ty : FieldType} {k : Nat} {n : Int32} {N' : Nat} {a0 : vp_A} (X : NC p s m args meth c own cc nL D cA A) (S : NS D A s (ws0.set j (a, .inr (ci, fs)) ++ news) H locs) (harr : Cond.arrayClass (newarray.typeOf atype) ∈ gt) (hty : newarray.typeOf atype = ty) (hk : (tysL cA)[k]? = some (cA (k + 1), ty)) (hto : ∀ C, ty ≠ .object C) (ha : ∀ cA : ClassId, vp_cell cA a0 = arrV cA N' (fun _ => defaultValue ty)) (hn : ¬ n < 0) (hN : n.toNatClampNeg = N') (hbytes : N' * componentBytes ty ≤ 536870912) (hcells : cells + 1 ≤ R.cells) (hslots : slots + N' ≤ R.slots) (hdg : decode cc pc = .ok (.newarray atype, 2))
    (kk : ∀ (q : Nat) (H1 : Heap) (news1 : va_W), news1 = news ++ [(q, .inl (cA (k + 1), a0))] → NS D A s (ws0.set j (a, .inr (ci, fs)) ++ news1) H1 locs → W p l e R s m args below meth c H1 locs (cells + 1) (slots + N') Q (F0 m (pc + 2) ls (.ref q :: rest))) : W p l e R s m args below meth c H locs cells slots Q (F0 m pc ls (.int n :: rest)) :=
  n_newa X S harr hty hk hto ha hn hN hbytes hcells hslots hdg (fun q H1 S1 => kk q H1 _ rfl S1)
set_option maxHeartbeats 4000000 in
set_option maxRecDepth 20000 in
theorem n_putFO {k index N : Nat} {C : String} {T : u_T} {ty0 : Nat → FieldType} {v : Value} {ty : FieldType} (X : NC p s m args meth c own cc nL D cA A) (S : NS D A s (ws0.set j (a, .inr (ci, fs)) ++ news) H locs) (hj : j < ws0.length) (hC : ClOk ci C T N ty0) (hk : k < N) (hl : Cond.fieldLink own index (T k).1 (T k).2.1 (T k).2.2.1 ∈ gt) (hfin : (T k).2.2.2 = true) (hdecl : (T k).1 = own) (hd : parseFieldDescriptor (T k).2.2.1 = some ty) (hn : narrow ty v = v) (hfit : fits ty v = true) (hlen : fs.length = N) (hdg : decode cc pc = .ok (.putfield index, 3)) (kk : ∀ (H1 : Heap) (locs1 : List Loc) (fs1 : List Value), fs1 = fs.set k v → fs1.length = N → NS D A s (ws0.set j (a, .inr (ci, fs1)) ++ news) H1 locs1 → W p l e R s m args below meth c H1 locs1 cells slots Q (F0 m (pc + 3) ls rest)) : W p l e R s m args below meth c H locs cells slots Q (F0 m pc ls (v :: .ref a :: rest)) :=
  n_putF X S hj hC hk hl hfin hdecl hd hn hfit (by rw [hlen]; exact hk) hdg (fun H1 locs1 S1 => kk H1 locs1 _ rfl (by rw [List.length_set]; exact hlen) S1)
set_option maxHeartbeats 4000000 in
set_option maxRecDepth 20000 in
theorem n_putO {k index N : Nat} {C : String} {T : u_T} {ty0 : Nat → FieldType} {v : Value} {ty : FieldType} (X : NC p s m args meth c own cc nL D cA A) (S : NS D A s (ws0.set j (a, .inr (ci, fs)) ++ news) H locs) (hj : j < ws0.length) (hC : ClOk ci C T N ty0) (hk : k < N) (hl : Cond.fieldLink own index (T k).1 (T k).2.1 (T k).2.2.1 ∈ gt) (hfin : (T k).2.2.2 = false) (hd : parseFieldDescriptor (T k).2.2.1 = some ty) (hn : narrow ty v = v) (hfit : fits ty v = true) (hlen : fs.length = N) (hdg : decode cc pc = .ok (.putfield index, 3)) (kk : ∀ (H1 : Heap) (locs1 : List Loc) (fs1 : List Value), fs1 = fs.set k v → fs1.length = N → NS D A s (ws0.set j (a, .inr (ci, fs1)) ++ news) H1 locs1 → W p l e R s m args below meth c H1 locs1 cells slots Q (F0 m (pc + 3) ls rest)) : W p l e R s m args below meth c H locs cells slots Q (F0 m pc ls (v :: .ref a :: rest)) :=
  n_put X S hj hC hk hl hfin hd hn hfit (by rw [hlen]; exact hk) hdg (fun H1 locs1 S1 => kk H1 locs1 _ rfl (by rw [List.length_set]; exact hlen) S1)
set_option maxHeartbeats 4000000 in
set_option maxRecDepth 20000 in
theorem n_word {k q : Nat} {x : Int64} (X : NC p s m args meth c own cc nL D cA A) (S : NS D A s (ws0.set j (a, .inr (ci, fs)) ++ (news ++ [(q, .inl (cA 4, 23, .inr (.inl (wdG k))))])) H locs) (hk : k < 23) (hx : wdL.getD k 0 = x) (hdg : decode cc pc = .ok (.lastore, 1))
    (kk : ∀ (H1 : Heap) (locs1 : List Loc), NS D A s (ws0.set j (a, .inr (ci, fs)) ++ (news ++ [(q, .inl (cA 4, 23, .inr (.inl (wdG (k + 1)))))])) H1 locs1 → W p l e R s m args below meth c H1 locs1 cells slots Q (F0 m (pc + 1) ls rest)) : W p l e R s m args below meth c H locs cells slots Q (F0 m pc ls (.long x :: .int (nI k) :: .ref q :: rest)) := by
  refine va_last X.1 X.2.1 X.2.2.2.2.2.2.1 S.1 S.2.1 S.2.2 (ws0.length + news.length) 3 (by rw [wj_new, List.getElem?_append_right (Nat.le_refl _), Nat.sub_self]; rfl) rfl (vp_in_nI hk (by decide)) hdg (fun H1 locs1 h1 h2 h3 => kk H1 locs1 ?_)
  rw [nI_clamp (by omega), wj_nset0, List.set_append_right _ _ (Nat.le_refl _), Nat.sub_self] at h1 h2
  subst hx
  exact ⟨h1, h2, h3⟩
end NRows4
set_option maxHeartbeats 4000000 in
set_option maxRecDepth 20000 in
theorem md_0 {p : Program} {l : Launch} {e : Env} {s : State} {m : MethodId} {args : Array Value} {below : List Frame} {meth : Method} {c : Code} {H : Heap} {locs : List Loc} {Q : State → Prop} {D : va_G} {cA : Nat → ClassId} {A : Nat → Prop} {ls : Array Slot} {ws0 news : va_W} {j a : Nat} {fs : List Value} (X : NC p s m args meth c RX12 cX12_init 1 D cA A) (hj : j < ws0.length) (hl : lv_has ls 1 [(0, .ref a)]) (hL : fs.length = 54) (S : NS D A s (ws0.set j (a, .inr (12, fs)) ++ news) H locs)
    (kk : ∀ (q0 q1 q2 q3 : Nat) (H : Heap) (locs : List Loc), (((((fs.set 1 (.ref q0)).set 4 (.ref q1)).set 5 (.ref q2)).set 6 (.ref q3))).length = 54 → NS D A s (ws0.set j (a, .inr (12, ((((fs.set 1 (.ref q0)).set 4 (.ref q1)).set 5 (.ref q2)).set 6 (.ref q3)))) ++ (news ++ [(q0, .inl (cA 1, 1000, .inl (fun _ => 0))), (q1, .inl (cA 1, 1002, .inl (fun _ => 0))), (q2, .inl (cA 1, 1002, .inl (fun _ => 0))), (q3, .inl (cA 4, 1002, .inr (.inl (fun _ => 0))))])) H locs → W p l e { frames := 1, cells := 40, slots := 15959, locals := 22 } s m args below meth c H locs 4 4006 Q (F0 m 40 ls [])) : W p l e { frames := 1, cells := 40, slots := 15959, locals := 22 } s m args below meth c H locs 0 0 Q (F0 m 4 ls []) := by
  refine lv_aload_n X.1 X.2.1 dX12_init_4 rfl (lv_at hl 0 rfl) ?_
  refine lv_sipush (v := 1000) X.1 X.2.1 dX12_init_5 (by decide) ?_
  refine n_newaO (atype := .int) (ty := .int) (k := 0) (N' := 1000) (a0 := (1000, .inl (fun _ => 0))) X S (gt_t (i := 234) (by decide +kernel) (by decide +kernel)) rfl rfl (fun C z => by cases z) (fun _ => rfl) (by decide) (by decide) (Nat.le_of_ble_eq_true rfl) (Nat.le_of_ble_eq_true rfl) (Nat.le_of_ble_eq_true rfl) dX12_init_8 (fun q0 H n0 e0 S => ?_)
  refine n_putFO (ty := tyX12 1) (k := 1) X S hj clX12 (by decide) flX12_14 rfl rfl (by decide +kernel) rfl rfl hL dX12_init_10 (fun H locs f0 g0 hL S => ?_)
  refine lv_aload_n X.1 X.2.1 dX12_init_13 rfl (lv_at hl 0 rfl) ?_
  refine lv_sipush (v := 1002) X.1 X.2.1 dX12_init_14 (by decide) ?_
  refine n_newaO (atype := .int) (ty := .int) (k := 0) (N' := 1002) (a0 := (1002, .inl (fun _ => 0))) X S (gt_t (i := 234) (by decide +kernel) (by decide +kernel)) rfl rfl (fun C z => by cases z) (fun _ => rfl) (by decide) (by decide) (Nat.le_of_ble_eq_true rfl) (Nat.le_of_ble_eq_true rfl) (Nat.le_of_ble_eq_true rfl) dX12_init_17 (fun q1 H n1 e1 S => ?_)
  refine n_putFO (ty := tyX12 4) (k := 4) X S hj clX12 (by decide) flX12_43 rfl rfl (by decide +kernel) rfl rfl hL dX12_init_19 (fun H locs f1 g1 hL S => ?_)
  refine lv_aload_n X.1 X.2.1 dX12_init_22 rfl (lv_at hl 0 rfl) ?_
  refine lv_sipush (v := 1002) X.1 X.2.1 dX12_init_23 (by decide) ?_
  refine n_newaO (atype := .int) (ty := .int) (k := 0) (N' := 1002) (a0 := (1002, .inl (fun _ => 0))) X S (gt_t (i := 234) (by decide +kernel) (by decide +kernel)) rfl rfl (fun C z => by cases z) (fun _ => rfl) (by decide) (by decide) (Nat.le_of_ble_eq_true rfl) (Nat.le_of_ble_eq_true rfl) (Nat.le_of_ble_eq_true rfl) dX12_init_26 (fun q2 H n2 e2 S => ?_)
  refine n_putFO (ty := tyX12 5) (k := 5) X S hj clX12 (by decide) flX12_36 rfl rfl (by decide +kernel) rfl rfl hL dX12_init_28 (fun H locs f2 g2 hL S => ?_)
  refine lv_aload_n X.1 X.2.1 dX12_init_31 rfl (lv_at hl 0 rfl) ?_
  refine lv_sipush (v := 1002) X.1 X.2.1 dX12_init_32 (by decide) ?_
  refine n_newaO (atype := .long) (ty := .long) (k := 3) (N' := 1002) (a0 := (1002, .inr (.inl (fun _ => 0)))) X S (gt_t (i := 120) (by decide +kernel) (by decide +kernel)) rfl rfl (fun C z => by cases z) (fun _ => rfl) (by decide) (by decide) (Nat.le_of_ble_eq_true rfl) (Nat.le_of_ble_eq_true rfl) (Nat.le_of_ble_eq_true rfl) dX12_init_35 (fun q3 H n3 e3 S => ?_)
  refine n_putFO (ty := tyX12 6) (k := 6) X S hj clX12 (by decide) flX12_46 rfl rfl (by decide +kernel) rfl rfl hL dX12_init_37 (fun H locs f3 g3 hL S => ?_)
  have hL2 := hL
  rw [g3, g2, g1, g0] at hL2 S
  rw [e3, e2, e1, e0] at S
  simp only [List.append_assoc, List.cons_append, List.nil_append] at S
  exact kk q0 q1 q2 q3 H locs hL2 S
set_option maxHeartbeats 4000000 in
set_option maxRecDepth 20000 in
theorem md_1 {p : Program} {l : Launch} {e : Env} {s : State} {m : MethodId} {args : Array Value} {below : List Frame} {meth : Method} {c : Code} {H : Heap} {locs : List Loc} {Q : State → Prop} {D : va_G} {cA : Nat → ClassId} {A : Nat → Prop} {ls : Array Slot} {ws0 news : va_W} {j a : Nat} {fs : List Value} (X : NC p s m args meth c RX12 cX12_init 1 D cA A) (hj : j < ws0.length) (hl : lv_has ls 1 [(0, .ref a)]) (hL : fs.length = 54) (S : NS D A s (ws0.set j (a, .inr (12, fs)) ++ news) H locs)
    (kk : ∀ (q4 : Nat) (H : Heap) (locs : List Loc), ((fs.set 9 (.ref q4))).length = 54 → NS D A s (ws0.set j (a, .inr (12, (fs.set 9 (.ref q4)))) ++ (news ++ [(q4, .inl (cA 4, 23, .inr (.inl (wdG 23))))])) H locs → W p l e { frames := 1, cells := 40, slots := 15959, locals := 22 } s m args below meth c H locs 5 4029 Q (F0 m 203 ls [])) : W p l e { frames := 1, cells := 40, slots := 15959, locals := 22 } s m args below meth c H locs 4 4006 Q (F0 m 40 ls []) := by
  refine lv_aload_n X.1 X.2.1 dX12_init_40 rfl (lv_at hl 0 rfl) ?_
  refine lv_bipush (v := 23) X.1 X.2.1 dX12_init_41 (by decide) ?_
  refine n_newa (atype := .long) (ty := .long) (k := 3) (N' := 23) (a0 := (23, .inr (.inl (wdG 0)))) X S (gt_t (i := 120) (by decide +kernel) (by decide +kernel)) rfl rfl (fun C z => by cases z) (fun _ => rfl) (by decide) (by decide) (Nat.le_of_ble_eq_true rfl) (Nat.le_of_ble_eq_true rfl) (Nat.le_of_ble_eq_true rfl) dX12_init_43 (fun q4 H S => ?_)
  refine lv_dup X.1 X.2.1 dX12_init_45 rfl ?_
  refine lv_iconst (v := nI 0) X.1 X.2.1 dX12_init_46 rfl ?_
  refine lv_ldc2 (v := 3913421) X.1 X.2.1 X.2.2.2.1 (X.2.2.2.2.1 _ (gt_t (i := 1384) (by decide +kernel) (by decide +kernel))) dX12_init_47 ?_
  refine n_word (k := 0) X S (by decide) rfl dX12_init_50 (fun H locs S => ?_)
  refine lv_dup X.1 X.2.1 dX12_init_51 rfl ?_
  refine lv_iconst (v := nI 1) X.1 X.2.1 dX12_init_52 rfl ?_
  refine lv_ldc2 (v := 237308) X.1 X.2.1 X.2.2.2.1 (X.2.2.2.2.1 _ (gt_t (i := 1385) (by decide +kernel) (by decide +kernel))) dX12_init_53 ?_
  refine n_word (k := 1) X S (by decide) rfl dX12_init_56 (fun H locs S => ?_)
  refine lv_dup X.1 X.2.1 dX12_init_57 rfl ?_
  refine lv_iconst (v := nI 2) X.1 X.2.1 dX12_init_58 rfl ?_
  refine lv_ldc2 (v := 3301730) X.1 X.2.1 X.2.2.2.1 (X.2.2.2.2.1 _ (gt_t (i := 1386) (by decide +kernel) (by decide +kernel))) dX12_init_59 ?_
  refine n_word (k := 2) X S (by decide) rfl dX12_init_62 (fun H locs S => ?_)
  refine lv_dup X.1 X.2.1 dX12_init_63 rfl ?_
  refine lv_iconst (v := nI 3) X.1 X.2.1 dX12_init_64 rfl ?_
  refine lv_ldc2 (v := 1074) X.1 X.2.1 X.2.2.2.1 (X.2.2.2.2.1 _ (gt_t (i := 1387) (by decide +kernel) (by decide +kernel))) dX12_init_65 ?_
  refine n_word (k := 3) X S (by decide) rfl dX12_init_68 (fun H locs S => ?_)
  refine lv_dup X.1 X.2.1 dX12_init_69 rfl ?_
  refine lv_iconst (v := nI 4) X.1 X.2.1 dX12_init_70 rfl ?_
  refine lv_ldc2 (v := 262) X.1 X.2.1 X.2.2.2.1 (X.2.2.2.2.1 _ (gt_t (i := 1388) (by decide +kernel) (by decide +kernel))) dX12_init_71 ?_
  refine n_word (k := 4) X S (by decide) rfl dX12_init_74 (fun H locs S => ?_)
  refine lv_dup X.1 X.2.1 dX12_init_75 rfl ?_
  refine lv_iconst (v := nI 5) X.1 X.2.1 dX12_init_76 rfl ?_
  refine lv_ldc2 (v := 458690) X.1 X.2.1 X.2.2.2.1 (X.2.2.2.2.1 _ (gt_t (i := 1389) (by decide +kernel) (by decide +kernel))) dX12_init_77 ?_
  refine n_word (k := 5) X S (by decide) rfl dX12_init_80 (fun H locs S => ?_)
  refine lv_dup X.1 X.2.1 dX12_init_81 rfl ?_
  refine lv_bipush (v := nI 6) X.1 X.2.1 dX12_init_82 (by decide) ?_
  refine lv_ldc2 (v := 107681) X.1 X.2.1 X.2.2.2.1 (X.2.2.2.2.1 _ (gt_t (i := 1390) (by decide +kernel) (by decide +kernel))) dX12_init_84 ?_
  refine n_word (k := 6) X S (by decide) rfl dX12_init_87 (fun H locs S => ?_)
  refine lv_dup X.1 X.2.1 dX12_init_88 rfl ?_
  refine lv_bipush (v := nI 7) X.1 X.2.1 dX12_init_89 (by decide) ?_
  refine lv_ldc2 (v := 10815598) X.1 X.2.1 X.2.2.2.1 (X.2.2.2.2.1 _ (gt_t (i := 1391) (by decide +kernel) (by decide +kernel))) dX12_init_91 ?_
  refine n_word (k := 7) X S (by decide) rfl dX12_init_94 (fun H locs S => ?_)
  refine lv_dup X.1 X.2.1 dX12_init_95 rfl ?_
  refine lv_bipush (v := nI 8) X.1 X.2.1 dX12_init_96 (by decide) ?_
  refine lv_ldc2 (v := 4027) X.1 X.2.1 X.2.2.2.1 (X.2.2.2.2.1 _ (gt_t (i := 1392) (by decide +kernel) (by decide +kernel))) dX12_init_98 ?_
  refine n_word (k := 8) X S (by decide) rfl dX12_init_101 (fun H locs S => ?_)
  refine lv_dup X.1 X.2.1 dX12_init_102 rfl ?_
  refine lv_bipush (v := nI 9) X.1 X.2.1 dX12_init_103 (by decide) ?_
  refine lv_ldc2 (v := 380237) X.1 X.2.1 X.2.2.2.1 (X.2.2.2.2.1 _ (gt_t (i := 1393) (by decide +kernel) (by decide +kernel))) dX12_init_105 ?_
  refine n_word (k := 9) X S (by decide) rfl dX12_init_108 (fun H locs S => ?_)
  refine lv_dup X.1 X.2.1 dX12_init_109 rfl ?_
  refine lv_bipush (v := nI 10) X.1 X.2.1 dX12_init_110 (by decide) ?_
  refine lv_ldc2 (v := 841) X.1 X.2.1 X.2.2.2.1 (X.2.2.2.2.1 _ (gt_t (i := 1394) (by decide +kernel) (by decide +kernel))) dX12_init_112 ?_
  refine n_word (k := 10) X S (by decide) rfl dX12_init_115 (fun H locs S => ?_)
  refine lv_dup X.1 X.2.1 dX12_init_116 rfl ?_
  refine lv_bipush (v := nI 11) X.1 X.2.1 dX12_init_117 (by decide) ?_
  refine lv_ldc2 (v := 14420) X.1 X.2.1 X.2.2.2.1 (X.2.2.2.2.1 _ (gt_t (i := 1395) (by decide +kernel) (by decide +kernel))) dX12_init_119 ?_
  refine n_word (k := 11) X S (by decide) rfl dX12_init_122 (fun H locs S => ?_)
  refine lv_dup X.1 X.2.1 dX12_init_123 rfl ?_
  refine lv_bipush (v := nI 12) X.1 X.2.1 dX12_init_124 (by decide) ?_
  refine lv_ldc2 (v := 10056) X.1 X.2.1 X.2.2.2.1 (X.2.2.2.2.1 _ (gt_t (i := 1396) (by decide +kernel) (by decide +kernel))) dX12_init_126 ?_
  refine n_word (k := 12) X S (by decide) rfl dX12_init_129 (fun H locs S => ?_)
  refine lv_dup X.1 X.2.1 dX12_init_130 rfl ?_
  refine lv_bipush (v := nI 13) X.1 X.2.1 dX12_init_131 (by decide) ?_
  refine lv_ldc2 (v := 9734) X.1 X.2.1 X.2.2.2.1 (X.2.2.2.2.1 _ (gt_t (i := 1397) (by decide +kernel) (by decide +kernel))) dX12_init_133 ?_
  refine n_word (k := 13) X S (by decide) rfl dX12_init_136 (fun H locs S => ?_)
  refine lv_dup X.1 X.2.1 dX12_init_137 rfl ?_
  refine lv_bipush (v := nI 14) X.1 X.2.1 dX12_init_138 (by decide) ?_
  refine lv_ldc2 (v := 9528) X.1 X.2.1 X.2.2.2.1 (X.2.2.2.2.1 _ (gt_t (i := 1398) (by decide +kernel) (by decide +kernel))) dX12_init_140 ?_
  refine n_word (k := 14) X S (by decide) rfl dX12_init_143 (fun H locs S => ?_)
  refine lv_dup X.1 X.2.1 dX12_init_144 rfl ?_
  refine lv_bipush (v := nI 15) X.1 X.2.1 dX12_init_145 (by decide) ?_
  refine lv_ldc2 (v := 14739) X.1 X.2.1 X.2.2.2.1 (X.2.2.2.2.1 _ (gt_t (i := 1399) (by decide +kernel) (by decide +kernel))) dX12_init_147 ?_
  refine n_word (k := 15) X S (by decide) rfl dX12_init_150 (fun H locs S => ?_)
  refine lv_dup X.1 X.2.1 dX12_init_151 rfl ?_
  refine lv_bipush (v := nI 16) X.1 X.2.1 dX12_init_152 (by decide) ?_
  refine lv_ldc2 (v := 240373) X.1 X.2.1 X.2.2.2.1 (X.2.2.2.2.1 _ (gt_t (i := 1400) (by decide +kernel) (by decide +kernel))) dX12_init_154 ?_
  refine n_word (k := 16) X S (by decide) rfl dX12_init_157 (fun H locs S => ?_)
  refine lv_dup X.1 X.2.1 dX12_init_158 rfl ?_
  refine lv_bipush (v := nI 17) X.1 X.2.1 dX12_init_159 (by decide) ?_
  refine lv_ldc2 (v := 375062) X.1 X.2.1 X.2.2.2.1 (X.2.2.2.2.1 _ (gt_t (i := 1401) (by decide +kernel) (by decide +kernel))) dX12_init_161 ?_
  refine n_word (k := 17) X S (by decide) rfl dX12_init_164 (fun H locs S => ?_)
  refine lv_dup X.1 X.2.1 dX12_init_165 rfl ?_
  refine lv_bipush (v := nI 18) X.1 X.2.1 dX12_init_166 (by decide) ?_
  refine lv_ldc2 (v := 50849) X.1 X.2.1 X.2.2.2.1 (X.2.2.2.2.1 _ (gt_t (i := 1402) (by decide +kernel) (by decide +kernel))) dX12_init_168 ?_
  refine n_word (k := 18) X S (by decide) rfl dX12_init_171 (fun H locs S => ?_)
  refine lv_dup X.1 X.2.1 dX12_init_172 rfl ?_
  refine lv_bipush (v := nI 19) X.1 X.2.1 dX12_init_173 (by decide) ?_
  refine lv_ldc2 (v := 76927149) X.1 X.2.1 X.2.2.2.1 (X.2.2.2.2.1 _ (gt_t (i := 1403) (by decide +kernel) (by decide +kernel))) dX12_init_175 ?_
  refine n_word (k := 19) X S (by decide) rfl dX12_init_178 (fun H locs S => ?_)
  refine lv_dup X.1 X.2.1 dX12_init_179 rfl ?_
  refine lv_bipush (v := nI 20) X.1 X.2.1 dX12_init_180 (by decide) ?_
  refine lv_ldc2 (v := 127105) X.1 X.2.1 X.2.2.2.1 (X.2.2.2.2.1 _ (gt_t (i := 1404) (by decide +kernel) (by decide +kernel))) dX12_init_182 ?_
  refine n_word (k := 20) X S (by decide) rfl dX12_init_185 (fun H locs S => ?_)
  refine lv_dup X.1 X.2.1 dX12_init_186 rfl ?_
  refine lv_bipush (v := nI 21) X.1 X.2.1 dX12_init_187 (by decide) ?_
  refine lv_ldc2 (v := 321581) X.1 X.2.1 X.2.2.2.1 (X.2.2.2.2.1 _ (gt_t (i := 1405) (by decide +kernel) (by decide +kernel))) dX12_init_189 ?_
  refine n_word (k := 21) X S (by decide) rfl dX12_init_192 (fun H locs S => ?_)
  refine lv_dup X.1 X.2.1 dX12_init_193 rfl ?_
  refine lv_bipush (v := nI 22) X.1 X.2.1 dX12_init_194 (by decide) ?_
  refine lv_ldc2 (v := 70441) X.1 X.2.1 X.2.2.2.1 (X.2.2.2.2.1 _ (gt_t (i := 1406) (by decide +kernel) (by decide +kernel))) dX12_init_196 ?_
  refine n_word (k := 22) X S (by decide) rfl dX12_init_199 (fun H locs S => ?_)
  refine n_putFO (ty := tyX12 9) (k := 9) X S hj clX12 (by decide) flX12_60 rfl rfl (by decide +kernel) rfl rfl hL dX12_init_200 (fun H locs f4 g4 hL S => ?_)
  have hL2 := hL
  rw [g4] at hL2 S
  exact kk q4 H locs hL2 S
set_option maxHeartbeats 4000000 in
set_option maxRecDepth 20000 in
theorem md_2 {p : Program} {l : Launch} {e : Env} {s : State} {m : MethodId} {args : Array Value} {below : List Frame} {meth : Method} {c : Code} {H : Heap} {locs : List Loc} {Q : State → Prop} {D : va_G} {cA : Nat → ClassId} {A : Nat → Prop} {ls : Array Slot} {ws0 news : va_W} {j a : Nat} {fs : List Value} (X : NC p s m args meth c RX12 cX12_init 1 D cA A) (hj : j < ws0.length) (hl : lv_has ls 1 [(0, .ref a)]) (hL : fs.length = 54) (S : NS D A s (ws0.set j (a, .inr (12, fs)) ++ news) H locs)
    (kk : ∀ (q5 q6 q7 q8 q9 : Nat) (H : Heap) (locs : List Loc), ((((((fs.set 10 (.ref q5)).set 11 (.ref q6)).set 12 (.ref q7)).set 13 (.ref q8)).set 15 (.ref q9))).length = 54 → NS D A s (ws0.set j (a, .inr (12, (((((fs.set 10 (.ref q5)).set 11 (.ref q6)).set 12 (.ref q7)).set 13 (.ref q8)).set 15 (.ref q9)))) ++ (news ++ [(q5, .inl (cA 1, 824, .inl (fun _ => 0))), (q6, .inl (cA 1, 5040, .inl (fun _ => 0))), (q7, .inl (cA 4, 20, .inr (.inl (fun _ => 0)))), (q8, .inl (cA 1, 20, .inl (fun _ => 0))), (q9, .inl (cA 1, 4, .inl (fun _ => 0)))])) H locs → W p l e { frames := 1, cells := 40, slots := 15959, locals := 22 } s m args below meth c H locs 10 9937 Q (F0 m 244 ls [])) : W p l e { frames := 1, cells := 40, slots := 15959, locals := 22 } s m args below meth c H locs 5 4029 Q (F0 m 203 ls []) := by
  refine lv_aload_n X.1 X.2.1 dX12_init_203 rfl (lv_at hl 0 rfl) ?_
  refine lv_sipush (v := 824) X.1 X.2.1 dX12_init_204 (by decide) ?_
  refine n_newaO (atype := .int) (ty := .int) (k := 0) (N' := 824) (a0 := (824, .inl (fun _ => 0))) X S (gt_t (i := 234) (by decide +kernel) (by decide +kernel)) rfl rfl (fun C z => by cases z) (fun _ => rfl) (by decide) (by decide) (Nat.le_of_ble_eq_true rfl) (Nat.le_of_ble_eq_true rfl) (Nat.le_of_ble_eq_true rfl) dX12_init_207 (fun q5 H n5 e5 S => ?_)
  refine n_putFO (ty := tyX12 10) (k := 10) X S hj clX12 (by decide) flX12_126 rfl rfl (by decide +kernel) rfl rfl hL dX12_init_209 (fun H locs f5 g5 hL S => ?_)
  refine lv_aload_n X.1 X.2.1 dX12_init_212 rfl (lv_at hl 0 rfl) ?_
  refine lv_sipush (v := 5040) X.1 X.2.1 dX12_init_213 (by decide) ?_
  refine n_newaO (atype := .int) (ty := .int) (k := 0) (N' := 5040) (a0 := (5040, .inl (fun _ => 0))) X S (gt_t (i := 234) (by decide +kernel) (by decide +kernel)) rfl rfl (fun C z => by cases z) (fun _ => rfl) (by decide) (by decide) (Nat.le_of_ble_eq_true rfl) (Nat.le_of_ble_eq_true rfl) (Nat.le_of_ble_eq_true rfl) dX12_init_216 (fun q6 H n6 e6 S => ?_)
  refine n_putFO (ty := tyX12 11) (k := 11) X S hj clX12 (by decide) flX12_129 rfl rfl (by decide +kernel) rfl rfl hL dX12_init_218 (fun H locs f6 g6 hL S => ?_)
  refine lv_aload_n X.1 X.2.1 dX12_init_221 rfl (lv_at hl 0 rfl) ?_
  refine lv_bipush (v := 20) X.1 X.2.1 dX12_init_222 (by decide) ?_
  refine n_newaO (atype := .long) (ty := .long) (k := 3) (N' := 20) (a0 := (20, .inr (.inl (fun _ => 0)))) X S (gt_t (i := 120) (by decide +kernel) (by decide +kernel)) rfl rfl (fun C z => by cases z) (fun _ => rfl) (by decide) (by decide) (Nat.le_of_ble_eq_true rfl) (Nat.le_of_ble_eq_true rfl) (Nat.le_of_ble_eq_true rfl) dX12_init_224 (fun q7 H n7 e7 S => ?_)
  refine n_putFO (ty := tyX12 12) (k := 12) X S hj clX12 (by decide) flX12_132 rfl rfl (by decide +kernel) rfl rfl hL dX12_init_226 (fun H locs f7 g7 hL S => ?_)
  refine lv_aload_n X.1 X.2.1 dX12_init_229 rfl (lv_at hl 0 rfl) ?_
  refine lv_bipush (v := 20) X.1 X.2.1 dX12_init_230 (by decide) ?_
  refine n_newaO (atype := .int) (ty := .int) (k := 0) (N' := 20) (a0 := (20, .inl (fun _ => 0))) X S (gt_t (i := 234) (by decide +kernel) (by decide +kernel)) rfl rfl (fun C z => by cases z) (fun _ => rfl) (by decide) (by decide) (Nat.le_of_ble_eq_true rfl) (Nat.le_of_ble_eq_true rfl) (Nat.le_of_ble_eq_true rfl) dX12_init_232 (fun q8 H n8 e8 S => ?_)
  refine n_putFO (ty := tyX12 13) (k := 13) X S hj clX12 (by decide) flX12_135 rfl rfl (by decide +kernel) rfl rfl hL dX12_init_234 (fun H locs f8 g8 hL S => ?_)
  refine lv_aload_n X.1 X.2.1 dX12_init_237 rfl (lv_at hl 0 rfl) ?_
  refine lv_iconst (v := 4) X.1 X.2.1 dX12_init_238 rfl ?_
  refine n_newaO (atype := .int) (ty := .int) (k := 0) (N' := 4) (a0 := (4, .inl (fun _ => 0))) X S (gt_t (i := 234) (by decide +kernel) (by decide +kernel)) rfl rfl (fun C z => by cases z) (fun _ => rfl) (by decide) (by decide) (Nat.le_of_ble_eq_true rfl) (Nat.le_of_ble_eq_true rfl) (Nat.le_of_ble_eq_true rfl) dX12_init_239 (fun q9 H n9 e9 S => ?_)
  refine n_putFO (ty := tyX12 15) (k := 15) X S hj clX12 (by decide) flX12_138 rfl rfl (by decide +kernel) rfl rfl hL dX12_init_241 (fun H locs f9 g9 hL S => ?_)
  have hL2 := hL
  rw [g9, g8, g7, g6, g5] at hL2 S
  rw [e9, e8, e7, e6, e5] at S
  simp only [List.append_assoc, List.cons_append, List.nil_append] at S
  exact kk q5 q6 q7 q8 q9 H locs hL2 S
set_option maxHeartbeats 4000000 in
set_option maxRecDepth 20000 in
theorem md_3 {p : Program} {l : Launch} {e : Env} {s : State} {m : MethodId} {args : Array Value} {below : List Frame} {meth : Method} {c : Code} {H : Heap} {locs : List Loc} {Q : State → Prop} {D : va_G} {cA : Nat → ClassId} {A : Nat → Prop} {ls : Array Slot} {ws0 news : va_W} {j a : Nat} {fs : List Value} (X : NC p s m args meth c RX12 cX12_init 1 D cA A) (hj : j < ws0.length) (hl : lv_has ls 1 [(0, .ref a)]) (hL : fs.length = 54) (S : NS D A s (ws0.set j (a, .inr (12, fs)) ++ news) H locs)
    (kk : ∀ (q10 q11 q12 q13 q14 : Nat) (H : Heap) (locs : List Loc), ((((((fs.set 16 (.ref q10)).set 17 (.ref q11)).set 20 (.ref q12)).set 21 (.ref q13)).set 22 (.ref q14))).length = 54 → NS D A s (ws0.set j (a, .inr (12, (((((fs.set 16 (.ref q10)).set 17 (.ref q11)).set 20 (.ref q12)).set 21 (.ref q13)).set 22 (.ref q14)))) ++ (news ++ [(q10, .inl (cA 1, 4, .inl (fun _ => 0))), (q11, .inl (cA 1, 4, .inl (fun _ => 0))), (q12, .inl (cA 1, 20, .inl (fun _ => 0))), (q13, .inl (cA 1, 80, .inl (fun _ => 0))), (q14, .inl (cA 1, 80, .inl (fun _ => 0)))])) H locs → W p l e { frames := 1, cells := 40, slots := 15959, locals := 22 } s m args below meth c H locs 15 10125 Q (F0 m 282 ls [])) : W p l e { frames := 1, cells := 40, slots := 15959, locals := 22 } s m args below meth c H locs 10 9937 Q (F0 m 244 ls []) := by
  refine lv_aload_n X.1 X.2.1 dX12_init_244 rfl (lv_at hl 0 rfl) ?_
  refine lv_iconst (v := 4) X.1 X.2.1 dX12_init_245 rfl ?_
  refine n_newaO (atype := .int) (ty := .int) (k := 0) (N' := 4) (a0 := (4, .inl (fun _ => 0))) X S (gt_t (i := 234) (by decide +kernel) (by decide +kernel)) rfl rfl (fun C z => by cases z) (fun _ => rfl) (by decide) (by decide) (Nat.le_of_ble_eq_true rfl) (Nat.le_of_ble_eq_true rfl) (Nat.le_of_ble_eq_true rfl) dX12_init_246 (fun q10 H n10 e10 S => ?_)
  refine n_putFO (ty := tyX12 16) (k := 16) X S hj clX12 (by decide) flX12_141 rfl rfl (by decide +kernel) rfl rfl hL dX12_init_248 (fun H locs f10 g10 hL S => ?_)
  refine lv_aload_n X.1 X.2.1 dX12_init_251 rfl (lv_at hl 0 rfl) ?_
  refine lv_iconst (v := 4) X.1 X.2.1 dX12_init_252 rfl ?_
  refine n_newaO (atype := .int) (ty := .int) (k := 0) (N' := 4) (a0 := (4, .inl (fun _ => 0))) X S (gt_t (i := 234) (by decide +kernel) (by decide +kernel)) rfl rfl (fun C z => by cases z) (fun _ => rfl) (by decide) (by decide) (Nat.le_of_ble_eq_true rfl) (Nat.le_of_ble_eq_true rfl) (Nat.le_of_ble_eq_true rfl) dX12_init_253 (fun q11 H n11 e11 S => ?_)
  refine n_putFO (ty := tyX12 17) (k := 17) X S hj clX12 (by decide) flX12_144 rfl rfl (by decide +kernel) rfl rfl hL dX12_init_255 (fun H locs f11 g11 hL S => ?_)
  refine lv_aload_n X.1 X.2.1 dX12_init_258 rfl (lv_at hl 0 rfl) ?_
  refine lv_bipush (v := 20) X.1 X.2.1 dX12_init_259 (by decide) ?_
  refine n_newaO (atype := .int) (ty := .int) (k := 0) (N' := 20) (a0 := (20, .inl (fun _ => 0))) X S (gt_t (i := 234) (by decide +kernel) (by decide +kernel)) rfl rfl (fun C z => by cases z) (fun _ => rfl) (by decide) (by decide) (Nat.le_of_ble_eq_true rfl) (Nat.le_of_ble_eq_true rfl) (Nat.le_of_ble_eq_true rfl) dX12_init_261 (fun q12 H n12 e12 S => ?_)
  refine n_putFO (ty := tyX12 20) (k := 20) X S hj clX12 (by decide) flX12_147 rfl rfl (by decide +kernel) rfl rfl hL dX12_init_263 (fun H locs f12 g12 hL S => ?_)
  refine lv_aload_n X.1 X.2.1 dX12_init_266 rfl (lv_at hl 0 rfl) ?_
  refine lv_bipush (v := 80) X.1 X.2.1 dX12_init_267 (by decide) ?_
  refine n_newaO (atype := .int) (ty := .int) (k := 0) (N' := 80) (a0 := (80, .inl (fun _ => 0))) X S (gt_t (i := 234) (by decide +kernel) (by decide +kernel)) rfl rfl (fun C z => by cases z) (fun _ => rfl) (by decide) (by decide) (Nat.le_of_ble_eq_true rfl) (Nat.le_of_ble_eq_true rfl) (Nat.le_of_ble_eq_true rfl) dX12_init_269 (fun q13 H n13 e13 S => ?_)
  refine n_putFO (ty := tyX12 21) (k := 21) X S hj clX12 (by decide) flX12_150 rfl rfl (by decide +kernel) rfl rfl hL dX12_init_271 (fun H locs f13 g13 hL S => ?_)
  refine lv_aload_n X.1 X.2.1 dX12_init_274 rfl (lv_at hl 0 rfl) ?_
  refine lv_bipush (v := 80) X.1 X.2.1 dX12_init_275 (by decide) ?_
  refine n_newaO (atype := .int) (ty := .int) (k := 0) (N' := 80) (a0 := (80, .inl (fun _ => 0))) X S (gt_t (i := 234) (by decide +kernel) (by decide +kernel)) rfl rfl (fun C z => by cases z) (fun _ => rfl) (by decide) (by decide) (Nat.le_of_ble_eq_true rfl) (Nat.le_of_ble_eq_true rfl) (Nat.le_of_ble_eq_true rfl) dX12_init_277 (fun q14 H n14 e14 S => ?_)
  refine n_putFO (ty := tyX12 22) (k := 22) X S hj clX12 (by decide) flX12_153 rfl rfl (by decide +kernel) rfl rfl hL dX12_init_279 (fun H locs f14 g14 hL S => ?_)
  have hL2 := hL
  rw [g14, g13, g12, g11, g10] at hL2 S
  rw [e14, e13, e12, e11, e10] at S
  simp only [List.append_assoc, List.cons_append, List.nil_append] at S
  exact kk q10 q11 q12 q13 q14 H locs hL2 S
set_option maxHeartbeats 4000000 in
set_option maxRecDepth 20000 in
theorem md_4 {p : Program} {l : Launch} {e : Env} {s : State} {m : MethodId} {args : Array Value} {below : List Frame} {meth : Method} {c : Code} {H : Heap} {locs : List Loc} {Q : State → Prop} {D : va_G} {cA : Nat → ClassId} {A : Nat → Prop} {ls : Array Slot} {ws0 news : va_W} {j a : Nat} {fs : List Value} (X : NC p s m args meth c RX12 cX12_init 1 D cA A) (hj : j < ws0.length) (hl : lv_has ls 1 [(0, .ref a)]) (hL : fs.length = 54) (S : NS D A s (ws0.set j (a, .inr (12, fs)) ++ news) H locs)
    (kk : ∀ (q15 q16 q17 q18 q19 : Nat) (H : Heap) (locs : List Loc), ((((((fs.set 23 (.ref q15)).set 24 (.ref q16)).set 25 (.ref q17)).set 26 (.ref q18)).set 27 (.ref q19))).length = 54 → NS D A s (ws0.set j (a, .inr (12, (((((fs.set 23 (.ref q15)).set 24 (.ref q16)).set 25 (.ref q17)).set 26 (.ref q18)).set 27 (.ref q19)))) ++ (news ++ [(q15, .inl (cA 1, 4, .inl (fun _ => 0))), (q16, .inl (cA 1, 4, .inl (fun _ => 0))), (q17, .inl (cA 1, 12, .inl (fun _ => 0))), (q18, .inl (cA 1, 24, .inl (fun _ => 0))), (q19, .inl (cA 1, 16, .inl (fun _ => 0)))])) H locs → W p l e { frames := 1, cells := 40, slots := 15959, locals := 22 } s m args below meth c H locs 20 10185 Q (F0 m 320 ls [])) : W p l e { frames := 1, cells := 40, slots := 15959, locals := 22 } s m args below meth c H locs 15 10125 Q (F0 m 282 ls []) := by
  refine lv_aload_n X.1 X.2.1 dX12_init_282 rfl (lv_at hl 0 rfl) ?_
  refine lv_iconst (v := 4) X.1 X.2.1 dX12_init_283 rfl ?_
  refine n_newaO (atype := .int) (ty := .int) (k := 0) (N' := 4) (a0 := (4, .inl (fun _ => 0))) X S (gt_t (i := 234) (by decide +kernel) (by decide +kernel)) rfl rfl (fun C z => by cases z) (fun _ => rfl) (by decide) (by decide) (Nat.le_of_ble_eq_true rfl) (Nat.le_of_ble_eq_true rfl) (Nat.le_of_ble_eq_true rfl) dX12_init_284 (fun q15 H n15 e15 S => ?_)
  refine n_putFO (ty := tyX12 23) (k := 23) X S hj clX12 (by decide) flX12_156 rfl rfl (by decide +kernel) rfl rfl hL dX12_init_286 (fun H locs f15 g15 hL S => ?_)
  refine lv_aload_n X.1 X.2.1 dX12_init_289 rfl (lv_at hl 0 rfl) ?_
  refine lv_iconst (v := 4) X.1 X.2.1 dX12_init_290 rfl ?_
  refine n_newaO (atype := .int) (ty := .int) (k := 0) (N' := 4) (a0 := (4, .inl (fun _ => 0))) X S (gt_t (i := 234) (by decide +kernel) (by decide +kernel)) rfl rfl (fun C z => by cases z) (fun _ => rfl) (by decide) (by decide) (Nat.le_of_ble_eq_true rfl) (Nat.le_of_ble_eq_true rfl) (Nat.le_of_ble_eq_true rfl) dX12_init_291 (fun q16 H n16 e16 S => ?_)
  refine n_putFO (ty := tyX12 24) (k := 24) X S hj clX12 (by decide) flX12_159 rfl rfl (by decide +kernel) rfl rfl hL dX12_init_293 (fun H locs f16 g16 hL S => ?_)
  refine lv_aload_n X.1 X.2.1 dX12_init_296 rfl (lv_at hl 0 rfl) ?_
  refine lv_bipush (v := 12) X.1 X.2.1 dX12_init_297 (by decide) ?_
  refine n_newaO (atype := .int) (ty := .int) (k := 0) (N' := 12) (a0 := (12, .inl (fun _ => 0))) X S (gt_t (i := 234) (by decide +kernel) (by decide +kernel)) rfl rfl (fun C z => by cases z) (fun _ => rfl) (by decide) (by decide) (Nat.le_of_ble_eq_true rfl) (Nat.le_of_ble_eq_true rfl) (Nat.le_of_ble_eq_true rfl) dX12_init_299 (fun q17 H n17 e17 S => ?_)
  refine n_putFO (ty := tyX12 25) (k := 25) X S hj clX12 (by decide) flX12_162 rfl rfl (by decide +kernel) rfl rfl hL dX12_init_301 (fun H locs f17 g17 hL S => ?_)
  refine lv_aload_n X.1 X.2.1 dX12_init_304 rfl (lv_at hl 0 rfl) ?_
  refine lv_bipush (v := 24) X.1 X.2.1 dX12_init_305 (by decide) ?_
  refine n_newaO (atype := .int) (ty := .int) (k := 0) (N' := 24) (a0 := (24, .inl (fun _ => 0))) X S (gt_t (i := 234) (by decide +kernel) (by decide +kernel)) rfl rfl (fun C z => by cases z) (fun _ => rfl) (by decide) (by decide) (Nat.le_of_ble_eq_true rfl) (Nat.le_of_ble_eq_true rfl) (Nat.le_of_ble_eq_true rfl) dX12_init_307 (fun q18 H n18 e18 S => ?_)
  refine n_putFO (ty := tyX12 26) (k := 26) X S hj clX12 (by decide) flX12_165 rfl rfl (by decide +kernel) rfl rfl hL dX12_init_309 (fun H locs f18 g18 hL S => ?_)
  refine lv_aload_n X.1 X.2.1 dX12_init_312 rfl (lv_at hl 0 rfl) ?_
  refine lv_bipush (v := 16) X.1 X.2.1 dX12_init_313 (by decide) ?_
  refine n_newaO (atype := .int) (ty := .int) (k := 0) (N' := 16) (a0 := (16, .inl (fun _ => 0))) X S (gt_t (i := 234) (by decide +kernel) (by decide +kernel)) rfl rfl (fun C z => by cases z) (fun _ => rfl) (by decide) (by decide) (Nat.le_of_ble_eq_true rfl) (Nat.le_of_ble_eq_true rfl) (Nat.le_of_ble_eq_true rfl) dX12_init_315 (fun q19 H n19 e19 S => ?_)
  refine n_putFO (ty := tyX12 27) (k := 27) X S hj clX12 (by decide) flX12_168 rfl rfl (by decide +kernel) rfl rfl hL dX12_init_317 (fun H locs f19 g19 hL S => ?_)
  have hL2 := hL
  rw [g19, g18, g17, g16, g15] at hL2 S
  rw [e19, e18, e17, e16, e15] at S
  simp only [List.append_assoc, List.cons_append, List.nil_append] at S
  exact kk q15 q16 q17 q18 q19 H locs hL2 S
set_option maxHeartbeats 4000000 in
set_option maxRecDepth 20000 in
theorem md_5 {p : Program} {l : Launch} {e : Env} {s : State} {m : MethodId} {args : Array Value} {below : List Frame} {meth : Method} {c : Code} {H : Heap} {locs : List Loc} {Q : State → Prop} {D : va_G} {cA : Nat → ClassId} {A : Nat → Prop} {ls : Array Slot} {ws0 news : va_W} {j a : Nat} {fs : List Value} (X : NC p s m args meth c RX12 cX12_init 1 D cA A) (hj : j < ws0.length) (hl : lv_has ls 1 [(0, .ref a)]) (hL : fs.length = 54) (S : NS D A s (ws0.set j (a, .inr (12, fs)) ++ news) H locs)
    (kk : ∀ (q20 q21 q22 q23 q24 : Nat) (H : Heap) (locs : List Loc), ((((((fs.set 29 (.ref q20)).set 30 (.ref q21)).set 31 (.ref q22)).set 32 (.ref q23)).set 33 (.ref q24))).length = 54 → NS D A s (ws0.set j (a, .inr (12, (((((fs.set 29 (.ref q20)).set 30 (.ref q21)).set 31 (.ref q22)).set 32 (.ref q23)).set 33 (.ref q24)))) ++ (news ++ [(q20, .inl (cA 1, 64, .inl (fun _ => 0))), (q21, .inl (cA 1, 64, .inl (fun _ => 0))), (q22, .inl (cA 2, 64, .inl (fun _ => 0))), (q23, .inl (cA 2, 64, .inl (fun _ => 0))), (q24, .inl (cA 1, 64, .inl (fun _ => 0)))])) H locs → W p l e { frames := 1, cells := 40, slots := 15959, locals := 22 } s m args below meth c H locs 25 10505 Q (F0 m 360 ls [])) : W p l e { frames := 1, cells := 40, slots := 15959, locals := 22 } s m args below meth c H locs 20 10185 Q (F0 m 320 ls []) := by
  refine lv_aload_n X.1 X.2.1 dX12_init_320 rfl (lv_at hl 0 rfl) ?_
  refine lv_bipush (v := 64) X.1 X.2.1 dX12_init_321 (by decide) ?_
  refine n_newaO (atype := .int) (ty := .int) (k := 0) (N' := 64) (a0 := (64, .inl (fun _ => 0))) X S (gt_t (i := 234) (by decide +kernel) (by decide +kernel)) rfl rfl (fun C z => by cases z) (fun _ => rfl) (by decide) (by decide) (Nat.le_of_ble_eq_true rfl) (Nat.le_of_ble_eq_true rfl) (Nat.le_of_ble_eq_true rfl) dX12_init_323 (fun q20 H n20 e20 S => ?_)
  refine n_putFO (ty := tyX12 29) (k := 29) X S hj clX12 (by decide) flX12_171 rfl rfl (by decide +kernel) rfl rfl hL dX12_init_325 (fun H locs f20 g20 hL S => ?_)
  refine lv_aload_n X.1 X.2.1 dX12_init_328 rfl (lv_at hl 0 rfl) ?_
  refine lv_bipush (v := 64) X.1 X.2.1 dX12_init_329 (by decide) ?_
  refine n_newaO (atype := .int) (ty := .int) (k := 0) (N' := 64) (a0 := (64, .inl (fun _ => 0))) X S (gt_t (i := 234) (by decide +kernel) (by decide +kernel)) rfl rfl (fun C z => by cases z) (fun _ => rfl) (by decide) (by decide) (Nat.le_of_ble_eq_true rfl) (Nat.le_of_ble_eq_true rfl) (Nat.le_of_ble_eq_true rfl) dX12_init_331 (fun q21 H n21 e21 S => ?_)
  refine n_putFO (ty := tyX12 30) (k := 30) X S hj clX12 (by decide) flX12_174 rfl rfl (by decide +kernel) rfl rfl hL dX12_init_333 (fun H locs f21 g21 hL S => ?_)
  refine lv_aload_n X.1 X.2.1 dX12_init_336 rfl (lv_at hl 0 rfl) ?_
  refine lv_bipush (v := 64) X.1 X.2.1 dX12_init_337 (by decide) ?_
  refine n_newaO (atype := .boolean) (ty := .boolean) (k := 1) (N' := 64) (a0 := (64, .inl (fun _ => 0))) X S (gt_t (i := 235) (by decide +kernel) (by decide +kernel)) rfl rfl (fun C z => by cases z) (fun _ => rfl) (by decide) (by decide) (Nat.le_of_ble_eq_true rfl) (Nat.le_of_ble_eq_true rfl) (Nat.le_of_ble_eq_true rfl) dX12_init_339 (fun q22 H n22 e22 S => ?_)
  refine n_putFO (ty := tyX12 31) (k := 31) X S hj clX12 (by decide) flX12_177 rfl rfl (by decide +kernel) rfl rfl hL dX12_init_341 (fun H locs f22 g22 hL S => ?_)
  refine lv_aload_n X.1 X.2.1 dX12_init_344 rfl (lv_at hl 0 rfl) ?_
  refine lv_bipush (v := 64) X.1 X.2.1 dX12_init_345 (by decide) ?_
  refine n_newaO (atype := .boolean) (ty := .boolean) (k := 1) (N' := 64) (a0 := (64, .inl (fun _ => 0))) X S (gt_t (i := 235) (by decide +kernel) (by decide +kernel)) rfl rfl (fun C z => by cases z) (fun _ => rfl) (by decide) (by decide) (Nat.le_of_ble_eq_true rfl) (Nat.le_of_ble_eq_true rfl) (Nat.le_of_ble_eq_true rfl) dX12_init_347 (fun q23 H n23 e23 S => ?_)
  refine n_putFO (ty := tyX12 32) (k := 32) X S hj clX12 (by decide) flX12_181 rfl rfl (by decide +kernel) rfl rfl hL dX12_init_349 (fun H locs f23 g23 hL S => ?_)
  refine lv_aload_n X.1 X.2.1 dX12_init_352 rfl (lv_at hl 0 rfl) ?_
  refine lv_bipush (v := 64) X.1 X.2.1 dX12_init_353 (by decide) ?_
  refine n_newaO (atype := .int) (ty := .int) (k := 0) (N' := 64) (a0 := (64, .inl (fun _ => 0))) X S (gt_t (i := 234) (by decide +kernel) (by decide +kernel)) rfl rfl (fun C z => by cases z) (fun _ => rfl) (by decide) (by decide) (Nat.le_of_ble_eq_true rfl) (Nat.le_of_ble_eq_true rfl) (Nat.le_of_ble_eq_true rfl) dX12_init_355 (fun q24 H n24 e24 S => ?_)
  refine n_putFO (ty := tyX12 33) (k := 33) X S hj clX12 (by decide) flX12_184 rfl rfl (by decide +kernel) rfl rfl hL dX12_init_357 (fun H locs f24 g24 hL S => ?_)
  have hL2 := hL
  rw [g24, g23, g22, g21, g20] at hL2 S
  rw [e24, e23, e22, e21, e20] at S
  simp only [List.append_assoc, List.cons_append, List.nil_append] at S
  exact kk q20 q21 q22 q23 q24 H locs hL2 S
set_option maxHeartbeats 4000000 in
set_option maxRecDepth 20000 in
theorem md_6 {p : Program} {l : Launch} {e : Env} {s : State} {m : MethodId} {args : Array Value} {below : List Frame} {meth : Method} {c : Code} {H : Heap} {locs : List Loc} {Q : State → Prop} {D : va_G} {cA : Nat → ClassId} {A : Nat → Prop} {ls : Array Slot} {ws0 news : va_W} {j a : Nat} {fs : List Value} (X : NC p s m args meth c RX12 cX12_init 1 D cA A) (hj : j < ws0.length) (hl : lv_has ls 1 [(0, .ref a)]) (hL : fs.length = 54) (S : NS D A s (ws0.set j (a, .inr (12, fs)) ++ news) H locs)
    (kk : ∀ (q25 q26 q27 q28 q29 : Nat) (H : Heap) (locs : List Loc), ((((((fs.set 34 (.ref q25)).set 35 (.ref q26)).set 36 (.ref q27)).set 37 (.ref q28)).set 40 (.ref q29))).length = 54 → NS D A s (ws0.set j (a, .inr (12, (((((fs.set 34 (.ref q25)).set 35 (.ref q26)).set 36 (.ref q27)).set 37 (.ref q28)).set 40 (.ref q29)))) ++ (news ++ [(q25, .inl (cA 1, 64, .inl (fun _ => 0))), (q26, .inl (cA 4, 64, .inr (.inl (fun _ => 0)))), (q27, .inl (cA 4, 64, .inr (.inl (fun _ => 0)))), (q28, .inl (cA 1, 64, .inl (fun _ => 0))), (q29, .inl (cA 1, 64, .inl (fun _ => 0)))])) H locs → W p l e { frames := 1, cells := 40, slots := 15959, locals := 22 } s m args below meth c H locs 30 10825 Q (F0 m 400 ls [])) : W p l e { frames := 1, cells := 40, slots := 15959, locals := 22 } s m args below meth c H locs 25 10505 Q (F0 m 360 ls []) := by
  refine lv_aload_n X.1 X.2.1 dX12_init_360 rfl (lv_at hl 0 rfl) ?_
  refine lv_bipush (v := 64) X.1 X.2.1 dX12_init_361 (by decide) ?_
  refine n_newaO (atype := .int) (ty := .int) (k := 0) (N' := 64) (a0 := (64, .inl (fun _ => 0))) X S (gt_t (i := 234) (by decide +kernel) (by decide +kernel)) rfl rfl (fun C z => by cases z) (fun _ => rfl) (by decide) (by decide) (Nat.le_of_ble_eq_true rfl) (Nat.le_of_ble_eq_true rfl) (Nat.le_of_ble_eq_true rfl) dX12_init_363 (fun q25 H n25 e25 S => ?_)
  refine n_putFO (ty := tyX12 34) (k := 34) X S hj clX12 (by decide) flX12_187 rfl rfl (by decide +kernel) rfl rfl hL dX12_init_365 (fun H locs f25 g25 hL S => ?_)
  refine lv_aload_n X.1 X.2.1 dX12_init_368 rfl (lv_at hl 0 rfl) ?_
  refine lv_bipush (v := 64) X.1 X.2.1 dX12_init_369 (by decide) ?_
  refine n_newaO (atype := .long) (ty := .long) (k := 3) (N' := 64) (a0 := (64, .inr (.inl (fun _ => 0)))) X S (gt_t (i := 120) (by decide +kernel) (by decide +kernel)) rfl rfl (fun C z => by cases z) (fun _ => rfl) (by decide) (by decide) (Nat.le_of_ble_eq_true rfl) (Nat.le_of_ble_eq_true rfl) (Nat.le_of_ble_eq_true rfl) dX12_init_371 (fun q26 H n26 e26 S => ?_)
  refine n_putFO (ty := tyX12 35) (k := 35) X S hj clX12 (by decide) flX12_190 rfl rfl (by decide +kernel) rfl rfl hL dX12_init_373 (fun H locs f26 g26 hL S => ?_)
  refine lv_aload_n X.1 X.2.1 dX12_init_376 rfl (lv_at hl 0 rfl) ?_
  refine lv_bipush (v := 64) X.1 X.2.1 dX12_init_377 (by decide) ?_
  refine n_newaO (atype := .long) (ty := .long) (k := 3) (N' := 64) (a0 := (64, .inr (.inl (fun _ => 0)))) X S (gt_t (i := 120) (by decide +kernel) (by decide +kernel)) rfl rfl (fun C z => by cases z) (fun _ => rfl) (by decide) (by decide) (Nat.le_of_ble_eq_true rfl) (Nat.le_of_ble_eq_true rfl) (Nat.le_of_ble_eq_true rfl) dX12_init_379 (fun q27 H n27 e27 S => ?_)
  refine n_putFO (ty := tyX12 36) (k := 36) X S hj clX12 (by decide) flX12_193 rfl rfl (by decide +kernel) rfl rfl hL dX12_init_381 (fun H locs f27 g27 hL S => ?_)
  refine lv_aload_n X.1 X.2.1 dX12_init_384 rfl (lv_at hl 0 rfl) ?_
  refine lv_bipush (v := 64) X.1 X.2.1 dX12_init_385 (by decide) ?_
  refine n_newaO (atype := .int) (ty := .int) (k := 0) (N' := 64) (a0 := (64, .inl (fun _ => 0))) X S (gt_t (i := 234) (by decide +kernel) (by decide +kernel)) rfl rfl (fun C z => by cases z) (fun _ => rfl) (by decide) (by decide) (Nat.le_of_ble_eq_true rfl) (Nat.le_of_ble_eq_true rfl) (Nat.le_of_ble_eq_true rfl) dX12_init_387 (fun q28 H n28 e28 S => ?_)
  refine n_putFO (ty := tyX12 37) (k := 37) X S hj clX12 (by decide) flX12_196 rfl rfl (by decide +kernel) rfl rfl hL dX12_init_389 (fun H locs f28 g28 hL S => ?_)
  refine lv_aload_n X.1 X.2.1 dX12_init_392 rfl (lv_at hl 0 rfl) ?_
  refine lv_bipush (v := 64) X.1 X.2.1 dX12_init_393 (by decide) ?_
  refine n_newaO (atype := .int) (ty := .int) (k := 0) (N' := 64) (a0 := (64, .inl (fun _ => 0))) X S (gt_t (i := 234) (by decide +kernel) (by decide +kernel)) rfl rfl (fun C z => by cases z) (fun _ => rfl) (by decide) (by decide) (Nat.le_of_ble_eq_true rfl) (Nat.le_of_ble_eq_true rfl) (Nat.le_of_ble_eq_true rfl) dX12_init_395 (fun q29 H n29 e29 S => ?_)
  refine n_putFO (ty := tyX12 40) (k := 40) X S hj clX12 (by decide) flX12_199 rfl rfl (by decide +kernel) rfl rfl hL dX12_init_397 (fun H locs f29 g29 hL S => ?_)
  have hL2 := hL
  rw [g29, g28, g27, g26, g25] at hL2 S
  rw [e29, e28, e27, e26, e25] at S
  simp only [List.append_assoc, List.cons_append, List.nil_append] at S
  exact kk q25 q26 q27 q28 q29 H locs hL2 S
set_option maxHeartbeats 4000000 in
set_option maxRecDepth 20000 in
theorem md_7 {p : Program} {l : Launch} {e : Env} {s : State} {m : MethodId} {args : Array Value} {below : List Frame} {meth : Method} {c : Code} {H : Heap} {locs : List Loc} {Q : State → Prop} {D : va_G} {cA : Nat → ClassId} {A : Nat → Prop} {ls : Array Slot} {ws0 news : va_W} {j a : Nat} {fs : List Value} (X : NC p s m args meth c RX12 cX12_init 1 D cA A) (hj : j < ws0.length) (hl : lv_has ls 1 [(0, .ref a)]) (hL : fs.length = 54) (S : NS D A s (ws0.set j (a, .inr (12, fs)) ++ news) H locs)
    (kk : ∀ (q30 q31 q32 q33 q34 : Nat) (H : Heap) (locs : List Loc), ((((((fs.set 42 (.ref q30)).set 43 (.ref q31)).set 44 (.ref q32)).set 45 (.ref q33)).set 46 (.ref q34))).length = 54 → NS D A s (ws0.set j (a, .inr (12, (((((fs.set 42 (.ref q30)).set 43 (.ref q31)).set 44 (.ref q32)).set 45 (.ref q33)).set 46 (.ref q34)))) ++ (news ++ [(q30, .inl (cA 1, 64, .inl (fun _ => 0))), (q31, .inl (cA 1, 64, .inl (fun _ => 0))), (q32, .inl (cA 1, 64, .inl (fun _ => 0))), (q33, .inl (cA 1, 64, .inl (fun _ => 0))), (q34, .inl (cA 1, 2, .inl (fun _ => 0)))])) H locs → W p l e { frames := 1, cells := 40, slots := 15959, locals := 22 } s m args below meth c H locs 35 11083 Q (F0 m 439 ls [])) : W p l e { frames := 1, cells := 40, slots := 15959, locals := 22 } s m args below meth c H locs 30 10825 Q (F0 m 400 ls []) := by
  refine lv_aload_n X.1 X.2.1 dX12_init_400 rfl (lv_at hl 0 rfl) ?_
  refine lv_bipush (v := 64) X.1 X.2.1 dX12_init_401 (by decide) ?_
  refine n_newaO (atype := .int) (ty := .int) (k := 0) (N' := 64) (a0 := (64, .inl (fun _ => 0))) X S (gt_t (i := 234) (by decide +kernel) (by decide +kernel)) rfl rfl (fun C z => by cases z) (fun _ => rfl) (by decide) (by decide) (Nat.le_of_ble_eq_true rfl) (Nat.le_of_ble_eq_true rfl) (Nat.le_of_ble_eq_true rfl) dX12_init_403 (fun q30 H n30 e30 S => ?_)
  refine n_putFO (ty := tyX12 42) (k := 42) X S hj clX12 (by decide) flX12_202 rfl rfl (by decide +kernel) rfl rfl hL dX12_init_405 (fun H locs f30 g30 hL S => ?_)
  refine lv_aload_n X.1 X.2.1 dX12_init_408 rfl (lv_at hl 0 rfl) ?_
  refine lv_bipush (v := 64) X.1 X.2.1 dX12_init_409 (by decide) ?_
  refine n_newaO (atype := .int) (ty := .int) (k := 0) (N' := 64) (a0 := (64, .inl (fun _ => 0))) X S (gt_t (i := 234) (by decide +kernel) (by decide +kernel)) rfl rfl (fun C z => by cases z) (fun _ => rfl) (by decide) (by decide) (Nat.le_of_ble_eq_true rfl) (Nat.le_of_ble_eq_true rfl) (Nat.le_of_ble_eq_true rfl) dX12_init_411 (fun q31 H n31 e31 S => ?_)
  refine n_putFO (ty := tyX12 43) (k := 43) X S hj clX12 (by decide) flX12_205 rfl rfl (by decide +kernel) rfl rfl hL dX12_init_413 (fun H locs f31 g31 hL S => ?_)
  refine lv_aload_n X.1 X.2.1 dX12_init_416 rfl (lv_at hl 0 rfl) ?_
  refine lv_bipush (v := 64) X.1 X.2.1 dX12_init_417 (by decide) ?_
  refine n_newaO (atype := .int) (ty := .int) (k := 0) (N' := 64) (a0 := (64, .inl (fun _ => 0))) X S (gt_t (i := 234) (by decide +kernel) (by decide +kernel)) rfl rfl (fun C z => by cases z) (fun _ => rfl) (by decide) (by decide) (Nat.le_of_ble_eq_true rfl) (Nat.le_of_ble_eq_true rfl) (Nat.le_of_ble_eq_true rfl) dX12_init_419 (fun q32 H n32 e32 S => ?_)
  refine n_putFO (ty := tyX12 44) (k := 44) X S hj clX12 (by decide) flX12_208 rfl rfl (by decide +kernel) rfl rfl hL dX12_init_421 (fun H locs f32 g32 hL S => ?_)
  refine lv_aload_n X.1 X.2.1 dX12_init_424 rfl (lv_at hl 0 rfl) ?_
  refine lv_bipush (v := 64) X.1 X.2.1 dX12_init_425 (by decide) ?_
  refine n_newaO (atype := .int) (ty := .int) (k := 0) (N' := 64) (a0 := (64, .inl (fun _ => 0))) X S (gt_t (i := 234) (by decide +kernel) (by decide +kernel)) rfl rfl (fun C z => by cases z) (fun _ => rfl) (by decide) (by decide) (Nat.le_of_ble_eq_true rfl) (Nat.le_of_ble_eq_true rfl) (Nat.le_of_ble_eq_true rfl) dX12_init_427 (fun q33 H n33 e33 S => ?_)
  refine n_putFO (ty := tyX12 45) (k := 45) X S hj clX12 (by decide) flX12_211 rfl rfl (by decide +kernel) rfl rfl hL dX12_init_429 (fun H locs f33 g33 hL S => ?_)
  refine lv_aload_n X.1 X.2.1 dX12_init_432 rfl (lv_at hl 0 rfl) ?_
  refine lv_iconst (v := 2) X.1 X.2.1 dX12_init_433 rfl ?_
  refine n_newaO (atype := .int) (ty := .int) (k := 0) (N' := 2) (a0 := (2, .inl (fun _ => 0))) X S (gt_t (i := 234) (by decide +kernel) (by decide +kernel)) rfl rfl (fun C z => by cases z) (fun _ => rfl) (by decide) (by decide) (Nat.le_of_ble_eq_true rfl) (Nat.le_of_ble_eq_true rfl) (Nat.le_of_ble_eq_true rfl) dX12_init_434 (fun q34 H n34 e34 S => ?_)
  refine n_putFO (ty := tyX12 46) (k := 46) X S hj clX12 (by decide) flX12_214 rfl rfl (by decide +kernel) rfl rfl hL dX12_init_436 (fun H locs f34 g34 hL S => ?_)
  have hL2 := hL
  rw [g34, g33, g32, g31, g30] at hL2 S
  rw [e34, e33, e32, e31, e30] at S
  simp only [List.append_assoc, List.cons_append, List.nil_append] at S
  exact kk q30 q31 q32 q33 q34 H locs hL2 S
set_option maxHeartbeats 4000000 in
set_option maxRecDepth 20000 in
theorem md_8 {p : Program} {l : Launch} {e : Env} {s : State} {m : MethodId} {args : Array Value} {below : List Frame} {meth : Method} {c : Code} {H : Heap} {locs : List Loc} {Q : State → Prop} {D : va_G} {cA : Nat → ClassId} {A : Nat → Prop} {ls : Array Slot} {ws0 news : va_W} {j a : Nat} {fs : List Value} (X : NC p s m args meth c RX12 cX12_init 1 D cA A) (hj : j < ws0.length) (hl : lv_has ls 1 [(0, .ref a)]) (hL : fs.length = 54) (S : NS D A s (ws0.set j (a, .inr (12, fs)) ++ news) H locs)
    (kk : ∀ (q35 q36 q37 q38 q39 : Nat) (H : Heap) (locs : List Loc), ((((((fs.set 47 (.ref q35)).set 49 (.ref q36)).set 51 (.ref q37)).set 52 (.ref q38)).set 53 (.ref q39))).length = 54 → NS D A s (ws0.set j (a, .inr (12, (((((fs.set 47 (.ref q35)).set 49 (.ref q36)).set 51 (.ref q37)).set 52 (.ref q38)).set 53 (.ref q39)))) ++ (news ++ [(q35, .inl (cA 1, 256, .inl (fun _ => 0))), (q36, .inl (cA 1, 256, .inl (fun _ => 0))), (q37, .inl (cA 1, 256, .inl (fun _ => 0))), (q38, .inl (cA 1, 12, .inl (fun _ => 0))), (q39, .inl (cA 2, 4096, .inl (fun _ => 0)))])) H locs → W p l e { frames := 1, cells := 40, slots := 15959, locals := 22 } s m args below meth c H locs 40 15959 Q (F0 m 483 ls [])) : W p l e { frames := 1, cells := 40, slots := 15959, locals := 22 } s m args below meth c H locs 35 11083 Q (F0 m 439 ls []) := by
  refine lv_aload_n X.1 X.2.1 dX12_init_439 rfl (lv_at hl 0 rfl) ?_
  refine lv_sipush (v := 256) X.1 X.2.1 dX12_init_440 (by decide) ?_
  refine n_newaO (atype := .int) (ty := .int) (k := 0) (N' := 256) (a0 := (256, .inl (fun _ => 0))) X S (gt_t (i := 234) (by decide +kernel) (by decide +kernel)) rfl rfl (fun C z => by cases z) (fun _ => rfl) (by decide) (by decide) (Nat.le_of_ble_eq_true rfl) (Nat.le_of_ble_eq_true rfl) (Nat.le_of_ble_eq_true rfl) dX12_init_443 (fun q35 H n35 e35 S => ?_)
  refine n_putFO (ty := tyX12 47) (k := 47) X S hj clX12 (by decide) flX12_217 rfl rfl (by decide +kernel) rfl rfl hL dX12_init_445 (fun H locs f35 g35 hL S => ?_)
  refine lv_aload_n X.1 X.2.1 dX12_init_448 rfl (lv_at hl 0 rfl) ?_
  refine lv_sipush (v := 256) X.1 X.2.1 dX12_init_449 (by decide) ?_
  refine n_newaO (atype := .int) (ty := .int) (k := 0) (N' := 256) (a0 := (256, .inl (fun _ => 0))) X S (gt_t (i := 234) (by decide +kernel) (by decide +kernel)) rfl rfl (fun C z => by cases z) (fun _ => rfl) (by decide) (by decide) (Nat.le_of_ble_eq_true rfl) (Nat.le_of_ble_eq_true rfl) (Nat.le_of_ble_eq_true rfl) dX12_init_452 (fun q36 H n36 e36 S => ?_)
  refine n_putFO (ty := tyX12 49) (k := 49) X S hj clX12 (by decide) flX12_220 rfl rfl (by decide +kernel) rfl rfl hL dX12_init_454 (fun H locs f36 g36 hL S => ?_)
  refine lv_aload_n X.1 X.2.1 dX12_init_457 rfl (lv_at hl 0 rfl) ?_
  refine lv_sipush (v := 256) X.1 X.2.1 dX12_init_458 (by decide) ?_
  refine n_newaO (atype := .int) (ty := .int) (k := 0) (N' := 256) (a0 := (256, .inl (fun _ => 0))) X S (gt_t (i := 234) (by decide +kernel) (by decide +kernel)) rfl rfl (fun C z => by cases z) (fun _ => rfl) (by decide) (by decide) (Nat.le_of_ble_eq_true rfl) (Nat.le_of_ble_eq_true rfl) (Nat.le_of_ble_eq_true rfl) dX12_init_461 (fun q37 H n37 e37 S => ?_)
  refine n_putFO (ty := tyX12 51) (k := 51) X S hj clX12 (by decide) flX12_223 rfl rfl (by decide +kernel) rfl rfl hL dX12_init_463 (fun H locs f37 g37 hL S => ?_)
  refine lv_aload_n X.1 X.2.1 dX12_init_466 rfl (lv_at hl 0 rfl) ?_
  refine lv_bipush (v := 12) X.1 X.2.1 dX12_init_467 (by decide) ?_
  refine n_newaO (atype := .int) (ty := .int) (k := 0) (N' := 12) (a0 := (12, .inl (fun _ => 0))) X S (gt_t (i := 234) (by decide +kernel) (by decide +kernel)) rfl rfl (fun C z => by cases z) (fun _ => rfl) (by decide) (by decide) (Nat.le_of_ble_eq_true rfl) (Nat.le_of_ble_eq_true rfl) (Nat.le_of_ble_eq_true rfl) dX12_init_469 (fun q38 H n38 e38 S => ?_)
  refine n_putFO (ty := tyX12 52) (k := 52) X S hj clX12 (by decide) flX12_226 rfl rfl (by decide +kernel) rfl rfl hL dX12_init_471 (fun H locs f38 g38 hL S => ?_)
  refine lv_aload_n X.1 X.2.1 dX12_init_474 rfl (lv_at hl 0 rfl) ?_
  refine lv_sipush (v := 4096) X.1 X.2.1 dX12_init_475 (by decide) ?_
  refine n_newaO (atype := .boolean) (ty := .boolean) (k := 1) (N' := 4096) (a0 := (4096, .inl (fun _ => 0))) X S (gt_t (i := 235) (by decide +kernel) (by decide +kernel)) rfl rfl (fun C z => by cases z) (fun _ => rfl) (by decide) (by decide) (Nat.le_of_ble_eq_true rfl) (Nat.le_of_ble_eq_true rfl) (Nat.le_of_ble_eq_true rfl) dX12_init_478 (fun q39 H n39 e39 S => ?_)
  refine n_putFO (ty := tyX12 53) (k := 53) X S hj clX12 (by decide) flX12_229 rfl rfl (by decide +kernel) rfl rfl hL dX12_init_480 (fun H locs f39 g39 hL S => ?_)
  have hL2 := hL
  rw [g39, g38, g37, g36, g35] at hL2 S
  rw [e39, e38, e37, e36, e35] at S
  simp only [List.append_assoc, List.cons_append, List.nil_append] at S
  exact kk q35 q36 q37 q38 q39 H locs hL2 S
