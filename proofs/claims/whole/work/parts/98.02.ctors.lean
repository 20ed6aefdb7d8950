/-! the plain constructors -/
theorem len1 {av : List Nat} (h : av.length = 1) : ∃ x, av = [x] := by
  match av, h with
  | [x], _ => exact ⟨x, rfl⟩
theorem len2 {av : List Nat} (h : av.length = 2) : ∃ x y, av = [x, y] := by
  match av, h with
  | [x, y], _ => exact ⟨x, y, rfl⟩
theorem len3 {av : List Nat} (h : av.length = 3) : ∃ x y z, av = [x, y, z] := by
  match av, h with
  | [x, y, z], _ => exact ⟨x, y, z, rfl⟩
theorem obj_code : Cond.code Lib.objectInit ⟨#[0xb1]⟩ 1 none ∈ gt := gt_t (i := 32) (by decide +kernel) (by decide +kernel)
def dfX3 : List Value := [.int 0, .null, .null, .null, .null, .null, .null, .null, .null, .null, .int 0, .null, .null, .null, .int 0, .int 0, .int 0, .int 0]
def FX3 : (Nat → ClassId) → List Nat → (Nat → Nat) → List Value × va_W := fun cA av u => ([.int 0, .ref (u 0), .ref (u 1), .ref (u 2), .ref (u 3), .ref (u 4), .ref (u 5), .ref (u 6), .ref (u 7), .ref (u 8), .int 0, .ref (u 9), .ref (u 10), .ref (u 11), .int 4, .int 8, .int 0, .int 0], [(u 0, .inl (cA 1, 200, .inl (fun _ => 0))), (u 1, .inl (cA 1, 200, .inl (fun _ => 0))), (u 2, .inl (cA 1, 200, .inl (fun _ => 0))), (u 3, .inl (cA 1, 200, .inl (fun _ => 0))), (u 4, .inl (cA 1, 200, .inl (fun _ => 0))), (u 5, .inl (cA 1, 600, .inl (fun _ => 0))), (u 6, .inl (cA 1, 600, .inl (fun _ => 0))), (u 7, .inl (cA 1, 200, .inl (fun _ => 0))), (u 8, .inl (cA 1, 200, .inl (fun _ => 0))), (u 9, .inl (cA 2, 6, .inl (fun _ => 0))), (u 10, .inl (cA 1, 6, .inl (fun _ => 0))), (u 11, .inl (cA 1, 6, .inl (fun _ => 0)))])
theorem dfX3_ok : ∀ j, j < 18 → defaultValue (tyX3 j) = vp_V dfX3 j := by decide +kernel
set_option maxHeartbeats 4000000 in
set_option maxRecDepth 20000 in
theorem ctX3 : Ctor yX3_init cX3_init 1 1 12 12 2618 3 dfX3 0 FX3 := by
  refine Ctor_mk (by decide +kernel) rfl (by decide) ?_
  intro p l e s m args below meth c D cA A ws0 j a av ls X hj hav S hl ret
  have hav := List.eq_nil_of_length_eq_zero hav
  subst hav
  have hl : lv_has ls 1 [(0, .ref a)] := hl
  refine lv_aload_n X.1 X.2.1 dX3_init_0 rfl (lv_at hl 0 rfl) ?_
  refine n_obj X hl.1 (gt_t (i := 132) (by decide +kernel) (by decide +kernel)) (gt_t (i := 31) (by decide +kernel) (by decide +kernel)) obj_code (Nat.le_of_ble_eq_true rfl) (Nat.le_of_ble_eq_true rfl) dX3_init_1 ?_
  refine lv_aload_n X.1 X.2.1 dX3_init_4 rfl (lv_at hl 0 rfl) ?_
  refine lv_sipush (v := 200) X.1 X.2.1 dX3_init_5 (by decide) ?_
  refine n_newa (atype := .int) (ty := .int) (k := 0) (N' := 200) (a0 := (200, .inl (fun _ => 0))) X S (gt_t (i := 234) (by decide +kernel) (by decide +kernel)) rfl rfl (fun C z => by cases z) (fun _ => rfl) (by decide) (by decide) (Nat.le_of_ble_eq_true rfl) (Nat.le_of_ble_eq_true rfl) (Nat.le_of_ble_eq_true rfl) dX3_init_8 (fun q0 H S => ?_)
  refine n_putF (ty := tyX3 1) (k := 1) X S hj clX3 (by decide) flX3_9 rfl rfl (by decide +kernel) rfl rfl (Nat.le_of_ble_eq_true rfl) dX3_init_10 (fun H locs S => ?_)
  refine lv_aload_n X.1 X.2.1 dX3_init_13 rfl (lv_at hl 0 rfl) ?_
  refine lv_sipush (v := 200) X.1 X.2.1 dX3_init_14 (by decide) ?_
  refine n_newa (atype := .int) (ty := .int) (k := 0) (N' := 200) (a0 := (200, .inl (fun _ => 0))) X S (gt_t (i := 234) (by decide +kernel) (by decide +kernel)) rfl rfl (fun C z => by cases z) (fun _ => rfl) (by decide) (by decide) (Nat.le_of_ble_eq_true rfl) (Nat.le_of_ble_eq_true rfl) (Nat.le_of_ble_eq_true rfl) dX3_init_17 (fun q1 H S => ?_)
  refine n_putF (ty := tyX3 2) (k := 2) X S hj clX3 (by decide) flX3_15 rfl rfl (by decide +kernel) rfl rfl (Nat.le_of_ble_eq_true rfl) dX3_init_19 (fun H locs S => ?_)
  refine lv_aload_n X.1 X.2.1 dX3_init_22 rfl (lv_at hl 0 rfl) ?_
  refine lv_sipush (v := 200) X.1 X.2.1 dX3_init_23 (by decide) ?_
  refine n_newa (atype := .int) (ty := .int) (k := 0) (N' := 200) (a0 := (200, .inl (fun _ => 0))) X S (gt_t (i := 234) (by decide +kernel) (by decide +kernel)) rfl rfl (fun C z => by cases z) (fun _ => rfl) (by decide) (by decide) (Nat.le_of_ble_eq_true rfl) (Nat.le_of_ble_eq_true rfl) (Nat.le_of_ble_eq_true rfl) dX3_init_26 (fun q2 H S => ?_)
  refine n_putF (ty := tyX3 3) (k := 3) X S hj clX3 (by decide) flX3_18 rfl rfl (by decide +kernel) rfl rfl (Nat.le_of_ble_eq_true rfl) dX3_init_28 (fun H locs S => ?_)
  refine lv_aload_n X.1 X.2.1 dX3_init_31 rfl (lv_at hl 0 rfl) ?_
  refine lv_sipush (v := 200) X.1 X.2.1 dX3_init_32 (by decide) ?_
  refine n_newa (atype := .int) (ty := .int) (k := 0) (N' := 200) (a0 := (200, .inl (fun _ => 0))) X S (gt_t (i := 234) (by decide +kernel) (by decide +kernel)) rfl rfl (fun C z => by cases z) (fun _ => rfl) (by decide) (by decide) (Nat.le_of_ble_eq_true rfl) (Nat.le_of_ble_eq_true rfl) (Nat.le_of_ble_eq_true rfl) dX3_init_35 (fun q3 H S => ?_)
  refine n_putF (ty := tyX3 4) (k := 4) X S hj clX3 (by decide) flX3_21 rfl rfl (by decide +kernel) rfl rfl (Nat.le_of_ble_eq_true rfl) dX3_init_37 (fun H locs S => ?_)
  refine lv_aload_n X.1 X.2.1 dX3_init_40 rfl (lv_at hl 0 rfl) ?_
  refine lv_sipush (v := 200) X.1 X.2.1 dX3_init_41 (by decide) ?_
  refine n_newa (atype := .int) (ty := .int) (k := 0) (N' := 200) (a0 := (200, .inl (fun _ => 0))) X S (gt_t (i := 234) (by decide +kernel) (by decide +kernel)) rfl rfl (fun C z => by cases z) (fun _ => rfl) (by decide) (by decide) (Nat.le_of_ble_eq_true rfl) (Nat.le_of_ble_eq_true rfl) (Nat.le_of_ble_eq_true rfl) dX3_init_44 (fun q4 H S => ?_)
  refine n_putF (ty := tyX3 5) (k := 5) X S hj clX3 (by decide) flX3_24 rfl rfl (by decide +kernel) rfl rfl (Nat.le_of_ble_eq_true rfl) dX3_init_46 (fun H locs S => ?_)
  refine lv_aload_n X.1 X.2.1 dX3_init_49 rfl (lv_at hl 0 rfl) ?_
  refine lv_sipush (v := 600) X.1 X.2.1 dX3_init_50 (by decide) ?_
  refine n_newa (atype := .int) (ty := .int) (k := 0) (N' := 600) (a0 := (600, .inl (fun _ => 0))) X S (gt_t (i := 234) (by decide +kernel) (by decide +kernel)) rfl rfl (fun C z => by cases z) (fun _ => rfl) (by decide) (by decide) (Nat.le_of_ble_eq_true rfl) (Nat.le_of_ble_eq_true rfl) (Nat.le_of_ble_eq_true rfl) dX3_init_53 (fun q5 H S => ?_)
  refine n_putF (ty := tyX3 6) (k := 6) X S hj clX3 (by decide) flX3_27 rfl rfl (by decide +kernel) rfl rfl (Nat.le_of_ble_eq_true rfl) dX3_init_55 (fun H locs S => ?_)
  refine lv_aload_n X.1 X.2.1 dX3_init_58 rfl (lv_at hl 0 rfl) ?_
  refine lv_sipush (v := 600) X.1 X.2.1 dX3_init_59 (by decide) ?_
  refine n_newa (atype := .int) (ty := .int) (k := 0) (N' := 600) (a0 := (600, .inl (fun _ => 0))) X S (gt_t (i := 234) (by decide +kernel) (by decide +kernel)) rfl rfl (fun C z => by cases z) (fun _ => rfl) (by decide) (by decide) (Nat.le_of_ble_eq_true rfl) (Nat.le_of_ble_eq_true rfl) (Nat.le_of_ble_eq_true rfl) dX3_init_62 (fun q6 H S => ?_)
  refine n_putF (ty := tyX3 7) (k := 7) X S hj clX3 (by decide) flX3_30 rfl rfl (by decide +kernel) rfl rfl (Nat.le_of_ble_eq_true rfl) dX3_init_64 (fun H locs S => ?_)
  refine lv_aload_n X.1 X.2.1 dX3_init_67 rfl (lv_at hl 0 rfl) ?_
  refine lv_sipush (v := 200) X.1 X.2.1 dX3_init_68 (by decide) ?_
  refine n_newa (atype := .int) (ty := .int) (k := 0) (N' := 200) (a0 := (200, .inl (fun _ => 0))) X S (gt_t (i := 234) (by decide +kernel) (by decide +kernel)) rfl rfl (fun C z => by cases z) (fun _ => rfl) (by decide) (by decide) (Nat.le_of_ble_eq_true rfl) (Nat.le_of_ble_eq_true rfl) (Nat.le_of_ble_eq_true rfl) dX3_init_71 (fun q7 H S => ?_)
  refine n_putF (ty := tyX3 8) (k := 8) X S hj clX3 (by decide) flX3_33 rfl rfl (by decide +kernel) rfl rfl (Nat.le_of_ble_eq_true rfl) dX3_init_73 (fun H locs S => ?_)
  refine lv_aload_n X.1 X.2.1 dX3_init_76 rfl (lv_at hl 0 rfl) ?_
  refine lv_sipush (v := 200) X.1 X.2.1 dX3_init_77 (by decide) ?_
  refine n_newa (atype := .int) (ty := .int) (k := 0) (N' := 200) (a0 := (200, .inl (fun _ => 0))) X S (gt_t (i := 234) (by decide +kernel) (by decide +kernel)) rfl rfl (fun C z => by cases z) (fun _ => rfl) (by decide) (by decide) (Nat.le_of_ble_eq_true rfl) (Nat.le_of_ble_eq_true rfl) (Nat.le_of_ble_eq_true rfl) dX3_init_80 (fun q8 H S => ?_)
  refine n_putF (ty := tyX3 9) (k := 9) X S hj clX3 (by decide) flX3_36 rfl rfl (by decide +kernel) rfl rfl (Nat.le_of_ble_eq_true rfl) dX3_init_82 (fun H locs S => ?_)
  refine lv_aload_n X.1 X.2.1 dX3_init_85 rfl (lv_at hl 0 rfl) ?_
  refine lv_bipush (v := 6) X.1 X.2.1 dX3_init_86 (by decide) ?_
  refine n_newa (atype := .boolean) (ty := .boolean) (k := 1) (N' := 6) (a0 := (6, .inl (fun _ => 0))) X S (gt_t (i := 235) (by decide +kernel) (by decide +kernel)) rfl rfl (fun C z => by cases z) (fun _ => rfl) (by decide) (by decide) (Nat.le_of_ble_eq_true rfl) (Nat.le_of_ble_eq_true rfl) (Nat.le_of_ble_eq_true rfl) dX3_init_88 (fun q9 H S => ?_)
  refine n_putF (ty := tyX3 11) (k := 11) X S hj clX3 (by decide) flX3_39 rfl rfl (by decide +kernel) rfl rfl (Nat.le_of_ble_eq_true rfl) dX3_init_90 (fun H locs S => ?_)
  refine lv_aload_n X.1 X.2.1 dX3_init_93 rfl (lv_at hl 0 rfl) ?_
  refine lv_bipush (v := 6) X.1 X.2.1 dX3_init_94 (by decide) ?_
  refine n_newa (atype := .int) (ty := .int) (k := 0) (N' := 6) (a0 := (6, .inl (fun _ => 0))) X S (gt_t (i := 234) (by decide +kernel) (by decide +kernel)) rfl rfl (fun C z => by cases z) (fun _ => rfl) (by decide) (by decide) (Nat.le_of_ble_eq_true rfl) (Nat.le_of_ble_eq_true rfl) (Nat.le_of_ble_eq_true rfl) dX3_init_96 (fun q10 H S => ?_)
  refine n_putF (ty := tyX3 12) (k := 12) X S hj clX3 (by decide) flX3_43 rfl rfl (by decide +kernel) rfl rfl (Nat.le_of_ble_eq_true rfl) dX3_init_98 (fun H locs S => ?_)
  refine lv_aload_n X.1 X.2.1 dX3_init_101 rfl (lv_at hl 0 rfl) ?_
  refine lv_bipush (v := 6) X.1 X.2.1 dX3_init_102 (by decide) ?_
  refine n_newa (atype := .int) (ty := .int) (k := 0) (N' := 6) (a0 := (6, .inl (fun _ => 0))) X S (gt_t (i := 234) (by decide +kernel) (by decide +kernel)) rfl rfl (fun C z => by cases z) (fun _ => rfl) (by decide) (by decide) (Nat.le_of_ble_eq_true rfl) (Nat.le_of_ble_eq_true rfl) (Nat.le_of_ble_eq_true rfl) dX3_init_104 (fun q11 H S => ?_)
  refine n_putF (ty := tyX3 13) (k := 13) X S hj clX3 (by decide) flX3_46 rfl rfl (by decide +kernel) rfl rfl (Nat.le_of_ble_eq_true rfl) dX3_init_106 (fun H locs S => ?_)
  refine lv_aload_n X.1 X.2.1 dX3_init_109 rfl (lv_at hl 0 rfl) ?_
  refine lv_iconst (v := 4) X.1 X.2.1 dX3_init_110 rfl ?_
  refine n_put (ty := tyX3 14) (k := 14) X S hj clX3 (by decide) flX3_49 rfl (by decide +kernel) rfl rfl (Nat.le_of_ble_eq_true rfl) dX3_init_111 (fun H locs S => ?_)
  refine lv_aload_n X.1 X.2.1 dX3_init_114 rfl (lv_at hl 0 rfl) ?_
  refine lv_bipush (v := 8) X.1 X.2.1 dX3_init_115 (by decide) ?_
  refine n_put (ty := tyX3 15) (k := 15) X S hj clX3 (by decide) flX3_53 rfl (by decide +kernel) rfl rfl (Nat.le_of_ble_eq_true rfl) dX3_init_117 (fun H locs S => ?_)
  exact ret H locs ls 120 (fun i => [q0, q1, q2, q3, q4, q5, q6, q7, q8, q9, q10, q11].getD i 0) S dX3_init_120
def dfX9 : List Value := [.int 0, .null, .null, .null, .null, .int 0, .null, .null]
def FX9 : (Nat → ClassId) → List Nat → (Nat → Nat) → List Value × va_W := fun cA av u => ([.int 0, .ref (u 0), .ref (u 1), .ref (u 2), .ref (u 3), .int 0, .ref (u 4), .ref (u 5)], [(u 0, .inl (cA 1, 64, .inl (fun _ => 0))), (u 1, .inl (cA 1, 192, .inl (fun _ => 0))), (u 2, .inl (cA 2, 64, .inl (fun _ => 0))), (u 3, .inl (cA 2, 64, .inl (fun _ => 0))), (u 4, .inl (cA 1, 8, .inl (fun _ => 0))), (u 5, .inl (cA 2, 200, .inl (fun _ => 0)))])
theorem dfX9_ok : ∀ j, j < 8 → defaultValue (tyX9 j) = vp_V dfX9 j := by decide +kernel
set_option maxHeartbeats 4000000 in
set_option maxRecDepth 20000 in
theorem ctX9 : Ctor yX9_init cX9_init 1 1 12 6 592 9 dfX9 0 FX9 := by
  refine Ctor_mk (by decide +kernel) rfl (by decide) ?_
  intro p l e s m args below meth c D cA A ws0 j a av ls X hj hav S hl ret
  have hav := List.eq_nil_of_length_eq_zero hav
  subst hav
  have hl : lv_has ls 1 [(0, .ref a)] := hl
  refine lv_aload_n X.1 X.2.1 dX9_init_0 rfl (lv_at hl 0 rfl) ?_
  refine n_obj X hl.1 (gt_t (i := 285) (by decide +kernel) (by decide +kernel)) (gt_t (i := 31) (by decide +kernel) (by decide +kernel)) obj_code (Nat.le_of_ble_eq_true rfl) (Nat.le_of_ble_eq_true rfl) dX9_init_1 ?_
  refine lv_aload_n X.1 X.2.1 dX9_init_4 rfl (lv_at hl 0 rfl) ?_
  refine lv_bipush (v := 64) X.1 X.2.1 dX9_init_5 (by decide) ?_
  refine n_newa (atype := .int) (ty := .int) (k := 0) (N' := 64) (a0 := (64, .inl (fun _ => 0))) X S (gt_t (i := 234) (by decide +kernel) (by decide +kernel)) rfl rfl (fun C z => by cases z) (fun _ => rfl) (by decide) (by decide) (Nat.le_of_ble_eq_true rfl) (Nat.le_of_ble_eq_true rfl) (Nat.le_of_ble_eq_true rfl) dX9_init_7 (fun q0 H S => ?_)
  refine n_putF (ty := tyX9 1) (k := 1) X S hj clX9 (by decide) flX9_9 rfl rfl (by decide +kernel) rfl rfl (Nat.le_of_ble_eq_true rfl) dX9_init_9 (fun H locs S => ?_)
  refine lv_aload_n X.1 X.2.1 dX9_init_12 rfl (lv_at hl 0 rfl) ?_
  refine lv_sipush (v := 192) X.1 X.2.1 dX9_init_13 (by decide) ?_
  refine n_newa (atype := .int) (ty := .int) (k := 0) (N' := 192) (a0 := (192, .inl (fun _ => 0))) X S (gt_t (i := 234) (by decide +kernel) (by decide +kernel)) rfl rfl (fun C z => by cases z) (fun _ => rfl) (by decide) (by decide) (Nat.le_of_ble_eq_true rfl) (Nat.le_of_ble_eq_true rfl) (Nat.le_of_ble_eq_true rfl) dX9_init_16 (fun q1 H S => ?_)
  refine n_putF (ty := tyX9 2) (k := 2) X S hj clX9 (by decide) flX9_15 rfl rfl (by decide +kernel) rfl rfl (Nat.le_of_ble_eq_true rfl) dX9_init_18 (fun H locs S => ?_)
  refine lv_aload_n X.1 X.2.1 dX9_init_21 rfl (lv_at hl 0 rfl) ?_
  refine lv_bipush (v := 64) X.1 X.2.1 dX9_init_22 (by decide) ?_
  refine n_newa (atype := .boolean) (ty := .boolean) (k := 1) (N' := 64) (a0 := (64, .inl (fun _ => 0))) X S (gt_t (i := 235) (by decide +kernel) (by decide +kernel)) rfl rfl (fun C z => by cases z) (fun _ => rfl) (by decide) (by decide) (Nat.le_of_ble_eq_true rfl) (Nat.le_of_ble_eq_true rfl) (Nat.le_of_ble_eq_true rfl) dX9_init_24 (fun q2 H S => ?_)
  refine n_putF (ty := tyX9 3) (k := 3) X S hj clX9 (by decide) flX9_18 rfl rfl (by decide +kernel) rfl rfl (Nat.le_of_ble_eq_true rfl) dX9_init_26 (fun H locs S => ?_)
  refine lv_aload_n X.1 X.2.1 dX9_init_29 rfl (lv_at hl 0 rfl) ?_
  refine lv_bipush (v := 64) X.1 X.2.1 dX9_init_30 (by decide) ?_
  refine n_newa (atype := .boolean) (ty := .boolean) (k := 1) (N' := 64) (a0 := (64, .inl (fun _ => 0))) X S (gt_t (i := 235) (by decide +kernel) (by decide +kernel)) rfl rfl (fun C z => by cases z) (fun _ => rfl) (by decide) (by decide) (Nat.le_of_ble_eq_true rfl) (Nat.le_of_ble_eq_true rfl) (Nat.le_of_ble_eq_true rfl) dX9_init_32 (fun q3 H S => ?_)
  refine n_putF (ty := tyX9 4) (k := 4) X S hj clX9 (by decide) flX9_22 rfl rfl (by decide +kernel) rfl rfl (Nat.le_of_ble_eq_true rfl) dX9_init_34 (fun H locs S => ?_)
  refine lv_aload_n X.1 X.2.1 dX9_init_37 rfl (lv_at hl 0 rfl) ?_
  refine lv_bipush (v := 8) X.1 X.2.1 dX9_init_38 (by decide) ?_
  refine n_newa (atype := .int) (ty := .int) (k := 0) (N' := 8) (a0 := (8, .inl (fun _ => 0))) X S (gt_t (i := 234) (by decide +kernel) (by decide +kernel)) rfl rfl (fun C z => by cases z) (fun _ => rfl) (by decide) (by decide) (Nat.le_of_ble_eq_true rfl) (Nat.le_of_ble_eq_true rfl) (Nat.le_of_ble_eq_true rfl) dX9_init_40 (fun q4 H S => ?_)
  refine n_putF (ty := tyX9 6) (k := 6) X S hj clX9 (by decide) flX9_25 rfl rfl (by decide +kernel) rfl rfl (Nat.le_of_ble_eq_true rfl) dX9_init_42 (fun H locs S => ?_)
  refine lv_aload_n X.1 X.2.1 dX9_init_45 rfl (lv_at hl 0 rfl) ?_
  refine lv_sipush (v := 200) X.1 X.2.1 dX9_init_46 (by decide) ?_
  refine n_newa (atype := .boolean) (ty := .boolean) (k := 1) (N' := 200) (a0 := (200, .inl (fun _ => 0))) X S (gt_t (i := 235) (by decide +kernel) (by decide +kernel)) rfl rfl (fun C z => by cases z) (fun _ => rfl) (by decide) (by decide) (Nat.le_of_ble_eq_true rfl) (Nat.le_of_ble_eq_true rfl) (Nat.le_of_ble_eq_true rfl) dX9_init_49 (fun q5 H S => ?_)
  refine n_putF (ty := tyX9 7) (k := 7) X S hj clX9 (by decide) flX9_28 rfl rfl (by decide +kernel) rfl rfl (Nat.le_of_ble_eq_true rfl) dX9_init_51 (fun H locs S => ?_)
  exact ret H locs ls 54 (fun i => [q0, q1, q2, q3, q4, q5].getD i 0) S dX9_init_54
def dfX0 : List Value := [.null, .null, .null, .null]
def FX0 : (Nat → ClassId) → List Nat → (Nat → Nat) → List Value × va_W := fun cA av u => ([.ref (u 0), .ref (u 1), .ref (u 2), .ref (u 3)], [(u 0, .inl (cA 1, 6, .inl (fun _ => 0))), (u 1, .inl (cA 1, 6, .inl (fun _ => 0))), (u 2, .inl (cA 1, 24, .inl (fun _ => 0))), (u 3, .inl (cA 1, 16, .inl (fun _ => 0)))])
theorem dfX0_ok : ∀ j, j < 4 → defaultValue (tyX0 j) = vp_V dfX0 j := by decide +kernel
set_option maxHeartbeats 4000000 in
set_option maxRecDepth 20000 in
theorem ctX0 : Ctor yX0_init cX0_init 1 1 12 4 52 0 dfX0 0 FX0 := by
  refine Ctor_mk (by decide +kernel) rfl (by decide) ?_
  intro p l e s m args below meth c D cA A ws0 j a av ls X hj hav S hl ret
  have hav := List.eq_nil_of_length_eq_zero hav
  subst hav
  have hl : lv_has ls 1 [(0, .ref a)] := hl
  refine lv_aload_n X.1 X.2.1 dX0_init_0 rfl (lv_at hl 0 rfl) ?_
  refine n_obj X hl.1 (gt_t (i := 379) (by decide +kernel) (by decide +kernel)) (gt_t (i := 31) (by decide +kernel) (by decide +kernel)) obj_code (Nat.le_of_ble_eq_true rfl) (Nat.le_of_ble_eq_true rfl) dX0_init_1 ?_
  refine lv_aload_n X.1 X.2.1 dX0_init_4 rfl (lv_at hl 0 rfl) ?_
  refine lv_bipush (v := 6) X.1 X.2.1 dX0_init_5 (by decide) ?_
  refine n_newa (atype := .int) (ty := .int) (k := 0) (N' := 6) (a0 := (6, .inl (fun _ => 0))) X S (gt_t (i := 234) (by decide +kernel) (by decide +kernel)) rfl rfl (fun C z => by cases z) (fun _ => rfl) (by decide) (by decide) (Nat.le_of_ble_eq_true rfl) (Nat.le_of_ble_eq_true rfl) (Nat.le_of_ble_eq_true rfl) dX0_init_7 (fun q0 H S => ?_)
  refine n_putF (ty := tyX0 0) (k := 0) X S hj clX0 (by decide) flX0_9 rfl rfl (by decide +kernel) rfl rfl (Nat.le_of_ble_eq_true rfl) dX0_init_9 (fun H locs S => ?_)
  refine lv_aload_n X.1 X.2.1 dX0_init_12 rfl (lv_at hl 0 rfl) ?_
  refine lv_bipush (v := 6) X.1 X.2.1 dX0_init_13 (by decide) ?_
  refine n_newa (atype := .int) (ty := .int) (k := 0) (N' := 6) (a0 := (6, .inl (fun _ => 0))) X S (gt_t (i := 234) (by decide +kernel) (by decide +kernel)) rfl rfl (fun C z => by cases z) (fun _ => rfl) (by decide) (by decide) (Nat.le_of_ble_eq_true rfl) (Nat.le_of_ble_eq_true rfl) (Nat.le_of_ble_eq_true rfl) dX0_init_15 (fun q1 H S => ?_)
  refine n_putF (ty := tyX0 1) (k := 1) X S hj clX0 (by decide) flX0_15 rfl rfl (by decide +kernel) rfl rfl (Nat.le_of_ble_eq_true rfl) dX0_init_17 (fun H locs S => ?_)
  refine lv_aload_n X.1 X.2.1 dX0_init_20 rfl (lv_at hl 0 rfl) ?_
  refine lv_bipush (v := 24) X.1 X.2.1 dX0_init_21 (by decide) ?_
  refine n_newa (atype := .int) (ty := .int) (k := 0) (N' := 24) (a0 := (24, .inl (fun _ => 0))) X S (gt_t (i := 234) (by decide +kernel) (by decide +kernel)) rfl rfl (fun C z => by cases z) (fun _ => rfl) (by decide) (by decide) (Nat.le_of_ble_eq_true rfl) (Nat.le_of_ble_eq_true rfl) (Nat.le_of_ble_eq_true rfl) dX0_init_23 (fun q2 H S => ?_)
  refine n_putF (ty := tyX0 2) (k := 2) X S hj clX0 (by decide) flX0_18 rfl rfl (by decide +kernel) rfl rfl (Nat.le_of_ble_eq_true rfl) dX0_init_25 (fun H locs S => ?_)
  refine lv_aload_n X.1 X.2.1 dX0_init_28 rfl (lv_at hl 0 rfl) ?_
  refine lv_bipush (v := 16) X.1 X.2.1 dX0_init_29 (by decide) ?_
  refine n_newa (atype := .int) (ty := .int) (k := 0) (N' := 16) (a0 := (16, .inl (fun _ => 0))) X S (gt_t (i := 234) (by decide +kernel) (by decide +kernel)) rfl rfl (fun C z => by cases z) (fun _ => rfl) (by decide) (by decide) (Nat.le_of_ble_eq_true rfl) (Nat.le_of_ble_eq_true rfl) (Nat.le_of_ble_eq_true rfl) dX0_init_31 (fun q3 H S => ?_)
  refine n_putF (ty := tyX0 3) (k := 3) X S hj clX0 (by decide) flX0_21 rfl rfl (by decide +kernel) rfl rfl (Nat.le_of_ble_eq_true rfl) dX0_init_33 (fun H locs S => ?_)
  exact ret H locs ls 36 (fun i => [q0, q1, q2, q3].getD i 0) S dX0_init_36
def dfX4 : List Value := [.null, .null, .null, .null, .null, .null, .int 0]
def FX4 : (Nat → ClassId) → List Nat → (Nat → Nat) → List Value × va_W := fun cA av u => ([.ref (av.getD 0 0), .ref (u 0), .ref (u 1), .ref (u 2), .ref (u 3), .ref (u 4), .int 0], [(u 0, .inl (cA 1, 64, .inl (fun _ => 0))), (u 1, .inl (cA 1, 20, .inl (fun _ => 0))), (u 2, .inl (cA 1, 4, .inl (fun _ => 0))), (u 3, .inl (cA 1, 260, .inl (fun _ => 0))), (u 4, .inl (cA 1, 3, .inl (fun _ => 0)))])
theorem dfX4_ok : ∀ j, j < 7 → defaultValue (tyX4 j) = vp_V dfX4 j := by decide +kernel
set_option maxHeartbeats 4000000 in
set_option maxRecDepth 20000 in
theorem ctX4 : Ctor yX4_init cX4_init 2 1 12 5 351 4 dfX4 1 FX4 := by
  refine Ctor_mk (by decide +kernel) rfl (by decide) ?_
  intro p l e s m args below meth c D cA A ws0 j a av ls X hj hav S hl ret
  obtain ⟨x1, rfl⟩ := len1 hav
  have hl : lv_has ls 2 [(0, .ref a), (1, .ref x1)] := hl
  refine lv_aload_n X.1 X.2.1 dX4_init_0 rfl (lv_at hl 0 rfl) ?_
  refine n_obj X hl.1 (gt_t (i := 404) (by decide +kernel) (by decide +kernel)) (gt_t (i := 31) (by decide +kernel) (by decide +kernel)) obj_code (Nat.le_of_ble_eq_true rfl) (Nat.le_of_ble_eq_true rfl) dX4_init_1 ?_
  refine lv_aload_n X.1 X.2.1 dX4_init_4 rfl (lv_at hl 0 rfl) ?_
  refine lv_bipush (v := 64) X.1 X.2.1 dX4_init_5 (by decide) ?_
  refine n_newa (atype := .int) (ty := .int) (k := 0) (N' := 64) (a0 := (64, .inl (fun _ => 0))) X S (gt_t (i := 234) (by decide +kernel) (by decide +kernel)) rfl rfl (fun C z => by cases z) (fun _ => rfl) (by decide) (by decide) (Nat.le_of_ble_eq_true rfl) (Nat.le_of_ble_eq_true rfl) (Nat.le_of_ble_eq_true rfl) dX4_init_7 (fun q0 H S => ?_)
  refine n_putF (ty := tyX4 1) (k := 1) X S hj clX4 (by decide) flX4_9 rfl rfl (by decide +kernel) rfl rfl (Nat.le_of_ble_eq_true rfl) dX4_init_9 (fun H locs S => ?_)
  refine lv_aload_n X.1 X.2.1 dX4_init_12 rfl (lv_at hl 0 rfl) ?_
  refine lv_bipush (v := 20) X.1 X.2.1 dX4_init_13 (by decide) ?_
  refine n_newa (atype := .int) (ty := .int) (k := 0) (N' := 20) (a0 := (20, .inl (fun _ => 0))) X S (gt_t (i := 234) (by decide +kernel) (by decide +kernel)) rfl rfl (fun C z => by cases z) (fun _ => rfl) (by decide) (by decide) (Nat.le_of_ble_eq_true rfl) (Nat.le_of_ble_eq_true rfl) (Nat.le_of_ble_eq_true rfl) dX4_init_15 (fun q1 H S => ?_)
  refine n_putF (ty := tyX4 2) (k := 2) X S hj clX4 (by decide) flX4_15 rfl rfl (by decide +kernel) rfl rfl (Nat.le_of_ble_eq_true rfl) dX4_init_17 (fun H locs S => ?_)
  refine lv_aload_n X.1 X.2.1 dX4_init_20 rfl (lv_at hl 0 rfl) ?_
  refine lv_iconst (v := 4) X.1 X.2.1 dX4_init_21 rfl ?_
  refine n_newa (atype := .int) (ty := .int) (k := 0) (N' := 4) (a0 := (4, .inl (fun _ => 0))) X S (gt_t (i := 234) (by decide +kernel) (by decide +kernel)) rfl rfl (fun C z => by cases z) (fun _ => rfl) (by decide) (by decide) (Nat.le_of_ble_eq_true rfl) (Nat.le_of_ble_eq_true rfl) (Nat.le_of_ble_eq_true rfl) dX4_init_22 (fun q2 H S => ?_)
  refine n_putF (ty := tyX4 3) (k := 3) X S hj clX4 (by decide) flX4_18 rfl rfl (by decide +kernel) rfl rfl (Nat.le_of_ble_eq_true rfl) dX4_init_24 (fun H locs S => ?_)
  refine lv_aload_n X.1 X.2.1 dX4_init_27 rfl (lv_at hl 0 rfl) ?_
  refine lv_sipush (v := 260) X.1 X.2.1 dX4_init_28 (by decide) ?_
  refine n_newa (atype := .int) (ty := .int) (k := 0) (N' := 260) (a0 := (260, .inl (fun _ => 0))) X S (gt_t (i := 234) (by decide +kernel) (by decide +kernel)) rfl rfl (fun C z => by cases z) (fun _ => rfl) (by decide) (by decide) (Nat.le_of_ble_eq_true rfl) (Nat.le_of_ble_eq_true rfl) (Nat.le_of_ble_eq_true rfl) dX4_init_31 (fun q3 H S => ?_)
  refine n_putF (ty := tyX4 4) (k := 4) X S hj clX4 (by decide) flX4_21 rfl rfl (by decide +kernel) rfl rfl (Nat.le_of_ble_eq_true rfl) dX4_init_33 (fun H locs S => ?_)
  refine lv_aload_n X.1 X.2.1 dX4_init_36 rfl (lv_at hl 0 rfl) ?_
  refine lv_iconst (v := 3) X.1 X.2.1 dX4_init_37 rfl ?_
  refine n_newa (atype := .int) (ty := .int) (k := 0) (N' := 3) (a0 := (3, .inl (fun _ => 0))) X S (gt_t (i := 234) (by decide +kernel) (by decide +kernel)) rfl rfl (fun C z => by cases z) (fun _ => rfl) (by decide) (by decide) (Nat.le_of_ble_eq_true rfl) (Nat.le_of_ble_eq_true rfl) (Nat.le_of_ble_eq_true rfl) dX4_init_38 (fun q4 H S => ?_)
  refine n_putF (ty := tyX4 5) (k := 5) X S hj clX4 (by decide) flX4_24 rfl rfl (by decide +kernel) rfl rfl (Nat.le_of_ble_eq_true rfl) dX4_init_40 (fun H locs S => ?_)
  refine lv_aload_n X.1 X.2.1 dX4_init_43 rfl (lv_at hl 0 rfl) ?_
  refine lv_aload_n X.1 X.2.1 dX4_init_44 rfl (lv_at hl 1 rfl) ?_
  refine n_putF (ty := tyX4 0) (k := 0) X S hj clX4 (by decide) flX4_27 rfl rfl (by decide +kernel) rfl rfl (Nat.le_of_ble_eq_true rfl) dX4_init_45 (fun H locs S => ?_)
  exact ret H locs ls 48 (fun i => [q0, q1, q2, q3, q4].getD i 0) S dX4_init_48
def dfX2 : List Value := [.null, .null, .null, .null]
def FX2 : (Nat → ClassId) → List Nat → (Nat → Nat) → List Value × va_W := fun cA av u => ([.ref (av.getD 0 0), .ref (u 0), .ref (u 1), .ref (u 2)], [(u 0, .inl (cA 1, 64, .inl (fun _ => 0))), (u 1, .inl (cA 1, 64, .inl (fun _ => 0))), (u 2, .inl (cA 1, 64, .inl (fun _ => 0)))])
theorem dfX2_ok : ∀ j, j < 4 → defaultValue (tyX2 j) = vp_V dfX2 j := by decide +kernel
set_option maxHeartbeats 4000000 in
set_option maxRecDepth 20000 in
theorem ctX2 : Ctor yX2_init cX2_init 2 1 12 3 192 2 dfX2 1 FX2 := by
  refine Ctor_mk (by decide +kernel) rfl (by decide) ?_
  intro p l e s m args below meth c D cA A ws0 j a av ls X hj hav S hl ret
  obtain ⟨x1, rfl⟩ := len1 hav
  have hl : lv_has ls 2 [(0, .ref a), (1, .ref x1)] := hl
  refine lv_aload_n X.1 X.2.1 dX2_init_0 rfl (lv_at hl 0 rfl) ?_
  refine n_obj X hl.1 (gt_t (i := 432) (by decide +kernel) (by decide +kernel)) (gt_t (i := 31) (by decide +kernel) (by decide +kernel)) obj_code (Nat.le_of_ble_eq_true rfl) (Nat.le_of_ble_eq_true rfl) dX2_init_1 ?_
  refine lv_aload_n X.1 X.2.1 dX2_init_4 rfl (lv_at hl 0 rfl) ?_
  refine lv_bipush (v := 64) X.1 X.2.1 dX2_init_5 (by decide) ?_
  refine n_newa (atype := .int) (ty := .int) (k := 0) (N' := 64) (a0 := (64, .inl (fun _ => 0))) X S (gt_t (i := 234) (by decide +kernel) (by decide +kernel)) rfl rfl (fun C z => by cases z) (fun _ => rfl) (by decide) (by decide) (Nat.le_of_ble_eq_true rfl) (Nat.le_of_ble_eq_true rfl) (Nat.le_of_ble_eq_true rfl) dX2_init_7 (fun q0 H S => ?_)
  refine n_putF (ty := tyX2 1) (k := 1) X S hj clX2 (by decide) flX2_9 rfl rfl (by decide +kernel) rfl rfl (Nat.le_of_ble_eq_true rfl) dX2_init_9 (fun H locs S => ?_)
  refine lv_aload_n X.1 X.2.1 dX2_init_12 rfl (lv_at hl 0 rfl) ?_
  refine lv_bipush (v := 64) X.1 X.2.1 dX2_init_13 (by decide) ?_
  refine n_newa (atype := .int) (ty := .int) (k := 0) (N' := 64) (a0 := (64, .inl (fun _ => 0))) X S (gt_t (i := 234) (by decide +kernel) (by decide +kernel)) rfl rfl (fun C z => by cases z) (fun _ => rfl) (by decide) (by decide) (Nat.le_of_ble_eq_true rfl) (Nat.le_of_ble_eq_true rfl) (Nat.le_of_ble_eq_true rfl) dX2_init_15 (fun q1 H S => ?_)
  refine n_putF (ty := tyX2 2) (k := 2) X S hj clX2 (by decide) flX2_15 rfl rfl (by decide +kernel) rfl rfl (Nat.le_of_ble_eq_true rfl) dX2_init_17 (fun H locs S => ?_)
  refine lv_aload_n X.1 X.2.1 dX2_init_20 rfl (lv_at hl 0 rfl) ?_
  refine lv_bipush (v := 64) X.1 X.2.1 dX2_init_21 (by decide) ?_
  refine n_newa (atype := .int) (ty := .int) (k := 0) (N' := 64) (a0 := (64, .inl (fun _ => 0))) X S (gt_t (i := 234) (by decide +kernel) (by decide +kernel)) rfl rfl (fun C z => by cases z) (fun _ => rfl) (by decide) (by decide) (Nat.le_of_ble_eq_true rfl) (Nat.le_of_ble_eq_true rfl) (Nat.le_of_ble_eq_true rfl) dX2_init_23 (fun q2 H S => ?_)
  refine n_putF (ty := tyX2 3) (k := 3) X S hj clX2 (by decide) flX2_18 rfl rfl (by decide +kernel) rfl rfl (Nat.le_of_ble_eq_true rfl) dX2_init_25 (fun H locs S => ?_)
  refine lv_aload_n X.1 X.2.1 dX2_init_28 rfl (lv_at hl 0 rfl) ?_
  refine lv_aload_n X.1 X.2.1 dX2_init_29 rfl (lv_at hl 1 rfl) ?_
  refine n_putF (ty := tyX2 0) (k := 0) X S hj clX2 (by decide) flX2_21 rfl rfl (by decide +kernel) rfl rfl (Nat.le_of_ble_eq_true rfl) dX2_init_30 (fun H locs S => ?_)
  exact ret H locs ls 33 (fun i => [q0, q1, q2].getD i 0) S dX2_init_33
def dfX5 : List Value := [.null, .null, .null, .long 0, .long 0, .null, .null, .null, .null, .null, .null, .null]
def FX5 : (Nat → ClassId) → List Nat → (Nat → Nat) → List Value × va_W := fun cA av u => ([.ref (av.getD 0 0), .ref (av.getD 1 0), .ref (u 0), .long 0, .long 0, .ref (u 1), .ref (u 2), .ref (u 3), .ref (u 4), .ref (u 5), .ref (u 6), .ref (u 7)], [(u 0, .inl (cA 1, 64, .inl (fun _ => 0))), (u 1, .inl (cA 1, 192, .inl (fun _ => 0))), (u 2, .inl (cA 1, 64, .inl (fun _ => 0))), (u 3, .inl (cA 4, 64, .inr (.inl (fun _ => 0)))), (u 4, .inl (cA 4, 64, .inr (.inl (fun _ => 0)))), (u 5, .inl (cA 4, 64, .inr (.inl (fun _ => 0)))), (u 6, .inl (cA 4, 64, .inr (.inl (fun _ => 0)))), (u 7, .inl (cA 1, 64, .inl (fun _ => 0)))])
theorem dfX5_ok : ∀ j, j < 12 → defaultValue (tyX5 j) = vp_V dfX5 j := by decide +kernel
set_option maxHeartbeats 4000000 in
set_option maxRecDepth 20000 in
theorem ctX5 : Ctor yX5_init cX5_init 3 1 12 8 640 5 dfX5 2 FX5 := by
  refine Ctor_mk (by decide +kernel) rfl (by decide) ?_
  intro p l e s m args below meth c D cA A ws0 j a av ls X hj hav S hl ret
  obtain ⟨x1, x2, rfl⟩ := len2 hav
  have hl : lv_has ls 3 [(0, .ref a), (1, .ref x1), (2, .ref x2)] := hl
  refine lv_aload_n X.1 X.2.1 dX5_init_0 rfl (lv_at hl 0 rfl) ?_
  refine n_obj X hl.1 (gt_t (i := 458) (by decide +kernel) (by decide +kernel)) (gt_t (i := 31) (by decide +kernel) (by decide +kernel)) obj_code (Nat.le_of_ble_eq_true rfl) (Nat.le_of_ble_eq_true rfl) dX5_init_1 ?_
  refine lv_aload_n X.1 X.2.1 dX5_init_4 rfl (lv_at hl 0 rfl) ?_
  refine lv_bipush (v := 64) X.1 X.2.1 dX5_init_5 (by decide) ?_
  refine n_newa (atype := .int) (ty := .int) (k := 0) (N' := 64) (a0 := (64, .inl (fun _ => 0))) X S (gt_t (i := 234) (by decide +kernel) (by decide +kernel)) rfl rfl (fun C z => by cases z) (fun _ => rfl) (by decide) (by decide) (Nat.le_of_ble_eq_true rfl) (Nat.le_of_ble_eq_true rfl) (Nat.le_of_ble_eq_true rfl) dX5_init_7 (fun q0 H S => ?_)
  refine n_putF (ty := tyX5 2) (k := 2) X S hj clX5 (by decide) flX5_9 rfl rfl (by decide +kernel) rfl rfl (Nat.le_of_ble_eq_true rfl) dX5_init_9 (fun H locs S => ?_)
  refine lv_aload_n X.1 X.2.1 dX5_init_12 rfl (lv_at hl 0 rfl) ?_
  refine lv_sipush (v := 192) X.1 X.2.1 dX5_init_13 (by decide) ?_
  refine n_newa (atype := .int) (ty := .int) (k := 0) (N' := 192) (a0 := (192, .inl (fun _ => 0))) X S (gt_t (i := 234) (by decide +kernel) (by decide +kernel)) rfl rfl (fun C z => by cases z) (fun _ => rfl) (by decide) (by decide) (Nat.le_of_ble_eq_true rfl) (Nat.le_of_ble_eq_true rfl) (Nat.le_of_ble_eq_true rfl) dX5_init_16 (fun q1 H S => ?_)
  refine n_putF (ty := tyX5 5) (k := 5) X S hj clX5 (by decide) flX5_15 rfl rfl (by decide +kernel) rfl rfl (Nat.le_of_ble_eq_true rfl) dX5_init_18 (fun H locs S => ?_)
  refine lv_aload_n X.1 X.2.1 dX5_init_21 rfl (lv_at hl 0 rfl) ?_
  refine lv_bipush (v := 64) X.1 X.2.1 dX5_init_22 (by decide) ?_
  refine n_newa (atype := .int) (ty := .int) (k := 0) (N' := 64) (a0 := (64, .inl (fun _ => 0))) X S (gt_t (i := 234) (by decide +kernel) (by decide +kernel)) rfl rfl (fun C z => by cases z) (fun _ => rfl) (by decide) (by decide) (Nat.le_of_ble_eq_true rfl) (Nat.le_of_ble_eq_true rfl) (Nat.le_of_ble_eq_true rfl) dX5_init_24 (fun q2 H S => ?_)
  refine n_putF (ty := tyX5 6) (k := 6) X S hj clX5 (by decide) flX5_18 rfl rfl (by decide +kernel) rfl rfl (Nat.le_of_ble_eq_true rfl) dX5_init_26 (fun H locs S => ?_)
  refine lv_aload_n X.1 X.2.1 dX5_init_29 rfl (lv_at hl 0 rfl) ?_
  refine lv_bipush (v := 64) X.1 X.2.1 dX5_init_30 (by decide) ?_
  refine n_newa (atype := .long) (ty := .long) (k := 3) (N' := 64) (a0 := (64, .inr (.inl (fun _ => 0)))) X S (gt_t (i := 120) (by decide +kernel) (by decide +kernel)) rfl rfl (fun C z => by cases z) (fun _ => rfl) (by decide) (by decide) (Nat.le_of_ble_eq_true rfl) (Nat.le_of_ble_eq_true rfl) (Nat.le_of_ble_eq_true rfl) dX5_init_32 (fun q3 H S => ?_)
  refine n_putF (ty := tyX5 7) (k := 7) X S hj clX5 (by decide) flX5_21 rfl rfl (by decide +kernel) rfl rfl (Nat.le_of_ble_eq_true rfl) dX5_init_34 (fun H locs S => ?_)
  refine lv_aload_n X.1 X.2.1 dX5_init_37 rfl (lv_at hl 0 rfl) ?_
  refine lv_bipush (v := 64) X.1 X.2.1 dX5_init_38 (by decide) ?_
  refine n_newa (atype := .long) (ty := .long) (k := 3) (N' := 64) (a0 := (64, .inr (.inl (fun _ => 0)))) X S (gt_t (i := 120) (by decide +kernel) (by decide +kernel)) rfl rfl (fun C z => by cases z) (fun _ => rfl) (by decide) (by decide) (Nat.le_of_ble_eq_true rfl) (Nat.le_of_ble_eq_true rfl) (Nat.le_of_ble_eq_true rfl) dX5_init_40 (fun q4 H S => ?_)
  refine n_putF (ty := tyX5 8) (k := 8) X S hj clX5 (by decide) flX5_25 rfl rfl (by decide +kernel) rfl rfl (Nat.le_of_ble_eq_true rfl) dX5_init_42 (fun H locs S => ?_)
  refine lv_aload_n X.1 X.2.1 dX5_init_45 rfl (lv_at hl 0 rfl) ?_
  refine lv_bipush (v := 64) X.1 X.2.1 dX5_init_46 (by decide) ?_
  refine n_newa (atype := .long) (ty := .long) (k := 3) (N' := 64) (a0 := (64, .inr (.inl (fun _ => 0)))) X S (gt_t (i := 120) (by decide +kernel) (by decide +kernel)) rfl rfl (fun C z => by cases z) (fun _ => rfl) (by decide) (by decide) (Nat.le_of_ble_eq_true rfl) (Nat.le_of_ble_eq_true rfl) (Nat.le_of_ble_eq_true rfl) dX5_init_48 (fun q5 H S => ?_)
  refine n_putF (ty := tyX5 9) (k := 9) X S hj clX5 (by decide) flX5_28 rfl rfl (by decide +kernel) rfl rfl (Nat.le_of_ble_eq_true rfl) dX5_init_50 (fun H locs S => ?_)
  refine lv_aload_n X.1 X.2.1 dX5_init_53 rfl (lv_at hl 0 rfl) ?_
  refine lv_bipush (v := 64) X.1 X.2.1 dX5_init_54 (by decide) ?_
  refine n_newa (atype := .long) (ty := .long) (k := 3) (N' := 64) (a0 := (64, .inr (.inl (fun _ => 0)))) X S (gt_t (i := 120) (by decide +kernel) (by decide +kernel)) rfl rfl (fun C z => by cases z) (fun _ => rfl) (by decide) (by decide) (Nat.le_of_ble_eq_true rfl) (Nat.le_of_ble_eq_true rfl) (Nat.le_of_ble_eq_true rfl) dX5_init_56 (fun q6 H S => ?_)
  refine n_putF (ty := tyX5 10) (k := 10) X S hj clX5 (by decide) flX5_31 rfl rfl (by decide +kernel) rfl rfl (Nat.le_of_ble_eq_true rfl) dX5_init_58 (fun H locs S => ?_)
  refine lv_aload_n X.1 X.2.1 dX5_init_61 rfl (lv_at hl 0 rfl) ?_
  refine lv_bipush (v := 64) X.1 X.2.1 dX5_init_62 (by decide) ?_
  refine n_newa (atype := .int) (ty := .int) (k := 0) (N' := 64) (a0 := (64, .inl (fun _ => 0))) X S (gt_t (i := 234) (by decide +kernel) (by decide +kernel)) rfl rfl (fun C z => by cases z) (fun _ => rfl) (by decide) (by decide) (Nat.le_of_ble_eq_true rfl) (Nat.le_of_ble_eq_true rfl) (Nat.le_of_ble_eq_true rfl) dX5_init_64 (fun q7 H S => ?_)
  refine n_putF (ty := tyX5 11) (k := 11) X S hj clX5 (by decide) flX5_34 rfl rfl (by decide +kernel) rfl rfl (Nat.le_of_ble_eq_true rfl) dX5_init_66 (fun H locs S => ?_)
  refine lv_aload_n X.1 X.2.1 dX5_init_69 rfl (lv_at hl 0 rfl) ?_
  refine lv_aload_n X.1 X.2.1 dX5_init_70 rfl (lv_at hl 1 rfl) ?_
  refine n_putF (ty := tyX5 0) (k := 0) X S hj clX5 (by decide) flX5_37 rfl rfl (by decide +kernel) rfl rfl (Nat.le_of_ble_eq_true rfl) dX5_init_71 (fun H locs S => ?_)
  refine lv_aload_n X.1 X.2.1 dX5_init_74 rfl (lv_at hl 0 rfl) ?_
  refine lv_aload_n X.1 X.2.1 dX5_init_75 rfl (lv_at hl 2 rfl) ?_
  refine n_putF (ty := tyX5 1) (k := 1) X S hj clX5 (by decide) flX5_41 rfl rfl (by decide +kernel) rfl rfl (Nat.le_of_ble_eq_true rfl) dX5_init_76 (fun H locs S => ?_)
  exact ret H locs ls 79 (fun i => [q0, q1, q2, q3, q4, q5, q6, q7].getD i 0) S dX5_init_79
def dfX7 : List Value := [.null, .null, .null, .null, .int 0, .null, .null, .null, .null, .null, .null, .null, .null, .null, .null, .null, .int 0, .int 0]
def FX7 : (Nat → ClassId) → List Nat → (Nat → Nat) → List Value × va_W := fun cA av u => ([.ref (av.getD 0 0), .ref (av.getD 1 0), .ref (av.getD 2 0), .ref (u 0), .int 0, .ref (u 1), .ref (u 2), .ref (u 3), .ref (u 4), .ref (u 5), .ref (u 6), .ref (u 7), .ref (u 8), .ref (u 9), .ref (u 10), .ref (u 11), .int 0, .int 0], [(u 0, .inl (cA 1, 64, .inl (fun _ => 0))), (u 1, .inl (cA 1, 64, .inl (fun _ => 0))), (u 2, .inl (cA 1, 64, .inl (fun _ => 0))), (u 3, .inl (cA 1, 192, .inl (fun _ => 0))), (u 4, .inl (cA 1, 3, .inl (fun _ => 0))), (u 5, .inl (cA 1, 64, .inl (fun _ => 0))), (u 6, .inl (cA 2, 260, .inl (fun _ => 0))), (u 7, .inl (cA 1, 2, .inl (fun _ => 0))), (u 8, .inl (cA 1, 64, .inl (fun _ => 0))), (u 9, .inl (cA 1, 64, .inl (fun _ => 0))), (u 10, .inl (cA 1, 64, .inl (fun _ => 0))), (u 11, .inl (cA 1, 64, .inl (fun _ => 0)))])
theorem dfX7_ok : ∀ j, j < 18 → defaultValue (tyX7 j) = vp_V dfX7 j := by decide +kernel
set_option maxHeartbeats 4000000 in
set_option maxRecDepth 20000 in
theorem ctX7 : Ctor yX7_init cX7_init 4 1 12 12 969 7 dfX7 3 FX7 := by
  refine Ctor_mk (by decide +kernel) rfl (by decide) ?_
  intro p l e s m args below meth c D cA A ws0 j a av ls X hj hav S hl ret
  obtain ⟨x1, x2, x3, rfl⟩ := len3 hav
  have hl : lv_has ls 4 [(0, .ref a), (1, .ref x1), (2, .ref x2), (3, .ref x3)] := hl
  refine lv_aload_n X.1 X.2.1 dX7_init_0 rfl (lv_at hl 0 rfl) ?_
  refine n_obj X hl.1 (gt_t (i := 515) (by decide +kernel) (by decide +kernel)) (gt_t (i := 31) (by decide +kernel) (by decide +kernel)) obj_code (Nat.le_of_ble_eq_true rfl) (Nat.le_of_ble_eq_true rfl) dX7_init_1 ?_
  refine lv_aload_n X.1 X.2.1 dX7_init_4 rfl (lv_at hl 0 rfl) ?_
  refine lv_bipush (v := 64) X.1 X.2.1 dX7_init_5 (by decide) ?_
  refine n_newa (atype := .int) (ty := .int) (k := 0) (N' := 64) (a0 := (64, .inl (fun _ => 0))) X S (gt_t (i := 234) (by decide +kernel) (by decide +kernel)) rfl rfl (fun C z => by cases z) (fun _ => rfl) (by decide) (by decide) (Nat.le_of_ble_eq_true rfl) (Nat.le_of_ble_eq_true rfl) (Nat.le_of_ble_eq_true rfl) dX7_init_7 (fun q0 H S => ?_)
  refine n_putF (ty := tyX7 3) (k := 3) X S hj clX7 (by decide) flX7_9 rfl rfl (by decide +kernel) rfl rfl (Nat.le_of_ble_eq_true rfl) dX7_init_9 (fun H locs S => ?_)
  refine lv_aload_n X.1 X.2.1 dX7_init_12 rfl (lv_at hl 0 rfl) ?_
  refine lv_bipush (v := 64) X.1 X.2.1 dX7_init_13 (by decide) ?_
  refine n_newa (atype := .int) (ty := .int) (k := 0) (N' := 64) (a0 := (64, .inl (fun _ => 0))) X S (gt_t (i := 234) (by decide +kernel) (by decide +kernel)) rfl rfl (fun C z => by cases z) (fun _ => rfl) (by decide) (by decide) (Nat.le_of_ble_eq_true rfl) (Nat.le_of_ble_eq_true rfl) (Nat.le_of_ble_eq_true rfl) dX7_init_15 (fun q1 H S => ?_)
  refine n_putF (ty := tyX7 5) (k := 5) X S hj clX7 (by decide) flX7_15 rfl rfl (by decide +kernel) rfl rfl (Nat.le_of_ble_eq_true rfl) dX7_init_17 (fun H locs S => ?_)
  refine lv_aload_n X.1 X.2.1 dX7_init_20 rfl (lv_at hl 0 rfl) ?_
  refine lv_bipush (v := 64) X.1 X.2.1 dX7_init_21 (by decide) ?_
  refine n_newa (atype := .int) (ty := .int) (k := 0) (N' := 64) (a0 := (64, .inl (fun _ => 0))) X S (gt_t (i := 234) (by decide +kernel) (by decide +kernel)) rfl rfl (fun C z => by cases z) (fun _ => rfl) (by decide) (by decide) (Nat.le_of_ble_eq_true rfl) (Nat.le_of_ble_eq_true rfl) (Nat.le_of_ble_eq_true rfl) dX7_init_23 (fun q2 H S => ?_)
  refine n_putF (ty := tyX7 6) (k := 6) X S hj clX7 (by decide) flX7_18 rfl rfl (by decide +kernel) rfl rfl (Nat.le_of_ble_eq_true rfl) dX7_init_25 (fun H locs S => ?_)
  refine lv_aload_n X.1 X.2.1 dX7_init_28 rfl (lv_at hl 0 rfl) ?_
  refine lv_sipush (v := 192) X.1 X.2.1 dX7_init_29 (by decide) ?_
  refine n_newa (atype := .int) (ty := .int) (k := 0) (N' := 192) (a0 := (192, .inl (fun _ => 0))) X S (gt_t (i := 234) (by decide +kernel) (by decide +kernel)) rfl rfl (fun C z => by cases z) (fun _ => rfl) (by decide) (by decide) (Nat.le_of_ble_eq_true rfl) (Nat.le_of_ble_eq_true rfl) (Nat.le_of_ble_eq_true rfl) dX7_init_32 (fun q3 H S => ?_)
  refine n_putF (ty := tyX7 7) (k := 7) X S hj clX7 (by decide) flX7_21 rfl rfl (by decide +kernel) rfl rfl (Nat.le_of_ble_eq_true rfl) dX7_init_34 (fun H locs S => ?_)
  refine lv_aload_n X.1 X.2.1 dX7_init_37 rfl (lv_at hl 0 rfl) ?_
  refine lv_iconst (v := 3) X.1 X.2.1 dX7_init_38 rfl ?_
  refine n_newa (atype := .int) (ty := .int) (k := 0) (N' := 3) (a0 := (3, .inl (fun _ => 0))) X S (gt_t (i := 234) (by decide +kernel) (by decide +kernel)) rfl rfl (fun C z => by cases z) (fun _ => rfl) (by decide) (by decide) (Nat.le_of_ble_eq_true rfl) (Nat.le_of_ble_eq_true rfl) (Nat.le_of_ble_eq_true rfl) dX7_init_39 (fun q4 H S => ?_)
  refine n_putF (ty := tyX7 8) (k := 8) X S hj clX7 (by decide) flX7_24 rfl rfl (by decide +kernel) rfl rfl (Nat.le_of_ble_eq_true rfl) dX7_init_41 (fun H locs S => ?_)
  refine lv_aload_n X.1 X.2.1 dX7_init_44 rfl (lv_at hl 0 rfl) ?_
  refine lv_bipush (v := 64) X.1 X.2.1 dX7_init_45 (by decide) ?_
  refine n_newa (atype := .int) (ty := .int) (k := 0) (N' := 64) (a0 := (64, .inl (fun _ => 0))) X S (gt_t (i := 234) (by decide +kernel) (by decide +kernel)) rfl rfl (fun C z => by cases z) (fun _ => rfl) (by decide) (by decide) (Nat.le_of_ble_eq_true rfl) (Nat.le_of_ble_eq_true rfl) (Nat.le_of_ble_eq_true rfl) dX7_init_47 (fun q5 H S => ?_)
  refine n_putF (ty := tyX7 9) (k := 9) X S hj clX7 (by decide) flX7_27 rfl rfl (by decide +kernel) rfl rfl (Nat.le_of_ble_eq_true rfl) dX7_init_49 (fun H locs S => ?_)
  refine lv_aload_n X.1 X.2.1 dX7_init_52 rfl (lv_at hl 0 rfl) ?_
  refine lv_sipush (v := 260) X.1 X.2.1 dX7_init_53 (by decide) ?_
  refine n_newa (atype := .boolean) (ty := .boolean) (k := 1) (N' := 260) (a0 := (260, .inl (fun _ => 0))) X S (gt_t (i := 235) (by decide +kernel) (by decide +kernel)) rfl rfl (fun C z => by cases z) (fun _ => rfl) (by decide) (by decide) (Nat.le_of_ble_eq_true rfl) (Nat.le_of_ble_eq_true rfl) (Nat.le_of_ble_eq_true rfl) dX7_init_56 (fun q6 H S => ?_)
  refine n_putF (ty := tyX7 10) (k := 10) X S hj clX7 (by decide) flX7_30 rfl rfl (by decide +kernel) rfl rfl (Nat.le_of_ble_eq_true rfl) dX7_init_58 (fun H locs S => ?_)
  refine lv_aload_n X.1 X.2.1 dX7_init_61 rfl (lv_at hl 0 rfl) ?_
  refine lv_iconst (v := 2) X.1 X.2.1 dX7_init_62 rfl ?_
  refine n_newa (atype := .int) (ty := .int) (k := 0) (N' := 2) (a0 := (2, .inl (fun _ => 0))) X S (gt_t (i := 234) (by decide +kernel) (by decide +kernel)) rfl rfl (fun C z => by cases z) (fun _ => rfl) (by decide) (by decide) (Nat.le_of_ble_eq_true rfl) (Nat.le_of_ble_eq_true rfl) (Nat.le_of_ble_eq_true rfl) dX7_init_63 (fun q7 H S => ?_)
  refine n_putF (ty := tyX7 11) (k := 11) X S hj clX7 (by decide) flX7_34 rfl rfl (by decide +kernel) rfl rfl (Nat.le_of_ble_eq_true rfl) dX7_init_65 (fun H locs S => ?_)
  refine lv_aload_n X.1 X.2.1 dX7_init_68 rfl (lv_at hl 0 rfl) ?_
  refine lv_bipush (v := 64) X.1 X.2.1 dX7_init_69 (by decide) ?_
  refine n_newa (atype := .int) (ty := .int) (k := 0) (N' := 64) (a0 := (64, .inl (fun _ => 0))) X S (gt_t (i := 234) (by decide +kernel) (by decide +kernel)) rfl rfl (fun C z => by cases z) (fun _ => rfl) (by decide) (by decide) (Nat.le_of_ble_eq_true rfl) (Nat.le_of_ble_eq_true rfl) (Nat.le_of_ble_eq_true rfl) dX7_init_71 (fun q8 H S => ?_)
  refine n_putF (ty := tyX7 12) (k := 12) X S hj clX7 (by decide) flX7_37 rfl rfl (by decide +kernel) rfl rfl (Nat.le_of_ble_eq_true rfl) dX7_init_73 (fun H locs S => ?_)
  refine lv_aload_n X.1 X.2.1 dX7_init_76 rfl (lv_at hl 0 rfl) ?_
  refine lv_bipush (v := 64) X.1 X.2.1 dX7_init_77 (by decide) ?_
  refine n_newa (atype := .int) (ty := .int) (k := 0) (N' := 64) (a0 := (64, .inl (fun _ => 0))) X S (gt_t (i := 234) (by decide +kernel) (by decide +kernel)) rfl rfl (fun C z => by cases z) (fun _ => rfl) (by decide) (by decide) (Nat.le_of_ble_eq_true rfl) (Nat.le_of_ble_eq_true rfl) (Nat.le_of_ble_eq_true rfl) dX7_init_79 (fun q9 H S => ?_)
  refine n_putF (ty := tyX7 13) (k := 13) X S hj clX7 (by decide) flX7_40 rfl rfl (by decide +kernel) rfl rfl (Nat.le_of_ble_eq_true rfl) dX7_init_81 (fun H locs S => ?_)
  refine lv_aload_n X.1 X.2.1 dX7_init_84 rfl (lv_at hl 0 rfl) ?_
  refine lv_bipush (v := 64) X.1 X.2.1 dX7_init_85 (by decide) ?_
  refine n_newa (atype := .int) (ty := .int) (k := 0) (N' := 64) (a0 := (64, .inl (fun _ => 0))) X S (gt_t (i := 234) (by decide +kernel) (by decide +kernel)) rfl rfl (fun C z => by cases z) (fun _ => rfl) (by decide) (by decide) (Nat.le_of_ble_eq_true rfl) (Nat.le_of_ble_eq_true rfl) (Nat.le_of_ble_eq_true rfl) dX7_init_87 (fun q10 H S => ?_)
  refine n_putF (ty := tyX7 14) (k := 14) X S hj clX7 (by decide) flX7_43 rfl rfl (by decide +kernel) rfl rfl (Nat.le_of_ble_eq_true rfl) dX7_init_89 (fun H locs S => ?_)
  refine lv_aload_n X.1 X.2.1 dX7_init_92 rfl (lv_at hl 0 rfl) ?_
  refine lv_bipush (v := 64) X.1 X.2.1 dX7_init_93 (by decide) ?_
  refine n_newa (atype := .int) (ty := .int) (k := 0) (N' := 64) (a0 := (64, .inl (fun _ => 0))) X S (gt_t (i := 234) (by decide +kernel) (by decide +kernel)) rfl rfl (fun C z => by cases z) (fun _ => rfl) (by decide) (by decide) (Nat.le_of_ble_eq_true rfl) (Nat.le_of_ble_eq_true rfl) (Nat.le_of_ble_eq_true rfl) dX7_init_95 (fun q11 H S => ?_)
  refine n_putF (ty := tyX7 15) (k := 15) X S hj clX7 (by decide) flX7_46 rfl rfl (by decide +kernel) rfl rfl (Nat.le_of_ble_eq_true rfl) dX7_init_97 (fun H locs S => ?_)
  refine lv_aload_n X.1 X.2.1 dX7_init_100 rfl (lv_at hl 0 rfl) ?_
  refine lv_aload_n X.1 X.2.1 dX7_init_101 rfl (lv_at hl 1 rfl) ?_
  refine n_putF (ty := tyX7 0) (k := 0) X S hj clX7 (by decide) flX7_49 rfl rfl (by decide +kernel) rfl rfl (Nat.le_of_ble_eq_true rfl) dX7_init_102 (fun H locs S => ?_)
  refine lv_aload_n X.1 X.2.1 dX7_init_105 rfl (lv_at hl 0 rfl) ?_
  refine lv_aload_n X.1 X.2.1 dX7_init_106 rfl (lv_at hl 2 rfl) ?_
  refine n_putF (ty := tyX7 1) (k := 1) X S hj clX7 (by decide) flX7_53 rfl rfl (by decide +kernel) rfl rfl (Nat.le_of_ble_eq_true rfl) dX7_init_107 (fun H locs S => ?_)
  refine lv_aload_n X.1 X.2.1 dX7_init_110 rfl (lv_at hl 0 rfl) ?_
  refine lv_aload_n X.1 X.2.1 dX7_init_111 rfl (lv_at hl 3 rfl) ?_
  refine n_putF (ty := tyX7 2) (k := 2) X S hj clX7 (by decide) flX7_57 rfl rfl (by decide +kernel) rfl rfl (Nat.le_of_ble_eq_true rfl) dX7_init_112 (fun H locs S => ?_)
  exact ret H locs ls 115 (fun i => [q0, q1, q2, q3, q4, q5, q6, q7, q8, q9, q10, q11].getD i 0) S dX7_init_115
def dfX1 : List Value := [.null, .null, .null, .null, .null, .null, .null, .int 0]
def FX1 : (Nat → ClassId) → List Nat → (Nat → Nat) → List Value × va_W := fun cA av u => ([.ref (av.getD 0 0), .ref (av.getD 1 0), .ref (av.getD 2 0), .ref (u 0), .ref (u 1), .ref (u 2), .ref (u 3), .int 0], [(u 0, .inl (cA 1, 1, .inl (fun _ => 0))), (u 1, .inl (cA 1, 12, .inl (fun _ => 0))), (u 2, .inl (cA 1, 12, .inl (fun _ => 0))), (u 3, .inl (cA 1, 12, .inl (fun _ => 0)))])
theorem dfX1_ok : ∀ j, j < 8 → defaultValue (tyX1 j) = vp_V dfX1 j := by decide +kernel
set_option maxHeartbeats 4000000 in
set_option maxRecDepth 20000 in
theorem ctX1 : Ctor yX1_init cX1_init 4 1 12 4 37 1 dfX1 3 FX1 := by
  refine Ctor_mk (by decide +kernel) rfl (by decide) ?_
  intro p l e s m args below meth c D cA A ws0 j a av ls X hj hav S hl ret
  obtain ⟨x1, x2, x3, rfl⟩ := len3 hav
  have hl : lv_has ls 4 [(0, .ref a), (1, .ref x1), (2, .ref x2), (3, .ref x3)] := hl
  refine lv_aload_n X.1 X.2.1 dX1_init_0 rfl (lv_at hl 0 rfl) ?_
  refine n_obj X hl.1 (gt_t (i := 595) (by decide +kernel) (by decide +kernel)) (gt_t (i := 31) (by decide +kernel) (by decide +kernel)) obj_code (Nat.le_of_ble_eq_true rfl) (Nat.le_of_ble_eq_true rfl) dX1_init_1 ?_
  refine lv_aload_n X.1 X.2.1 dX1_init_4 rfl (lv_at hl 0 rfl) ?_
  refine lv_iconst (v := 1) X.1 X.2.1 dX1_init_5 rfl ?_
  refine n_newa (atype := .int) (ty := .int) (k := 0) (N' := 1) (a0 := (1, .inl (fun _ => 0))) X S (gt_t (i := 234) (by decide +kernel) (by decide +kernel)) rfl rfl (fun C z => by cases z) (fun _ => rfl) (by decide) (by decide) (Nat.le_of_ble_eq_true rfl) (Nat.le_of_ble_eq_true rfl) (Nat.le_of_ble_eq_true rfl) dX1_init_6 (fun q0 H S => ?_)
  refine n_put (ty := tyX1 3) (k := 3) X S hj clX1 (by decide) flX1_11 rfl (by decide +kernel) rfl rfl (Nat.le_of_ble_eq_true rfl) dX1_init_8 (fun H locs S => ?_)
  refine lv_aload_n X.1 X.2.1 dX1_init_11 rfl (lv_at hl 0 rfl) ?_
  refine lv_bipush (v := 12) X.1 X.2.1 dX1_init_12 (by decide) ?_
  refine n_newa (atype := .int) (ty := .int) (k := 0) (N' := 12) (a0 := (12, .inl (fun _ => 0))) X S (gt_t (i := 234) (by decide +kernel) (by decide +kernel)) rfl rfl (fun C z => by cases z) (fun _ => rfl) (by decide) (by decide) (Nat.le_of_ble_eq_true rfl) (Nat.le_of_ble_eq_true rfl) (Nat.le_of_ble_eq_true rfl) dX1_init_14 (fun q1 H S => ?_)
  refine n_putF (ty := tyX1 4) (k := 4) X S hj clX1 (by decide) flX1_17 rfl rfl (by decide +kernel) rfl rfl (Nat.le_of_ble_eq_true rfl) dX1_init_16 (fun H locs S => ?_)
  refine lv_aload_n X.1 X.2.1 dX1_init_19 rfl (lv_at hl 0 rfl) ?_
  refine lv_bipush (v := 12) X.1 X.2.1 dX1_init_20 (by decide) ?_
  refine n_newa (atype := .int) (ty := .int) (k := 0) (N' := 12) (a0 := (12, .inl (fun _ => 0))) X S (gt_t (i := 234) (by decide +kernel) (by decide +kernel)) rfl rfl (fun C z => by cases z) (fun _ => rfl) (by decide) (by decide) (Nat.le_of_ble_eq_true rfl) (Nat.le_of_ble_eq_true rfl) (Nat.le_of_ble_eq_true rfl) dX1_init_22 (fun q2 H S => ?_)
  refine n_putF (ty := tyX1 5) (k := 5) X S hj clX1 (by decide) flX1_20 rfl rfl (by decide +kernel) rfl rfl (Nat.le_of_ble_eq_true rfl) dX1_init_24 (fun H locs S => ?_)
  refine lv_aload_n X.1 X.2.1 dX1_init_27 rfl (lv_at hl 0 rfl) ?_
  refine lv_bipush (v := 12) X.1 X.2.1 dX1_init_28 (by decide) ?_
  refine n_newa (atype := .int) (ty := .int) (k := 0) (N' := 12) (a0 := (12, .inl (fun _ => 0))) X S (gt_t (i := 234) (by decide +kernel) (by decide +kernel)) rfl rfl (fun C z => by cases z) (fun _ => rfl) (by decide) (by decide) (Nat.le_of_ble_eq_true rfl) (Nat.le_of_ble_eq_true rfl) (Nat.le_of_ble_eq_true rfl) dX1_init_30 (fun q3 H S => ?_)
  refine n_putF (ty := tyX1 6) (k := 6) X S hj clX1 (by decide) flX1_23 rfl rfl (by decide +kernel) rfl rfl (Nat.le_of_ble_eq_true rfl) dX1_init_32 (fun H locs S => ?_)
  refine lv_aload_n X.1 X.2.1 dX1_init_35 rfl (lv_at hl 0 rfl) ?_
  refine lv_aload_n X.1 X.2.1 dX1_init_36 rfl (lv_at hl 1 rfl) ?_
  refine n_putF (ty := tyX1 0) (k := 0) X S hj clX1 (by decide) flX1_26 rfl rfl (by decide +kernel) rfl rfl (Nat.le_of_ble_eq_true rfl) dX1_init_37 (fun H locs S => ?_)
  refine lv_aload_n X.1 X.2.1 dX1_init_40 rfl (lv_at hl 0 rfl) ?_
  refine lv_aload_n X.1 X.2.1 dX1_init_41 rfl (lv_at hl 2 rfl) ?_
  refine n_putF (ty := tyX1 1) (k := 1) X S hj clX1 (by decide) flX1_30 rfl rfl (by decide +kernel) rfl rfl (Nat.le_of_ble_eq_true rfl) dX1_init_42 (fun H locs S => ?_)
  refine lv_aload_n X.1 X.2.1 dX1_init_45 rfl (lv_at hl 0 rfl) ?_
  refine lv_aload_n X.1 X.2.1 dX1_init_46 rfl (lv_at hl 3 rfl) ?_
  refine n_putF (ty := tyX1 2) (k := 2) X S hj clX1 (by decide) flX1_34 rfl rfl (by decide +kernel) rfl rfl (Nat.le_of_ble_eq_true rfl) dX1_init_47 (fun H locs S => ?_)
  exact ret H locs ls 50 (fun i => [q0, q1, q2, q3].getD i 0) S dX1_init_50
def dfX6 : List Value := [.null, .null, .null, .null, .null, .int 0, .null, .int 0, .int 0, .int 0, .int 0, .int 0]
def FX6 : (Nat → ClassId) → List Nat → (Nat → Nat) → List Value × va_W := fun cA av u => ([.ref (av.getD 0 0), .ref (u 0), .ref (u 13), .ref (u 14), .ref (u 15), .int 0, .ref (u 16), .int 0, .int 0, .int 0, .int 0, .int 0], [(u 0, .inr (3, [.int 0, .ref (u 1), .ref (u 2), .ref (u 3), .ref (u 4), .ref (u 5), .ref (u 6), .ref (u 7), .ref (u 8), .ref (u 9), .int 0, .ref (u 10), .ref (u 11), .ref (u 12), .int 4, .int 8, .int 0, .int 0])), (u 1, .inl (cA 1, 200, .inl (fun _ => 0))), (u 2, .inl (cA 1, 200, .inl (fun _ => 0))), (u 3, .inl (cA 1, 200, .inl (fun _ => 0))), (u 4, .inl (cA 1, 200, .inl (fun _ => 0))), (u 5, .inl (cA 1, 200, .inl (fun _ => 0))), (u 6, .inl (cA 1, 600, .inl (fun _ => 0))), (u 7, .inl (cA 1, 600, .inl (fun _ => 0))), (u 8, .inl (cA 1, 200, .inl (fun _ => 0))), (u 9, .inl (cA 1, 200, .inl (fun _ => 0))), (u 10, .inl (cA 2, 6, .inl (fun _ => 0))), (u 11, .inl (cA 1, 6, .inl (fun _ => 0))), (u 12, .inl (cA 1, 6, .inl (fun _ => 0))), (u 13, .inl (cA 4, 20, .inr (.inl (fun _ => 0)))), (u 14, .inl (cA 1, 20, .inl (fun _ => 0))), (u 15, .inl (cA 2, 20, .inl (fun _ => 0))), (u 16, .inl (cA 1, 4, .inl (fun _ => 0)))])
theorem dfX6_ok : ∀ j, j < 12 → defaultValue (tyX6 j) = vp_V dfX6 j := by decide +kernel
set_option maxHeartbeats 4000000 in
set_option maxRecDepth 20000 in
theorem ctX6 : Ctor yX6_init cX6_init 2 2 32 17 2700 6 dfX6 1 FX6 := by
  refine Ctor_mk (by decide +kernel) rfl (by decide) ?_
  intro p l e s m args below meth c D cA A ws0 j a av ls X hj hav S hl ret
  obtain ⟨x1, rfl⟩ := len1 hav
  have hl : lv_has ls 2 [(0, .ref a), (1, .ref x1)] := hl
  refine lv_aload_n X.1 X.2.1 dX6_init_0 rfl (lv_at hl 0 rfl) ?_
  refine n_obj X hl.1 (gt_t (i := 126) (by decide +kernel) (by decide +kernel)) (gt_t (i := 31) (by decide +kernel) (by decide +kernel)) obj_code (Nat.le_of_ble_eq_true rfl) (Nat.le_of_ble_eq_true rfl) dX6_init_1 ?_
  refine lv_aload_n X.1 X.2.1 dX6_init_4 rfl (lv_at hl 0 rfl) ?_
  refine n_new (fs' := dfX3) X S clX3 (gt_t (i := 127) (by decide +kernel) (by decide +kernel)) (gt_t (i := 128) (by decide +kernel) (by decide +kernel)) (gt_t (i := 8) (by decide +kernel) (by decide +kernel)) dfX3_ok (Nat.le_of_ble_eq_true rfl) (Nat.le_of_ble_eq_true rfl) dX6_init_5 (fun q0 H S => ?_)
  refine lv_dup X.1 X.2.1 dX6_init_8 rfl ?_
  refine n_initN (i := 0) (av := []) X S hl.1 ctX3 rfl rfl cd_yX3_init (gt_t (i := 8) (by decide +kernel) (by decide +kernel)) (List.mem_filter.mpr ⟨List.mem_of_getElem? (i := 129) (by decide +kernel), rfl⟩) (gt_t (i := 130) (by decide +kernel) (by decide +kernel)) rfl (by decide +kernel) ⟨Nat.le_of_ble_eq_true rfl, Nat.le_of_ble_eq_true rfl⟩ rfl (Nat.le_of_ble_eq_true rfl) dX6_init_9 ⟨Nat.le_of_ble_eq_true rfl, Nat.le_of_ble_eq_true rfl⟩ (fun u0 H locs S => ?_)
  refine n_put (ty := tyX6 1) (k := 1) X S hj clX6 (by decide) flX6_12 rfl (by decide +kernel) rfl rfl (Nat.le_of_ble_eq_true rfl) dX6_init_12 (fun H locs S => ?_)
  refine lv_aload_n X.1 X.2.1 dX6_init_15 rfl (lv_at hl 0 rfl) ?_
  refine lv_bipush (v := 20) X.1 X.2.1 dX6_init_16 (by decide) ?_
  refine n_newa (atype := .long) (ty := .long) (k := 3) (N' := 20) (a0 := (20, .inr (.inl (fun _ => 0)))) X S (gt_t (i := 120) (by decide +kernel) (by decide +kernel)) rfl rfl (fun C z => by cases z) (fun _ => rfl) (by decide) (by decide) (Nat.le_of_ble_eq_true rfl) (Nat.le_of_ble_eq_true rfl) (Nat.le_of_ble_eq_true rfl) dX6_init_18 (fun q1 H S => ?_)
  refine n_putF (ty := tyX6 2) (k := 2) X S hj clX6 (by decide) flX6_18 rfl rfl (by decide +kernel) rfl rfl (Nat.le_of_ble_eq_true rfl) dX6_init_20 (fun H locs S => ?_)
  refine lv_aload_n X.1 X.2.1 dX6_init_23 rfl (lv_at hl 0 rfl) ?_
  refine lv_bipush (v := 20) X.1 X.2.1 dX6_init_24 (by decide) ?_
  refine n_newa (atype := .int) (ty := .int) (k := 0) (N' := 20) (a0 := (20, .inl (fun _ => 0))) X S (gt_t (i := 234) (by decide +kernel) (by decide +kernel)) rfl rfl (fun C z => by cases z) (fun _ => rfl) (by decide) (by decide) (Nat.le_of_ble_eq_true rfl) (Nat.le_of_ble_eq_true rfl) (Nat.le_of_ble_eq_true rfl) dX6_init_26 (fun q2 H S => ?_)
  refine n_putF (ty := tyX6 3) (k := 3) X S hj clX6 (by decide) flX6_22 rfl rfl (by decide +kernel) rfl rfl (Nat.le_of_ble_eq_true rfl) dX6_init_28 (fun H locs S => ?_)
  refine lv_aload_n X.1 X.2.1 dX6_init_31 rfl (lv_at hl 0 rfl) ?_
  refine lv_bipush (v := 20) X.1 X.2.1 dX6_init_32 (by decide) ?_
  refine n_newa (atype := .boolean) (ty := .boolean) (k := 1) (N' := 20) (a0 := (20, .inl (fun _ => 0))) X S (gt_t (i := 235) (by decide +kernel) (by decide +kernel)) rfl rfl (fun C z => by cases z) (fun _ => rfl) (by decide) (by decide) (Nat.le_of_ble_eq_true rfl) (Nat.le_of_ble_eq_true rfl) (Nat.le_of_ble_eq_true rfl) dX6_init_34 (fun q3 H S => ?_)
  refine n_putF (ty := tyX6 4) (k := 4) X S hj clX6 (by decide) flX6_26 rfl rfl (by decide +kernel) rfl rfl (Nat.le_of_ble_eq_true rfl) dX6_init_36 (fun H locs S => ?_)
  refine lv_aload_n X.1 X.2.1 dX6_init_39 rfl (lv_at hl 0 rfl) ?_
  refine lv_iconst (v := 4) X.1 X.2.1 dX6_init_40 rfl ?_
  refine n_newa (atype := .int) (ty := .int) (k := 0) (N' := 4) (a0 := (4, .inl (fun _ => 0))) X S (gt_t (i := 234) (by decide +kernel) (by decide +kernel)) rfl rfl (fun C z => by cases z) (fun _ => rfl) (by decide) (by decide) (Nat.le_of_ble_eq_true rfl) (Nat.le_of_ble_eq_true rfl) (Nat.le_of_ble_eq_true rfl) dX6_init_41 (fun q4 H S => ?_)
  refine n_putF (ty := tyX6 6) (k := 6) X S hj clX6 (by decide) flX6_30 rfl rfl (by decide +kernel) rfl rfl (Nat.le_of_ble_eq_true rfl) dX6_init_43 (fun H locs S => ?_)
  refine lv_aload_n X.1 X.2.1 dX6_init_46 rfl (lv_at hl 0 rfl) ?_
  refine lv_aload_n X.1 X.2.1 dX6_init_47 rfl (lv_at hl 1 rfl) ?_
  refine n_putF (ty := tyX6 0) (k := 0) X S hj clX6 (by decide) flX6_33 rfl rfl (by decide +kernel) rfl rfl (Nat.le_of_ble_eq_true rfl) dX6_init_48 (fun H locs S => ?_)
  exact ret H locs ls 51 (fun i => [q0, u0 0, u0 1, u0 2, u0 3, u0 4, u0 5, u0 6, u0 7, u0 8, u0 9, u0 10, u0 11, q1, q2, q3, q4].getD i 0) S dX6_init_51
def dfX10 : List Value := [.null, .null, .null, .null, .null, .null, .null, .int 0, .int 0, .int 0]
def FX10 : (Nat → ClassId) → List Nat → (Nat → Nat) → List Value × va_W := fun cA av u => ([.ref (u 0), .ref (u 7), .ref (u 8), .ref (u 13), .ref (u 18), .ref (u 19), .ref (u 20), .int 0, .int 0, .int 0], [(u 0, .inr (9, [.int 0, .ref (u 1), .ref (u 2), .ref (u 3), .ref (u 4), .int 0, .ref (u 5), .ref (u 6)])), (u 1, .inl (cA 1, 64, .inl (fun _ => 0))), (u 2, .inl (cA 1, 192, .inl (fun _ => 0))), (u 3, .inl (cA 2, 64, .inl (fun _ => 0))), (u 4, .inl (cA 2, 64, .inl (fun _ => 0))), (u 5, .inl (cA 1, 8, .inl (fun _ => 0))), (u 6, .inl (cA 2, 200, .inl (fun _ => 0))), (u 7, .inl (cA 1, 20, .inl (fun _ => 0))), (u 8, .inl (cA 5, 4, .inr (.inr (.inr (.inr (fun k => ([u 9, u 10, u 11, u 12] : List Nat)[k]?)))))), (u 9, .inl (cA 1, 20, .inl (fun _ => 0))), (u 10, .inl (cA 1, 20, .inl (fun _ => 0))), (u 11, .inl (cA 1, 20, .inl (fun _ => 0))), (u 12, .inl (cA 1, 20, .inl (fun _ => 0))), (u 13, .inl (cA 5, 4, .inr (.inr (.inr (.inr (fun k => ([u 14, u 15, u 16, u 17] : List Nat)[k]?)))))), (u 14, .inl (cA 1, 20, .inl (fun _ => 0))), (u 15, .inl (cA 1, 20, .inl (fun _ => 0))), (u 16, .inl (cA 1, 20, .inl (fun _ => 0))), (u 17, .inl (cA 1, 20, .inl (fun _ => 0))), (u 18, .inl (cA 1, 4, .inl (fun _ => 0))), (u 19, .inl (cA 1, 4, .inl (fun _ => 0))), (u 20, .inl (cA 1, 3, .inl (fun _ => 0)))])
theorem dfX10_ok : ∀ j, j < 10 → defaultValue (tyX10 j) = vp_V dfX10 j := by decide +kernel
set_option maxHeartbeats 4000000 in
set_option maxRecDepth 20000 in
theorem ctX10 : Ctor yX10_init cX10_init 1 2 32 21 799 10 dfX10 0 FX10 := by
  refine Ctor_mk (by decide +kernel) rfl (by decide) ?_
  intro p l e s m args below meth c D cA A ws0 j a av ls X hj hav S hl ret
  have hav := List.eq_nil_of_length_eq_zero hav
  subst hav
  have hl : lv_has ls 1 [(0, .ref a)] := hl
  refine lv_aload_n X.1 X.2.1 dX10_init_0 rfl (lv_at hl 0 rfl) ?_
  refine n_obj X hl.1 (gt_t (i := 279) (by decide +kernel) (by decide +kernel)) (gt_t (i := 31) (by decide +kernel) (by decide +kernel)) obj_code (Nat.le_of_ble_eq_true rfl) (Nat.le_of_ble_eq_true rfl) dX10_init_1 ?_
  refine lv_aload_n X.1 X.2.1 dX10_init_4 rfl (lv_at hl 0 rfl) ?_
  refine n_new (fs' := dfX9) X S clX9 (gt_t (i := 280) (by decide +kernel) (by decide +kernel)) (gt_t (i := 281) (by decide +kernel) (by decide +kernel)) (gt_t (i := 10) (by decide +kernel) (by decide +kernel)) dfX9_ok (Nat.le_of_ble_eq_true rfl) (Nat.le_of_ble_eq_true rfl) dX10_init_5 (fun q0 H S => ?_)
  refine lv_dup X.1 X.2.1 dX10_init_8 rfl ?_
  refine n_initN (i := 0) (av := []) X S hl.1 ctX9 rfl rfl cd_yX9_init (gt_t (i := 10) (by decide +kernel) (by decide +kernel)) (List.mem_filter.mpr ⟨List.mem_of_getElem? (i := 282) (by decide +kernel), rfl⟩) (gt_t (i := 283) (by decide +kernel) (by decide +kernel)) rfl (by decide +kernel) ⟨Nat.le_of_ble_eq_true rfl, Nat.le_of_ble_eq_true rfl⟩ rfl (Nat.le_of_ble_eq_true rfl) dX10_init_9 ⟨Nat.le_of_ble_eq_true rfl, Nat.le_of_ble_eq_true rfl⟩ (fun u0 H locs S => ?_)
  refine n_putF (ty := tyX10 0) (k := 0) X S hj clX10 (by decide) flX10_12 rfl rfl (by decide +kernel) rfl rfl (Nat.le_of_ble_eq_true rfl) dX10_init_12 (fun H locs S => ?_)
  refine lv_aload_n X.1 X.2.1 dX10_init_15 rfl (lv_at hl 0 rfl) ?_
  refine lv_bipush (v := 20) X.1 X.2.1 dX10_init_16 (by decide) ?_
  refine n_newa (atype := .int) (ty := .int) (k := 0) (N' := 20) (a0 := (20, .inl (fun _ => 0))) X S (gt_t (i := 234) (by decide +kernel) (by decide +kernel)) rfl rfl (fun C z => by cases z) (fun _ => rfl) (by decide) (by decide) (Nat.le_of_ble_eq_true rfl) (Nat.le_of_ble_eq_true rfl) (Nat.le_of_ble_eq_true rfl) dX10_init_18 (fun q1 H S => ?_)
  refine n_putF (ty := tyX10 1) (k := 1) X S hj clX10 (by decide) flX10_18 rfl rfl (by decide +kernel) rfl rfl (Nat.le_of_ble_eq_true rfl) dX10_init_20 (fun H locs S => ?_)
  refine lv_aload_n X.1 X.2.1 dX10_init_23 rfl (lv_at hl 0 rfl) ?_
  refine lv_iconst (v := 4) X.1 X.2.1 dX10_init_24 rfl ?_
  refine lv_bipush (v := 20) X.1 X.2.1 dX10_init_25 (by decide) ?_
  refine n_mna (N' := 4) (K' := 20) X S (gt_t (i := 338) (by decide +kernel) (by decide +kernel)) (gt_t (i := 234) (by decide +kernel) (by decide +kernel)) (by decide) (by decide) (by decide) (by decide) (Nat.le_of_ble_eq_true rfl) (Nat.le_of_ble_eq_true rfl) (Nat.le_of_ble_eq_true rfl) (Nat.le_of_ble_eq_true rfl) (Nat.le_of_ble_eq_true rfl) dX10_init_27 (fun q2 r2 H S => ?_)
  refine n_putF (ty := tyX10 2) (k := 2) X S hj clX10 (by decide) flX10_24 rfl rfl (by decide +kernel) rfl rfl (Nat.le_of_ble_eq_true rfl) dX10_init_31 (fun H locs S => ?_)
  refine lv_aload_n X.1 X.2.1 dX10_init_34 rfl (lv_at hl 0 rfl) ?_
  refine lv_iconst (v := 4) X.1 X.2.1 dX10_init_35 rfl ?_
  refine lv_bipush (v := 20) X.1 X.2.1 dX10_init_36 (by decide) ?_
  refine n_mna (N' := 4) (K' := 20) X S (gt_t (i := 338) (by decide +kernel) (by decide +kernel)) (gt_t (i := 234) (by decide +kernel) (by decide +kernel)) (by decide) (by decide) (by decide) (by decide) (Nat.le_of_ble_eq_true rfl) (Nat.le_of_ble_eq_true rfl) (Nat.le_of_ble_eq_true rfl) (Nat.le_of_ble_eq_true rfl) (Nat.le_of_ble_eq_true rfl) dX10_init_38 (fun q3 r3 H S => ?_)
  refine n_putF (ty := tyX10 3) (k := 3) X S hj clX10 (by decide) flX10_27 rfl rfl (by decide +kernel) rfl rfl (Nat.le_of_ble_eq_true rfl) dX10_init_42 (fun H locs S => ?_)
  refine lv_aload_n X.1 X.2.1 dX10_init_45 rfl (lv_at hl 0 rfl) ?_
  refine lv_iconst (v := 4) X.1 X.2.1 dX10_init_46 rfl ?_
  refine n_newa (atype := .int) (ty := .int) (k := 0) (N' := 4) (a0 := (4, .inl (fun _ => 0))) X S (gt_t (i := 234) (by decide +kernel) (by decide +kernel)) rfl rfl (fun C z => by cases z) (fun _ => rfl) (by decide) (by decide) (Nat.le_of_ble_eq_true rfl) (Nat.le_of_ble_eq_true rfl) (Nat.le_of_ble_eq_true rfl) dX10_init_47 (fun q4 H S => ?_)
  refine n_putF (ty := tyX10 4) (k := 4) X S hj clX10 (by decide) flX10_30 rfl rfl (by decide +kernel) rfl rfl (Nat.le_of_ble_eq_true rfl) dX10_init_49 (fun H locs S => ?_)
  refine lv_aload_n X.1 X.2.1 dX10_init_52 rfl (lv_at hl 0 rfl) ?_
  refine lv_iconst (v := 4) X.1 X.2.1 dX10_init_53 rfl ?_
  refine n_newa (atype := .int) (ty := .int) (k := 0) (N' := 4) (a0 := (4, .inl (fun _ => 0))) X S (gt_t (i := 234) (by decide +kernel) (by decide +kernel)) rfl rfl (fun C z => by cases z) (fun _ => rfl) (by decide) (by decide) (Nat.le_of_ble_eq_true rfl) (Nat.le_of_ble_eq_true rfl) (Nat.le_of_ble_eq_true rfl) dX10_init_54 (fun q5 H S => ?_)
  refine n_putF (ty := tyX10 5) (k := 5) X S hj clX10 (by decide) flX10_33 rfl rfl (by decide +kernel) rfl rfl (Nat.le_of_ble_eq_true rfl) dX10_init_56 (fun H locs S => ?_)
  refine lv_aload_n X.1 X.2.1 dX10_init_59 rfl (lv_at hl 0 rfl) ?_
  refine lv_iconst (v := 3) X.1 X.2.1 dX10_init_60 rfl ?_
  refine n_newa (atype := .int) (ty := .int) (k := 0) (N' := 3) (a0 := (3, .inl (fun _ => 0))) X S (gt_t (i := 234) (by decide +kernel) (by decide +kernel)) rfl rfl (fun C z => by cases z) (fun _ => rfl) (by decide) (by decide) (Nat.le_of_ble_eq_true rfl) (Nat.le_of_ble_eq_true rfl) (Nat.le_of_ble_eq_true rfl) dX10_init_61 (fun q6 H S => ?_)
  refine n_putF (ty := tyX10 6) (k := 6) X S hj clX10 (by decide) flX10_36 rfl rfl (by decide +kernel) rfl rfl (Nat.le_of_ble_eq_true rfl) dX10_init_63 (fun H locs S => ?_)
  exact ret H locs ls 66 (fun i => [q0, u0 0, u0 1, u0 2, u0 3, u0 4, u0 5, q1, q2, r2 0, r2 1, r2 2, r2 3, q3, r3 0, r3 1, r3 2, r3 3, q4, q5, q6].getD i 0) S dX10_init_66
