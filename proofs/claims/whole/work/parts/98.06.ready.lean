/-! ShaderReady's own constructor, block by block -/
def blk (ci : Nat) (F : (Nat → ClassId) → List Nat → (Nat → Nat) → List Value × va_W) (cA : Nat → ClassId) (av : List Nat) (u : Nat → Nat) : va_W := (u 0, .inr (ci, (F cA av (fun i => u (i + 1))).1)) :: (F cA av (fun i => u (i + 1))).2
theorem pk16 (us : Nat → Nat → Nat) : (fun k i : Nat => (fun n : Nat => us (n % 16) (n / 16)) (k % 16 + 16 * i)) = (fun k i : Nat => us (k % 16) i) := by
  funext k i
  show us ((k % 16 + 16 * i) % 16) ((k % 16 + 16 * i) / 16) = _
  rw [show (k % 16 + 16 * i) % 16 = k % 16 by omega, show (k % 16 + 16 * i) / 16 = i by omega]
theorem blk_eq {news : va_W} {x y : Nat × va_E} {nn : va_W} : ((news ++ [x]).set news.length y ++ nn) = news ++ (y :: nn) := by
  rw [List.set_append_right _ _ (Nat.le_refl _), Nat.sub_self, List.append_assoc]
  rfl
section NRows3
variable {p : Program} {l : Launch} {e : Env} {R : Room} {s : State} {m : MethodId} {args : Array Value} {below : List Frame} {meth : Method} {c : Code} {H : Heap} {locs : List Loc} {cells slots : Nat} {Q : State → Prop} {own : String} {cc : ByteArray} {nL pc : Nat} {D : va_G} {cA : Nat → ClassId} {A : Nat → Prop} {ls : Array Slot} {rest : List Value} {ws0 news : va_W} {j a ci : Nat} {fs : List Value}
set_option maxHeartbeats 4000000 in
set_option maxRecDepth 20000 in
theorem n_initL {y : MethodName} {bytes : ByteArray} {maxL fr lo mc ms ci' : Nat} {dfl : List Value} {na index q : Nat} {F : (Nat → ClassId) → List Nat → (Nat → Nat) → List Value × va_W} {av : List Nat} {st : List Value} (X : NC p s m args meth c own cc nL D cA A) (S : NS D A s (ws0.set j (a, .inr (ci, fs)) ++ (news ++ [(q, .inr (ci', dfl))])) H locs) (hls : ls.size = nL) (hc : Ctor y bytes maxL fr lo mc ms ci' dfl na F) (hav : av.length = na) (w1 : Cond.code y bytes maxL none ∈ gt) (w2 : Cond.initialized y.cls ∈ gt) (w3 : Cond.methodLink own index y ∈ gt) (w4 : Cond.instanceMethod y ∈ gt) (hy : y.name = "<init>") (hd : y.cls ≠ "java/lang/invoke/MethodHandle" ∧ y.cls ≠ "java/lang/invoke/VarHandle" ∧ (parseMethodDescriptor y.desc).map (fun d => d.parameters.length) = some na) (hroom : fr + 1 ≤ R.frames ∧ 8 + (maxL + 11) + lo ≤ R.locals) (hst : st = (av.map Value.ref).reverse ++ .ref q :: rest) (hcat : (rest.map fun v => v.category).sum ≤ 8) (hdg : decode cc pc = .ok (.invokespecial index, 3)) (hcs : cells + mc ≤ R.cells ∧ slots + ms ≤ R.slots)
    (kk : ∀ (u : Nat → Nat) (H1 : Heap) (locs1 : List Loc) (news1 : va_W), q = u 0 → news1 = news ++ blk ci' F cA av u → NS D A s (ws0.set j (a, .inr (ci, fs)) ++ news1) H1 locs1 → W p l e R s m args below meth c H1 locs1 (cells + mc) (slots + ms) Q (F0 m (pc + 3) ls rest)) : W p l e R s m args below meth c H locs cells slots Q (F0 m pc ls st) := by
  refine n_init (i := news.length) X S hls hc hav (by rw [List.getElem?_append_right (Nat.le_refl _), Nat.sub_self]; rfl) w1 w2 w3 w4 hy hd hroom hst hcat hdg hcs (fun u H1 locs1 S1 => ?_)
  rw [blk_eq] at S1
  exact kk (fun i => match i with | 0 => q | i + 1 => u i) H1 locs1 _ rfl rfl S1
set_option maxHeartbeats 4000000 in
set_option maxRecDepth 20000 in
theorem n_initLN {y : MethodName} {bytes : ByteArray} {maxL fr lo mc ms ci' : Nat} {dfl : List Value} {na index q : Nat} {F : (Nat → ClassId) → List Nat → (Nat → Nat) → List Value × va_W} {av : List Nat} {st : List Value} (X : NC p s m args meth c own cc nL D cA A) (S : NS D A s (ws0.set j (a, .inr (ci, fs)) ++ (news ++ [(q, .inr (ci', dfl))])) H locs) (hls : ls.size = nL) (hc : Ctor y bytes maxL fr lo mc ms ci' dfl na F) (hav : av.length = na) (w1 : Cond.code y bytes maxL none ∈ gt) (w2 : Cond.initialized y.cls ∈ gt) (w3 : Cond.methodLinkNest own index y "ShaderReady" ∈ nestW) (w4 : Cond.instanceMethod y ∈ gt) (hy : y.name = "<init>") (hd : y.cls ≠ "java/lang/invoke/MethodHandle" ∧ y.cls ≠ "java/lang/invoke/VarHandle" ∧ (parseMethodDescriptor y.desc).map (fun d => d.parameters.length) = some na) (hroom : fr + 1 ≤ R.frames ∧ 8 + (maxL + 11) + lo ≤ R.locals) (hst : st = (av.map Value.ref).reverse ++ .ref q :: rest) (hcat : (rest.map fun v => v.category).sum ≤ 8) (hdg : decode cc pc = .ok (.invokespecial index, 3)) (hcs : cells + mc ≤ R.cells ∧ slots + ms ≤ R.slots)
    (kk : ∀ (u : Nat → Nat) (H1 : Heap) (locs1 : List Loc) (news1 : va_W), q = u 0 → news1 = news ++ blk ci' F cA av u → NS D A s (ws0.set j (a, .inr (ci, fs)) ++ news1) H1 locs1 → W p l e R s m args below meth c H1 locs1 (cells + mc) (slots + ms) Q (F0 m (pc + 3) ls rest)) : W p l e R s m args below meth c H locs cells slots Q (F0 m pc ls st) := by
  refine n_initN (i := news.length) X S hls hc hav (by rw [List.getElem?_append_right (Nat.le_refl _), Nat.sub_self]; rfl) w1 w2 w3 w4 hy hd hroom hst hcat hdg hcs (fun u H1 locs1 S1 => ?_)
  rw [blk_eq] at S1
  exact kk (fun i => match i with | 0 => q | i + 1 => u i) H1 locs1 _ rfl rfl S1
end NRows3
def dfX11 : List Value := [.null, .null, .null, .null, .null, .null, .null, .null, .null, .null, .null, .null, .null, .null, .int 0, .int 0]
def GX11 (cA : Nat → ClassId) (us : Nat → Nat → Nat) : List Value × va_W := ([.ref (us 0 0), .ref (us 1 0), .ref (us 2 0), .ref (us 3 0), .ref (us 4 0), .ref (us 5 0), .ref (us 6 0), .ref (us 7 0), .ref (us 8 0), .ref (us 9 0), .ref (us 10 0), .ref (us 11 0), .ref (us 12 0), .ref (us 13 0), .int 0, .int (-2)], (((((((((((((([] ++ blk 8 FX8 cA [] (us 0)) ++ blk 6 FX6 cA [us 0 0] (us 1)) ++ blk 10 FX10 cA [] (us 2)) ++ blk 9 FX9 cA [] (us 3)) ++ blk 0 FX0 cA [] (us 4)) ++ blk 4 FX4 cA [us 4 0] (us 5)) ++ blk 2 FX2 cA [us 3 0] (us 6)) ++ blk 5 FX5 cA [us 3 0, us 6 0] (us 7)) ++ blk 7 FX7 cA [us 3 0, us 6 0, us 7 0] (us 8)) ++ blk 2 FX2 cA [us 3 0] (us 9)) ++ blk 5 FX5 cA [us 3 0, us 9 0] (us 10)) ++ blk 7 FX7 cA [us 3 0, us 9 0, us 10 0] (us 11)) ++ blk 1 FX1 cA [us 3 0, us 6 0, us 7 0] (us 12)) ++ blk 3 FX3 cA [] (us 13)))
def FX11 : (Nat → ClassId) → List Nat → (Nat → Nat) → List Value × va_W := fun cA _ u => GX11 cA (fun k i => u (k % 16 + 16 * i))
theorem dfX11_ok : ∀ j, j < 16 → defaultValue (tyX11 j) = vp_V dfX11 j := by decide +kernel
set_option maxHeartbeats 4000000 in
set_option maxRecDepth 20000 in
theorem ctX11 : Ctor yX11_init cX11_init 1 5 108 131 11917 11 dfX11 0 FX11 := by
  refine Ctor_mk (by decide +kernel) rfl (by decide) ?_
  intro p l e s m args below meth c D cA A ws0 j a av ls X hj hav S hl ret
  have hav := List.eq_nil_of_length_eq_zero hav
  subst hav
  have hl : lv_has ls 1 [(0, .ref a)] := hl
  refine lv_aload_n X.1 X.2.1 dX11_init_0 rfl (lv_at hl 0 rfl) ?_
  refine n_obj X hl.1 (gt_t (i := 30) (by decide +kernel) (by decide +kernel)) (gt_t (i := 31) (by decide +kernel) (by decide +kernel)) obj_code (Nat.le_of_ble_eq_true rfl) (Nat.le_of_ble_eq_true rfl) dX11_init_1 ?_
  refine lv_aload_n X.1 X.2.1 dX11_init_4 rfl (lv_at hl 0 rfl) ?_
  refine n_new (fs' := dfX8) X S clX8 (gt_t (i := 33) (by decide +kernel) (by decide +kernel)) (gt_t (i := 34) (by decide +kernel) (by decide +kernel)) (gt_t (i := 2) (by decide +kernel) (by decide +kernel)) dfX8_ok (Nat.le_of_ble_eq_true rfl) (Nat.le_of_ble_eq_true rfl) dX11_init_5 (fun q H Sn => ?_)
  refine lv_dup X.1 X.2.1 dX11_init_8 rfl ?_
  refine n_initL (av := []) X Sn hl.1 ctX8 rfl cd_yX8_init (gt_t (i := 2) (by decide +kernel) (by decide +kernel)) (gt_t (i := 35) (by decide +kernel) (by decide +kernel)) (gt_t (i := 36) (by decide +kernel) (by decide +kernel)) rfl (by decide +kernel) ⟨Nat.le_of_ble_eq_true rfl, Nat.le_of_ble_eq_true rfl⟩ rfl (Nat.le_of_ble_eq_true rfl) dX11_init_9 ⟨Nat.le_of_ble_eq_true rfl, Nat.le_of_ble_eq_true rfl⟩ (fun u0 H locs w0 hq e0 S => ?_)
  clear Sn
  subst hq
  refine n_putF (ty := tyX11 0) (k := 0) X S hj clX11 (by decide) flX11_14 rfl rfl (by decide +kernel) rfl rfl (Nat.le_of_ble_eq_true rfl) dX11_init_12 (fun H locs S => ?_)
  refine lv_aload_n X.1 X.2.1 dX11_init_15 rfl (lv_at hl 0 rfl) ?_
  refine n_new (fs' := dfX6) X S clX6 (gt_t (i := 121) (by decide +kernel) (by decide +kernel)) (gt_t (i := 122) (by decide +kernel) (by decide +kernel)) (gt_t (i := 7) (by decide +kernel) (by decide +kernel)) dfX6_ok (Nat.le_of_ble_eq_true rfl) (Nat.le_of_ble_eq_true rfl) dX11_init_16 (fun q H Sn => ?_)
  refine lv_dup X.1 X.2.1 dX11_init_19 rfl ?_
  refine lv_aload_n X.1 X.2.1 dX11_init_20 rfl (lv_at hl 0 rfl) ?_
  refine n_get (v := .ref (u0 0)) (k := 0) X Sn hj clX11 (by decide) flX11_14 rfl dX11_init_21 ?_
  refine n_initL (av := [(u0 0)]) X Sn hl.1 ctX6 rfl cd_yX6_init (gt_t (i := 7) (by decide +kernel) (by decide +kernel)) (gt_t (i := 123) (by decide +kernel) (by decide +kernel)) (gt_t (i := 124) (by decide +kernel) (by decide +kernel)) rfl (by decide +kernel) ⟨Nat.le_of_ble_eq_true rfl, Nat.le_of_ble_eq_true rfl⟩ rfl (Nat.le_of_ble_eq_true rfl) dX11_init_24 ⟨Nat.le_of_ble_eq_true rfl, Nat.le_of_ble_eq_true rfl⟩ (fun u1 H locs w1 hq e1 S => ?_)
  clear Sn
  subst hq
  refine n_putF (ty := tyX11 1) (k := 1) X S hj clX11 (by decide) flX11_23 rfl rfl (by decide +kernel) rfl rfl (Nat.le_of_ble_eq_true rfl) dX11_init_27 (fun H locs S => ?_)
  refine lv_aload_n X.1 X.2.1 dX11_init_30 rfl (lv_at hl 0 rfl) ?_
  refine n_new (fs' := dfX10) X S clX10 (gt_t (i := 274) (by decide +kernel) (by decide +kernel)) (gt_t (i := 275) (by decide +kernel) (by decide +kernel)) (gt_t (i := 9) (by decide +kernel) (by decide +kernel)) dfX10_ok (Nat.le_of_ble_eq_true rfl) (Nat.le_of_ble_eq_true rfl) dX11_init_31 (fun q H Sn => ?_)
  refine lv_dup X.1 X.2.1 dX11_init_34 rfl ?_
  refine n_initLN (av := []) X Sn hl.1 ctX10 rfl cd_yX10_init (gt_t (i := 9) (by decide +kernel) (by decide +kernel)) (List.mem_filter.mpr ⟨List.mem_of_getElem? (i := 276) (by decide +kernel), rfl⟩) (gt_t (i := 277) (by decide +kernel) (by decide +kernel)) rfl (by decide +kernel) ⟨Nat.le_of_ble_eq_true rfl, Nat.le_of_ble_eq_true rfl⟩ rfl (Nat.le_of_ble_eq_true rfl) dX11_init_35 ⟨Nat.le_of_ble_eq_true rfl, Nat.le_of_ble_eq_true rfl⟩ (fun u2 H locs w2 hq e2 S => ?_)
  clear Sn
  subst hq
  refine n_putF (ty := tyX11 2) (k := 2) X S hj clX11 (by decide) flX11_30 rfl rfl (by decide +kernel) rfl rfl (Nat.le_of_ble_eq_true rfl) dX11_init_38 (fun H locs S => ?_)
  refine lv_aload_n X.1 X.2.1 dX11_init_41 rfl (lv_at hl 0 rfl) ?_
  refine n_new (fs' := dfX9) X S clX9 (gt_t (i := 372) (by decide +kernel) (by decide +kernel)) (gt_t (i := 281) (by decide +kernel) (by decide +kernel)) (gt_t (i := 10) (by decide +kernel) (by decide +kernel)) dfX9_ok (Nat.le_of_ble_eq_true rfl) (Nat.le_of_ble_eq_true rfl) dX11_init_42 (fun q H Sn => ?_)
  refine lv_dup X.1 X.2.1 dX11_init_45 rfl ?_
  refine n_initLN (av := []) X Sn hl.1 ctX9 rfl cd_yX9_init (gt_t (i := 10) (by decide +kernel) (by decide +kernel)) (List.mem_filter.mpr ⟨List.mem_of_getElem? (i := 373) (by decide +kernel), rfl⟩) (gt_t (i := 283) (by decide +kernel) (by decide +kernel)) rfl (by decide +kernel) ⟨Nat.le_of_ble_eq_true rfl, Nat.le_of_ble_eq_true rfl⟩ rfl (Nat.le_of_ble_eq_true rfl) dX11_init_46 ⟨Nat.le_of_ble_eq_true rfl, Nat.le_of_ble_eq_true rfl⟩ (fun u3 H locs w3 hq e3 S => ?_)
  clear Sn
  subst hq
  refine n_putF (ty := tyX11 3) (k := 3) X S hj clX11 (by decide) flX11_37 rfl rfl (by decide +kernel) rfl rfl (Nat.le_of_ble_eq_true rfl) dX11_init_49 (fun H locs S => ?_)
  refine lv_aload_n X.1 X.2.1 dX11_init_52 rfl (lv_at hl 0 rfl) ?_
  refine n_new (fs' := dfX0) X S clX0 (gt_t (i := 374) (by decide +kernel) (by decide +kernel)) (gt_t (i := 375) (by decide +kernel) (by decide +kernel)) (gt_t (i := 11) (by decide +kernel) (by decide +kernel)) dfX0_ok (Nat.le_of_ble_eq_true rfl) (Nat.le_of_ble_eq_true rfl) dX11_init_53 (fun q H Sn => ?_)
  refine lv_dup X.1 X.2.1 dX11_init_56 rfl ?_
  refine n_initLN (av := []) X Sn hl.1 ctX0 rfl cd_yX0_init (gt_t (i := 11) (by decide +kernel) (by decide +kernel)) (List.mem_filter.mpr ⟨List.mem_of_getElem? (i := 376) (by decide +kernel), rfl⟩) (gt_t (i := 377) (by decide +kernel) (by decide +kernel)) rfl (by decide +kernel) ⟨Nat.le_of_ble_eq_true rfl, Nat.le_of_ble_eq_true rfl⟩ rfl (Nat.le_of_ble_eq_true rfl) dX11_init_57 ⟨Nat.le_of_ble_eq_true rfl, Nat.le_of_ble_eq_true rfl⟩ (fun u4 H locs w4 hq e4 S => ?_)
  clear Sn
  subst hq
  refine n_putF (ty := tyX11 4) (k := 4) X S hj clX11 (by decide) flX11_44 rfl rfl (by decide +kernel) rfl rfl (Nat.le_of_ble_eq_true rfl) dX11_init_60 (fun H locs S => ?_)
  refine lv_aload_n X.1 X.2.1 dX11_init_63 rfl (lv_at hl 0 rfl) ?_
  refine n_new (fs' := dfX4) X S clX4 (gt_t (i := 399) (by decide +kernel) (by decide +kernel)) (gt_t (i := 400) (by decide +kernel) (by decide +kernel)) (gt_t (i := 12) (by decide +kernel) (by decide +kernel)) dfX4_ok (Nat.le_of_ble_eq_true rfl) (Nat.le_of_ble_eq_true rfl) dX11_init_64 (fun q H Sn => ?_)
  refine lv_dup X.1 X.2.1 dX11_init_67 rfl ?_
  refine lv_aload_n X.1 X.2.1 dX11_init_68 rfl (lv_at hl 0 rfl) ?_
  refine n_get (v := .ref (u4 0)) (k := 4) X Sn hj clX11 (by decide) flX11_44 rfl dX11_init_69 ?_
  refine n_initL (av := [(u4 0)]) X Sn hl.1 ctX4 rfl cd_yX4_init (gt_t (i := 12) (by decide +kernel) (by decide +kernel)) (gt_t (i := 401) (by decide +kernel) (by decide +kernel)) (gt_t (i := 402) (by decide +kernel) (by decide +kernel)) rfl (by decide +kernel) ⟨Nat.le_of_ble_eq_true rfl, Nat.le_of_ble_eq_true rfl⟩ rfl (Nat.le_of_ble_eq_true rfl) dX11_init_72 ⟨Nat.le_of_ble_eq_true rfl, Nat.le_of_ble_eq_true rfl⟩ (fun u5 H locs w5 hq e5 S => ?_)
  clear Sn
  subst hq
  refine n_putF (ty := tyX11 5) (k := 5) X S hj clX11 (by decide) flX11_53 rfl rfl (by decide +kernel) rfl rfl (Nat.le_of_ble_eq_true rfl) dX11_init_75 (fun H locs S => ?_)
  refine lv_aload_n X.1 X.2.1 dX11_init_78 rfl (lv_at hl 0 rfl) ?_
  refine n_new (fs' := dfX2) X S clX2 (gt_t (i := 427) (by decide +kernel) (by decide +kernel)) (gt_t (i := 428) (by decide +kernel) (by decide +kernel)) (gt_t (i := 13) (by decide +kernel) (by decide +kernel)) dfX2_ok (Nat.le_of_ble_eq_true rfl) (Nat.le_of_ble_eq_true rfl) dX11_init_79 (fun q H Sn => ?_)
  refine lv_dup X.1 X.2.1 dX11_init_82 rfl ?_
  refine lv_aload_n X.1 X.2.1 dX11_init_83 rfl (lv_at hl 0 rfl) ?_
  refine n_get (v := .ref (u3 0)) (k := 3) X Sn hj clX11 (by decide) flX11_37 rfl dX11_init_84 ?_
  refine n_initL (av := [(u3 0)]) X Sn hl.1 ctX2 rfl cd_yX2_init (gt_t (i := 13) (by decide +kernel) (by decide +kernel)) (gt_t (i := 429) (by decide +kernel) (by decide +kernel)) (gt_t (i := 430) (by decide +kernel) (by decide +kernel)) rfl (by decide +kernel) ⟨Nat.le_of_ble_eq_true rfl, Nat.le_of_ble_eq_true rfl⟩ rfl (Nat.le_of_ble_eq_true rfl) dX11_init_87 ⟨Nat.le_of_ble_eq_true rfl, Nat.le_of_ble_eq_true rfl⟩ (fun u6 H locs w6 hq e6 S => ?_)
  clear Sn
  subst hq
  refine n_putF (ty := tyX11 6) (k := 6) X S hj clX11 (by decide) flX11_62 rfl rfl (by decide +kernel) rfl rfl (Nat.le_of_ble_eq_true rfl) dX11_init_90 (fun H locs S => ?_)
  refine lv_aload_n X.1 X.2.1 dX11_init_93 rfl (lv_at hl 0 rfl) ?_
  refine n_new (fs' := dfX5) X S clX5 (gt_t (i := 453) (by decide +kernel) (by decide +kernel)) (gt_t (i := 454) (by decide +kernel) (by decide +kernel)) (gt_t (i := 14) (by decide +kernel) (by decide +kernel)) dfX5_ok (Nat.le_of_ble_eq_true rfl) (Nat.le_of_ble_eq_true rfl) dX11_init_94 (fun q H Sn => ?_)
  refine lv_dup X.1 X.2.1 dX11_init_97 rfl ?_
  refine lv_aload_n X.1 X.2.1 dX11_init_98 rfl (lv_at hl 0 rfl) ?_
  refine n_get (v := .ref (u3 0)) (k := 3) X Sn hj clX11 (by decide) flX11_37 rfl dX11_init_99 ?_
  refine lv_aload_n X.1 X.2.1 dX11_init_102 rfl (lv_at hl 0 rfl) ?_
  refine n_get (v := .ref (u6 0)) (k := 6) X Sn hj clX11 (by decide) flX11_62 rfl dX11_init_103 ?_
  refine n_initL (av := [(u3 0), (u6 0)]) X Sn hl.1 ctX5 rfl cd_yX5_init (gt_t (i := 14) (by decide +kernel) (by decide +kernel)) (gt_t (i := 455) (by decide +kernel) (by decide +kernel)) (gt_t (i := 456) (by decide +kernel) (by decide +kernel)) rfl (by decide +kernel) ⟨Nat.le_of_ble_eq_true rfl, Nat.le_of_ble_eq_true rfl⟩ rfl (Nat.le_of_ble_eq_true rfl) dX11_init_106 ⟨Nat.le_of_ble_eq_true rfl, Nat.le_of_ble_eq_true rfl⟩ (fun u7 H locs w7 hq e7 S => ?_)
  clear Sn
  subst hq
  refine n_putF (ty := tyX11 7) (k := 7) X S hj clX11 (by decide) flX11_71 rfl rfl (by decide +kernel) rfl rfl (Nat.le_of_ble_eq_true rfl) dX11_init_109 (fun H locs S => ?_)
  refine lv_aload_n X.1 X.2.1 dX11_init_112 rfl (lv_at hl 0 rfl) ?_
  refine n_new (fs' := dfX7) X S clX7 (gt_t (i := 510) (by decide +kernel) (by decide +kernel)) (gt_t (i := 511) (by decide +kernel) (by decide +kernel)) (gt_t (i := 15) (by decide +kernel) (by decide +kernel)) dfX7_ok (Nat.le_of_ble_eq_true rfl) (Nat.le_of_ble_eq_true rfl) dX11_init_113 (fun q H Sn => ?_)
  refine lv_dup X.1 X.2.1 dX11_init_116 rfl ?_
  refine lv_aload_n X.1 X.2.1 dX11_init_117 rfl (lv_at hl 0 rfl) ?_
  refine n_get (v := .ref (u3 0)) (k := 3) X Sn hj clX11 (by decide) flX11_37 rfl dX11_init_118 ?_
  refine lv_aload_n X.1 X.2.1 dX11_init_121 rfl (lv_at hl 0 rfl) ?_
  refine n_get (v := .ref (u6 0)) (k := 6) X Sn hj clX11 (by decide) flX11_62 rfl dX11_init_122 ?_
  refine lv_aload_n X.1 X.2.1 dX11_init_125 rfl (lv_at hl 0 rfl) ?_
  refine n_get (v := .ref (u7 0)) (k := 7) X Sn hj clX11 (by decide) flX11_71 rfl dX11_init_126 ?_
  refine n_initL (av := [(u3 0), (u6 0), (u7 0)]) X Sn hl.1 ctX7 rfl cd_yX7_init (gt_t (i := 15) (by decide +kernel) (by decide +kernel)) (gt_t (i := 512) (by decide +kernel) (by decide +kernel)) (gt_t (i := 513) (by decide +kernel) (by decide +kernel)) rfl (by decide +kernel) ⟨Nat.le_of_ble_eq_true rfl, Nat.le_of_ble_eq_true rfl⟩ rfl (Nat.le_of_ble_eq_true rfl) dX11_init_129 ⟨Nat.le_of_ble_eq_true rfl, Nat.le_of_ble_eq_true rfl⟩ (fun u8 H locs w8 hq e8 S => ?_)
  clear Sn
  subst hq
  refine n_putF (ty := tyX11 8) (k := 8) X S hj clX11 (by decide) flX11_80 rfl rfl (by decide +kernel) rfl rfl (Nat.le_of_ble_eq_true rfl) dX11_init_132 (fun H locs S => ?_)
  refine lv_aload_n X.1 X.2.1 dX11_init_135 rfl (lv_at hl 0 rfl) ?_
  refine n_new (fs' := dfX2) X S clX2 (gt_t (i := 427) (by decide +kernel) (by decide +kernel)) (gt_t (i := 428) (by decide +kernel) (by decide +kernel)) (gt_t (i := 13) (by decide +kernel) (by decide +kernel)) dfX2_ok (Nat.le_of_ble_eq_true rfl) (Nat.le_of_ble_eq_true rfl) dX11_init_136 (fun q H Sn => ?_)
  refine lv_dup X.1 X.2.1 dX11_init_139 rfl ?_
  refine lv_aload_n X.1 X.2.1 dX11_init_140 rfl (lv_at hl 0 rfl) ?_
  refine n_get (v := .ref (u3 0)) (k := 3) X Sn hj clX11 (by decide) flX11_37 rfl dX11_init_141 ?_
  refine n_initL (av := [(u3 0)]) X Sn hl.1 ctX2 rfl cd_yX2_init (gt_t (i := 13) (by decide +kernel) (by decide +kernel)) (gt_t (i := 429) (by decide +kernel) (by decide +kernel)) (gt_t (i := 430) (by decide +kernel) (by decide +kernel)) rfl (by decide +kernel) ⟨Nat.le_of_ble_eq_true rfl, Nat.le_of_ble_eq_true rfl⟩ rfl (Nat.le_of_ble_eq_true rfl) dX11_init_144 ⟨Nat.le_of_ble_eq_true rfl, Nat.le_of_ble_eq_true rfl⟩ (fun u9 H locs w9 hq e9 S => ?_)
  clear Sn
  subst hq
  refine n_putF (ty := tyX11 9) (k := 9) X S hj clX11 (by decide) flX11_84 rfl rfl (by decide +kernel) rfl rfl (Nat.le_of_ble_eq_true rfl) dX11_init_147 (fun H locs S => ?_)
  refine lv_aload_n X.1 X.2.1 dX11_init_150 rfl (lv_at hl 0 rfl) ?_
  refine n_new (fs' := dfX5) X S clX5 (gt_t (i := 453) (by decide +kernel) (by decide +kernel)) (gt_t (i := 454) (by decide +kernel) (by decide +kernel)) (gt_t (i := 14) (by decide +kernel) (by decide +kernel)) dfX5_ok (Nat.le_of_ble_eq_true rfl) (Nat.le_of_ble_eq_true rfl) dX11_init_151 (fun q H Sn => ?_)
  refine lv_dup X.1 X.2.1 dX11_init_154 rfl ?_
  refine lv_aload_n X.1 X.2.1 dX11_init_155 rfl (lv_at hl 0 rfl) ?_
  refine n_get (v := .ref (u3 0)) (k := 3) X Sn hj clX11 (by decide) flX11_37 rfl dX11_init_156 ?_
  refine lv_aload_n X.1 X.2.1 dX11_init_159 rfl (lv_at hl 0 rfl) ?_
  refine n_get (v := .ref (u9 0)) (k := 9) X Sn hj clX11 (by decide) flX11_84 rfl dX11_init_160 ?_
  refine n_initL (av := [(u3 0), (u9 0)]) X Sn hl.1 ctX5 rfl cd_yX5_init (gt_t (i := 14) (by decide +kernel) (by decide +kernel)) (gt_t (i := 455) (by decide +kernel) (by decide +kernel)) (gt_t (i := 456) (by decide +kernel) (by decide +kernel)) rfl (by decide +kernel) ⟨Nat.le_of_ble_eq_true rfl, Nat.le_of_ble_eq_true rfl⟩ rfl (Nat.le_of_ble_eq_true rfl) dX11_init_163 ⟨Nat.le_of_ble_eq_true rfl, Nat.le_of_ble_eq_true rfl⟩ (fun u10 H locs w10 hq e10 S => ?_)
  clear Sn
  subst hq
  refine n_putF (ty := tyX11 10) (k := 10) X S hj clX11 (by decide) flX11_87 rfl rfl (by decide +kernel) rfl rfl (Nat.le_of_ble_eq_true rfl) dX11_init_166 (fun H locs S => ?_)
  refine lv_aload_n X.1 X.2.1 dX11_init_169 rfl (lv_at hl 0 rfl) ?_
  refine n_new (fs' := dfX7) X S clX7 (gt_t (i := 510) (by decide +kernel) (by decide +kernel)) (gt_t (i := 511) (by decide +kernel) (by decide +kernel)) (gt_t (i := 15) (by decide +kernel) (by decide +kernel)) dfX7_ok (Nat.le_of_ble_eq_true rfl) (Nat.le_of_ble_eq_true rfl) dX11_init_170 (fun q H Sn => ?_)
  refine lv_dup X.1 X.2.1 dX11_init_173 rfl ?_
  refine lv_aload_n X.1 X.2.1 dX11_init_174 rfl (lv_at hl 0 rfl) ?_
  refine n_get (v := .ref (u3 0)) (k := 3) X Sn hj clX11 (by decide) flX11_37 rfl dX11_init_175 ?_
  refine lv_aload_n X.1 X.2.1 dX11_init_178 rfl (lv_at hl 0 rfl) ?_
  refine n_get (v := .ref (u9 0)) (k := 9) X Sn hj clX11 (by decide) flX11_84 rfl dX11_init_179 ?_
  refine lv_aload_n X.1 X.2.1 dX11_init_182 rfl (lv_at hl 0 rfl) ?_
  refine n_get (v := .ref (u10 0)) (k := 10) X Sn hj clX11 (by decide) flX11_87 rfl dX11_init_183 ?_
  refine n_initL (av := [(u3 0), (u9 0), (u10 0)]) X Sn hl.1 ctX7 rfl cd_yX7_init (gt_t (i := 15) (by decide +kernel) (by decide +kernel)) (gt_t (i := 512) (by decide +kernel) (by decide +kernel)) (gt_t (i := 513) (by decide +kernel) (by decide +kernel)) rfl (by decide +kernel) ⟨Nat.le_of_ble_eq_true rfl, Nat.le_of_ble_eq_true rfl⟩ rfl (Nat.le_of_ble_eq_true rfl) dX11_init_186 ⟨Nat.le_of_ble_eq_true rfl, Nat.le_of_ble_eq_true rfl⟩ (fun u11 H locs w11 hq e11 S => ?_)
  clear Sn
  subst hq
  refine n_putF (ty := tyX11 11) (k := 11) X S hj clX11 (by decide) flX11_90 rfl rfl (by decide +kernel) rfl rfl (Nat.le_of_ble_eq_true rfl) dX11_init_189 (fun H locs S => ?_)
  refine lv_aload_n X.1 X.2.1 dX11_init_192 rfl (lv_at hl 0 rfl) ?_
  refine n_new (fs' := dfX1) X S clX1 (gt_t (i := 590) (by decide +kernel) (by decide +kernel)) (gt_t (i := 591) (by decide +kernel) (by decide +kernel)) (gt_t (i := 16) (by decide +kernel) (by decide +kernel)) dfX1_ok (Nat.le_of_ble_eq_true rfl) (Nat.le_of_ble_eq_true rfl) dX11_init_193 (fun q H Sn => ?_)
  refine lv_dup X.1 X.2.1 dX11_init_196 rfl ?_
  refine lv_aload_n X.1 X.2.1 dX11_init_197 rfl (lv_at hl 0 rfl) ?_
  refine n_get (v := .ref (u3 0)) (k := 3) X Sn hj clX11 (by decide) flX11_37 rfl dX11_init_198 ?_
  refine lv_aload_n X.1 X.2.1 dX11_init_201 rfl (lv_at hl 0 rfl) ?_
  refine n_get (v := .ref (u6 0)) (k := 6) X Sn hj clX11 (by decide) flX11_62 rfl dX11_init_202 ?_
  refine lv_aload_n X.1 X.2.1 dX11_init_205 rfl (lv_at hl 0 rfl) ?_
  refine n_get (v := .ref (u7 0)) (k := 7) X Sn hj clX11 (by decide) flX11_71 rfl dX11_init_206 ?_
  refine n_initL (av := [(u3 0), (u6 0), (u7 0)]) X Sn hl.1 ctX1 rfl cd_yX1_init (gt_t (i := 16) (by decide +kernel) (by decide +kernel)) (gt_t (i := 592) (by decide +kernel) (by decide +kernel)) (gt_t (i := 593) (by decide +kernel) (by decide +kernel)) rfl (by decide +kernel) ⟨Nat.le_of_ble_eq_true rfl, Nat.le_of_ble_eq_true rfl⟩ rfl (Nat.le_of_ble_eq_true rfl) dX11_init_209 ⟨Nat.le_of_ble_eq_true rfl, Nat.le_of_ble_eq_true rfl⟩ (fun u12 H locs w12 hq e12 S => ?_)
  clear Sn
  subst hq
  refine n_putF (ty := tyX11 12) (k := 12) X S hj clX11 (by decide) flX11_96 rfl rfl (by decide +kernel) rfl rfl (Nat.le_of_ble_eq_true rfl) dX11_init_212 (fun H locs S => ?_)
  refine lv_aload_n X.1 X.2.1 dX11_init_215 rfl (lv_at hl 0 rfl) ?_
  refine n_new (fs' := dfX3) X S clX3 (gt_t (i := 621) (by decide +kernel) (by decide +kernel)) (gt_t (i := 128) (by decide +kernel) (by decide +kernel)) (gt_t (i := 8) (by decide +kernel) (by decide +kernel)) dfX3_ok (Nat.le_of_ble_eq_true rfl) (Nat.le_of_ble_eq_true rfl) dX11_init_216 (fun q H Sn => ?_)
  refine lv_dup X.1 X.2.1 dX11_init_219 rfl ?_
  refine n_initLN (av := []) X Sn hl.1 ctX3 rfl cd_yX3_init (gt_t (i := 8) (by decide +kernel) (by decide +kernel)) (List.mem_filter.mpr ⟨List.mem_of_getElem? (i := 622) (by decide +kernel), rfl⟩) (gt_t (i := 130) (by decide +kernel) (by decide +kernel)) rfl (by decide +kernel) ⟨Nat.le_of_ble_eq_true rfl, Nat.le_of_ble_eq_true rfl⟩ rfl (Nat.le_of_ble_eq_true rfl) dX11_init_220 ⟨Nat.le_of_ble_eq_true rfl, Nat.le_of_ble_eq_true rfl⟩ (fun u13 H locs w13 hq e13 S => ?_)
  clear Sn
  subst hq
  refine n_put (ty := tyX11 13) (k := 13) X S hj clX11 (by decide) flX11_103 rfl (by decide +kernel) rfl rfl (Nat.le_of_ble_eq_true rfl) dX11_init_223 (fun H locs S => ?_)
  refine lv_aload_n X.1 X.2.1 dX11_init_226 rfl (lv_at hl 0 rfl) ?_
  refine lv_iconst (v := 0) X.1 X.2.1 dX11_init_227 rfl ?_
  refine n_put (ty := tyX11 14) (k := 14) X S hj clX11 (by decide) flX11_107 rfl (by decide +kernel) rfl rfl (Nat.le_of_ble_eq_true rfl) dX11_init_228 (fun H locs S => ?_)
  refine lv_aload_n X.1 X.2.1 dX11_init_231 rfl (lv_at hl 0 rfl) ?_
  refine lv_bipush (v := -2) X.1 X.2.1 dX11_init_232 (by decide) ?_
  refine n_put (ty := tyX11 15) (k := 15) X S hj clX11 (by decide) flX11_111 rfl (by decide +kernel) rfl rfl (Nat.le_of_ble_eq_true rfl) dX11_init_234 (fun H locs S => ?_)
  rw [e13, e12, e11, e10, e9, e8, e7, e6, e5, e4, e3, e2, e1, e0] at S
  refine ret H locs ls 237 (fun n => ([u0, u1, u2, u3, u4, u5, u6, u7, u8, u9, u10, u11, u12, u13].getD (n % 16) (fun _ => 0)) (n / 16)) ?_ dX11_init_237
  unfold FX11
  rw [show (fun k i : Nat => (fun n : Nat => ([u0, u1, u2, u3, u4, u5, u6, u7, u8, u9, u10, u11, u12, u13].getD (n % 16) (fun _ => 0)) (n / 16)) (k % 16 + 16 * i)) = (fun k i : Nat => ([u0, u1, u2, u3, u4, u5, u6, u7, u8, u9, u10, u11, u12, u13].getD (k % 16) (fun _ => 0)) i) from pk16 (fun k => [u0, u1, u2, u3, u4, u5, u6, u7, u8, u9, u10, u11, u12, u13].getD k (fun _ => 0))]
  exact S
