/-! Best.reckon on the machine -/
theorem mmax_iX1_50 : Cond.methodLink RX1 50 Lib.Math.max.name ∈ gt := gt_t (i := 1240) (by decide +kernel) rfl
def rkR : Room := { frames := 2, cells := 1, slots := 4096, locals := 45 }
theorem ofI_add {a b : Int} : Int32.ofInt a + Int32.ofInt b = Int32.ofInt (w32 (a + b)) := by rw [w32_of, Int32.ofInt_add]
theorem ofI_sub {a b : Int} : Int32.ofInt a - Int32.ofInt b = Int32.ofInt (w32 (a - b)) := by rw [w32_of, Int32.ofInt_sub]
section Reckon
variable {p : Program} {l : Launch} {e : Env} {s : State} {m : MethodId} {args : Array Value} {below : List Frame} {meth : Method} {c : Code} {Q : State → Prop} {D : va_G} {cA : Nat → ClassId} {A : Nat → Prop} {ad : Nat → Nat} {cells slots : Nat}
set_option maxHeartbeats 4000000 in
set_option maxRecDepth 20000 in
theorem rk_l1 {full : Int} {q3 : Mem} (X : WC p s m args c RX1 cX1_reckon 3 D cA A) (hfull : i32 full) (K : ∀ (H : Heap) (locs : List Loc) (ls : Array Slot), WSt D cA A s ad q3 H locs → lv_has ls 3 [(1, .int (Int32.ofInt full)), (0, .ref (ad 114))] → W p l e rkR s m args below meth c H locs cells slots Q (F0 m 52 ls [])) :
    ∀ (n : Nat) (i : Int) (q : Mem) (H : Heap) (locs : List Loc) (ls : Array Slot), whl (fX1_reckon_b1 full) n (i, q) = some q3 → i32 i → WSt D cA A s ad q H locs → lv_has ls 3 [(2, .int (Int32.ofInt i)), (1, .int (Int32.ofInt full)), (0, .ref (ad 114))] → W p l e rkR s m args below meth c H locs cells slots Q (F0 m 33 ls []) := by
  intro n
  induction n with
  | zero => intro i q H locs ls h; cases h
  | succ n ih =>
    intro i q H locs ls h hi S hl
    unfold whl fX1_reckon_b1 at h
    dsimp only at h
    refine lv_iload_n X.1 X.2.1 dX1_reckon_33 rfl (lv_at hl 0 rfl) ?_
    refine lv_iload_n X.1 X.2.1 dX1_reckon_34 rfl (lv_at hl 1 rfl) ?_
    refine lv_icmp_gt (tgt := 52) X.1 X.2.1 dX1_reckon_35 (by decide) (fun hc => ?_) (fun hc => ?_)
    · rw [if_pos ((i32_lt hfull hi).mp hc)] at h
      cases h
      exact K H locs ls S (lv_sub hl [1, 2] rfl)
    · rw [if_neg (fun z => hc ((i32_lt hfull hi).mpr z))] at h
      obtain ⟨x1, h1, h2⟩ := Option.bind_eq_some_iff.mp h
      obtain ⟨M1, h3, h4⟩ := Option.bind_eq_some_iff.mp h1
      cases h4
      refine lv_aload_n X.1 X.2.1 dX1_reckon_38 rfl (lv_at hl 2 rfl) ?_
      refine w_getp X S clX1 kd_114 (k := 3) (by decide) flX1_11 dX1_reckon_39 pt_114_3 ?_
      refine lv_iload_n X.1 X.2.1 dX1_reckon_42 rfl (lv_at hl 0 rfl) ?_
      refine lv_ldc X.1 X.2.1 X.2.2.2.1 (X.2.2.2.2.1 _ kiX1_45) dX1_reckon_43 ?_
      refine w_iast (x := 2147483647) X S hi ⟨by decide, by decide⟩ h3 dX1_reckon_45 (fun H locs S => ?_)
      refine lv_iinc (k := 0) (v := Int32.ofInt (w32 (i + 1))) X.1 X.2.1 dX1_reckon_46 hl rfl ofI_add (by decide) rfl (fun ls hl => ?_)
      refine lv_goto (tgt := 33) X.1 X.2.1 dX1_reckon_49 (by decide) ?_
      exact ih (w32 (i + 1)) M1 H locs ls h2 (w32_in _) S hl
set_option maxHeartbeats 4000000 in
set_option maxRecDepth 20000 in
theorem rk_l2 {full : Int} {q5 : Mem} (X : WC p s m args c RX1 cX1_reckon 3 D cA A) (hfull : i32 full) (hcs : cells ≤ 1 ∧ slots ≤ 4096) (K : ∀ (H : Heap) (locs : List Loc) (ls : Array Slot), WSt D cA A s ad q5 H locs → lv_has ls 3 [(1, .int (Int32.ofInt full)), (0, .ref (ad 114))] → W p l e rkR s m args below meth c H locs cells slots Q (F0 m 108 ls [])) :
    ∀ (n : Nat) (i : Int) (q : Mem) (H : Heap) (locs : List Loc) (ls : Array Slot), whl (fX1_reckon_b2 full) n (i, q) = some q5 → i32 i → WSt D cA A s ad q H locs → lv_has ls 3 [(2, .int (Int32.ofInt i)), (1, .int (Int32.ofInt full)), (0, .ref (ad 114))] → W p l e rkR s m args below meth c H locs cells slots Q (F0 m 61 ls []) := by
  intro n
  induction n with
  | zero => intro i q H locs ls h; cases h
  | succ n ih =>
    intro i q H locs ls h hi S hl
    unfold whl fX1_reckon_b2 at h
    dsimp only at h
    refine lv_iload_n X.1 X.2.1 dX1_reckon_61 rfl (lv_at hl 0 rfl) ?_
    refine lv_iload_n X.1 X.2.1 dX1_reckon_62 rfl (lv_at hl 1 rfl) ?_
    refine lv_icmp_gt (tgt := 108) X.1 X.2.1 dX1_reckon_63 (by decide) (fun hc => ?_) (fun hc => ?_)
    · rw [if_pos ((i32_lt hfull hi).mp hc)] at h
      cases h
      exact K H locs ls S (lv_sub hl [1, 2] rfl)
    · rw [if_neg (fun z => hc ((i32_lt hfull hi).mpr z))] at h
      obtain ⟨x1, h1, h2⟩ := Option.bind_eq_some_iff.mp h
      obtain ⟨v1, h3, h4⟩ := Option.bind_eq_some_iff.mp h1
      obtain ⟨q6, h5, h6⟩ := Option.bind_eq_some_iff.mp h4
      cases h6
      have h2 : whl (fX1_reckon_b2 full) n (w32 (i + 1), q6) = some q5 := h2
      have tail : ∀ (H : Heap) (locs : List Loc), WSt D cA A s ad q6 H locs → W p l e rkR s m args below meth c H locs cells slots Q (F0 m 102 ls []) := by
        intro H locs S
        refine lv_iinc (k := 0) (v := Int32.ofInt (w32 (i + 1))) X.1 X.2.1 dX1_reckon_102 hl rfl ofI_add (by decide) rfl (fun ls hl => ?_)
        refine lv_goto (tgt := 61) X.1 X.2.1 dX1_reckon_105 (by decide) ?_
        exact ih (w32 (i + 1)) q6 H locs ls h2 (w32_in _) S hl
      refine lv_aload_n X.1 X.2.1 dX1_reckon_66 rfl (lv_at hl 2 rfl) ?_
      refine w_getp X S clX1 kd_114 (k := 3) (by decide) flX1_11 dX1_reckon_67 pt_114_3 ?_
      refine lv_iload_n X.1 X.2.1 dX1_reckon_70 rfl (lv_at hl 0 rfl) ?_
      refine w_iald X S hi h3 dX1_reckon_71 (fun hv1 => ?_)
      refine lv_ldc X.1 X.2.1 X.2.2.2.1 (X.2.2.2.2.1 _ kiX1_45) dX1_reckon_72 ?_
      refine lv_icmp_eq (tgt := 102) X.1 X.2.1 dX1_reckon_74 (by decide) (fun hc => ?_) (fun hc => ?_)
      · have hc : Int32.ofInt v1 = Int32.ofInt 2147483647 := hc
        rw [if_pos ((i32_eq hv1 ⟨by decide, by decide⟩).mp hc)] at h5
        cases h5
        exact tail H locs S
      · have hc : ¬ Int32.ofInt v1 = Int32.ofInt 2147483647 := hc
        rw [if_neg (fun z => hc ((i32_eq hv1 ⟨by decide, by decide⟩).mpr z))] at h5
        obtain ⟨v2, g1, g2⟩ := Option.bind_eq_some_iff.mp h5
        obtain ⟨x3, g3, g4⟩ := Option.bind_eq_some_iff.mp g2
        obtain ⟨M4, g5, g6⟩ := Option.bind_eq_some_iff.mp g4
        obtain ⟨x5, g7, g8⟩ := Option.bind_eq_some_iff.mp g6
        cases g8
        have t1 := tX1_living i q
        rw [g3] at t1
        have t2 := tX1_goOn i M4
        rw [g7] at t2
        refine lv_aload_n X.1 X.2.1 dX1_reckon_77 rfl (lv_at hl 2 rfl) ?_
        refine w_getp X S clX1 kd_114 (k := 3) (by decide) flX1_11 dX1_reckon_78 pt_114_3 ?_
        refine lv_iload_n X.1 X.2.1 dX1_reckon_81 rfl (lv_at hl 0 rfl) ?_
        refine lv_aload_n X.1 X.2.1 dX1_reckon_82 rfl (lv_at hl 2 rfl) ?_
        refine w_getp X S clX1 kd_114 (k := 3) (by decide) flX1_11 dX1_reckon_83 pt_114_3 ?_
        refine lv_iload_n X.1 X.2.1 dX1_reckon_86 rfl (lv_at hl 0 rfl) ?_
        refine w_iald X S hi g1 dX1_reckon_87 (fun hv2 => ?_)
        refine lv_aload_n X.1 X.2.1 dX1_reckon_88 rfl (lv_at hl 2 rfl) ?_
        refine lv_iload_n X.1 X.2.1 dX1_reckon_89 rfl (lv_at hl 0 rfl) ?_
        refine w_callV (av := [zi i]) (rest := [.int (Int32.ofInt v2), .int (Int32.ofInt i), .ref (ad 115)]) X S hl.1 t1 ⟨hi, trivial⟩ lkX1_46 kd_114 rfl rfl rfl (Nat.le_of_ble_eq_true rfl) ⟨Nat.le_of_ble_eq_true rfl, Nat.le_of_ble_eq_true rfl⟩ hcs dX1_reckon_90 (fun H locs S hok => ?_)
        have S : WSt D cA A s ad x3.2 H locs := S
        refine w_imax (rest := [.int (Int32.ofInt i), .ref (ad 115)]) X hl.1 mmax_iX1_50 (Nat.le_of_ble_eq_true rfl) (Nat.le_of_ble_eq_true rfl) hcs hv2 (hok.2 (zi x3.1) rfl) dX1_reckon_93 (fun hmx => ?_)
        refine w_iast X S hi hmx g5 dX1_reckon_96 (fun H locs S => ?_)
        refine lv_aload_n X.1 X.2.1 dX1_reckon_97 rfl (lv_at hl 2 rfl) ?_
        refine lv_iload_n X.1 X.2.1 dX1_reckon_98 rfl (lv_at hl 0 rfl) ?_
        refine w_callV (av := [zi i]) (rest := []) X S hl.1 t2 ⟨hi, trivial⟩ lkX1_56 kd_114 rfl rfl rfl (Nat.le_of_ble_eq_true rfl) ⟨Nat.le_of_ble_eq_true rfl, Nat.le_of_ble_eq_true rfl⟩ hcs dX1_reckon_99 (fun H locs S hok => ?_)
        exact tail H locs S
set_option maxHeartbeats 4000000 in
set_option maxRecDepth 20000 in
theorem rk_tail {full : Int} {q2 : Mem} {r : Int × Mem} {ad0 : Nat → Nat} {H : Heap} {locs : List Loc} {ls : Array Slot} (X : WC p s m args c RX1 cX1_reckon 3 D cA A) (S : WSt D cA A s ad q2 H locs) (hl : lv_has ls 3 [(1, .int (Int32.ofInt full)), (0, .ref (ad 114))]) (hfull : i32 full) (had : ∀ b, b ≠ 115 → ad b = ad0 b) (hcs : cells ≤ 1 ∧ slots ≤ 4096) (hret : meth.sig.returnType = some .int) (hlk : meth.locks = false)
    (hr : ((lp (fX1_reckon_b1 full) (0, q2)).bind fun q3 => (stI q3 115 0 0).bind fun q4 => (lp (fX1_reckon_b2 full) (0, q4)).bind fun q5 => (ldI q5 115 full).bind fun v6 => some (v6, q5)) = some r) :
    W p l e rkR s m args below meth c H locs cells slots (MQ below (PostW D cA A ad0 (oI r)) args s 1 4096 A) (F0 m 31 ls []) := by
  obtain ⟨q3, f1, hr⟩ := Option.bind_eq_some_iff.mp hr
  obtain ⟨q4, f2, hr⟩ := Option.bind_eq_some_iff.mp hr
  obtain ⟨q5, f3, hr⟩ := Option.bind_eq_some_iff.mp hr
  obtain ⟨v6, f4, hr⟩ := Option.bind_eq_some_iff.mp hr
  cases hr
  obtain ⟨n1, f1⟩ := lp_iff.mp f1
  obtain ⟨n2, f3⟩ := lp_iff.mp f3
  have i0 : i32 0 := ⟨by decide, by decide⟩
  refine lv_iconst (v := Int32.ofInt 0) X.1 X.2.1 dX1_reckon_31 rfl ?_
  refine lv_istore_n X.1 X.2.1 dX1_reckon_32 rfl hl (by decide) rfl (fun ls hl => ?_)
  refine rk_l1 X hfull (fun H locs ls S hl => ?_) n1 0 q2 H locs ls f1 i0 S hl
  refine lv_aload_n X.1 X.2.1 dX1_reckon_52 rfl (lv_at hl 1 rfl) ?_
  refine w_getp X S clX1 kd_114 (k := 3) (by decide) flX1_11 dX1_reckon_53 pt_114_3 ?_
  refine lv_iconst (v := Int32.ofInt 0) X.1 X.2.1 dX1_reckon_56 rfl ?_
  refine lv_iconst (v := Int32.ofInt 0) X.1 X.2.1 dX1_reckon_57 rfl ?_
  refine w_iast X S i0 i0 f2 dX1_reckon_58 (fun H locs S => ?_)
  refine lv_iconst (v := Int32.ofInt 0) X.1 X.2.1 dX1_reckon_59 rfl ?_
  refine lv_istore_n X.1 X.2.1 dX1_reckon_60 rfl hl (by decide) rfl (fun ls hl => ?_)
  refine rk_l2 X hfull hcs (fun H locs ls S hl => ?_) n2 0 q4 H locs ls f3 i0 S hl
  refine lv_aload_n X.1 X.2.1 dX1_reckon_108 rfl (lv_at hl 1 rfl) ?_
  refine w_getp X S clX1 kd_114 (k := 3) (by decide) flX1_11 dX1_reckon_109 pt_114_3 ?_
  refine lv_iload_n X.1 X.2.1 dX1_reckon_112 rfl (lv_at hl 0 rfl) ?_
  refine w_iald X S hfull f4 dX1_reckon_113 (fun hv => ?_)
  exact w_iret X S had hret hlk hv hcs.1 hcs.2 dX1_reckon_114
end Reckon
set_option maxHeartbeats 4000000 in
set_option maxRecDepth 20000 in
theorem cnX1_reckon {M : Mem} (hg : ∀ q1, fX1_gather M = some q1 → (q1 0 13 = 5 ∨ q1 0 13 = 119) ∧ (q1 4 1 = 5 ∨ q1 4 1 = 119) ∧ 0 ≤ w32 (w32 (ishl 1 (q1 114 7) - 1) + 1) ∧ w32 (w32 (ishl 1 (q1 114 7) - 1) + 1) ≤ 4096) : CnW yX1_reckon cX1_reckon 3 (some .int) 2 45 1 4096 [zr 114] M ((fX1_reckon M).map oI) := by
  refine CnW_mk (by decide +kernel) (by decide) ?_
  intro p l e s m args below meth c D cA A ad ls r hr X hav S hl hret hlk
  obtain ⟨r0, hr0, e0⟩ := Option.map_eq_some_iff.mp hr
  clear hr
  subst e0
  have hr := hr0
  clear hr0
  unfold fX1_reckon at hr
  obtain ⟨q1, f1, hr⟩ := Option.bind_eq_some_iff.mp hr
  obtain ⟨q2, f2, hr⟩ := Option.bind_eq_some_iff.mp hr
  obtain ⟨a13, a41, n0, n1⟩ := hg q1 f1
  have t1 := tX1_gather M
  rw [f1] at t1
  have X : WC p s m args c RX1 cX1_reckon 3 D cA A := X
  have hl : lv_has ls 3 [(0, .ref (ad 114))] := hl
  show W p l e rkR s m args below meth c s.heap [] 0 0 (MQ below (PostW D cA A ad (oI r0)) args s 1 4096 A) (F0 m 0 ls [])
  refine lv_aload_n X.1 X.2.1 dX1_reckon_0 rfl (lv_at hl 0 rfl) ?_
  refine w_callV (av := []) (rest := []) X S hl.1 t1 trivial lkX1_38 kd_114 rfl rfl rfl (Nat.le_of_ble_eq_true rfl) ⟨Nat.le_of_ble_eq_true rfl, Nat.le_of_ble_eq_true rfl⟩ ⟨Nat.zero_le _, Nat.zero_le _⟩ dX1_reckon_1 (fun H locs S hok => ?_)
  have S : WSt D cA A s ad q1 H locs := S
  refine lv_iconst (v := Int32.ofInt 1) X.1 X.2.1 dX1_reckon_4 rfl ?_
  refine lv_aload_n X.1 X.2.1 dX1_reckon_5 rfl (lv_at hl 0 rfl) ?_
  refine w_geti X S clX1 kd_114 (k := 7) (kz := 7) (by decide) flX1_41 dX1_reckon_6 (by decide +kernel) rfl (fun h7 => ?_)
  refine lv_ishl X.1 X.2.1 dX1_reckon_9 ?_
  have e1 : Int32.ofInt 1 <<< (Int32.ofInt (q1 114 7) &&& 31) = Int32.ofInt (ishl 1 (q1 114 7)) := (Int32.ofInt_toInt _).symm
  rw [e1]
  refine lv_iconst (v := Int32.ofInt 1) X.1 X.2.1 dX1_reckon_10 rfl ?_
  refine lv_isub X.1 X.2.1 dX1_reckon_11 ?_
  rw [ofI_sub]
  generalize hF : w32 (ishl 1 (q1 114 7) - 1) = full at *
  have hfull : i32 full := by rw [← hF]; exact w32_in _
  refine lv_istore_n X.1 X.2.1 dX1_reckon_12 rfl hl (by decide) rfl (fun ls hl => ?_)
  have hl : lv_has ls 3 [(1, .int (Int32.ofInt full)), (0, .ref (ad 114))] := hl
  refine lv_aload_n X.1 X.2.1 dX1_reckon_13 rfl (lv_at hl 1 rfl) ?_
  refine w_getp X S clX1 kd_114 (k := 3) (by decide) flX1_11 dX1_reckon_14 pt_114_3 ?_
  refine w_alen X S kd1_115 dX1_reckon_17 (fun hl0 hl1 => ?_)
  refine lv_iload_n X.1 X.2.1 dX1_reckon_18 rfl (lv_at hl 0 rfl) ?_
  refine lv_icmp_gt (tgt := 31) X.1 X.2.1 dX1_reckon_19 (by decide) (fun hc => ?_) (fun hc => ?_)
  · have hc := (i32_lt hfull hl1).mp hc
    rw [if_neg (by omega)] at f2
    cases f2
    exact rk_tail X S hl hfull (fun _ _ => rfl) ⟨Nat.zero_le _, Nat.zero_le _⟩ hret hlk hr
  · have hc : ¬ full < len q1 115 := fun z => hc ((i32_lt hfull hl1).mpr z)
    rw [if_pos (by omega)] at f2
    cases f2
    refine lv_aload_n X.1 X.2.1 dX1_reckon_22 rfl (lv_at hl 1 rfl) ?_
    refine lv_iload_n X.1 X.2.1 dX1_reckon_23 rfl (lv_at hl 0 rfl) ?_
    refine lv_iconst (v := Int32.ofInt 1) X.1 X.2.1 dX1_reckon_24 rfl ?_
    refine lv_iadd X.1 X.2.1 dX1_reckon_25 ?_
    rw [ofI_add]
    refine w_roads X S n0 (by omega) a13 a41 (Nat.le_of_ble_eq_true rfl) (by show 0 + _ ≤ 4096; omega) dX1_reckon_26 dX1_reckon_28 (fun q H locs S => ?_)
    have e4 : ad 114 = adR ad q 114 := (if_neg (by decide)).symm
    rw [e4] at hl
    exact rk_tail X S hl hfull (fun b hb => if_neg hb) ⟨Nat.le_refl _, by omega⟩ hret hlk hr
