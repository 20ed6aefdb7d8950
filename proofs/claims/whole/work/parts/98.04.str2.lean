/-! calls that write nothing -/
section SRows
variable {p : Program} {l : Launch} {e : Env} {R : Room} {s : State} {m : MethodId} {args : Array Value} {below : List Frame} {meth : Method} {c : Code} {H : Heap} {locs : List Loc} {cells slots : Nat} {Q : State → Prop} {own : String} {cc : ByteArray} {nL pc : Nat} {A : Nat → Prop} {ls : Array Slot} {rest st : List Value} {y : MethodName} {bytes : ByteArray} {maxL n fr' lo' index : Nat} {rt : Option FieldType} {av : List Value} {E : State → Prop} {v : Int32}
set_option maxHeartbeats 4000000 in
set_option maxRecDepth 20000 in
theorem s_iS (S : CallFix p m c cc nL s args gt own) (hM : Met l y (Cond.code y bytes maxL rt :: gt) { frames := fr', cells := 0, slots := 0, locals := lo' } (va_Pc av E) (QI v) 0 0 Noth) (hw : LkS own index y bytes maxL rt n) (hbl : FrameBlind (va_Pc av E)) (hE : ∀ U : State, U.heap = H → s.WarmedH U.vm → E U) (hls : ls.size = nL) (hn : av.length = n) (hst : st = av.reverse ++ rest) (hcat : (rest.map fun v => v.category).sum ≤ 8) (hroom : fr' + 1 ≤ R.frames ∧ 8 + (maxL + 11) + lo' ≤ R.locals) (hcs : cells ≤ R.cells ∧ slots ≤ R.slots) (hS : va_S A s.heap H locs) (hdg : decode cc pc = .ok (.invokestatic index, 3))
    (kk : ∀ (H1 : Heap) (locs1 : List Loc), H.size ≤ H1.size → (∀ q : Nat, q < H.size → H1[q]? = H[q]?) → va_S A s.heap H1 locs1 → W p l e R s m args below meth c H1 locs1 cells slots Q (F0 m (pc + 3) ls (.int v :: rest))) : W p l e R s m args below meth c H locs cells slots Q (F0 m pc ls st) := by
  obtain ⟨w1, w2, w4, w5, w6, w7, w8⟩ := hw
  subst hst
  refine va_calli (va_runS (n := n) (As := av) (rest := rest) S hM ⟨callB_of n S.2.2.2.2 (good_in w5) rfl rfl rfl (S.2.2.2.2 _ w4) (S.2.2.2.2 _ w1) ⟨w6, w7, w8⟩ hroom, S.2.2.2.2 _ w2⟩ ⟨hbl, fun U hU hW => ⟨rfl, hE U hU hW⟩⟩ rfl hn hls rfl (lv_room hcat) hdg hcs) hS (fun q _ h => h.elim) (fun q h => h.elim) (fun r u t H1 locs1 ht hvm hp _ hz hk hS1 => ?_)
  have hp2 : r = v := hp
  subst hp2
  exact kk H1 locs1 hz (fun q h => hk q h (fun z => z)) hS1
set_option maxHeartbeats 4000000 in
set_option maxRecDepth 20000 in
theorem s_vS (S : CallFix p m c cc nL s args gt own) (hM : Met l y (Cond.code y bytes maxL rt :: gt) { frames := fr', cells := 0, slots := 0, locals := lo' } (va_Pc av E) QV 0 0 Noth) (hw : LkS own index y bytes maxL rt n) (hbl : FrameBlind (va_Pc av E)) (hE : ∀ U : State, U.heap = H → s.WarmedH U.vm → E U) (hls : ls.size = nL) (hn : av.length = n) (hst : st = av.reverse ++ rest) (hcat : (rest.map fun v => v.category).sum ≤ 8) (hroom : fr' + 1 ≤ R.frames ∧ 8 + (maxL + 11) + lo' ≤ R.locals) (hcs : cells ≤ R.cells ∧ slots ≤ R.slots) (hS : va_S A s.heap H locs) (hdg : decode cc pc = .ok (.invokestatic index, 3))
    (kk : ∀ (H1 : Heap) (locs1 : List Loc), H.size ≤ H1.size → (∀ q : Nat, q < H.size → H1[q]? = H[q]?) → va_S A s.heap H1 locs1 → W p l e R s m args below meth c H1 locs1 cells slots Q (F0 m (pc + 3) ls rest)) : W p l e R s m args below meth c H locs cells slots Q (F0 m pc ls st) := by
  obtain ⟨w1, w2, w4, w5, w6, w7, w8⟩ := hw
  subst hst
  exact va_callv (va_runS (n := n) (As := av) (rest := rest) S hM ⟨callB_of n S.2.2.2.2 (good_in w5) rfl rfl rfl (S.2.2.2.2 _ w4) (S.2.2.2.2 _ w1) ⟨w6, w7, w8⟩ hroom, S.2.2.2.2 _ w2⟩ ⟨hbl, fun U hU hW => ⟨rfl, hE U hU hW⟩⟩ rfl hn hls rfl (lv_room hcat) hdg hcs) hS (fun q _ h => h.elim) (fun q h => h.elim) (fun u t H1 locs1 ht hvm hp _ hz hk hS1 => kk H1 locs1 hz (fun q h => hk q h (fun z => z)) hS1)
set_option maxHeartbeats 4000000 in
set_option maxRecDepth 20000 in
theorem s_iV {b : Nat} (S : CallFix p m c cc nL s args gt own) (hM : Met l y (Cond.code y bytes maxL rt :: gt) { frames := fr', cells := 0, slots := 0, locals := lo' } (va_Pc (.ref b :: av) E) (QI v) 0 0 Noth) (hw : LkV own index y bytes maxL rt n) (hbl : FrameBlind (va_Pc (.ref b :: av) E)) (hO : va_O y.cls b A s s.heap) (hE : ∀ U : State, U.heap = H → s.WarmedH U.vm → E U) (hls : ls.size = nL) (hn : av.length = n) (hst : st = av.reverse ++ .ref b :: rest) (hcat : (rest.map fun v => v.category).sum ≤ 8) (hroom : fr' + 1 ≤ R.frames ∧ 8 + (maxL + 11) + lo' ≤ R.locals) (hcs : cells ≤ R.cells ∧ slots ≤ R.slots) (hS : va_S A s.heap H locs) (hdg : decode cc pc = .ok (.invokevirtual index, 3))
    (kk : ∀ (H1 : Heap) (locs1 : List Loc), H.size ≤ H1.size → (∀ q : Nat, q < H.size → H1[q]? = H[q]?) → va_S A s.heap H1 locs1 → W p l e R s m args below meth c H1 locs1 cells slots Q (F0 m (pc + 3) ls (.int v :: rest))) : W p l e R s m args below meth c H locs cells slots Q (F0 m pc ls st) := by
  obtain ⟨w1, w2, w3, w4, w5, w6, w7, w8⟩ := hw
  subst hst
  refine va_calli (va_runV (n := n) (C := y.cls) (As := av) (rest := rest) S hM (cwV n S.2.2.2.2 (fun w hw => ?_) rfl rfl rfl ⟨rfl, w6, w7, w8⟩ hroom) ⟨hbl, va_Orecv hO hS, fun U hU hW => ⟨rfl, hE U hU hW⟩⟩ rfl hn hls rfl (lv_room hcat) hdg hcs) hS (fun q _ h => h.elim) (fun q h => h.elim) (fun r u t H1 locs1 ht hvm hp _ hz hk hS1 => ?_)
  · rcases List.mem_append.mp hw with h9 | h9
    · simp only [List.mem_cons, List.not_mem_nil, or_false] at h9
      rcases h9 with rfl | rfl | rfl | rfl
      · exact ⟨w1, gt_good _ w1⟩
      · exact ⟨w2, gt_good _ w2⟩
      · exact ⟨w3, gt_good _ w3⟩
      · exact ⟨w4, gt_good _ w4⟩
    · exact good_in w5 w h9
  · have hp2 : r = v := hp
    subst hp2
    exact kk H1 locs1 hz (fun q h => hk q h (fun z => z)) hS1
end SRows
theorem RC.fix {p : Program} {s : State} {m : MethodId} {args : Array Value} {meth : Method} {c : Code} {own : String} {cc : ByteArray} {nL : Nat} {rt : Option FieldType} (X : RC p s m args meth c own cc nL rt) : CallFix p m c cc nL s args gt own := ⟨X.1, X.2.1, X.2.2.1, X.2.2.2.1, X.2.2.2.2.1⟩
abbrev ZF (U : State) (H : Heap) : Prop := va_Zq "jdk/internal/util/Preconditions" "SIOOBE_FORMATTER" "Ljava/util/function/BiFunction;" Noth U H
theorem lkJ0_1059 : LkS RJ0 1059 yJ3_checkIndex_8e157 cJ3_checkIndex_8e157 3 (some .int) 3 := ⟨gt_t (i := 66) (by decide +kernel) rfl, gt_t (i := 67) (by decide +kernel) rfl, gt_t (i := 5) (by decide +kernel) rfl, cd_yJ3_checkIndex_8e157, by decide, by decide, by decide +kernel⟩
theorem lkJ1_9 : LkS RJ1 9 yJ0_checkIndex_df160 cJ0_checkIndex_df160 2 none 2 := ⟨gt_t (i := 61) (by decide +kernel) rfl, gt_t (i := 62) (by decide +kernel) rfl, gt_t (i := 3) (by decide +kernel) rfl, cd_yJ0_checkIndex_df160, by decide, by decide, by decide +kernel⟩
theorem lkJ0_495 : LkS RJ0 495 yJ1_charAt_3b067 cJ1_charAt_3b067 2 (some .char) 2 := ⟨gt_t (i := 58) (by decide +kernel) rfl, gt_t (i := 59) (by decide +kernel) rfl, gt_t (i := 4) (by decide +kernel) rfl, cd_yJ1_charAt_3b067, by decide, by decide, by decide +kernel⟩
theorem lkJ0_335 : LkV RJ0 335 yJ0_coder_7d493 cJ0_coder_7d493 1 (some .byte) 0 := ⟨gt_t (i := 44) (by decide +kernel) rfl, gt_t (i := 45) (by decide +kernel) rfl, gt_t (i := 46) (by decide +kernel) rfl, gt_t (i := 3) (by decide +kernel) rfl, cd_yJ0_coder_7d493, by decide, by decide, by decide +kernel⟩
theorem lkJ0_492 : LkV RJ0 492 yJ0_isLatin1_aae02 cJ0_isLatin1_aae02 1 (some .boolean) 0 := ⟨gt_t (i := 54) (by decide +kernel) rfl, gt_t (i := 55) (by decide +kernel) rfl, gt_t (i := 56) (by decide +kernel) rfl, gt_t (i := 3) (by decide +kernel) rfl, cd_yJ0_isLatin1_aae02, by decide, by decide, by decide +kernel⟩
theorem wJ0_1053 : Cond.fieldLink RJ0 1053 "jdk/internal/util/Preconditions" "SIOOBE_FORMATTER" "Ljava/util/function/BiFunction;" ∈ gt := gt_t (i := 64) (by decide +kernel) rfl
theorem wJ0_38 : Cond.fieldLink RJ0 38 "java/lang/String" "COMPACT_STRINGS" "Z" ∈ gt := gt_t (i := 48) (by decide +kernel) rfl
theorem wJ0_9 : Cond.fieldLink RJ0 9 "java/lang/String" "value" "[B" ∈ gt := gt_t (i := 2075) (by decide +kernel) rfl
theorem wJ0_15 : Cond.fieldLink RJ0 15 "java/lang/String" "coder" "B" ∈ gt := gt_t (i := 2076) (by decide +kernel) rfl
set_option maxHeartbeats 4000000 in
set_option maxRecDepth 20000 in
theorem st_chk {k n : Nat} (hk : k < n) (hn : n < 2 ^ 31) (l : Launch) : Met l yJ0_checkIndex_df160 (Cond.code yJ0_checkIndex_df160 cJ0_checkIndex_df160 2 none :: gt) { frames := 1, cells := 0, slots := 0, locals := 22 } (va_Pc [.int (nI k), .int (nI n)] (fun U => ZF U U.heap)) QV 0 0 Noth := by
  refine ro_mk (by decide +kernel) (Nat.le_refl 2) ?_ l
  intro p l e s m args below meth c ls X hE hl
  have hl : lv_has ls 2 [(0, .int (nI k)), (1, .int (nI n))] := hl
  refine lv_iload_n X.1 X.2.1 dJ0_checkIndex_df160_0 rfl (lv_at hl 0 rfl) ?_
  refine lv_iload_n X.1 X.2.1 dJ0_checkIndex_df160_1 rfl (lv_at hl 1 rfl) ?_
  have hgo : ∀ x : Value, x.category = 1 → (lg_sl [.int (nI k), .int (nI n), x]).length ≤ 3 → lv_args 0 [.int (nI k), .int (nI n), x] = [(0, .int (nI k)), (1, .int (nI n)), (2, x)] → va_Z "jdk/internal/util/Preconditions" "SIOOBE_FORMATTER" "Ljava/util/function/BiFunction;" x Noth s s.heap → W p l e { frames := 1, cells := 0, slots := 0, locals := 22 } s m args below meth c s.heap [] 0 0 (MQ below QV args s 0 0 Noth) (F0 m 2 ls [.int (nI n), .int (nI k)]) := by
    intro x hx h2 h3 hZ
    refine va_gets X.1 X.2.1 hZ va_S.rf X.2.2.2.1 (X.2.2.2.2.1 _ wJ0_1053) (fun _ h => h) dJ0_checkIndex_df160_2 ?_
    refine s_iS (A := Noth) (av := [.int (nI k), .int (nI n), x]) (rest := []) X.fix (st_pre hk hn x hx h2 h3 l) lkJ0_1059 True_blind (fun _ _ _ => trivial) hl.1 rfl rfl (by decide) ⟨Nat.le_refl 1, by decide⟩ ⟨Nat.zero_le _, Nat.zero_le _⟩ va_S.rf dJ0_checkIndex_df160_5 (fun H1 locs1 hz hq hS => ?_)
    refine lv_pop X.1 X.2.1 dJ0_checkIndex_df160_8 rfl ?_
    exact W.vret X.1 X.2.1 X.2.2.2.2.2.1 (fun t ht hW => ⟨⟨(), rfl, trivial, trivial⟩, hS.F ht⟩) hS.2.2 dJ0_checkIndex_df160_9 X.2.2.2.2.2.2
  rcases hE with hZ | ⟨t, hZ⟩
  · exact hgo .null rfl (Nat.le_refl 3) rfl hZ
  · exact hgo (.ref t) rfl (Nat.le_refl 3) rfl hZ
set_option maxHeartbeats 4000000 in
set_option maxRecDepth 20000 in
theorem st_lat {q w n k : Nat} {f : Nat → Int32} (hk : k < n) (hn : n < 2 ^ 31) (l : Launch) : Met l yJ1_charAt_3b067 (Cond.code yJ1_charAt_3b067 cJ1_charAt_3b067 2 (some .char) :: gt) { frames := 2, cells := 0, slots := 0, locals := 43 } (va_Pc [.ref w, .int (nI k)] (StrE q w n f)) (QI (f k &&& 255)) 0 0 Noth := by
  refine ro_mk (by decide +kernel) (Nat.le_refl 2) ?_ l
  intro p l e s m args below meth c ls X hE hl
  have hl : lv_has ls 2 [(0, .ref w), (1, .int (nI k))] := hl
  refine lv_iload_n X.1 X.2.1 dJ1_charAt_3b067_0 rfl (lv_at hl 1 rfl) ?_
  refine lv_aload_n X.1 X.2.1 dJ1_charAt_3b067_1 rfl (lv_at hl 0 rfl) ?_
  refine va_tlen X.1 X.2.1 hE.2.2.2.1 va_S.rf (v := nI n) rfl dJ1_charAt_3b067_2 ?_
  refine s_vS (A := Noth) (av := [.int (nI k), .int (nI n)]) (rest := []) X.fix (st_chk hk hn l) lkJ1_9 ZE_blind (fun U hU hW => ?_) hl.1 rfl rfl (by decide) ⟨Nat.le_refl 2, by decide⟩ ⟨Nat.zero_le _, Nat.zero_le _⟩ va_S.rf dJ1_charAt_3b067_3 (fun H1 locs1 hz hq hS => ?_)
  · rw [hU]; exact va_Zq.moved hW.alike hE.2.2.2.2.2
  refine lv_aload_n X.1 X.2.1 dJ1_charAt_3b067_6 rfl (lv_at hl 0 rfl) ?_
  refine lv_iload_n X.1 X.2.1 dJ1_charAt_3b067_7 rfl (lv_at hl 1 rfl) ?_
  refine va_tb X.1 X.2.1 hE.2.2.2.1 hS (vp_in_nI hk hn) (v := .int (f k)) (by rw [nI_clamp (by omega)]) dJ1_charAt_3b067_8 ?_
  refine lv_sipush X.1 X.2.1 dJ1_charAt_3b067_9 (v := 255) (by decide) ?_
  refine lv_iand X.1 X.2.1 dJ1_charAt_3b067_12 ?_
  refine lv_i2c X.1 X.2.1 dJ1_charAt_3b067_13 (sc_c2 _) ?_
  exact W.zret X.1 X.2.1 X.2.2.2.2.2.1 (sc_nar _) (fun t ht hW => ⟨⟨_, (), rfl, rfl, trivial⟩, hS.F ht⟩) hS.2.2 dJ1_charAt_3b067_14 X.2.2.2.2.2.2
set_option maxHeartbeats 4000000 in
set_option maxRecDepth 20000 in
theorem st_is {q w n : Nat} {f : Nat → Int32} (l : Launch) : Met l yJ0_isLatin1_aae02 (Cond.code yJ0_isLatin1_aae02 cJ0_isLatin1_aae02 1 (some .boolean) :: gt) { frames := 0, cells := 0, slots := 0, locals := 0 } (va_Pc [.ref q] (StrE q w n f)) (QI 1) 0 0 Noth := by
  refine ro_mk (by decide +kernel) (Nat.le_refl 1) ?_ l
  intro p l e s m args below meth c ls X hE hl
  have hl : lv_has ls 1 [(0, .ref q)] := hl
  refine va_gets X.1 X.2.1 hE.2.2.2.2.1 va_S.rf X.2.2.2.1 (X.2.2.2.2.1 _ wJ0_38) (fun _ h => h) dJ0_isLatin1_aae02_0 ?_
  refine lv_if_eq (tgt := 17) X.1 X.2.1 dJ0_isLatin1_aae02_3 (by decide) (fun z => absurd z (by decide)) (fun _ => ?_)
  refine lv_aload_n X.1 X.2.1 dJ0_isLatin1_aae02_6 rfl (lv_at hl 0 rfl) ?_
  refine vk_getf X.1 X.2.1 hE.2.1 va_S.rf X.2.2.2.1 (X.2.2.2.2.1 _ wJ0_15) (fun _ h => h) dJ0_isLatin1_aae02_7 ?_
  refine lv_if_ne (tgt := 17) X.1 X.2.1 dJ0_isLatin1_aae02_10 (by decide) (fun z => absurd z (by decide)) (fun _ => ?_)
  refine lv_iconst X.1 X.2.1 dJ0_isLatin1_aae02_13 (v := 1) (by decide) ?_
  refine lv_goto (tgt := 18) X.1 X.2.1 dJ0_isLatin1_aae02_14 (by decide) ?_
  exact W.zret X.1 X.2.1 X.2.2.2.2.2.1 (by decide) (fun t ht hW => ⟨⟨_, (), rfl, rfl, trivial⟩, (va_S.rf (A := Noth)).F ht⟩) (fun _ h => nomatch h) dJ0_isLatin1_aae02_18 X.2.2.2.2.2.2
set_option maxHeartbeats 4000000 in
set_option maxRecDepth 20000 in
theorem st_cod {q w n : Nat} {f : Nat → Int32} (l : Launch) : Met l yJ0_coder_7d493 (Cond.code yJ0_coder_7d493 cJ0_coder_7d493 1 (some .byte) :: gt) { frames := 0, cells := 0, slots := 0, locals := 0 } (va_Pc [.ref q] (StrE q w n f)) (QI 0) 0 0 Noth := by
  refine ro_mk (by decide +kernel) (Nat.le_refl 1) ?_ l
  intro p l e s m args below meth c ls X hE hl
  have hl : lv_has ls 1 [(0, .ref q)] := hl
  refine va_gets X.1 X.2.1 hE.2.2.2.2.1 va_S.rf X.2.2.2.1 (X.2.2.2.2.1 _ wJ0_38) (fun _ h => h) dJ0_coder_7d493_0 ?_
  refine lv_if_eq (tgt := 13) X.1 X.2.1 dJ0_coder_7d493_3 (by decide) (fun z => absurd z (by decide)) (fun _ => ?_)
  refine lv_aload_n X.1 X.2.1 dJ0_coder_7d493_6 rfl (lv_at hl 0 rfl) ?_
  refine vk_getf X.1 X.2.1 hE.2.1 va_S.rf X.2.2.2.1 (X.2.2.2.2.1 _ wJ0_15) (fun _ h => h) dJ0_coder_7d493_7 ?_
  refine lv_goto (tgt := 14) X.1 X.2.1 dJ0_coder_7d493_10 (by decide) ?_
  exact W.zret X.1 X.2.1 X.2.2.2.2.2.1 (by decide) (fun t ht hW => ⟨⟨_, (), rfl, rfl, trivial⟩, (va_S.rf (A := Noth)).F ht⟩) (fun _ h => nomatch h) dJ0_coder_7d493_14 X.2.2.2.2.2.2
set_option maxHeartbeats 4000000 in
set_option maxRecDepth 20000 in
theorem st_len {q w n : Nat} {f : Nat → Int32} (hn : n < 2 ^ 31) (l : Launch) : Met l yJ0_length_8abf5 (Cond.code yJ0_length_8abf5 cJ0_length_8abf5 1 (some .int) :: gt) { frames := 1, cells := 0, slots := 0, locals := 20 } (va_Pc [.ref q] (StrE q w n f)) (QI (nI n)) 0 0 Noth := by
  refine ro_mk (by decide +kernel) (Nat.le_refl 1) ?_ l
  intro p l e s m args below meth c ls X hE hl
  have hl : lv_has ls 1 [(0, .ref q)] := hl
  refine lv_aload_n X.1 X.2.1 dJ0_length_8abf5_0 rfl (lv_at hl 0 rfl) ?_
  refine vk_getf X.1 X.2.1 hE.2.2.1 va_S.rf X.2.2.2.1 (X.2.2.2.2.1 _ wJ0_9) (fun _ h => h) dJ0_length_8abf5_1 ?_
  refine va_tlen X.1 X.2.1 hE.2.2.2.1 va_S.rf (v := nI n) rfl dJ0_length_8abf5_4 ?_
  refine lv_aload_n X.1 X.2.1 dJ0_length_8abf5_5 rfl (lv_at hl 0 rfl) ?_
  refine s_iV (A := Noth) (b := q) (av := []) (rest := [.int (nI n)]) X.fix (st_cod (w := w) (n := n) (f := f) l) lkJ0_335 StrE_blind hE.1 (fun U hU hW => hE.at va_S.rf hU hW) hl.1 rfl rfl (show 1 ≤ 8 by decide) ⟨Nat.le_refl 1, by decide⟩ ⟨Nat.zero_le _, Nat.zero_le _⟩ va_S.rf dJ0_length_8abf5_6 (fun H1 locs1 hz hq hS => ?_)
  refine lv_ishr X.1 X.2.1 dJ0_length_8abf5_9 ?_
  rw [sc_shr0 hn]
  exact W.iret X.1 X.2.1 X.2.2.2.2.2.1 (fun t ht hW => ⟨⟨_, (), rfl, rfl, trivial⟩, hS.F ht⟩) hS.2.2 dJ0_length_8abf5_10 X.2.2.2.2.2.2
set_option maxHeartbeats 4000000 in
set_option maxRecDepth 20000 in
theorem st_at {q w n k : Nat} {f : Nat → Int32} (hk : k < n) (hn : n < 2 ^ 31) (l : Launch) : Met l yJ0_charAt_5068e (Cond.code yJ0_charAt_5068e cJ0_charAt_5068e 2 (some .char) :: gt) { frames := 3, cells := 0, slots := 0, locals := 64 } (va_Pc [.ref q, .int (nI k)] (StrE q w n f)) (QI (f k &&& 255)) 0 0 Noth := by
  refine ro_mk (by decide +kernel) (Nat.le_refl 2) ?_ l
  intro p l e s m args below meth c ls X hE hl
  have hl : lv_has ls 2 [(0, .ref q), (1, .int (nI k))] := hl
  refine lv_aload_n X.1 X.2.1 dJ0_charAt_5068e_0 rfl (lv_at hl 0 rfl) ?_
  refine s_iV (A := Noth) (b := q) (av := []) (rest := []) X.fix (st_is (w := w) (n := n) (f := f) l) lkJ0_492 StrE_blind hE.1 (fun U hU hW => hE.at va_S.rf hU hW) hl.1 rfl rfl (by decide) ⟨(by decide : 0 + 1 ≤ 3), by decide⟩ ⟨Nat.zero_le _, Nat.zero_le _⟩ va_S.rf dJ0_charAt_5068e_1 (fun H1 locs1 hz hq hS => ?_)
  refine lv_if_eq (tgt := 16) X.1 X.2.1 dJ0_charAt_5068e_4 (by decide) (fun z => absurd z (by decide)) (fun _ => ?_)
  refine lv_aload_n X.1 X.2.1 dJ0_charAt_5068e_7 rfl (lv_at hl 0 rfl) ?_
  refine vk_getf X.1 X.2.1 hE.2.2.1 hS X.2.2.2.1 (X.2.2.2.2.1 _ wJ0_9) (fun _ h => h) dJ0_charAt_5068e_8 ?_
  refine lv_iload_n X.1 X.2.1 dJ0_charAt_5068e_11 rfl (lv_at hl 1 rfl) ?_
  refine s_iS (A := Noth) (av := [.ref w, .int (nI k)]) (rest := []) X.fix (st_lat (q := q) (f := f) hk hn l) lkJ0_495 StrE_blind (fun U hU hW => hE.at hS hU hW) hl.1 rfl rfl (by decide) ⟨Nat.le_refl 3, by decide⟩ ⟨Nat.zero_le _, Nat.zero_le _⟩ hS dJ0_charAt_5068e_12 (fun H2 locs2 hz2 hq2 hS2 => ?_)
  exact W.zret X.1 X.2.1 X.2.2.2.2.2.1 (sc_nar _) (fun t ht hW => ⟨⟨_, (), rfl, rfl, trivial⟩, hS2.F ht⟩) hS2.2.2 dJ0_charAt_5068e_15 X.2.2.2.2.2.2
