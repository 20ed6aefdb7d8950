/-! THE LAW'S OWN walked AND ran -/
abbrev lwH : List (Nat × Nat × Nat × Nat) := [(0, 10, 13, 13)]
def LQ (D : va_G) (cA : Nat → ClassId) (A : Nat → Prop) (ad : Nat → Nat) (k : Int) (M : Mem) : Array Value → State → Outcome → State → Prop := fun _ st oc t => (∃ ad' : Nat → Nat, (∀ b, b ≠ 115 → ad' b = ad b) ∧ AdOK A ad' ∧ va_P D vwCl (toW cA ad' M) t.heap) ∧ oc = .returned (some (.int (Int32.ofInt k))) ∧ okM M ∧ va_F A st t
abbrev lwA (ad : Nat → Nat) (lane wt : Int) : List Value := [.ref (ad 0), .int (Int32.ofInt lane), .int (Int32.ofInt wt), .ref (ad 173)]
def CnL (y : MethodName) (bytes : ByteArray) (lane wt : Int) (M : Mem) (k : Int) (M' : Mem) : Prop :=
  ∀ (l : Launch) (D : va_G) (cA : Nat → ClassId) (A : Nat → Prop) (ad : Nat → Nat) (sz : Nat), l.stackTraces = false → AdOK A ad → okM M → i32 lane → i32 wt → (∀ q, sz ≤ q → A q) →
    vx_Met l y (Cond.codeWith y bytes 5 (some .int) lwH :: gt) { frames := 7, cells := 1, slots := 6, locals := 159 } (va_Pc (lwA ad lane wt) (fun U => U.heap.size = sz ∧ World D cA ad M U ∧ ThE A U)) (LQ D cA A ad k M') (fun _ _ _ => False) 1 6 A
def lwR : Room := { frames := 7, cells := 1, slots := 6, locals := 159 }
theorem nse_law : Cond.classLink RL 13 NSE ∈ gt := gt_t (i := 1257) (by decide +kernel) (by decide +kernel)
section LW
variable {p : Program} {l : Launch} {e : Env} {R : Room} {s : State} {m : MethodId} {args : Array Value} {below : List Frame} {meth : Method} {c : Code} {H : Heap} {locs : List Loc} {cells slots : Nat} {cc : ByteArray} {nL pc : Nat} {D : va_G} {cA : Nat → ClassId} {A : Nat → Prop} {ls : Array Slot} {ad : Nat → Nat} {M : Mem}
theorem l_ret {k : Int} {ad0 : Nat → Nat} (X : WC p s m args c RL cc nL D cA A) (S : WSt D cA A s ad M H locs) (had : ∀ b, b ≠ 115 → ad b = ad0 b) (hret : meth.sig.returnType = some .int) (hlk : meth.locks = false) (hc : cells ≤ 1) (hs : slots ≤ 6) (hd : decode cc pc = .ok (.ireturn, 1)) : W p l e R s m args below meth c H locs cells slots (vx_MQ below (LQ D cA A ad0 k M) (fun _ _ _ => False) args s 1 6 A) (F0 m pc ls [.int (Int32.ofInt k)]) :=
  W.widen hc hs (vx_ret (W.iret X.1 X.2.1 hret (fun t ht hW => ⟨⟨ad, had, S.2.1, by rw [ht]; exact S.2.2.1⟩, rfl, S.1, S.2.2.2.F ht⟩) S.2.2.2.2.2 hd hlk))
end LW
theorem stJ_out {M : Mem} {x : Int} : stJ M 173 0 x = some (wr M 173 0 x) := by
  refine if_pos ⟨by decide +kernel, Int.le_refl _, ?_⟩
  unfold len
  rw [if_neg (by decide), show (kd 173).2 = 1 by decide +kernel]
  decide
theorem i2l_of {x : Int} (h : i32 x) : (Int32.ofInt x).toInt64 = Int64.ofInt x := by
  rw [← Int64.toInt_inj, Int32.toInt_toInt64, i32_to h, i64_to (i64_32 h)]
set_option maxHeartbeats 4000000 in
set_option maxRecDepth 20000 in
theorem cnL_walked {M M1 : Mem} {lane wt x : Int} (hc : CnW yX11_walked cX11_walked 3 (some .int) 6 137 0 0 [zr 0, zi lane, zi wt] M (some (oI (x, M1)))) : CnL yL_walked cL_walked lane wt M 0 (wr M1 173 0 x) := by
  intro l D cA A ad sz hlT hAd hM hla hwt hsz
  refine vx_ofWH (cc := cL_walked) (maxL := 5) (ret := some .int) (hh := lwH) (by decide +kernel) rfl ?_
  intro p e s m args below meth c s₁ B hml hv
  obtain ⟨rfl, hz, ⟨hP, hK, hNW⟩, hTh⟩ := hv
  subst hz
  have hts := atoms_spec (ws := Cond.codeWith yL_walked cL_walked 5 (some .int) lwH :: gt) B.pre
  have hown : s.vm.findClass RL = some m.cls := findClass_of_methodNamed B.named
  have htab : c.exceptionTable.toList = tableOf lwH := vx_table (x := yL_walked) B (hts _ List.mem_cons_self)
  have hl := lv_entry (lwA ad lane wt) (n := 5) (Nat.le_of_ble_eq_true rfl)
  rw [lg_entry_eq]
  have X : WC p s m (lwA ad lane wt).toArray c RL cL_walked 5 D cA A := ⟨B.exec, B.bytes, hml, hown, fun w hw => hts w (List.mem_cons_of_mem _ hw), hK, hNW, hsz⟩
  have S : WSt D cA A s ad M s.heap [] := ⟨hM, hAd, hP, va_S.rf⟩
  have hlk : meth.locks = false := B.notSynchronized
  have hret : meth.sig.returnType = some .int := B.returns
  generalize hls : (lg_sl (lwA ad lane wt) ++ List.replicate (5 - (lg_sl (lwA ad lane wt)).length) Slot.unset).toArray = ls at hl ⊢
  have hl : lv_has ls 5 [(0, .ref (ad 0)), (1, .int (Int32.ofInt lane)), (2, .int (Int32.ofInt wt)), (3, .ref (ad 173))] := hl
  show W p l e lwR s m (lwA ad lane wt).toArray below meth c s.heap [] 0 0 (vx_MQ below (LQ D cA A ad 0 (wr M1 173 0 x)) (fun _ _ _ => False) (lwA ad lane wt).toArray s 1 6 A) (F0 m 0 ls [])
  refine lv_aload_n X.1 X.2.1 dL_walked_0 rfl (lv_at hl 3 rfl) ?_
  refine lv_iconst (v := Int32.ofInt 0) X.1 X.2.1 dL_walked_1 rfl ?_
  refine lv_aload_n X.1 X.2.1 dL_walked_2 rfl (lv_at hl 0 rfl) ?_
  refine lv_iload_n X.1 X.2.1 dL_walked_3 rfl (lv_at hl 1 rfl) ?_
  refine lv_iload_n X.1 X.2.1 dL_walked_4 rfl (lv_at hl 2 rfl) ?_
  refine w_callW (av := [zi lane, zi wt]) (rest := [.int (Int32.ofInt 0), .ref (ad 173)]) X S hl.1 hc ⟨hla, hwt, trivial⟩ lkL_7 kd_0 rfl rfl rfl (Nat.le_of_ble_eq_true rfl) ⟨Nat.le_of_ble_eq_true rfl, Nat.le_of_ble_eq_true rfl⟩ ⟨Nat.zero_le _, Nat.zero_le _⟩ dL_walked_5 (fun ad' H locs had S hok => ?_)
  have S : WSt D cA A s ad' M1 H locs := S
  have hx : i32 x := hok.2 (zi x) rfl
  show W _ _ _ _ _ _ _ _ _ _ _ _ _ _ _ (F0 m 8 ls [.int (Int32.ofInt x), .int (Int32.ofInt 0), .ref (ad 173)])
  rw [← had 173 (by decide)]
  refine lv_i2l (v := Int64.ofInt x) X.1 X.2.1 dL_walked_8 (i2l_of hx) ?_
  refine w_last X S ⟨by decide, by decide⟩ (i64_32 hx) stJ_out dL_walked_9 (fun H locs S => ?_)
  refine lv_goto (tgt := 17) X.1 X.2.1 dL_walked_10 (by decide) ?_
  refine lv_iconst (v := Int32.ofInt 0) X.1 X.2.1 dL_walked_17 rfl ?_
  exact l_ret X S had hret hlk (Nat.zero_le _) (Nat.zero_le _) dL_walked_18
set_option maxHeartbeats 4000000 in
set_option maxRecDepth 20000 in
theorem cxL_walked {M : Mem} {lane wt : Int} (hc : CnT yX11_walked cX11_walked 3 (some .int) 6 137 [zr 0, zi lane, zi wt] M) : CnL yL_walked cL_walked lane wt M 1 M := by
  intro l D cA A ad sz hlT hAd hM hla hwt hsz
  refine vx_ofWH (cc := cL_walked) (maxL := 5) (ret := some .int) (hh := lwH) (by decide +kernel) rfl ?_
  intro p e s m args below meth c s₁ B hml hv
  obtain ⟨rfl, hz, ⟨hP, hK, hNW⟩, hTh⟩ := hv
  subst hz
  have hts := atoms_spec (ws := Cond.codeWith yL_walked cL_walked 5 (some .int) lwH :: gt) B.pre
  have hown : s.vm.findClass RL = some m.cls := findClass_of_methodNamed B.named
  have htab : c.exceptionTable.toList = tableOf lwH := vx_table (x := yL_walked) B (hts _ List.mem_cons_self)
  have hl := lv_entry (lwA ad lane wt) (n := 5) (Nat.le_of_ble_eq_true rfl)
  rw [lg_entry_eq]
  have X : WC p s m (lwA ad lane wt).toArray c RL cL_walked 5 D cA A := ⟨B.exec, B.bytes, hml, hown, fun w hw => hts w (List.mem_cons_of_mem _ hw), hK, hNW, hsz⟩
  have S : WSt D cA A s ad M s.heap [] := ⟨hM, hAd, hP, va_S.rf⟩
  have hlk : meth.locks = false := B.notSynchronized
  have hret : meth.sig.returnType = some .int := B.returns
  generalize hls : (lg_sl (lwA ad lane wt) ++ List.replicate (5 - (lg_sl (lwA ad lane wt)).length) Slot.unset).toArray = ls at hl ⊢
  have hl : lv_has ls 5 [(0, .ref (ad 0)), (1, .int (Int32.ofInt lane)), (2, .int (Int32.ofInt wt)), (3, .ref (ad 173))] := hl
  show W p l e lwR s m (lwA ad lane wt).toArray below meth c s.heap [] 0 0 (vx_MQ below (LQ D cA A ad 1 M) (fun _ _ _ => False) (lwA ad lane wt).toArray s 1 6 A) (F0 m 0 ls [])
  refine lv_aload_n X.1 X.2.1 dL_walked_0 rfl (lv_at hl 3 rfl) ?_
  refine lv_iconst (v := Int32.ofInt 0) X.1 X.2.1 dL_walked_1 rfl ?_
  refine lv_aload_n X.1 X.2.1 dL_walked_2 rfl (lv_at hl 0 rfl) ?_
  refine lv_iload_n X.1 X.2.1 dL_walked_3 rfl (lv_at hl 1 rfl) ?_
  refine lv_iload_n X.1 X.2.1 dL_walked_4 rfl (lv_at hl 2 rfl) ?_
  have hMt := hc l D cA A ad s.heap.size hlT hAd hM ⟨trivial, hla, hwt, trivial⟩ hsz
  obtain ⟨w1, w2, w3, w4, w5, w6, w7, w8⟩ := lkL_7
  have hts' : ∀ w ∈ gt, w.before (lwA ad lane wt).toArray s = true := X.2.2.2.2.1
  refine w_thrown (rest := [.int (Int32.ofInt 0), .ref (ad 173)]) (vx_runV (n := 2) (C := RX11) (As := [zi lane, zi wt].map (toV ad)) (rest := [.int (Int32.ofInt 0), .ref (ad 173)]) ⟨B.exec, B.bytes, hml, hown, hts'⟩ hMt (cwV 2 hts' (fun w hw => ?_) rfl rfl rfl ⟨rfl, w6, w7, w8⟩ ⟨Nat.le_of_ble_eq_true rfl, Nat.le_of_ble_eq_true rfl⟩) ⟨blindT, va_recv hK S.2.2.1 (q0 := 0) (show vwCl[11]? = some (RX11, TX11, 16) from rfl) ((toW_get (by decide)).trans (congrArg (fun e => some (ad 0, e)) (ent_o kd_0))), fun U hU hW => ⟨rfl, by rw [hU], world_at S.2.2.1 hK hNW hU hW, hTh.at S.2.2.2 hU hW⟩⟩ rfl rfl hl.1 rfl (lv_room (Nat.le_of_ble_eq_true rfl)) dL_walked_5 ⟨Nat.le_of_ble_eq_true rfl, Nat.le_of_ble_eq_true rfl⟩) S (fun _ _ _ h => h) (fun ce q9 H locs S hcell hv hcl => ?_)
  · rcases List.mem_append.mp hw with h9 | h9
    · simp only [List.mem_cons, List.not_mem_nil, or_false] at h9
      rcases h9 with rfl | rfl | rfl | rfl
      · exact ⟨w1, gt_good _ w1⟩
      · exact ⟨w2, gt_good _ w2⟩
      · exact ⟨w3, gt_good _ w3⟩
      · exact ⟨w4, gt_good _ w4⟩
    · exact good_in w5 w h9
  · refine vx_catch (own := RL) (name := NSE) (E := NSE) hown [] ⟨0, 10, 13, 13⟩ [] htab (fun z hz => by cases hz) (by decide) (by decide) (hts' _ nse_law) (va_any rfl (hTh.2.2 (.castable NSE NSE) (by simp [nseB]))) hcell hv hcl ?_
    refine lv_astore X.1 X.2.1 dL_walked_13 hl (by decide) rfl (fun ls hl => ?_)
    refine lv_iconst (v := Int32.ofInt 1) X.1 X.2.1 dL_walked_15 rfl ?_
    exact l_ret X S (fun _ _ => rfl) hret hlk (by decide) (by decide) dL_walked_16
set_option maxHeartbeats 4000000 in
set_option maxRecDepth 20000 in
theorem cnL_ran {M M1 : Mem} {lane wt x : Int} (hc : CnW yX11_ran cX11_ran 3 (some .int) 6 137 0 0 [zr 0, zi lane, zi wt] M (some (oI (x, M1)))) : CnL yL_ran cL_ran lane wt M 0 (wr M1 173 0 x) := by
  intro l D cA A ad sz hlT hAd hM hla hwt hsz
  refine vx_ofWH (cc := cL_ran) (maxL := 5) (ret := some .int) (hh := lwH) (by decide +kernel) rfl ?_
  intro p e s m args below meth c s₁ B hml hv
  obtain ⟨rfl, hz, ⟨hP, hK, hNW⟩, hTh⟩ := hv
  subst hz
  have hts := atoms_spec (ws := Cond.codeWith yL_ran cL_ran 5 (some .int) lwH :: gt) B.pre
  have hown : s.vm.findClass RL = some m.cls := findClass_of_methodNamed B.named
  have htab : c.exceptionTable.toList = tableOf lwH := vx_table (x := yL_ran) B (hts _ List.mem_cons_self)
  have hl := lv_entry (lwA ad lane wt) (n := 5) (Nat.le_of_ble_eq_true rfl)
  rw [lg_entry_eq]
  have X : WC p s m (lwA ad lane wt).toArray c RL cL_ran 5 D cA A := ⟨B.exec, B.bytes, hml, hown, fun w hw => hts w (List.mem_cons_of_mem _ hw), hK, hNW, hsz⟩
  have S : WSt D cA A s ad M s.heap [] := ⟨hM, hAd, hP, va_S.rf⟩
  have hlk : meth.locks = false := B.notSynchronized
  have hret : meth.sig.returnType = some .int := B.returns
  generalize hls : (lg_sl (lwA ad lane wt) ++ List.replicate (5 - (lg_sl (lwA ad lane wt)).length) Slot.unset).toArray = ls at hl ⊢
  have hl : lv_has ls 5 [(0, .ref (ad 0)), (1, .int (Int32.ofInt lane)), (2, .int (Int32.ofInt wt)), (3, .ref (ad 173))] := hl
  show W p l e lwR s m (lwA ad lane wt).toArray below meth c s.heap [] 0 0 (vx_MQ below (LQ D cA A ad 0 (wr M1 173 0 x)) (fun _ _ _ => False) (lwA ad lane wt).toArray s 1 6 A) (F0 m 0 ls [])
  refine lv_aload_n X.1 X.2.1 dL_ran_0 rfl (lv_at hl 3 rfl) ?_
  refine lv_iconst (v := Int32.ofInt 0) X.1 X.2.1 dL_ran_1 rfl ?_
  refine lv_aload_n X.1 X.2.1 dL_ran_2 rfl (lv_at hl 0 rfl) ?_
  refine lv_iload_n X.1 X.2.1 dL_ran_3 rfl (lv_at hl 1 rfl) ?_
  refine lv_iload_n X.1 X.2.1 dL_ran_4 rfl (lv_at hl 2 rfl) ?_
  refine w_callW (av := [zi lane, zi wt]) (rest := [.int (Int32.ofInt 0), .ref (ad 173)]) X S hl.1 hc ⟨hla, hwt, trivial⟩ lkL_15 kd_0 rfl rfl rfl (Nat.le_of_ble_eq_true rfl) ⟨Nat.le_of_ble_eq_true rfl, Nat.le_of_ble_eq_true rfl⟩ ⟨Nat.zero_le _, Nat.zero_le _⟩ dL_ran_5 (fun ad' H locs had S hok => ?_)
  have S : WSt D cA A s ad' M1 H locs := S
  have hx : i32 x := hok.2 (zi x) rfl
  show W _ _ _ _ _ _ _ _ _ _ _ _ _ _ _ (F0 m 8 ls [.int (Int32.ofInt x), .int (Int32.ofInt 0), .ref (ad 173)])
  rw [← had 173 (by decide)]
  refine lv_i2l (v := Int64.ofInt x) X.1 X.2.1 dL_ran_8 (i2l_of hx) ?_
  refine w_last X S ⟨by decide, by decide⟩ (i64_32 hx) stJ_out dL_ran_9 (fun H locs S => ?_)
  refine lv_goto (tgt := 17) X.1 X.2.1 dL_ran_10 (by decide) ?_
  refine lv_iconst (v := Int32.ofInt 0) X.1 X.2.1 dL_ran_17 rfl ?_
  exact l_ret X S had hret hlk (Nat.zero_le _) (Nat.zero_le _) dL_ran_18
set_option maxHeartbeats 4000000 in
set_option maxRecDepth 20000 in
theorem cxL_ran {M : Mem} {lane wt : Int} (hc : CnT yX11_ran cX11_ran 3 (some .int) 6 137 [zr 0, zi lane, zi wt] M) : CnL yL_ran cL_ran lane wt M 1 M := by
  intro l D cA A ad sz hlT hAd hM hla hwt hsz
  refine vx_ofWH (cc := cL_ran) (maxL := 5) (ret := some .int) (hh := lwH) (by decide +kernel) rfl ?_
  intro p e s m args below meth c s₁ B hml hv
  obtain ⟨rfl, hz, ⟨hP, hK, hNW⟩, hTh⟩ := hv
  subst hz
  have hts := atoms_spec (ws := Cond.codeWith yL_ran cL_ran 5 (some .int) lwH :: gt) B.pre
  have hown : s.vm.findClass RL = some m.cls := findClass_of_methodNamed B.named
  have htab : c.exceptionTable.toList = tableOf lwH := vx_table (x := yL_ran) B (hts _ List.mem_cons_self)
  have hl := lv_entry (lwA ad lane wt) (n := 5) (Nat.le_of_ble_eq_true rfl)
  rw [lg_entry_eq]
  have X : WC p s m (lwA ad lane wt).toArray c RL cL_ran 5 D cA A := ⟨B.exec, B.bytes, hml, hown, fun w hw => hts w (List.mem_cons_of_mem _ hw), hK, hNW, hsz⟩
  have S : WSt D cA A s ad M s.heap [] := ⟨hM, hAd, hP, va_S.rf⟩
  have hlk : meth.locks = false := B.notSynchronized
  have hret : meth.sig.returnType = some .int := B.returns
  generalize hls : (lg_sl (lwA ad lane wt) ++ List.replicate (5 - (lg_sl (lwA ad lane wt)).length) Slot.unset).toArray = ls at hl ⊢
  have hl : lv_has ls 5 [(0, .ref (ad 0)), (1, .int (Int32.ofInt lane)), (2, .int (Int32.ofInt wt)), (3, .ref (ad 173))] := hl
  show W p l e lwR s m (lwA ad lane wt).toArray below meth c s.heap [] 0 0 (vx_MQ below (LQ D cA A ad 1 M) (fun _ _ _ => False) (lwA ad lane wt).toArray s 1 6 A) (F0 m 0 ls [])
  refine lv_aload_n X.1 X.2.1 dL_ran_0 rfl (lv_at hl 3 rfl) ?_
  refine lv_iconst (v := Int32.ofInt 0) X.1 X.2.1 dL_ran_1 rfl ?_
  refine lv_aload_n X.1 X.2.1 dL_ran_2 rfl (lv_at hl 0 rfl) ?_
  refine lv_iload_n X.1 X.2.1 dL_ran_3 rfl (lv_at hl 1 rfl) ?_
  refine lv_iload_n X.1 X.2.1 dL_ran_4 rfl (lv_at hl 2 rfl) ?_
  have hMt := hc l D cA A ad s.heap.size hlT hAd hM ⟨trivial, hla, hwt, trivial⟩ hsz
  obtain ⟨w1, w2, w3, w4, w5, w6, w7, w8⟩ := lkL_15
  have hts' : ∀ w ∈ gt, w.before (lwA ad lane wt).toArray s = true := X.2.2.2.2.1
  refine w_thrown (rest := [.int (Int32.ofInt 0), .ref (ad 173)]) (vx_runV (n := 2) (C := RX11) (As := [zi lane, zi wt].map (toV ad)) (rest := [.int (Int32.ofInt 0), .ref (ad 173)]) ⟨B.exec, B.bytes, hml, hown, hts'⟩ hMt (cwV 2 hts' (fun w hw => ?_) rfl rfl rfl ⟨rfl, w6, w7, w8⟩ ⟨Nat.le_of_ble_eq_true rfl, Nat.le_of_ble_eq_true rfl⟩) ⟨blindT, va_recv hK S.2.2.1 (q0 := 0) (show vwCl[11]? = some (RX11, TX11, 16) from rfl) ((toW_get (by decide)).trans (congrArg (fun e => some (ad 0, e)) (ent_o kd_0))), fun U hU hW => ⟨rfl, by rw [hU], world_at S.2.2.1 hK hNW hU hW, hTh.at S.2.2.2 hU hW⟩⟩ rfl rfl hl.1 rfl (lv_room (Nat.le_of_ble_eq_true rfl)) dL_ran_5 ⟨Nat.le_of_ble_eq_true rfl, Nat.le_of_ble_eq_true rfl⟩) S (fun _ _ _ h => h) (fun ce q9 H locs S hcell hv hcl => ?_)
  · rcases List.mem_append.mp hw with h9 | h9
    · simp only [List.mem_cons, List.not_mem_nil, or_false] at h9
      rcases h9 with rfl | rfl | rfl | rfl
      · exact ⟨w1, gt_good _ w1⟩
      · exact ⟨w2, gt_good _ w2⟩
      · exact ⟨w3, gt_good _ w3⟩
      · exact ⟨w4, gt_good _ w4⟩
    · exact good_in w5 w h9
  · refine vx_catch (own := RL) (name := NSE) (E := NSE) hown [] ⟨0, 10, 13, 13⟩ [] htab (fun z hz => by cases hz) (by decide) (by decide) (hts' _ nse_law) (va_any rfl (hTh.2.2 (.castable NSE NSE) (by simp [nseB]))) hcell hv hcl ?_
    refine lv_astore X.1 X.2.1 dL_ran_13 hl (by decide) rfl (fun ls hl => ?_)
    refine lv_iconst (v := Int32.ofInt 1) X.1 X.2.1 dL_ran_15 rfl ?_
    exact l_ret X S (fun _ _ => rfl) hret hlk (by decide) (by decide) dL_ran_16
