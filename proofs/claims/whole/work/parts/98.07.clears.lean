/-! the model's constructor: clears(0) on arrays of naughts -/
def tdG : Nat → Int32 := upd (upd (fun _ => 0) 3 4) 4 8
theorem upd0 (k : Nat) : upd (fun _ => (0 : Int32)) k 0 = fun _ => 0 := by
  funext i
  unfold upd
  split <;> rfl
def CE (D : va_G) (cA : Nat → ClassId) (A : Nat → Prop) (ws : va_W) : State → Prop := fun U => va_P D vwCl ws U.heap ∧ va_K D vwCl (tysL cA) U ∧ va_D A ws
theorem CE_blind {D : va_G} {cA : Nat → ClassId} {A : Nat → Prop} {ws : va_W} {av : List Value} : FrameBlind (va_Pc av (CE D cA A ws)) := fun a U g mk z => ⟨z.1, z.2.1, va_K.moved (u := U) (U := U.calling g mk a) (Vm.Alike.refl U.vm) z.2.2.1, z.2.2.2⟩
theorem set_same {α : Type} {ws : List α} {t : Nat} {x : α} (h : ws[t]? = some x) : ws.set t x = ws := by
  apply List.ext_getElem?
  intro k
  by_cases e : k = t
  · subst e
    rw [List.getElem?_set_self (List.getElem?_eq_some_iff.mp h).1, h]
  · rw [List.getElem?_set_ne (fun z => e z.symm)]
set_option maxHeartbeats 4000000 in
set_option maxRecDepth 20000 in
theorem ct_clr {D : va_G} {cA : Nat → ClassId} {A : Nat → Prop} {ws : va_W} {j a t u : Nat} {fs : List Value} (hj : ws[j]? = some (a, .inr (12, fs))) (hfs : fs[10]? = some (.ref u)) (ht : ws[t]? = some (u, .inl (cA 1, 824, .inl (fun _ => 0)))) (hjt : j ≠ t) (l : Launch) :
    Met l yX12_clears (Cond.code yX12_clears cX12_clears 3 none :: gt) { frames := 0, cells := 0, slots := 0, locals := 0 } (va_Pc [.ref a, .int 0] (CE D cA A ws)) (va_Qv (fun _ : Unit => True) (fun _ x => va_P D vwCl (ws.set t (u, .inl (cA 1, 824, .inl tdG))) x.heap ∧ va_D A (ws.set t (u, .inl (cA 1, 824, .inl tdG)))) A) 0 0 A := by
  refine Met.ofW (cc := cX12_clears) (maxL := 3) (ret := none) (by decide +kernel) rfl ?_
  intro p e s m args below meth c s₁ B hml hv
  obtain ⟨rfl, hP, hK, hD⟩ := hv
  have hts0 := atoms_spec (ws := Cond.code yX12_clears cX12_clears 3 none :: gt) B.pre
  have hts : ∀ w ∈ gt, w.before #[Value.ref a, Value.int 0] s = true := fun w hw => hts0 w (List.mem_cons_of_mem _ hw)
  have hown : s.vm.findClass RX12 = some m.cls := findClass_of_methodNamed B.named
  have hl := lv_entry [.ref a, .int 0] (n := 3) (Nat.le_of_ble_eq_true rfl)
  rw [lg_entry_eq]
  have hx := B.exec
  have hb := B.bytes
  obtain ⟨c1, c2, c3, c4, c5⟩ := clX12
  have get : ∀ {ws' : va_W} {H : Heap} {locs : List Loc} {ls : Array Slot} {pc : Nat} {rest : List Value} {Q : State → Prop}, va_P D vwCl ws' H → ws'[j]? = some (a, .inr (12, fs)) → decode cX12_clears pc = .ok (.getfield 126, 3) → W p l e { frames := 0, cells := 0, slots := 0, locals := 0 } s m #[Value.ref a, Value.int 0] below meth c H locs 0 0 Q (F0 m (pc + 3) ls (.ref u :: rest)) → W p l e { frames := 0, cells := 0, slots := 0, locals := 0 } s m #[Value.ref a, Value.int 0] below meth c H locs 0 0 Q (F0 m pc ls (.ref a :: rest)) := by
    intro ws' H locs ls pc rest Q h1 h2 hd k
    exact va_get hx hb hts c3 hown hK h1 j h2 c1 10 (by decide) (hts _ flX12_126) (fun _ h => h) hfs hd k
  have after : ∀ (H : Heap) (locs : List Loc) (ls : Array Slot), lv_has ls 3 [(0, .ref a), (1, .int 0)] → va_P D vwCl ws H → va_S A s.heap H locs → W p l e { frames := 0, cells := 0, slots := 0, locals := 0 } s m #[Value.ref a, Value.int 0] below meth c H locs 0 0 (MQ below (va_Qv (fun _ : Unit => True) (fun _ x => va_P D vwCl (ws.set t (u, .inl (cA 1, 824, .inl tdG))) x.heap ∧ va_D A (ws.set t (u, .inl (cA 1, 824, .inl tdG)))) A) #[Value.ref a, Value.int 0] s 0 0 A) (F0 m 24 ls []) := by
    intro H locs ls hl hP hS
    refine lv_aload_n hx hb dX12_clears_24 rfl (lv_at hl 0 rfl) ?_
    refine get hP hj dX12_clears_25 ?_
    refine lv_iload_n hx hb dX12_clears_28 rfl (lv_at hl 1 rfl) ?_
    refine lv_iconst (v := 3) hx hb dX12_clears_29 rfl ?_
    refine lv_iadd hx hb dX12_clears_30 ?_
    refine lv_iconst (v := 4) hx hb dX12_clears_31 rfl ?_
    refine va_iast hx hb hK hP hD hS t 0 ht rfl (i := 0 + 3) (vp_in_nI (N := 824) (n := 3) (by decide) (by decide)) dX12_clears_32 (fun H1 locs1 hP1 hD1 hS1 => ?_)
    refine lv_aload_n hx hb dX12_clears_33 rfl (lv_at hl 0 rfl) ?_
    refine get hP1 (by rw [List.getElem?_set_ne (fun z => hjt z.symm)]; exact hj) dX12_clears_34 ?_
    refine lv_iload_n hx hb dX12_clears_37 rfl (lv_at hl 1 rfl) ?_
    refine lv_iconst (v := 4) hx hb dX12_clears_38 rfl ?_
    refine lv_iadd hx hb dX12_clears_39 ?_
    refine lv_bipush (v := 8) hx hb dX12_clears_40 (by decide) ?_
    refine va_iast hx hb hK hP1 hD1 hS1 t 0 (List.getElem?_set_self (List.getElem?_eq_some_iff.mp ht).1) rfl (i := 0 + 4) (vp_in_nI (N := 824) (n := 4) (by decide) (by decide)) dX12_clears_42 (fun H2 locs2 hP2 hD2 hS2 => ?_)
    rw [List.set_set] at hP2 hD2
    exact W.vret hx hb B.returns (fun x hx' hW => ⟨⟨(), rfl, trivial, by rw [hx']; exact hP2, hD2⟩, hS2.F hx'⟩) hS2.2.2 dX12_clears_43 B.notSynchronized
  have loop : ∀ (n i : Nat), i + n = 412 → ∀ (H : Heap) (locs : List Loc) (ls : Array Slot), lv_has ls 3 [(2, .int (nI i)), (0, .ref a), (1, .int 0)] → va_P D vwCl ws H → va_S A s.heap H locs → W p l e { frames := 0, cells := 0, slots := 0, locals := 0 } s m #[Value.ref a, Value.int 0] below meth c H locs 0 0 (MQ below (va_Qv (fun _ : Unit => True) (fun _ x => va_P D vwCl (ws.set t (u, .inl (cA 1, 824, .inl tdG))) x.heap ∧ va_D A (ws.set t (u, .inl (cA 1, 824, .inl tdG)))) A) #[Value.ref a, Value.int 0] s 0 0 A) (F0 m 2 ls []) := by
    intro n
    induction n with
    | zero =>
      intro i hi H locs ls hl hP hS
      have hi : i = 412 := by omega
      subst hi
      refine lv_iload_n hx hb dX12_clears_2 rfl (lv_at hl 0 rfl) ?_
      refine lv_sipush (v := nI 412) hx hb dX12_clears_3 (by decide) ?_
      exact lv_icmp_ge (tgt := 24) hx hb dX12_clears_6 (by decide) (fun _ => after H locs ls (lv_sub hl [1, 2] rfl) hP hS) (fun z => absurd (by decide) z)
    | succ n ih =>
      intro i hi H locs ls hl hP hS
      have hlt : i < 412 := by omega
      refine lv_iload_n hx hb dX12_clears_2 rfl (lv_at hl 0 rfl) ?_
      refine lv_sipush (v := nI 412) hx hb dX12_clears_3 (by decide) ?_
      refine lv_icmp_ge (tgt := 24) hx hb dX12_clears_6 (by decide) (fun z => absurd z (nI_ge hlt (by decide))) (fun _ => ?_)
      refine lv_aload_n hx hb dX12_clears_9 rfl (lv_at hl 1 rfl) ?_
      refine get hP hj dX12_clears_10 ?_
      refine lv_iload_n hx hb dX12_clears_13 rfl (lv_at hl 2 rfl) ?_
      refine lv_iload_n hx hb dX12_clears_14 rfl (lv_at hl 0 rfl) ?_
      refine lv_iadd hx hb dX12_clears_15 ?_
      rw [Int32.zero_add]
      refine lv_iconst (v := 0) hx hb dX12_clears_16 rfl ?_
      refine va_iast hx hb hK hP hD hS t 0 ht rfl (vp_in_nI (show i < 824 by omega) (by decide)) dX12_clears_17 (fun H1 locs1 hP1 hD1 hS1 => ?_)
      rw [upd0, set_same ht] at hP1
      refine lv_iinc (k := 0) (v := nI (i + 1)) hx hb dX12_clears_18 hl rfl (nI_succ i).symm (by decide) rfl (fun ls hl => ?_)
      refine lv_goto (tgt := 2) hx hb dX12_clears_21 (by decide) ?_
      exact ih (i + 1) (by omega) H1 locs1 ls hl hP1 hS1
  have hl : lv_has _ 3 [(0, .ref a), (1, .int 0)] := hl
  refine lv_iconst (v := nI 0) hx hb dX12_clears_0 rfl ?_
  refine lv_istore_n hx hb dX12_clears_1 rfl hl (by decide) rfl (fun ls hl => ?_)
  exact loop 412 0 rfl s.heap [] ls hl hP va_S.rf
