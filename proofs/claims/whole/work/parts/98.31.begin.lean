/-! THE LAW'S BEGIN: the two objects, the array for the answer -/
theorem P_cut {D : va_G} {ws1 ws2 : va_W} {H : Heap} (h : va_P D vwCl (ws1 ++ ws2) H) : va_P D vwCl ws1 H ∧ va_P D vwCl ws2 H :=
  ⟨fun k q hk => h k q (by rw [List.getElem?_append_left (List.getElem?_eq_some_iff.mp hk).1]; exact hk), fun k q hk => h (ws1.length + k) q (by rw [List.getElem?_append_right (Nat.le_add_right _ _), Nat.add_sub_cancel_left]; exact hk)⟩
section Begin
variable {p : Program} {l : Launch} {e : Env} {R : Room} {s : State} {m : MethodId} {args : Array Value} {below : List Frame} {meth : Method} {c : Code} {H : Heap} {locs : List Loc} {cells slots : Nat} {Q : State → Prop} {own : String} {cc : ByteArray} {nL pc : Nat} {D : va_G} {cA : Nat → ClassId} {A : Nat → Prop} {ls : Array Slot} {rest : List Value} {ws : va_W} {j a : Nat}
set_option maxHeartbeats 4000000 in
set_option maxRecDepth 20000 in
theorem l_init {y : MethodName} {bytes : ByteArray} {maxL fr lo mc ms ci index : Nat} {dfl : List Value} {F : (Nat → ClassId) → List Nat → (Nat → Nat) → List Value × va_W} (X : WC p s m args c own cc nL D cA A) (hAO : va_AOA .int s) (hTE : TE A s) (S : NS D A s ws H locs) (hls : ls.size = nL) (hc : Ctor y bytes maxL fr lo mc ms ci dfl 0 F) (hj : ws[j]? = some (a, .inr (ci, dfl))) (w1 : Cond.code y bytes maxL none ∈ gt) (w2 : Cond.initialized y.cls ∈ gt) (w3 : Cond.methodLink own index y ∈ gt) (w4 : Cond.instanceMethod y ∈ gt) (hy : y.name = "<init>") (hd : y.cls ≠ "java/lang/invoke/MethodHandle" ∧ y.cls ≠ "java/lang/invoke/VarHandle" ∧ (parseMethodDescriptor y.desc).map (fun d => d.parameters.length) = some 0) (hroom : fr + 1 ≤ R.frames ∧ 8 + (maxL + 11) + lo ≤ R.locals) (hcat : (rest.map fun v => v.category).sum ≤ 8) (hdg : decode cc pc = .ok (.invokespecial index, 3)) (hcs : cells + mc ≤ R.cells ∧ slots + ms ≤ R.slots)
    (kk : ∀ (u : Nat → Nat) (f : List Value) (g : va_W) (H1 : Heap) (locs1 : List Loc), F cA [] u = (f, g) → NS D A s (ws.set j (a, .inr (ci, f)) ++ g) H1 locs1 → W p l e R s m args below meth c H1 locs1 (cells + mc) (slots + ms) Q (F0 m (pc + 3) ls rest)) : W p l e R s m args below meth c H locs cells slots Q (F0 m pc ls (.ref a :: rest)) := by
  obtain ⟨hx, hb, hml, hown, hts, hK, hNW, hA⟩ := X
  have hM := hc l D cA A ws j a H.size [] rfl hj (fun z hz => hA z (Nat.le_trans S.2.2.1 hz))
  refine va_callv (va_runI (As := []) (rest := rest) ⟨hx, hb, hml, hown, hts⟩ hM (cwI 0 hts (good_in w1) rfl rfl rfl (hts _ w2) (hts _ w3) (hts _ w4) hy hd hroom) ⟨fun a' U g mk z => ?_, fun U hU hW => ⟨rfl, by rw [hU], by rw [hU]; exact S.1, va_K.moved hW.alike hK, S.2.1, NWs_warm hNW hW, AOA_moved hW.alike hAO, hTE.at S.2.2 hU hW⟩⟩ rfl rfl hls rfl (lv_room hcat) hdg hcs) S.2.2 (fun z _ h => h) (fun z h => h) (fun u t H1 locs1 ht hvm _ hB hz1 hk1 hS1 => ?_)
  · obtain ⟨z0, z1, z2, z3, z4, z5, z6, z7⟩ := z
    exact ⟨z0, z1, z2, va_K.moved (u := U) (U := U.calling g mk a') (Vm.Alike.refl U.vm) z3, z4, fun w hw => va_Nw.same (u := U) (U := U.calling g mk a') (by
      have hf := (List.mem_filter.mp hw).2
      cases w <;> first | rfl | cases hf) rfl (z5 w hw), AOA_moved (u := U) (U := U.calling g mk a') (Vm.Alike.refl U.vm) z6, z7.blind⟩
  · obtain ⟨hB1, -, hB3⟩ := hB
    rw [ht] at hB1
    generalize hF : F cA [] u = fg at hB1 hB3
    obtain ⟨f, g⟩ := fg
    exact kk u f g H1 locs1 hF ⟨hB1, hB3, hS1⟩
end Begin
section Begin2
variable {p : Program} {l : Launch} {e : Env} {s : State} {m : MethodId} {args : Array Value} {below : List Frame} {meth : Method} {c : Code} {Q : State → Prop} {D : va_G} {cA : Nat → ClassId} {A : Nat → Prop} {ls : Array Slot} {b : Nat}
theorem begin_end {H : Heap} {locs : List Loc} {a0 m0 o : Nat} {us : Nat → Nat → Nat} {w : Nat → Nat} {f1 f2 : List Value} {g1 g2 Ls : va_W} (hLs : Ls = ((a0, .inr (11, f1)) :: g1 : va_W)) (hus : GX11 cA us = (f1, g1)) (hF2 : FX12 cA [] w = (f2, g2)) (h1 : va_P D vwCl (Ls ++ ((m0, .inr (12, f2)) :: g2) ++ [(o, .inl (cA 4, 1, .inr (.inl (fun _ => 0))))]) H) (h2 : va_D A (Ls ++ ((m0, .inr (12, f2)) :: g2) ++ [(o, .inl (cA 4, 1, .inr (.inl (fun _ => 0))))])) (h3 : va_S A s.heap H locs) (hl : lv_has ls 7 [(4, .int (Int32.ofInt ((0 : Nat) : Int))), (3, .ref o), (2, .ref m0), (1, .ref a0), (0, .ref b)])
    (kk : ∀ (ad : Nat → Nat) (H : Heap) (locs : List Loc) (ls : Array Slot), WSt D cA A s ad M0 H locs → lv_has ls 7 (lL ad b 0) → W p l e room_1 s m args below meth c H locs 174 27947 Q (F0 m 23 ls [])) : W p l e room_1 s m args below meth c H locs 174 27947 Q (F0 m 23 ls []) := by
  obtain ⟨q1, q2⟩ := Prod.mk.inj (FX12_eq.symm.trans hF2)
  have r1 : f1 = (GX11 cA us).1 := by rw [hus]
  have r2 : g1 = (GX11 cA us).2 := by rw [hus]
  rw [hLs, r1, r2, ← q1, ← q2] at h1 h2
  have p1 := P_cut h1
  have p2 := P_cut p1.1
  exact kk (adOf a0 us m0 w o) H locs ls ⟨okM0, start_inj h2, start_P p2.1 p2.2 (p1.2 0 _ rfl), h3⟩ hl
set_option maxHeartbeats 4000000 in
set_option maxRecDepth 20000 in
theorem law_begin (X : WC p s m args c RL cL_law 7 D cA A) (hAO : va_AOA .int s) (hTE : TE A s) (hl : lv_has ls 7 [(0, .ref b)])
    (kk : ∀ (ad : Nat → Nat) (H : Heap) (locs : List Loc) (ls : Array Slot), WSt D cA A s ad M0 H locs → lv_has ls 7 (lL ad b 0) → W p l e room_1 s m args below meth c H locs 174 27947 Q (F0 m 23 ls [])) : W p l e room_1 s m args below meth c s.heap [] 0 0 Q (F0 m 0 ls []) := by
  have X0 := X
  obtain ⟨hx, hb, hml, hown, hts, hK, hNW, hA⟩ := X
  have P0 : va_P D vwCl [] s.heap := fun k q h => by cases h
  have D0' : va_D A ([] : va_W) := ⟨fun i j p q h => (by cases h), fun k q h => (by cases h)⟩
  refine va_new hx hb hts clX11.2.2.1 tyX11 clX11.2.2.2.1 hown (hts _ (gt_t (i := 25) (by decide +kernel) (by decide +kernel))) (hts _ (gt_t (i := 26) (by decide +kernel) (by decide +kernel))) (hts _ (gt_t (i := 1) (by decide +kernel) (by decide +kernel))) hK P0 D0' va_S.rf hA clX11.1 dfX11_ok (Nat.le_of_ble_eq_true rfl) (Nat.le_of_ble_eq_true rfl) dL_law_0 (fun a0 H h1 h2 h3 => ?_)
  have N1 : NS D A s [(a0, .inr (11, dfX11))] H [] := ⟨h1, h2, h3⟩
  refine lv_dup hx hb dL_law_3 rfl ?_
  refine l_init (j := 0) (rest := [.ref a0]) X0 hAO hTE N1 hl.1 ctX11 rfl (gt_t (i := 29) (by decide +kernel) (by decide +kernel)) (gt_t (i := 1) (by decide +kernel) (by decide +kernel)) (gt_t (i := 27) (by decide +kernel) (by decide +kernel)) (gt_t (i := 28) (by decide +kernel) (by decide +kernel)) rfl ⟨by decide, by decide, by decide +kernel⟩ ⟨Nat.le_of_ble_eq_true rfl, Nat.le_of_ble_eq_true rfl⟩ (Nat.le_of_ble_eq_true rfl) dL_law_4 ⟨Nat.le_of_ble_eq_true rfl, Nat.le_of_ble_eq_true rfl⟩ (fun u f1 g1 H locs hF1 N2 => ?_)
  obtain ⟨us, hus⟩ : ∃ us : Nat → Nat → Nat, GX11 cA us = (f1, g1) := ⟨_, hF1⟩
  obtain ⟨Ls, hLs⟩ : ∃ Ls, Ls = ((a0, .inr (11, f1)) :: g1 : va_W) := ⟨_, rfl⟩
  have N2 : NS D A s Ls H locs := by rw [hLs]; exact N2
  refine lv_astore_n hx hb dL_law_7 rfl hl (by decide) rfl (fun ls hl => ?_)
  refine va_new hx hb hts clX12.2.2.1 tyX12 clX12.2.2.2.1 hown (hts _ (gt_t (i := 1379) (by decide +kernel) (by decide +kernel))) (hts _ (gt_t (i := 1377) (by decide +kernel) (by decide +kernel))) (hts _ (gt_t (i := 17) (by decide +kernel) (by decide +kernel))) hK N2.1 N2.2.1 N2.2.2 hA clX12.1 dfX12_ok (Nat.le_of_ble_eq_true rfl) (Nat.le_of_ble_eq_true rfl) dL_law_8 (fun m0 H h1 h2 h3 => ?_)
  have N3 : NS D A s (Ls ++ [(m0, .inr (12, dfX12))]) H locs := ⟨h1, h2, h3⟩
  refine lv_dup hx hb dL_law_11 rfl ?_
  refine l_init (j := Ls.length) (rest := [.ref m0]) X0 hAO hTE N3 hl.1 ctX12 (by rw [List.getElem?_append_right (Nat.le_refl _), Nat.sub_self]; rfl) (gt_t (i := 1382) (by decide +kernel) (by decide +kernel)) (gt_t (i := 17) (by decide +kernel) (by decide +kernel)) (gt_t (i := 1380) (by decide +kernel) (by decide +kernel)) (gt_t (i := 1381) (by decide +kernel) (by decide +kernel)) rfl ⟨by decide, by decide, by decide +kernel⟩ ⟨Nat.le_of_ble_eq_true rfl, Nat.le_of_ble_eq_true rfl⟩ (Nat.le_of_ble_eq_true rfl) dL_law_12 ⟨Nat.le_of_ble_eq_true rfl, Nat.le_of_ble_eq_true rfl⟩ (fun w f2 g2 H locs hF2 N4 => ?_)
  have eL : ((Ls ++ [(m0, .inr (12, dfX12))] : va_W)).set Ls.length (m0, .inr (12, f2)) ++ g2 = (Ls ++ ((m0, .inr (12, f2)) :: g2) : va_W) := by
    rw [List.set_append_right _ _ (Nat.le_refl _), Nat.sub_self, List.append_assoc]
    rfl
  rw [eL] at N4
  refine lv_astore_n hx hb dL_law_15 rfl hl (by decide) rfl (fun ls hl => ?_)
  refine lv_iconst (v := 1) hx hb dL_law_16 rfl ?_
  refine va_newa (atype := .long) (ty := .long) (N' := 1) (a0 := (1, .inr (.inl (fun _ => 0)))) hx hb (hts _ (gt_t (i := 120) (by decide +kernel) (by decide +kernel))) rfl hK N4.1 N4.2.1 N4.2.2 hA (fun _ => rfl) (by decide) (by decide) (Nat.le_of_ble_eq_true rfl) (Nat.le_of_ble_eq_true rfl) (Nat.le_of_ble_eq_true rfl) dL_law_17 (fun o cA' H hK' h1 h2 h3 => ?_)
  have e9 : cA' = cA 4 := cA_eq (k := 3) hK hK' rfl (fun C z => by cases z)
  subst e9
  refine lv_astore_n hx hb dL_law_19 rfl hl (by decide) rfl (fun ls hl => ?_)
  refine lv_iconst (v := Int32.ofInt ((0 : Nat) : Int)) hx hb dL_law_20 rfl ?_
  refine lv_istore hx hb dL_law_21 hl (by decide) rfl (fun ls hl => ?_)
  exact begin_end hLs hus hF2 h1 h2 h3 hl kk
end Begin2
