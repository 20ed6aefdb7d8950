/-! WHAT A THROW USES -/
abbrev nseB : List Cond := [.declares ⟨"java/lang/RuntimeException", "<init>", "()V"⟩, .declares ⟨"java/lang/Exception", "<init>", "()V"⟩, .declares ⟨"java/lang/Throwable", "<init>", "()V"⟩, .castable "java/util/NoSuchElementException" "java/util/NoSuchElementException"]
def ThE (A : Nat → Prop) (U : State) : Prop := vx_Zq Bundle.tN "UNASSIGNED_STACK" Bundle.steD A U U.heap ∧ vx_Zq Bundle.tN "SUPPRESSED_SENTINEL" Bundle.listD A U U.heap ∧ ∀ w ∈ nseB, va_Nw w U
theorem nseB_warm {s U : State} (hW : s.WarmedH U.vm) (h : ∀ w ∈ nseB, va_Nw w s) : ∀ w ∈ nseB, va_Nw w U := by
  intro w hw
  have h9 := h w hw
  simp only [nseB, List.mem_cons, List.not_mem_nil, or_false] at hw
  rcases hw with rfl | rfl | rfl | rfl
  · exact va_Nw.warmD hW h9
  · exact va_Nw.warmD hW h9
  · exact va_Nw.warmD hW h9
  · exact va_Nw.warmC hW h9
theorem ThE.at {A : Nat → Prop} {s U : State} {H : Heap} {locs : List Loc} (h : ThE A s) (hS : va_S A s.heap H locs) (hU : U.heap = H) (hW : s.WarmedH U.vm) : ThE A U := by
  unfold ThE
  rw [hU]
  exact ⟨(h.1.kept hS.2.1).moved hW.alike, (h.2.1.kept hS.2.1).moved hW.alike, nseB_warm hW h.2.2⟩
theorem ThE.blind {A : Nat → Prop} {U : State} {g : JFrame} {mk : MethodId} {a : Array Value} (h : ThE A U) : ThE A (U.calling g mk a) :=
  ⟨vx_Zq.moved (u := U) (U := U.calling g mk a) (Vm.Alike.refl U.vm) h.1, vx_Zq.moved (u := U) (U := U.calling g mk a) (Vm.Alike.refl U.vm) h.2.1, fun w hw => va_Nw.same (u := U) (U := U.calling g mk a) (by
    simp only [nseB, List.mem_cons, List.not_mem_nil, or_false] at hw
    rcases hw with rfl | rfl | rfl | rfl <;> rfl) rfl (h.2.2 w hw)⟩
abbrev NSE : String := "java/util/NoSuchElementException"
abbrev nseN : List String := ["java/lang/RuntimeException", "java/lang/Exception"]
theorem nse_at : ∀ w ∈ (vx_at0 RX11 248 NSE nseN).filter goodWord, w ∈ gt := gt_l [20, 1284, 1293, 1295, 1298, 1300, 1285, 1286, 31, 32, 1287, 1292, 1296, 1312, 1274, 1313, 1276, 1314, 1278, 1288, 1290, 1280, 1302, 1303, 1304, 1305, 1305, 1306, 1307, 1308, 1308, 1309, 1310, 1285, 1301, 1263, 1271, 1272, 1273, 1275, 1277, 1279, 1283, 1282, 1281] (by decide +kernel) (by decide +kernel)
theorem nse_bad : ∀ w ∈ (vx_at0 RX11 248 NSE nseN).filter (fun w => !goodWord w), w ∈ nseB := by decide +kernel
theorem nse_good : ∀ w ∈ Cond.classLink RX11 246 NSE :: Cond.initialized NSE :: vx_at0 RX11 248 NSE nseN, vx_ot w = true := by decide +kernel
theorem nse_cl : Cond.classLink RX11 246 NSE ∈ gt := gt_t (i := 1262) (by decide +kernel) (by decide +kernel)
theorem nse_in : Cond.initialized NSE ∈ gt := gt_t (i := 23) (by decide +kernel) (by decide +kernel)
theorem nseB_ot : ∀ w ∈ nseB, w.onTables = true := by decide +kernel
def TX (D : va_G) (cA : Nat → ClassId) (A : Nat → Prop) (ad : Nat → Nat) (M : Mem) : String → State → State → Prop := fun E st t => E = NSE ∧ va_P D vwCl (toW cA ad M) t.heap ∧ va_F A st t
/-- a method that throws -/
def CnT (y : MethodName) (bytes : ByteArray) (maxL : Nat) (ret : Option FieldType) (fr lo : Nat) (av : List Vl) (M : Mem) : Prop :=
  ∀ (l : Launch) (D : va_G) (cA : Nat → ClassId) (A : Nat → Prop) (ad : Nat → Nat) (sz : Nat), l.stackTraces = false → AdOK A ad → okM M → okS av → (∀ q, sz ≤ q → A q) →
    vx_Met l y (Cond.code y bytes maxL ret :: gt) { frames := fr, cells := 1, slots := 6, locals := lo } (va_Pc (av.map (toV ad)) (fun U => U.heap.size = sz ∧ World D cA ad M U ∧ ThE A U)) (fun _ _ _ _ => False) (TX D cA A ad M) 1 6 A
section WT
variable {p : Program} {l : Launch} {e : Env} {R : Room} {s : State} {m : MethodId} {args : Array Value} {below : List Frame} {meth : Method} {c : Code} {H : Heap} {locs : List Loc} {cells slots : Nat} {Q : State → Prop} {own : String} {cc : ByteArray} {nL pc : Nat} {D : va_G} {cA : Nat → ClassId} {A : Nat → Prop} {ls : Array Slot} {rest : List Value} {ad : Nat → Nat} {M : Mem}
set_option maxHeartbeats 4000000 in
set_option maxRecDepth 20000 in
theorem w_nse {cells slots : Nat} {Qc : Array Value → State → Outcome → State → Prop} (X : WC p s m args c RX11 cc nL D cA A) (S : WSt D cA A s ad M H locs) (hE : ThE A s) (hlT : l.stackTraces = false) (hls : ls.size = nL) (hout : ∀ x ∈ c.exceptionTable.toList, False) (hlk : meth.locks = false) (hR : 6 ≤ R.frames ∧ 81 ≤ R.locals ∧ cells + 1 ≤ R.cells ∧ slots + 6 ≤ R.slots) (hc : cells + 1 ≤ 1) (hs : slots + 6 ≤ 6)
    (d0 : decode cc pc = .ok (.new 246, 3)) (d3 : decode cc (pc + 3) = .ok (.dup, 1)) (d4 : decode cc (pc + 4) = .ok (.invokespecial 248, 3)) (d7 : decode cc (pc + 7) = .ok (.athrow, 1)) : W p l e R s m args below meth c H locs cells slots (vx_MQ below Qc (TX D cA A ad M) args s 1 6 A) (F0 m pc ls []) := by
  obtain ⟨hx, hb, hml, hown, hts, hK, hNW, hA⟩ := X
  refine vx_throw0 (rest := []) hx hb hlT (names := nseN) hown (by decide +kernel) (by decide +kernel) (hts _ nse_cl) (hts _ nse_in) (vx_hat (fun w hw => hts w (nse_at w hw)) nse_bad (fun w hw => va_any (nseB_ot w hw) (hE.2.2 w hw))) nse_good hE.1 hE.2.1 S.2.2.2 (by rw [hml]; exact hls) d0 d3 d4 d7 (fun x hx => (hout x hx).elim) hR.1 hR.2.1 hR.2.2.1 hR.2.2.2 hlk (fun t _ h2 h3 => ⟨rfl, fun k q hk => ?_, ?_, fun q h4 h5 => ?_⟩) S.2.2.2.2.2 hc hs
  · exact (S.2.2.1 k q hk).kept (h3 q.1 ((S.2.2.1 k q hk).lt))
  · exact Nat.le_trans S.2.2.2.1 h2
  · exact (h3 q (Nat.lt_of_lt_of_le h4 S.2.2.2.1)).trans (S.2.2.2.2.1 q h4 h5)
theorem w_thrown {mc ms : Nat} {st0 : List Value} {Qa : State → Outcome → State → Prop} (hr : vx_Run p l e R s m args below meth c H locs cells slots mc ms (F0 m pc ls st0) rest Qa (TX D cA A ad M) A) (S : WSt D cA A s ad M H locs) (hno : ∀ st oc t, ¬ Qa st oc t)
    (kx : ∀ (ce : Cell) (q9 : Addr) (H1 : Heap) (locs1 : List Loc), WSt D cA A s ad M H1 locs1 → H1[q9]? = some ce → ce.vm = .none → s.vm.findClass NSE = some ce.cls → vx_W p l e R s m args below meth c H1 locs1 (cells + mc) (slots + ms) Q (F0 m pc ls rest) q9) : W p l e R s m args below meth c H locs cells slots Q (F0 m pc ls st0) := by
  intro T hT X
  rcases hr T hT X with ⟨v, st₀, t, T', L, h0, X', hL, e1, e2, hq, st⟩ | ⟨q, st₀, t, T', L, E, ce, h0, X', hL, e1, e2, ⟨hE, hb, hF⟩, hce, hcv, hcl, st⟩
  · exact (hno _ _ _ hq).elim
  · subst hE
    obtain ⟨k1, k2, k3⟩ := vx_keep h0 e1 S.2.2.2 (fun _ _ h => h) (fun _ h => h) hL hF
    obtain ⟨t2, a1, b1⟩ := kx ce q T'.heap (locs ++ L) ⟨S.1, S.2.1, by rw [e1]; exact hb, k3⟩ (by rw [e1]; exact hce) hcv hcl T' rfl X'
    exact ⟨t2, st.trans a1, b1⟩
/-- a call that returns, by a contract that could speak of throws -/
theorem w_onX {U0 : Type} {mc ms : Nat} {st0 : List Value} {free : Addr → Prop} {Qa : State → Outcome → State → Prop} {XC : String → State → State → Prop} (val : U0 → Option Value) (B : U0 → State → Prop) (hr : vx_Run p l e R s m args below meth c H locs cells slots mc ms (F0 m pc ls st0) rest Qa XC free) (hX : ∀ E st t, ¬ XC E st t) (hQ : ∀ st oc t, Qa st oc t → ∃ u : U0, oc = .returned (val u) ∧ B u t ∧ va_F A st t) (hS : va_S A s.heap H locs) (hf : ∀ q, free q → A q)
    (kk : ∀ (u : U0) (t : State) (H1 : Heap) (locs1 : List Loc), t.heap = H1 → B u t → va_S A s.heap H1 locs1 → W p l e R s m args below meth c H1 locs1 (cells + mc) (slots + ms) Q (F0 m (pc + 3) ls ((val u).toList ++ rest))) : W p l e R s m args below meth c H locs cells slots Q (F0 m pc ls st0) := by
  refine w_on val B (fun T hT X => ?_) hQ hS hf kk
  rcases hr T hT X with h | ⟨q, st₀, t, T', L, E, ce, h0, X', hL, e1, e2, hx, -⟩
  · exact h
  · exact (hX _ _ _ hx).elim
theorem blindT {sz : Nat} {av : List Value} : FrameBlind (va_Pc av (fun U => U.heap.size = sz ∧ World D cA ad M U ∧ ThE A U)) := fun a U g mk q => by
  obtain ⟨q0, qz, ⟨qP, qK, qN⟩, qT⟩ := q
  exact ⟨q0, qz, ⟨qP, va_K.moved (u := U) (U := U.calling g mk a) (Vm.Alike.refl U.vm) qK, fun w hw => va_Nw.same (u := U) (U := U.calling g mk a) (by
    have hf := (List.mem_filter.mp hw).2
    cases w <;> first | rfl | cases hf) rfl (qN w hw)⟩, qT.blind⟩
end WT
theorem rz_0 {M : Mem} : rz 0 M = some (0, M) := if_pos (Or.inl rfl)
theorem rz_1 {M : Mem} : rz 1 M = some (1, M) := if_pos (Or.inr rfl)
theorem isLane_1 {lane : Int} {M : Mem} (h0 : 0 ≤ lane) (h1 : lane < 4) : fX11_isLane lane M = some (1, M) := by
  unfold fX11_isLane
  rw [if_neg (by omega), if_neg (by omega), ob, rz_1]
theorem isLane_0 {lane : Int} {M : Mem} (h : ¬ (0 ≤ lane ∧ lane < 4)) : fX11_isLane lane M = some (0, M) := by
  unfold fX11_isLane
  by_cases z : lane < 0
  · rw [if_pos z, ob, rz_0]
  · rw [if_neg z, if_pos (by omega), ob, rz_0]
theorem isShown_1 {wt : Int} {M : Mem} (h0 : 0 ≤ wt) (h1 : wt < M 44 5) : fX11_isShown wt M = some (1, M) := by
  unfold fX11_isShown
  rw [if_neg (by omega), if_neg (by omega), ob, rz_1]
theorem isShown_0 {wt : Int} {M : Mem} (h : ¬ (0 ≤ wt ∧ wt < M 44 5)) : fX11_isShown wt M = some (0, M) := by
  unfold fX11_isShown
  by_cases z : wt < 0
  · rw [if_pos z, ob, rz_0]
  · rw [if_neg z, if_pos (by omega), ob, rz_0]
set_option maxHeartbeats 4000000 in
set_option maxRecDepth 20000 in
theorem cnX11_walked {M M1 : Mem} {t : Nat} {lane wt x : Int} (ht : t = 5 ∨ t = 119) (h13 : M 0 13 = (t : Int)) (l0 : 0 ≤ lane) (l1 : lane < 4) (w0 : 0 ≤ wt) (w1 : wt < M 44 5) (hf : fX4_walk t lane wt M = some (x, M1)) : CnW yX11_walked cX11_walked 3 (some .int) 6 137 0 0 [zr 0, zi lane, zi wt] M (some (oI (x, M1))) := by
  refine CnW_mk (by decide +kernel) (Nat.le_of_ble_eq_true rfl) ?_
  intro p l e s m args below meth c D cA A ad ls r hr X hav S hl hret hlk
  cases hr
  obtain ⟨-, hla, hwt, -⟩ := hav
  have hla : i32 lane := hla
  have hwt : i32 wt := hwt
  have X : WC p s m args c RX11 cX11_walked 3 D cA A := X
  have hl : lv_has ls 3 [(0, .ref (ad 0)), (1, .int (Int32.ofInt lane)), (2, .int (Int32.ofInt wt))] := hl
  refine lv_iload_n X.1 X.2.1 dX11_walked_0 rfl (lv_at hl 1 rfl) ?_
  have t1 := tX11_isLane lane M
  rw [isLane_1 l0 l1] at t1
  refine w_callS (av := [zi lane]) (rest := []) X S hl.1 t1 ⟨hla, trivial⟩ lkX11_178 rfl rfl (Nat.le_of_ble_eq_true rfl) ⟨Nat.le_of_ble_eq_true rfl, Nat.le_of_ble_eq_true rfl⟩ ⟨Nat.zero_le _, Nat.zero_le _⟩ dX11_walked_1 (fun H locs S hok => ?_)
  have S : WSt D cA A s ad M H locs := S
  show W _ _ _ _ _ _ _ _ _ _ _ _ _ _ _ (F0 m 4 ls [.int (Int32.ofInt 1)])
  refine lv_if_eq (tgt := 15) X.1 X.2.1 dX11_walked_4 (by decide) (fun hc => absurd hc (by decide)) (fun _ => ?_)
  refine lv_aload_n X.1 X.2.1 dX11_walked_7 rfl (lv_at hl 0 rfl) ?_
  refine lv_iload_n X.1 X.2.1 dX11_walked_8 rfl (lv_at hl 2 rfl) ?_
  have t2 := tX11_isShown wt M
  rw [isShown_1 w0 w1] at t2
  refine w_callV (av := [zi wt]) (rest := []) X S hl.1 t2 ⟨hwt, trivial⟩ lkX11_240 kd_0 rfl rfl rfl (Nat.le_of_ble_eq_true rfl) ⟨Nat.le_of_ble_eq_true rfl, Nat.le_of_ble_eq_true rfl⟩ ⟨Nat.zero_le _, Nat.zero_le _⟩ dX11_walked_9 (fun H locs S hok => ?_)
  have S : WSt D cA A s ad M H locs := S
  show W _ _ _ _ _ _ _ _ _ _ _ _ _ _ _ (F0 m 12 ls [.int (Int32.ofInt 1)])
  refine lv_if_ne (tgt := 23) X.1 X.2.1 dX11_walked_12 (by decide) (fun _ => ?_) (fun hc => absurd hc (by decide))
  refine lv_aload_n X.1 X.2.1 dX11_walked_23 rfl (lv_at hl 0 rfl) ?_
  refine w_getp X S clX11 kd_0 (k := 5) (by decide) flX11_53 dX11_walked_24 pt_0_5 ?_
  refine lv_aload_n X.1 X.2.1 dX11_walked_27 rfl (lv_at hl 0 rfl) ?_
  refine w_getm X S clX11 kd_0 (k := 13) (kz := 13) (by decide) flX11_103 dX11_walked_28 (by decide +kernel) rfl h13 ?_
  refine lv_iload_n X.1 X.2.1 dX11_walked_31 rfl (lv_at hl 1 rfl) ?_
  refine lv_iload_n X.1 X.2.1 dX11_walked_32 rfl (lv_at hl 2 rfl) ?_
  have t3 := tX4_walk t ht lane wt M
  rw [hf] at t3
  refine w_callV (av := [zr t, zi lane, zi wt]) (rest := []) X S hl.1 t3 ⟨trivial, hla, hwt, trivial⟩ lkX11_249 kd_56 rfl rfl rfl (Nat.le_of_ble_eq_true rfl) ⟨Nat.le_of_ble_eq_true rfl, Nat.le_of_ble_eq_true rfl⟩ ⟨Nat.zero_le _, Nat.zero_le _⟩ dX11_walked_33 (fun H locs S hok => ?_)
  have S : WSt D cA A s ad M1 H locs := S
  exact w_iret X S (fun _ _ => rfl) hret hlk (hok.2 (zi x) rfl) (Nat.le_refl _) (Nat.le_refl _) dX11_walked_36
set_option maxHeartbeats 4000000 in
set_option maxRecDepth 20000 in
theorem cnX11_ran {M M1 : Mem} {lane wt x : Int} (l0 : 0 ≤ lane) (l1 : lane < 4) (w0 : 0 ≤ wt) (w1 : wt < M 44 5) (hf : fX4_run lane M = some M1) (h49 : ldI M1 49 wt = some (M 49 wt)) (hg : fX4_heldFor (M 49 wt) M1 = some (x, M1)) : CnW yX11_ran cX11_ran 3 (some .int) 6 137 0 0 [zr 0, zi lane, zi wt] M (some (oI (x, M1))) := by
  refine CnW_mk (by decide +kernel) (Nat.le_of_ble_eq_true rfl) ?_
  intro p l e s m args below meth c D cA A ad ls r hr X hav S hl hret hlk
  cases hr
  obtain ⟨-, hla, hwt, -⟩ := hav
  have hla : i32 lane := hla
  have hwt : i32 wt := hwt
  have X : WC p s m args c RX11 cX11_ran 3 D cA A := X
  have hl : lv_has ls 3 [(0, .ref (ad 0)), (1, .int (Int32.ofInt lane)), (2, .int (Int32.ofInt wt))] := hl
  refine lv_iload_n X.1 X.2.1 dX11_ran_0 rfl (lv_at hl 1 rfl) ?_
  have t1 := tX11_isLane lane M
  rw [isLane_1 l0 l1] at t1
  refine w_callS (av := [zi lane]) (rest := []) X S hl.1 t1 ⟨hla, trivial⟩ lkX11_178 rfl rfl (Nat.le_of_ble_eq_true rfl) ⟨Nat.le_of_ble_eq_true rfl, Nat.le_of_ble_eq_true rfl⟩ ⟨Nat.zero_le _, Nat.zero_le _⟩ dX11_ran_1 (fun H locs S hok => ?_)
  have S : WSt D cA A s ad M H locs := S
  show W _ _ _ _ _ _ _ _ _ _ _ _ _ _ _ (F0 m 4 ls [.int (Int32.ofInt 1)])
  refine lv_if_eq (tgt := 15) X.1 X.2.1 dX11_ran_4 (by decide) (fun hc => absurd hc (by decide)) (fun _ => ?_)
  refine lv_aload_n X.1 X.2.1 dX11_ran_7 rfl (lv_at hl 0 rfl) ?_
  refine lv_iload_n X.1 X.2.1 dX11_ran_8 rfl (lv_at hl 2 rfl) ?_
  have t2 := tX11_isShown wt M
  rw [isShown_1 w0 w1] at t2
  refine w_callV (av := [zi wt]) (rest := []) X S hl.1 t2 ⟨hwt, trivial⟩ lkX11_240 kd_0 rfl rfl rfl (Nat.le_of_ble_eq_true rfl) ⟨Nat.le_of_ble_eq_true rfl, Nat.le_of_ble_eq_true rfl⟩ ⟨Nat.zero_le _, Nat.zero_le _⟩ dX11_ran_9 (fun H locs S hok => ?_)
  have S : WSt D cA A s ad M H locs := S
  show W _ _ _ _ _ _ _ _ _ _ _ _ _ _ _ (F0 m 12 ls [.int (Int32.ofInt 1)])
  refine lv_if_ne (tgt := 23) X.1 X.2.1 dX11_ran_12 (by decide) (fun _ => ?_) (fun hc => absurd hc (by decide))
  refine lv_aload_n X.1 X.2.1 dX11_ran_23 rfl (lv_at hl 0 rfl) ?_
  refine w_getp X S clX11 kd_0 (k := 5) (by decide) flX11_53 dX11_ran_24 pt_0_5 ?_
  refine lv_aload_n X.1 X.2.1 dX11_ran_27 rfl (lv_at hl 0 rfl) ?_
  refine w_getp X S clX11 kd_0 (k := 8) (by decide) flX11_80 dX11_ran_28 pt_0_8 ?_
  refine lv_iload_n X.1 X.2.1 dX11_ran_31 rfl (lv_at hl 1 rfl) ?_
  have t3 := tX4_run lane M
  rw [hf] at t3
  refine w_callV (av := [zr 75, zi lane]) (rest := []) X S hl.1 t3 ⟨trivial, hla, trivial⟩ lkX11_253 kd_56 rfl rfl rfl (Nat.le_of_ble_eq_true rfl) ⟨Nat.le_of_ble_eq_true rfl, Nat.le_of_ble_eq_true rfl⟩ ⟨Nat.zero_le _, Nat.zero_le _⟩ dX11_ran_32 (fun H locs S hok => ?_)
  have S : WSt D cA A s ad M1 H locs := S
  show W _ _ _ _ _ _ _ _ _ _ _ _ _ _ _ (F0 m 35 ls [])
  refine lv_aload_n X.1 X.2.1 dX11_ran_35 rfl (lv_at hl 0 rfl) ?_
  refine w_getp X S clX11 kd_0 (k := 5) (by decide) flX11_53 dX11_ran_36 pt_0_5 ?_
  refine lv_aload_n X.1 X.2.1 dX11_ran_39 rfl (lv_at hl 0 rfl) ?_
  refine w_getp X S clX11 kd_0 (k := 8) (by decide) flX11_80 dX11_ran_40 pt_0_8 ?_
  refine lv_aload_n X.1 X.2.1 dX11_ran_43 rfl (lv_at hl 0 rfl) ?_
  refine w_getp X S clX11 kd_0 (k := 3) (b := 44) (by decide) flX11_37 dX11_ran_44 (by decide +kernel) ?_
  refine w_getp X S clX9 (show kd 44 = (0, 9) by decide +kernel) (k := 6) (b := 49) (by decide) flX11_243 dX11_ran_47 (by decide +kernel) ?_
  refine lv_iload_n X.1 X.2.1 dX11_ran_50 rfl (lv_at hl 2 rfl) ?_
  refine w_iald X S hwt h49 dX11_ran_51 (fun hv => ?_)
  have t4 := tX4_heldFor (M 49 wt) M1
  rw [hg] at t4
  refine w_callV (av := [zr 75, zi (M 49 wt)]) (rest := []) X S hl.1 t4 ⟨trivial, hv, trivial⟩ lkX11_257 kd_56 rfl rfl rfl (Nat.le_of_ble_eq_true rfl) ⟨Nat.le_of_ble_eq_true rfl, Nat.le_of_ble_eq_true rfl⟩ ⟨Nat.zero_le _, Nat.zero_le _⟩ dX11_ran_52 (fun H locs S hok => ?_)
  have S : WSt D cA A s ad M1 H locs := S
  exact w_iret X S (fun _ _ => rfl) hret hlk (hok.2 (zi x) rfl) (Nat.le_refl _) (Nat.le_refl _) dX11_ran_55
set_option maxHeartbeats 4000000 in
set_option maxRecDepth 20000 in
theorem cxX11_walked {M : Mem} {lane wt : Int} (hno : ¬ ((0 ≤ lane ∧ lane < 4) ∧ 0 ≤ wt ∧ wt < M 44 5)) : CnT yX11_walked cX11_walked 3 (some .int) 6 137 [zr 0, zi lane, zi wt] M := by
  intro l D cA A ad sz hlT hAd hM hav hsz
  refine vx_ofW (cc := cX11_walked) (maxL := 3) (ret := some .int) (by decide +kernel) rfl ?_
  intro p e s m args below meth c s₁ B hml hout hv
  obtain ⟨rfl, hz, ⟨hP, hK, hNW⟩, hTh⟩ := hv
  subst hz
  have hts := atoms_spec (ws := Cond.code yX11_walked cX11_walked 3 (some .int) :: gt) B.pre
  have hown : s.vm.findClass RX11 = some m.cls := findClass_of_methodNamed B.named
  have hl := lv_entry ([zr 0, zi lane, zi wt].map (toV ad)) (n := 3) (by rw [szL_ok]; exact Nat.le_of_ble_eq_true rfl)
  rw [lg_entry_eq]
  obtain ⟨-, hla, hwt, -⟩ := hav
  have hla : i32 lane := hla
  have hwt : i32 wt := hwt
  have X : WC p s m (List.map (toV ad) [zr 0, zi lane, zi wt]).toArray c RX11 cX11_walked 3 D cA A := ⟨B.exec, B.bytes, hml, hown, fun w hw => hts w (List.mem_cons_of_mem _ hw), hK, hNW, hsz⟩
  have S : WSt D cA A s ad M s.heap [] := ⟨hM, hAd, hP, va_S.rf⟩
  have hlk : meth.locks = false := B.notSynchronized
  generalize hls : (lg_sl (List.map (toV ad) [zr 0, zi lane, zi wt]) ++ List.replicate (3 - (lg_sl (List.map (toV ad) [zr 0, zi lane, zi wt])).length) Slot.unset).toArray = ls at hl ⊢
  have hl : lv_has ls 3 [(0, .ref (ad 0)), (1, .int (Int32.ofInt lane)), (2, .int (Int32.ofInt wt))] := hl
  have fin : ∀ (H : Heap) (locs : List Loc), WSt D cA A s ad M H locs → W p l e { frames := 6, cells := 1, slots := 6, locals := 137 } s m (List.map (toV ad) [zr 0, zi lane, zi wt]).toArray below meth c H locs 0 0 (vx_MQ below (fun _ _ _ _ => False) (TX D cA A ad M) (List.map (toV ad) [zr 0, zi lane, zi wt]).toArray s 1 6 A) (F0 m 15 ls []) := fun H locs S =>
    w_nse X S hTh hlT hl.1 hout hlk ⟨Nat.le_of_ble_eq_true rfl, Nat.le_of_ble_eq_true rfl, Nat.le_of_ble_eq_true rfl, Nat.le_of_ble_eq_true rfl⟩ (Nat.le_refl _) (Nat.le_refl _) dX11_walked_15 dX11_walked_18 dX11_walked_19 dX11_walked_22
  show W p l e { frames := 6, cells := 1, slots := 6, locals := 137 } s m (List.map (toV ad) [zr 0, zi lane, zi wt]).toArray below meth c s.heap [] 0 0 (vx_MQ below (fun _ _ _ _ => False) (TX D cA A ad M) (List.map (toV ad) [zr 0, zi lane, zi wt]).toArray s 1 6 A) (F0 m 0 ls [])
  refine lv_iload_n X.1 X.2.1 dX11_walked_0 rfl (lv_at hl 1 rfl) ?_
  have t1 := tX11_isLane lane M
  by_cases hL : 0 ≤ lane ∧ lane < 4
  · rw [isLane_1 hL.1 hL.2] at t1
    refine w_callS (av := [zi lane]) (rest := []) X S hl.1 t1 ⟨hla, trivial⟩ lkX11_178 rfl rfl (Nat.le_of_ble_eq_true rfl) ⟨Nat.le_of_ble_eq_true rfl, Nat.le_of_ble_eq_true rfl⟩ ⟨Nat.zero_le _, Nat.zero_le _⟩ dX11_walked_1 (fun H locs S hok => ?_)
    have S : WSt D cA A s ad M H locs := S
    show W _ _ _ _ _ _ _ _ _ _ _ _ _ _ _ (F0 m 4 ls [.int (Int32.ofInt 1)])
    refine lv_if_eq (tgt := 15) X.1 X.2.1 dX11_walked_4 (by decide) (fun hc => absurd hc (by decide)) (fun _ => ?_)
    refine lv_aload_n X.1 X.2.1 dX11_walked_7 rfl (lv_at hl 0 rfl) ?_
    refine lv_iload_n X.1 X.2.1 dX11_walked_8 rfl (lv_at hl 2 rfl) ?_
    have t2 := tX11_isShown wt M
    rw [isShown_0 (fun z => hno ⟨hL, z⟩)] at t2
    refine w_callV (av := [zi wt]) (rest := []) X S hl.1 t2 ⟨hwt, trivial⟩ lkX11_240 kd_0 rfl rfl rfl (Nat.le_of_ble_eq_true rfl) ⟨Nat.le_of_ble_eq_true rfl, Nat.le_of_ble_eq_true rfl⟩ ⟨Nat.zero_le _, Nat.zero_le _⟩ dX11_walked_9 (fun H locs S hok => ?_)
    have S : WSt D cA A s ad M H locs := S
    show W _ _ _ _ _ _ _ _ _ _ _ _ _ _ _ (F0 m 12 ls [.int (Int32.ofInt 0)])
    refine lv_if_ne (tgt := 23) X.1 X.2.1 dX11_walked_12 (by decide) (fun hc => absurd (show Int32.ofInt 0 = 0 by decide) hc) (fun _ => ?_)
    exact fin H locs S
  · rw [isLane_0 hL] at t1
    refine w_callS (av := [zi lane]) (rest := []) X S hl.1 t1 ⟨hla, trivial⟩ lkX11_178 rfl rfl (Nat.le_of_ble_eq_true rfl) ⟨Nat.le_of_ble_eq_true rfl, Nat.le_of_ble_eq_true rfl⟩ ⟨Nat.zero_le _, Nat.zero_le _⟩ dX11_walked_1 (fun H locs S hok => ?_)
    have S : WSt D cA A s ad M H locs := S
    show W _ _ _ _ _ _ _ _ _ _ _ _ _ _ _ (F0 m 4 ls [.int (Int32.ofInt 0)])
    refine lv_if_eq (tgt := 15) X.1 X.2.1 dX11_walked_4 (by decide) (fun _ => ?_) (fun hc => absurd (show Int32.ofInt 0 = 0 by decide) hc)
    exact fin H locs S
set_option maxHeartbeats 4000000 in
set_option maxRecDepth 20000 in
theorem cxX11_ran {M : Mem} {lane wt : Int} (hno : ¬ ((0 ≤ lane ∧ lane < 4) ∧ 0 ≤ wt ∧ wt < M 44 5)) : CnT yX11_ran cX11_ran 3 (some .int) 6 137 [zr 0, zi lane, zi wt] M := by
  intro l D cA A ad sz hlT hAd hM hav hsz
  refine vx_ofW (cc := cX11_ran) (maxL := 3) (ret := some .int) (by decide +kernel) rfl ?_
  intro p e s m args below meth c s₁ B hml hout hv
  obtain ⟨rfl, hz, ⟨hP, hK, hNW⟩, hTh⟩ := hv
  subst hz
  have hts := atoms_spec (ws := Cond.code yX11_ran cX11_ran 3 (some .int) :: gt) B.pre
  have hown : s.vm.findClass RX11 = some m.cls := findClass_of_methodNamed B.named
  have hl := lv_entry ([zr 0, zi lane, zi wt].map (toV ad)) (n := 3) (by rw [szL_ok]; exact Nat.le_of_ble_eq_true rfl)
  rw [lg_entry_eq]
  obtain ⟨-, hla, hwt, -⟩ := hav
  have hla : i32 lane := hla
  have hwt : i32 wt := hwt
  have X : WC p s m (List.map (toV ad) [zr 0, zi lane, zi wt]).toArray c RX11 cX11_ran 3 D cA A := ⟨B.exec, B.bytes, hml, hown, fun w hw => hts w (List.mem_cons_of_mem _ hw), hK, hNW, hsz⟩
  have S : WSt D cA A s ad M s.heap [] := ⟨hM, hAd, hP, va_S.rf⟩
  have hlk : meth.locks = false := B.notSynchronized
  generalize hls : (lg_sl (List.map (toV ad) [zr 0, zi lane, zi wt]) ++ List.replicate (3 - (lg_sl (List.map (toV ad) [zr 0, zi lane, zi wt])).length) Slot.unset).toArray = ls at hl ⊢
  have hl : lv_has ls 3 [(0, .ref (ad 0)), (1, .int (Int32.ofInt lane)), (2, .int (Int32.ofInt wt))] := hl
  have fin : ∀ (H : Heap) (locs : List Loc), WSt D cA A s ad M H locs → W p l e { frames := 6, cells := 1, slots := 6, locals := 137 } s m (List.map (toV ad) [zr 0, zi lane, zi wt]).toArray below meth c H locs 0 0 (vx_MQ below (fun _ _ _ _ => False) (TX D cA A ad M) (List.map (toV ad) [zr 0, zi lane, zi wt]).toArray s 1 6 A) (F0 m 15 ls []) := fun H locs S =>
    w_nse X S hTh hlT hl.1 hout hlk ⟨Nat.le_of_ble_eq_true rfl, Nat.le_of_ble_eq_true rfl, Nat.le_of_ble_eq_true rfl, Nat.le_of_ble_eq_true rfl⟩ (Nat.le_refl _) (Nat.le_refl _) dX11_ran_15 dX11_ran_18 dX11_ran_19 dX11_ran_22
  show W p l e { frames := 6, cells := 1, slots := 6, locals := 137 } s m (List.map (toV ad) [zr 0, zi lane, zi wt]).toArray below meth c s.heap [] 0 0 (vx_MQ below (fun _ _ _ _ => False) (TX D cA A ad M) (List.map (toV ad) [zr 0, zi lane, zi wt]).toArray s 1 6 A) (F0 m 0 ls [])
  refine lv_iload_n X.1 X.2.1 dX11_ran_0 rfl (lv_at hl 1 rfl) ?_
  have t1 := tX11_isLane lane M
  by_cases hL : 0 ≤ lane ∧ lane < 4
  · rw [isLane_1 hL.1 hL.2] at t1
    refine w_callS (av := [zi lane]) (rest := []) X S hl.1 t1 ⟨hla, trivial⟩ lkX11_178 rfl rfl (Nat.le_of_ble_eq_true rfl) ⟨Nat.le_of_ble_eq_true rfl, Nat.le_of_ble_eq_true rfl⟩ ⟨Nat.zero_le _, Nat.zero_le _⟩ dX11_ran_1 (fun H locs S hok => ?_)
    have S : WSt D cA A s ad M H locs := S
    show W _ _ _ _ _ _ _ _ _ _ _ _ _ _ _ (F0 m 4 ls [.int (Int32.ofInt 1)])
    refine lv_if_eq (tgt := 15) X.1 X.2.1 dX11_ran_4 (by decide) (fun hc => absurd hc (by decide)) (fun _ => ?_)
    refine lv_aload_n X.1 X.2.1 dX11_ran_7 rfl (lv_at hl 0 rfl) ?_
    refine lv_iload_n X.1 X.2.1 dX11_ran_8 rfl (lv_at hl 2 rfl) ?_
    have t2 := tX11_isShown wt M
    rw [isShown_0 (fun z => hno ⟨hL, z⟩)] at t2
    refine w_callV (av := [zi wt]) (rest := []) X S hl.1 t2 ⟨hwt, trivial⟩ lkX11_240 kd_0 rfl rfl rfl (Nat.le_of_ble_eq_true rfl) ⟨Nat.le_of_ble_eq_true rfl, Nat.le_of_ble_eq_true rfl⟩ ⟨Nat.zero_le _, Nat.zero_le _⟩ dX11_ran_9 (fun H locs S hok => ?_)
    have S : WSt D cA A s ad M H locs := S
    show W _ _ _ _ _ _ _ _ _ _ _ _ _ _ _ (F0 m 12 ls [.int (Int32.ofInt 0)])
    refine lv_if_ne (tgt := 23) X.1 X.2.1 dX11_ran_12 (by decide) (fun hc => absurd (show Int32.ofInt 0 = 0 by decide) hc) (fun _ => ?_)
    exact fin H locs S
  · rw [isLane_0 hL] at t1
    refine w_callS (av := [zi lane]) (rest := []) X S hl.1 t1 ⟨hla, trivial⟩ lkX11_178 rfl rfl (Nat.le_of_ble_eq_true rfl) ⟨Nat.le_of_ble_eq_true rfl, Nat.le_of_ble_eq_true rfl⟩ ⟨Nat.zero_le _, Nat.zero_le _⟩ dX11_ran_1 (fun H locs S hok => ?_)
    have S : WSt D cA A s ad M H locs := S
    show W _ _ _ _ _ _ _ _ _ _ _ _ _ _ _ (F0 m 4 ls [.int (Int32.ofInt 0)])
    refine lv_if_eq (tgt := 15) X.1 X.2.1 dX11_ran_4 (by decide) (fun _ => ?_) (fun hc => absurd (show Int32.ofInt 0 = 0 by decide) hc)
    exact fin H locs S
