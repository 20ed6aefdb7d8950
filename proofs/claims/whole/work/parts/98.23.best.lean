/-! ShaderReady.best on the machine -/
theorem best_gather {M : Mem} (h : Inv M) (h12 : ¬ 12 < M 75 4) : ∀ q1, fX1_gather M = some q1 → (q1 0 13 = 5 ∨ q1 0 13 = 119) ∧ (q1 4 1 = 5 ∨ q1 4 1 = 119) ∧ 0 ≤ w32 (w32 (ishl 1 (q1 114 7) - 1) + 1) ∧ w32 (w32 (ishl 1 (q1 114 7) - 1) + 1) ≤ 4096 := by
  obtain ⟨t, n, nI, nS, D, h1, h2, h3, h4, h5⟩ := h
  intro q1 hq
  have hD := Cch_DW h1 h2
  have pb := pc_bd (D 0 1)
  have s4 := h2.2.2.2.1.1.1
  simp only [Nat.reduceAdd] at s4
  rw [s4] at h12
  obtain ⟨r, f, fr, F⟩ := s_X1_gather hD h2.2.1 (by omega)
  rw [hq] at f
  cases f
  have wm := W_bd (k := pc (D 0 1)) pb.1 (by omega)
  rw [fr 0 (by decide) (by decide) (by decide) (by decide), fr 4 (by decide) (by decide) (by decide) (by decide), F.1, W_shl pb.1 (by omega), w32_id (show -2147483648 ≤ W2 (pc (D 0 1)) - 1 by omega) (by omega), w32_id (show -2147483648 ≤ W2 (pc (D 0 1)) - 1 + 1 by omega) (by omega), h1.2.1]
  obtain ⟨⟨u, u1, -, u3⟩, -⟩ := h5
  rw [u3]
  have ht := h1.1
  exact ⟨by omega, by omega, by omega, by omega⟩
def bsR : Room := { frames := 3, cells := 1, slots := 4096, locals := 67 }
theorem pt_0_12' : ptr 0 12 = some 114 := by decide +kernel
set_option maxHeartbeats 4000000 in
set_option maxRecDepth 20000 in
theorem cnX11_best {M : Mem} (h : Inv M) : CnW yX11_best cX11_best 1 (some .int) 3 67 1 4096 [zr 0] M ((fX11_best M).map oI) := by
  refine CnW_mk (by decide +kernel) (by decide) ?_
  intro p l e s m args below meth c D cA A ad ls r hr X hav S hl hret hlk
  obtain ⟨r0, hr0, e0⟩ := Option.map_eq_some_iff.mp hr
  clear hr
  subst e0
  have hr := hr0
  clear hr0
  unfold fX11_best at hr
  have X : WC p s m args c RX11 cX11_best 1 D cA A := X
  have hl : lv_has ls 1 [(0, .ref (ad 0))] := hl
  show W p l e bsR s m args below meth c s.heap [] 0 0 (MQ below (PostW D cA A ad (oI r0)) args s 1 4096 A) (F0 m 0 ls [])
  refine lv_aload_n X.1 X.2.1 dX11_best_0 rfl (lv_at hl 0 rfl) ?_
  refine w_getp X S clX11 kd_0 (k := 8) (by decide) flX11_80 dX11_best_1 pt_0_8 ?_
  refine w_geti X S clX7 kd_75 (k := 4) (kz := 4) (by decide) flX11_308 dX11_best_4 (by decide +kernel) rfl (fun h4 => ?_)
  refine lv_bipush (v := Int32.ofInt 12) X.1 X.2.1 dX11_best_7 (by decide) ?_
  refine lv_icmp_le (tgt := 14) X.1 X.2.1 dX11_best_9 (by decide) (fun hc => ?_) (fun hc => ?_)
  · have hc := (i32_le h4 ⟨by decide, by decide⟩).mp hc
    have h12 : ¬ 12 < M 75 4 := by omega
    rw [if_neg h12] at hr
    obtain ⟨q3, f3, hr⟩ := Option.bind_eq_some_iff.mp hr
    cases hr
    have tail : ∀ (ad' : Nat → Nat) (H : Heap) (locs : List Loc) (cells slots : Nat), cells ≤ 1 → slots ≤ 4096 → (∀ b, b ≠ 115 → ad' b = ad b) → WSt D cA A s ad' q3 H locs → W p l e bsR s m args below meth c H locs cells slots (MQ below (PostW D cA A ad (oI (q3 0 15, q3))) args s 1 4096 A) (F0 m 34 ls []) := by
      intro ad' H locs cells slots c1 c2 had S
      rw [← had 0 (by decide)] at hl
      refine lv_aload_n X.1 X.2.1 dX11_best_34 rfl (lv_at hl 0 rfl) ?_
      refine w_geti X S clX11 kd_0 (k := 15) (kz := 15) (by decide) flX11_111 dX11_best_35 (by decide +kernel) rfl (fun h15 => ?_)
      exact w_iret X S had hret hlk h15 c1 c2 dX11_best_38
    refine lv_aload_n X.1 X.2.1 dX11_best_14 rfl (lv_at hl 0 rfl) ?_
    refine w_geti X S clX11 kd_0 (k := 15) (kz := 15) (by decide) flX11_111 dX11_best_15 (by decide +kernel) rfl (fun h15 => ?_)
    refine lv_bipush (v := Int32.ofInt (-2)) X.1 X.2.1 dX11_best_18 (by decide) ?_
    refine lv_icmp_ne (tgt := 34) X.1 X.2.1 dX11_best_20 (by decide) (fun hc => ?_) (fun hc => ?_)
    · rw [if_neg (fun z => hc (by rw [z]))] at f3
      cases f3
      exact tail ad s.heap [] 0 0 (by decide) (by decide) (fun _ _ => rfl) S
    · have hc : Int32.ofInt (M 0 15) = Int32.ofInt (-2) := hc
      rw [if_pos ((i32_eq h15 ⟨by decide, by decide⟩).mp hc)] at f3
      obtain ⟨q1, g1, g2⟩ := Option.bind_eq_some_iff.mp f3
      rw [pI_ok, ob] at g2
      cases g2
      have t1 := cnX1_reckon (M := M) (best_gather h h12)
      rw [g1] at t1
      refine lv_aload_n X.1 X.2.1 dX11_best_23 rfl (lv_at hl 0 rfl) ?_
      refine lv_aload_n X.1 X.2.1 dX11_best_24 rfl (lv_at hl 0 rfl) ?_
      refine w_getp X S clX11 kd_0 (k := 12) (by decide) flX11_96 dX11_best_25 pt_0_12' ?_
      refine w_callW (av := []) (rest := [.ref (ad 0)]) X S hl.1 t1 trivial lkX11_350 kd_114 rfl rfl rfl (Nat.le_of_ble_eq_true rfl) ⟨Nat.le_of_ble_eq_true rfl, Nat.le_of_ble_eq_true rfl⟩ ⟨Nat.le_of_ble_eq_true rfl, Nat.le_of_ble_eq_true rfl⟩ dX11_best_28 (fun ad' H locs had S hok => ?_)
      have S : WSt D cA A s ad' q1.2 H locs := S
      rw [← had 0 (by decide)]
      refine w_puti (x := q1.1) X S clX11 kd_0 (k := 15) (kz := 15) (by decide) flX11_111 rfl dX11_best_31 (by decide +kernel) rfl rfl (hok.2 (zi q1.1) rfl) (fun H locs S => ?_)
      exact tail ad' H locs (0 + 1) (0 + 4096) (by decide) (by decide) had S
  · have hc : ¬ M 75 4 ≤ 12 := fun z => hc ((i32_le h4 ⟨by decide, by decide⟩).mpr z)
    rw [if_pos (by omega)] at hr
    cases hr
    refine lv_iconst (v := Int32.ofInt (-1)) X.1 X.2.1 dX11_best_12 rfl ?_
    exact w_iret X S (fun _ _ => rfl) hret hlk (show i32 (-1) from ⟨by decide, by decide⟩) (by decide) (by decide) dX11_best_13
