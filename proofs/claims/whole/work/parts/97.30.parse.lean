/-! reading, from its start to its end -/
def G00 : Nat → Int → Int → Int := fun _ _ _ => 0
theorem PC_0 {A B : Mem} {t : Nat} {T : Int → Int} {n N : Int} (hC : CK A t T n) (hM : MK B T n N) (a5 : A 4 5 = 0) (b14 : B 132 14 = 0) (a0 : A t 0 = 0) (a10 : A t 10 = 0) (a16 : A t 16 = 0) (a14 : A t 14 = 4) (a15 : A t 15 = 8) (a7 : A 4 7 = 0) (a8 : A 4 8 = 0) (a9 : A 4 9 = 0) (aa : A 4 10 = 0) (b18 : B 132 18 = 0) (hz : ∀ k, 412 ≤ k → k < 824 → B 138 k = if k = 416 then 8 else if k = 415 then 4 else 0) : PC A B t T n N G00 0 := by
  have z : ∀ k, 412 ≤ k → k < 824 → k ≠ 416 → k ≠ 415 → B 138 k = 0 := fun k h1 h2 h3 h4 => by rw [hz k h1 h2, if_neg h3, if_neg h4]
  have e6 := hz 416 (by omega) (by omega)
  have e5 := hz 415 (by omega) (by omega)
  rw [if_pos rfl] at e6
  rw [if_neg (by omega), if_pos rfl] at e5
  have g0 : ∀ a i l, G00 a i l = 0 := fun _ _ _ => rfl
  unfold PC
  simp only [g0]
  refine ⟨hC, hM, ⟨a5, b14, Int.le_refl _, by omega, fun k k0 k1 => by omega, fun k l k0 kl l1 => by omega⟩, ⟨a0, z 412 (by omega) (by omega) (by omega) (by omega), Int.le_refl _⟩, ⟨by rw [a10, z 413 (by omega) (by omega) (by omega) (by omega)], by omega, by omega⟩, ⟨by rw [a16, z 414 (by omega) (by omega) (by omega) (by omega)], by omega, by omega, by omega⟩, ⟨by rw [a14, e5], by omega, by omega⟩, ⟨by rw [a15, e6], by omega, by omega⟩, ⟨by rw [a9, z 418 (by omega) (by omega) (by omega) (by omega)], Or.inl a9⟩, ⟨by rw [aa, z 419 (by omega) (by omega) (by omega) (by omega)], Or.inl aa⟩, ⟨a7, b18⟩, ?_, fun i i0 i1 => by omega, fun s s0 s1 => by omega, fun l l0 l1 => by omega, ?_⟩
  · rw [a8]; rfl
  · refine ⟨fun i i0 i1 => by omega, fun i i0 i1 => ?_, fun l l0 l1 => ?_, rfl⟩
    · unfold LnO
      simp only [g0]
      exact ⟨by omega, by omega, fun s s0 s1 => by omega, fun l l0 l1 => by omega⟩
    · rw [g0] at l1; omega
def PsE (t : Nat) (T : Int → Int) (n N : Int) (A0 B0 : Mem) (x : Int) (A B : Mem) : Prop := CFr t A0 A ∧ MF0 B0 B ∧ ((x = 0 ∧ B 132 8 = 0 ∧ (∀ k, (k = 420 ∨ k = 421 ∨ 440 ≤ k) → k < 824 → B 138 k = 0) ∧ ∃ G c, PC A B t T n N G c ∧ G 0 c 0 = 0 ∧ A t 17 = G 1 c 0 ∧ B 138 417 = G 1 c 0 ∧ c ≤ 200) ∨ (0 < x ∧ B 132 8 = x))
set_option maxHeartbeats 4000000 in
set_option maxRecDepth 20000 in
theorem ps_parse {A B : Mem} {t : Nat} {T : Int → Int} {n N : Int} (hC : CK A t T n) (hM : MK B T n N) (b7 : B 132 7 = 0) (b8 : B 132 8 = 0) : ∃ x A' q3 r r2, fX6_parse A = some (x, A') ∧ fX12_clears 412 B = some q3 ∧ lp fX12_shader_b1 (wr (wr q3 132 14 0) 132 18 0) = some r ∧ ((if (r 132 18) ≤ 0 then some r else (fX12_wrong 1 r).bind fun q11 => some q11 : Option (Mem))) = some r2 ∧ PsE t T n N A B x A' (wr r2 138 417 (r2 132 14)) := by
  have ht := hC.1
  have n0 := hC.2.2.1.2.1
  have n1 := hM.2.1
  have nN := hM.1.2.1
  have N0 := hM.1.1
  obtain ⟨q, c1, c2, c3, c4, c5, c6, c7, c8, c9⟩ := c_clear (A := A) (t := t)
  obtain ⟨q3, m1, m2, m3, m4⟩ := m_clears (B := B)
  -- the class begins
  obtain ⟨Q, hQ⟩ : ∃ Q, Q = wr (wr (wr (wr (wr (wr q 4 5 0) 4 7 0) 4 8 0) 4 9 0) 4 10 0) 1 3 0 := ⟨_, rfl⟩
  have Q4 : ∀ k, Q 4 k = if k = 10 then 0 else if k = 9 then 0 else if k = 8 then 0 else if k = 7 then 0 else if k = 5 then 0 else A 4 k := fun k => by rw [hQ, wr_ne (by omega), wr_at, wr_at, wr_at, wr_at, wr_at, c2 4 (by omega)]
  have Qo : ∀ b, b ≠ 1 → b ≠ 4 → Q b = q b := fun b h1 h4 => by rw [hQ, wr_ne h1, wr_ne h4, wr_ne h4, wr_ne h4, wr_ne h4, wr_ne h4]
  have Q1 : ∀ k, Q 1 k = if k = 3 then 0 else A 1 k := fun k => by rw [hQ, wr_at, wr_ne (by omega), wr_ne (by omega), wr_ne (by omega), wr_ne (by omega), wr_ne (by omega), c2 1 (by omega)]
  have cfQ : CFr t A Q := ⟨fun b b1 b4 b18 bt => by rw [Qo b b1 b4, c2 b (by omega)], by rw [Q1, if_neg (by omega)], by rw [Q4, if_neg (by omega), if_neg (by omega), if_neg (by omega), if_neg (by omega), if_neg (by omega)]⟩
  have ckQ := CK_CFr hC cfQ
  have Q13 : Q 1 3 = 0 := by rw [Q1, if_pos rfl]
  obtain ⟨Q', f1, fr1, at1⟩ := s_X8_advance ckQ.2.2.1 ckQ.2.2.2 (by omega) (by omega)
  rw [Q13, ← pos_0] at at1
  have ckQ' := CK_F1 ckQ fr1
  have cfQ' : CFr t A Q' := CFr_trans cfQ (F1_CFr ht fr1)
  obtain ⟨M5, hM5⟩ : ∃ M5, M5 = wr (wr q3 132 14 0) 132 18 0 := ⟨_, rfl⟩
  have M5o : ∀ b, b ≠ 132 → M5 b = q3 b := fun b h => by rw [hM5, wr_ne h, wr_ne h]
  have M52 : ∀ k, M5 132 k = if k = 18 then 0 else if k = 14 then 0 else B 132 k := fun k => by rw [hM5, wr_at, wr_at, m2 132 (by omega)]
  have mf5 : MF0 B M5 := ⟨fun b h1 h2 => by rw [M5o b h1, m2 b (by omega)], fun k hk => by rw [M5o 138 (by omega), m3 k hk], fun k _ => by rw [M5o 139 (by omega), m2 139 (by omega)], fun k _ _ h _ _ => by rw [M52, if_neg (by omega), if_neg (by omega)]⟩
  have mk5 := MK_MF0 hM mf5
  have q44 : Q' 4 = Q 4 := fr1.1 4 (by omega)
  have qt : Q' t = q t := by rw [fr1.1 t (by omega), Qo t (by omega) (by omega)]
  have pc0 : PC Q' M5 t T n N G00 0 := PC_0 ckQ' mk5 (by rw [q44, Q4, if_neg (by omega), if_neg (by omega), if_neg (by omega), if_neg (by omega), if_pos rfl]) (by rw [M52, if_neg (by omega), if_pos rfl]) (by rw [qt]; exact c3) (by rw [qt]; exact c4) (by rw [qt]; exact c7) (by rw [qt]; exact c5) (by rw [qt]; exact c6) (by rw [q44, Q4, if_neg (by omega), if_neg (by omega), if_neg (by omega), if_pos rfl]) (by rw [q44, Q4, if_neg (by omega), if_neg (by omega), if_pos rfl]) (by rw [q44, Q4, if_neg (by omega), if_pos rfl]) (by rw [q44, Q4, if_pos rfl]) (by rw [M52, if_pos rfl]) (fun k k0 k1 => by rw [M5o 138 (by omega)]; exact m4 k k0 k1)
  have pb := pos_b T (n := n) (j := 0) n0
  have pr0 : PR Q' M5 t T n N G00 0 0 := ⟨pc0, ⟨at1, by rw [M52, if_neg (by omega), if_neg (by omega)]; exact b7, Int.le_refl _, N0, by rw [M52, if_neg (by omega), if_neg (by omega)]; exact b8⟩, by unfold G00; omega⟩
  obtain ⟨⟨x, a⟩, r, l1, l2, cfr, mfr, res⟩ := ps_loop pr0
  dsimp only at cfr mfr res
  have cl0 : fX6_parse A = ((if x = 0 then if (a 4 7) ≤ 0 then some (x, a) else (fX6_faultHere 1 a).bind fun q15 => some (q15.1, q15.2) else some (x, a) : Option (Int × Mem))).bind fun q16 => (gm q16.2 4 1).bind fun t17 => (pI q16.2 t17 17 (q16.2 4 5)).bind fun M18 => some (q16.1, M18) := by
    unfold fX6_parse fX8_rewind
    rw [gm41 ht hC.2.1, ob, c1, ob, pI_ok, ob, pI_ok, ob, pI_ok, ob, pz_ok (Or.inl rfl), ob, pz_ok (Or.inl rfl), ob, pI_ok, ob, ob, ← hQ, f1, ob, l1, ob]
  have cfa : CFr t A a := CFr_trans cfQ' cfr
  have mfa : MF0 B r := MF0_trans mf5 (MFr_MF0 mfr)
  have ga : gm a 4 1 = some t := gm41 ht (by rw [cfa.2.2]; exact hC.2.1)
  have cfw : CFr t A (wr a t 17 (a 4 5)) := CFr_trans cfa ⟨fun b _ _ _ bt => wr_ne (by omega), by rw [wr_ne (by omega)], by rw [wr_ne (by omega)]⟩
  have mfw : ∀ (M : Mem) (z : Int), MF0 B M → MF0 B (wr M 138 417 z) := fun M z h => MF0_trans h ⟨fun b _ h2 => wr_ne (by omega), fun k hk => by rw [wr_at, if_neg (by omega)], fun k _ => by rw [wr_ne (by omega)], fun k _ _ _ _ _ => by rw [wr_ne (by omega)]⟩
  rw [hM5] at l2
  rcases res with ⟨x0, G, c, j, pr, t0⟩ | ⟨x0, r8⟩
  · have hAt := pr.2.1
    have pc := pr.1
    have p11 := pc.2.2.2.2.2.2.2.2.2.2.1
    have p4 := pc.2.2.2.1
    have o := pc.2.2.2.2.2.2.2.2.2.2.2.2.2.2.2.2.1 c p4.2.2 (Int.le_refl _)
    have o1 := o.1
    by_cases hd : G 0 c 0 ≤ 0
    · rw [if_pos x0, if_pos (by rw [p11.1]; exact hd), ob] at cl0
      dsimp only at cl0
      rw [ga, ob, pI_ok, ob] at cl0
      have pjb := pos_b T (n := n) (j := j) n0
      have pp := pr.2.2
      refine ⟨x, _, q3, r, r, cl0, m1, l2, by rw [if_pos (by rw [p11.2]; exact hd)], cfw, mfw _ _ mfa, Or.inl ⟨x0, by rw [wr_ne (by omega)]; exact hAt.2.2.2.2, fun k hk k1 => ?_, G, c, ?_, by omega, ?_, ?_, by omega⟩⟩
      · rw [wr_at, if_neg (by omega), mfr.2.1 k (by omega), M5o 138 (by omega), m4 k (by omega) k1, if_neg (by omega), if_neg (by omega)]
      · exact PC_up pc (fun b _ h2 => wr_ne h2) (by rw [wr_ne (by omega)]) (fun k hk => by rw [wr_at, if_neg hk]) (fun b _ h2 => wr_ne h2) (by rw [wr_ne (by omega)]) (by rw [wr_ne (by omega)]) (fun k hk => by rw [wr_at, if_neg hk])
      · rw [wr_at, if_pos rfl]; exact pc.2.2.1.1
      · rw [wr_at, if_pos rfl]; exact pc.2.2.1.2.1
    · have fa := c_fault hAt.1 n0 n1 (show (1 : Int) ≤ 1 by omega) (by omega)
      have fp := flt_pos (T := T) (j := j) (k := 1) n0 (by omega)
      have fb := m_wrong (k := 1) pc.2.1 hAt.2.1 hAt.2.2.1 hAt.2.2.2.1 hAt.2.2.2.2 (by omega) (by omega)
      rw [if_pos x0, if_neg (by rw [p11.1]; exact hd), fa, ob, ob] at cl0
      dsimp only at cl0
      rw [ga, ob, pI_ok, ob] at cl0
      refine ⟨_, _, q3, r, _, cl0, m1, l2, by rw [if_neg (by rw [p11.2]; exact hd), fb, ob], cfw, mfw _ _ (MF0_trans mfa (MFr_MF0 (F78_MFr (F78_8 r _)))), Or.inr ⟨fp, ?_⟩⟩
      rw [wr_ne (by omega), wr_at, if_pos rfl]
  · rw [if_neg (by omega), ob] at cl0
    dsimp only at cl0
    rw [ga, ob, pI_ok, ob] at cl0
    refine ⟨x, _, q3, r, r, cl0, m1, l2, ?_, cfw, mfw _ _ mfa, Or.inr ⟨x0, by rw [wr_ne (by omega)]; exact r8⟩⟩
    by_cases z : r 132 18 ≤ 0
    · rw [if_pos z]
    · rw [if_neg z, m_wrong8 (by omega), ob]
