/-! ALL OF IT: what follows from values, ranges, and a rule -/
def SpD (n nS only : Int) (mk ag F U lo hi sh : Int → Int) (D : Mem) : Prop := D 0 0 = n ∧ (∀ v, 0 ≤ v → v < n → D 1 v = mk v ∧ D 3 v = U v) ∧ RgOK n mk ag lo hi (D 7) (D 8) ∧ WdOK n F (D 7) (D 8) (D 2) ∧ NdC n mk ag (D 7) (D 8) sh nS only (D 9) (D 4) (D 5) (D 6) (D 0 1) (D 0 2) ∧ (1 ≤ D 0 3 ∧ D 0 3 ≤ 8) ∧ (1 ≤ D 0 4 ∧ D 0 4 ≤ 16)
theorem SpD_DW {n nI nS only : Int} {mk ag F U lo hi sh : Int → Int} {D : Mem} (hV : Val n mk ag F nI) (hsh : ShOK n nS sh) (hU : ∀ v, 0 ≤ v → v < n → U v = 0 ∨ U v = 1) (h : SpD n nS only mk ag F U lo hi sh D) : DW D := by
  obtain ⟨e0, e1, hR, hW, ⟨St, SB, ⟨iK, hK⟩, ⟨iN, N1, N2⟩, Us, Ht⟩, hf, ha⟩ := h
  have n0 := hV.1
  have n1 := hV.2.1
  have hlt : ∀ v s, 0 ≤ v → v < n → SrcP mk ag (D 7) (D 8) (D 9) v s → 0 ≤ s ∧ s < v := fun v s a b c => Src_lt hV a b (fun w w0 w1 => (St w w0 (by omega)).2) c
  have kN : ∀ v, 0 ≤ v → v < 64 → KpP (D 7) (D 8) (D 9) sh nS only v → v < n := fun s a b c => by
    obtain ⟨-, i, i0, i1, -, e⟩ := c
    have q := hsh.2.2 i i0 i1
    have := (St _ q.1 q.2).2
    omega
  refine ⟨by omega, by omega, iN, iK, fun v a b c => ?_, fun v a b c => ?_, hf, ha, fun v a b => ?_⟩
  · by_cases h : v < n
    · omega
    · rw [N2 v (by omega) b] at c; cases c
  · have := (hK v a b).mp c
    rw [N1 v a (kN v a b this)]
    exact Or.inl this
  · rw [e0] at b
    have hk := hV.2.2.2.2 v a b
    have hs := SB v a b
    have hu := Us v a b
    have ht := Ht v a b
    refine ⟨by rw [(e1 v a b).1]; exact ⟨hk.1, hk.2.1⟩, ?_, by rw [(e1 v a b).2]; exact hU v a b, ⟨hs.1, fun s s0 s1 z => ?_⟩, ⟨hu.1, fun u u0 u1 => ?_⟩, fun z => ?_, by omega⟩
    · rw [hW v a b]; split <;> omega
    · have y := (hs.2 s s0 s1).mp z
      have := hlt v s a b y
      refine ⟨this.2, fun w => ?_⟩
      rw [N1 s s0 (by omega)]
      exact Or.inr ⟨v, this.2, b, w, y⟩
    · rw [hu.2 u u0 u1, e0]
      constructor
      · rintro ⟨z1, z2, z3⟩
        exact ⟨z1, z2, ((SB u u0 z1).2 v a (by omega)).mpr z3⟩
      · rintro ⟨z1, z2, z3⟩
        exact ⟨z1, z2, ((SB u u0 z1).2 v a (by omega)).mp z3⟩
    · rcases (N1 v a b).mp z with y | ⟨u, u0, u1, u2, u3⟩
      · exact Or.inl ((hK v a (by omega)).mpr y)
      · exact Or.inr ⟨u, by omega, by omega, (hu.2 u (by omega) (by omega)).mpr ⟨u1, u2, u3⟩⟩
/-- the class's data -/
def dC (g : Nat) (M : Mem) (fe al : Int) : Mem := fun a i => if a = 0 then (if i = 0 then M 44 0 else if i = 1 then M (g + 4) 3 else if i = 2 then M (g + 4) 4 else if i = 3 then fe else al) else if a = 1 then M 45 i else if a = 2 then M (g + 3) i else if a = 3 then M 48 i else if a = 4 then M (g + 8) i else if a = 5 then M (g + 9) i else if a = 6 then M (g + 12) i else if a = 7 then M (g + 1) i else if a = 8 then M (g + 2) i else M (g + 5) i
/-- what else the class has -/
def CX (g : Nat) (M D : Mem) : Prop := (∀ v, 0 ≤ v → v < D 0 0 → M (g + 1) v = D 7 v ∧ M (g + 2) v = D 8 v ∧ M (g + 5) v = D 9 v ∧ AhB (D 4) (M (g + 10)) v) ∧ BhOK (D 0 0) (D 5) (M (g + 11))
set_option maxHeartbeats 4000000 in
set_option maxRecDepth 20000 in
theorem s_X5_all {g : Nat} {M : Mem} {n nI nS only fe al : Int} (hg : g = 62 ∨ g = 88) (hn : M 44 0 = n) (hV : Val n (M 45) (M 46) (M 47) nI) (hI : In9 nI (M 52) (M 53)) (hs : M 44 5 = nS) (hsh : ShOK n nS (M 49)) (hf : 1 ≤ fe ∧ fe ≤ 8) (ha : 1 ≤ al ∧ al ≤ 16) :
    ∃ q r D, fX2_reckon g M = some q ∧ fX5_reckon g only q = some r ∧ (∀ b, b < g + 1 ∨ g + 12 < b → r b = M b) ∧ SpD n nS only (M 45) (M 46) (M 47) (M 48) (M 52) (M 53) (M 49) D ∧ CV g r D ∧ CX g r D ∧ D 0 3 = fe ∧ D 0 4 = al := by
  have hg2 : 62 ≤ g := by omega
  obtain ⟨m1, f1, fr1, R1, W1⟩ := s_X2_reckon hg hn hV hI
  have e44 : m1 44 = M 44 := fr1 _ (by omega) (by omega) (by omega)
  have e45 : m1 45 = M 45 := fr1 _ (by omega) (by omega) (by omega)
  have e46 : m1 46 = M 46 := fr1 _ (by omega) (by omega) (by omega)
  have e49 : m1 49 = M 49 := fr1 _ (by omega) (by omega) (by omega)
  obtain ⟨m2, f2, fr2, C2, A2, B2⟩ := s_X5_reckon (g := g) (M := m1) (n := n) (nI := nI) (nS := nS) (only := only) (F := M 47) hg (by rw [e44]; exact hn) (by rw [e45, e46]; exact hV) (by rw [e44]; exact hs) (by rw [e49]; exact hsh)
  rw [e45, e46, e49] at C2
  have h44 : m2 44 = M 44 := by rw [fr2 _ (by omega), e44]
  have h45 : m2 45 = M 45 := by rw [fr2 _ (by omega), e45]
  have h48 : m2 48 = M 48 := by rw [fr2 _ (by omega), fr1 _ (by omega) (by omega) (by omega)]
  have g1 : m2 (g + 1) = m1 (g + 1) := fr2 _ (by omega)
  have g2 : m2 (g + 2) = m1 (g + 2) := fr2 _ (by omega)
  have g3 : m2 (g + 3) = m1 (g + 3) := fr2 _ (by omega)
  refine ⟨m1, m2, dC g m2 fe al, f1, f2, fun b hb => by rw [fr2 b (by omega), fr1 b (by omega) (by omega) (by omega)], ?_, ?_, ?_, rfl, rfl⟩
  · refine ⟨by show m2 44 0 = n; rw [h44]; exact hn, fun v _ _ => ⟨by show m2 45 v = M 45 v; rw [h45], by show m2 48 v = M 48 v; rw [h48]⟩, ?_, ?_, ?_, hf, ha⟩
    · show RgOK n (M 45) (M 46) (M 52) (M 53) (m2 (g + 1)) (m2 (g + 2))
      rw [g1, g2]; exact R1
    · show WdOK n (M 47) (m2 (g + 1)) (m2 (g + 2)) (m2 (g + 3))
      rw [g1, g2, g3]; exact W1
    · show NdC n (M 45) (M 46) (m2 (g + 1)) (m2 (g + 2)) (M 49) nS only (m2 (g + 5)) (m2 (g + 8)) (m2 (g + 9)) (m2 (g + 12)) (m2 (g + 4) 3) (m2 (g + 4) 4)
      rw [g1, g2]; exact C2
  · have hn2 : m2 44 0 = n := by rw [h44]; exact hn
    exact ⟨rfl, rfl, rfl, fun v a b => ⟨rfl, rfl, rfl, rfl, rfl, rfl, (A2 v a (by rw [← hn2]; exact b)).1⟩⟩
  · have hn2 : m2 44 0 = n := by rw [h44]; exact hn
    refine ⟨fun v a b => ⟨rfl, rfl, rfl, (A2 v a (by rw [← hn2]; exact b)).2⟩, ?_⟩
    show BhOK (m2 44 0) (m2 (g + 9)) (m2 (g + 11))
    rw [hn2]; exact B2
/-- the class's order and what follows from it -/
def Sch (g : Nat) (M D : Mem) (L : Int → Int) (c : Int) : Prop := CL g M L c ∧ OrdV D L c ∧ EndOK D L c (M (g + 16)) ∧ (∀ f, 0 ≤ f → f ≤ 2 → (∀ p, 0 ≤ p → p < c → M (g + 17) (64 * f + p) = prs D L (M (g + 16)) p f) ∧ M (g + 18) f = top D L (M (g + 16)) c f) ∧ RegOK D L c (M (g + 16)) (M (g + 19)) ∧ (∀ f, (f = 0 ∨ f = 1) → M (g + 21) f = hi D L (M (g + 19)) c f) ∧ CC g M L (cutS D L c.toNat) c
set_option maxHeartbeats 4000000 in
set_option maxRecDepth 20000 in
theorem s_X7_settle {g : Nat} {M D : Mem} {L : Int → Int} {c : Int} (hg : g = 62 ∨ g = 88) (hD : DW D) (hC : CV g M D) (hL : CL g M L c) (hO : OrdV D L c) :
    ∃ r, fX7_settle g (D 0 3) (D 0 4) M = some r ∧ (∀ b, b < g + 13 ∨ b = g + 14 ∨ b = g + 15 ∨ g + 25 < b → r b = M b) ∧ Sch g r D L c := by
  have hg2 : 62 ≤ g := by omega
  obtain ⟨m1, f1, fr1, E1⟩ := s_X7_findEnds hg hD hC hL hO
  have c1 : CV g m1 D := CV_fr hg hC (fun b hb => fr1 b (by omega))
  have l1 : CL g m1 L c := ⟨by rw [fr1 _ (by omega)]; exact hL.1, fun p a b => by rw [fr1 _ (by omega)]; exact hL.2 p a b⟩
  obtain ⟨m2, f2, fr2, P2⟩ := s_X7_findPressures hg hD c1 l1 hO
  have c2 : CV g m2 D := CV_fr hg c1 (fun b hb => fr2 b (by omega) (by omega))
  have l2 : CL g m2 L c := ⟨by rw [fr2 _ (by omega) (by omega)]; exact l1.1, fun p a b => by rw [fr2 _ (by omega) (by omega)]; exact l1.2 p a b⟩
  have e16 : m2 (g + 16) = m1 (g + 16) := fr2 _ (by omega) (by omega)
  obtain ⟨m3, f3, fr3, R3, H3⟩ := s_X7_giveRegisters hg hD c2 l2 hO (by rw [e16]; exact E1)
  rw [e16] at R3
  have c3 : CV g m3 D := CV_fr hg c2 (fun b hb => fr3 b (by omega) (by omega) (by omega))
  have l3 : CL g m3 L c := ⟨by rw [fr3 _ (by omega) (by omega) (by omega)]; exact l2.1, fun p a b => by rw [fr3 _ (by omega) (by omega) (by omega)]; exact l2.2 p a b⟩
  obtain ⟨m4, f4, fr4, k4, C4⟩ := s_X7_cutClauses hg hD c3 l3 hO
  have h16 : m4 (g + 16) = m1 (g + 16) := by rw [fr4 _ (by omega) (by omega) (by omega) (by omega) (by omega), fr3 _ (by omega) (by omega) (by omega), e16]
  have h17 : m4 (g + 17) = m2 (g + 17) := by rw [fr4 _ (by omega) (by omega) (by omega) (by omega) (by omega), fr3 _ (by omega) (by omega) (by omega)]
  have h18 : m4 (g + 18) = m2 (g + 18) := by rw [fr4 _ (by omega) (by omega) (by omega) (by omega) (by omega), fr3 _ (by omega) (by omega) (by omega)]
  have h19 : m4 (g + 19) = m3 (g + 19) := by rw [fr4 _ (by omega) (by omega) (by omega) (by omega) (by omega)]
  have h21 : m4 (g + 21) = m3 (g + 21) := by rw [fr4 _ (by omega) (by omega) (by omega) (by omega) (by omega)]
  refine ⟨m4, ?_, fun b hb => ?_, ⟨by rw [k4 4 (by omega) (by omega)]; exact l3.1, fun p a b => by rw [fr4 _ (by omega) (by omega) (by omega) (by omega) (by omega)]; exact l3.2 p a b⟩, hO, ?_, ?_, ?_, ?_, C4⟩
  · unfold fX7_settle
    simp only [f1, f2, f3, f4, ob]
  · rw [fr4 b (by omega) (by omega) (by omega) (by omega) (by omega), fr3 b (by omega) (by omega) (by omega), fr2 b (by omega) (by omega), fr1 b (by omega)]
  · rw [h16]; exact E1
  · rw [h16, h17, h18]; exact P2
  · rw [h16, h19]; exact R3
  · rw [h21, h19]; exact H3
set_option maxHeartbeats 4000000 in
set_option maxRecDepth 20000 in
theorem s_X7_plan {g : Nat} {M D : Mem} {rule : Int} (hg : g = 62 ∨ g = 88) (hD : DW D) (hC : CV g M D) :
    ∃ q r, fX7_arrange g rule M = some q ∧ (∀ b, b ≠ g + 13 → b ≠ g + 14 → b ≠ g + 15 → q b = M b) ∧ fX7_settle g (D 0 3) (D 0 4) q = some r ∧ (∀ b, b < g + 13 ∨ g + 25 < b → r b = M b) ∧ Sch g r D (odr D rule) (pc (D 0 1)) ∧ ∀ p, 0 ≤ p → p < pc (D 0 1) → r (g + 15) (odr D rule p) = p := by
  obtain ⟨q, f1, fr1, -, s1, l1⟩ := s_X7_arrange (rule := rule) hg hD hC
  obtain ⟨r, f2, fr2, S2⟩ := s_X7_settle (M := q) hg hD (CV_fr hg hC (fun b hb => fr1 b (by omega) (by omega) (by omega))) ⟨s1, fun p a b => (l1 p a b).1⟩ (odr_ok hD rule)
  exact ⟨q, r, f1, fr1, f2, fun b hb => by rw [fr2 b (by omega), fr1 b (by omega) (by omega) (by omega)], S2, fun p a b => by rw [fr2 _ (by omega)]; exact (l1 p a b).2⟩
/-! the reference's -/
def MSch (M D : Mem) (L : Int → Int) (c : Int) : Prop := ML M L c ∧ OrdV D L c ∧ (∀ p, 0 ≤ p → p < c → M 163 (L p) = p) ∧ EndOK D L c (M 164) ∧ CM M L (cutS D L c.toNat) c
def MReg (M D : Mem) (L : Int → Int) (c : Int) : Prop := RegOK D L c (M 164) (M 165) ∧ ∀ f, (f = 0 ∨ f = 1) → M 167 f = hi D L (M 165) c f
set_option maxHeartbeats 4000000 in
set_option maxRecDepth 20000 in
theorem s_X12_lives {M D : Mem} {L : Int → Int} {c : Int} (hD : DW D) (hM : MD M D) (hL : ML M L c) (hO : OrdV D L c) :
    ∃ r, fX12_lives M = some r ∧ SF M r ∧ MD r D ∧ MSch r D L c := by
  obtain ⟨m1, f1, fr1, P1⟩ := s_X12_lv_b1 hD hL hO
  have sf1 : SF M m1 := ⟨fun b b1 b2 => fr1 b (by omega), fun k _ _ _ => by rw [fr1 _ (by omega)]⟩
  have l1 : ML m1 L c := ⟨by rw [fr1 _ (by omega)]; exact hL.1, fun p a b => by rw [fr1 _ (by omega)]; exact hL.2 p a b⟩
  obtain ⟨m2, f2, fr2, E2⟩ := s_X12_lv_b2 hD (MD_fr hM sf1) l1 hO P1
  have sf2 : SF m1 m2 := ⟨fun b b1 b2 => fr2 b (by omega), fun k _ _ _ => by rw [fr2 _ (by omega)]⟩
  have l2 : ML m2 L c := ⟨by rw [fr2 _ (by omega)]; exact l1.1, fun p a b => by rw [fr2 _ (by omega)]; exact l1.2 p a b⟩
  obtain ⟨m3, f3, fr3, k3, C3⟩ := s_X12_cuts hD (MD_fr (MD_fr hM sf1) sf2) l2 hO
  have sf3 : SF m2 m3 := ⟨fun b b1 b2 => fr3 b b1 (by omega) (by omega), fun k k1 k2 k3' => k3 k k2 k3'⟩
  have sf := SF_trans (SF_trans sf1 sf2) sf3
  refine ⟨m3, ?_, sf, MD_fr hM sf, ⟨by rw [k3 _ (by omega) (by omega)]; exact l2.1, fun p a b => by rw [fr3 _ (by omega) (by omega) (by omega)]; exact l2.2 p a b⟩, hO, fun p a b => ?_, ?_, C3⟩
  · unfold fX12_lives
    simp only [f1, f2, f3, ob]
  · rw [fr3 _ (by omega) (by omega) (by omega), fr2 _ (by omega)]; exact P1 p a b
  · rw [fr3 _ (by omega) (by omega) (by omega)]; exact E2
set_option maxHeartbeats 4000000 in
set_option maxRecDepth 20000 in
theorem s_X12_orders {M D : Mem} {rule : Int} (hD : DW D) (hM : MD M D) :
    ∃ r, fX12_orders rule M = some r ∧ SF M r ∧ MD r D ∧ MSch r D (odr D rule) (pc (D 0 1)) := by
  have sf0 : SF M (wr M 132 41 0) := ⟨fun b b1 b2 => by simp (disch := omega) only [wr_ne], fun k k1 _ _ => by simp (disch := omega) only [wr_at, if_neg]⟩
  obtain ⟨m1, f1, fr1, k1, s1, l1⟩ := s_X12_orders_b1 (rule := rule) hD (MD_fr hM sf0) (by simp only [wr_at, if_true])
  have sf1 : SF (wr M 132 41 0) m1 := ⟨fun b b1 b2 => fr1 b b1 (by omega), fun k a _ _ => k1 k a⟩
  have sf := SF_trans sf0 sf1
  obtain ⟨r, f2, sf2, md2, S2⟩ := s_X12_lives hD (MD_fr hM sf) ⟨s1, l1⟩ (odr_ok hD rule)
  refine ⟨r, ?_, SF_trans sf sf2, md2, S2⟩
  unfold fX12_orders
  simp only [pI_ok, ob, f1, f2]
theorem MSch_fr {M M' D : Mem} {L : Int → Int} {c : Int} (h : MSch M D L c) (e : ∀ b, b ≠ 165 → b ≠ 167 → b ≠ 168 → M' b = M b) : MSch M' D L c := by
  unfold MSch ML CM
  rw [e 132 (by omega) (by omega) (by omega), e 162 (by omega) (by omega) (by omega), e 163 (by omega) (by omega) (by omega), e 164 (by omega) (by omega) (by omega), e 166 (by omega) (by omega) (by omega), e 169 (by omega) (by omega) (by omega)]
  exact h
set_option maxHeartbeats 4000000 in
set_option maxRecDepth 20000 in
theorem s_X12_regs {M D : Mem} {L : Int → Int} {c : Int} (hD : DW D) (hM : MD M D) (hS : MSch M D L c) :
    ∃ r, fX12_registers M = some r ∧ SF M r ∧ MD r D ∧ MSch r D L c ∧ MReg r D L c := by
  obtain ⟨r, f, fr, R, H⟩ := s_X12_registers hD hM hS.1 hS.2.1 hS.2.2.2.1
  have sf : SF M r := ⟨fun b b1 b2 => fr b (by omega) (by omega) (by omega), fun k _ _ _ => by rw [fr _ (by omega) (by omega) (by omega)]⟩
  exact ⟨r, f, sf, MD_fr hM sf, MSch_fr hS fr, by rw [show r 164 = M 164 from fr _ (by omega) (by omega) (by omega)]; exact R, H⟩
/-- what else the reference has -/
def MX (M D : Mem) (F : Int → Int) : Prop := ∀ v, 0 ≤ v → v < D 0 0 → M 153 v = D 7 v ∧ M 154 v = D 8 v ∧ M 155 v = F v ∧ M 158 v = D 9 v
theorem MX_fr {M M' D : Mem} {F : Int → Int} (h : MX M D F) (e : SF M M') : MX M' D F := by
  unfold MX
  rw [e.1 153 (by omega) (by omega), e.1 154 (by omega) (by omega), e.1 155 (by omega) (by omega), e.1 158 (by omega) (by omega)]
  exact h
set_option maxHeartbeats 4000000 in
set_option maxRecDepth 20000 in
theorem s_X12_rn {M D : Mem} {n nI nS only p1 p2 p3 : Int} {mk ag F U giv lo hi sh : Int → Int} (hM : MV M n mk ag) (hS : MS M nS sh) (hV : Val n mk ag F nI) (hI : In9 nI lo hi) (hsh : ShOK n nS sh) (hlo : ∀ i, 0 ≤ i → i < nI → lo i = if i = p1 then p2 else M 150 (2 * i)) (hhi : ∀ i, 0 ≤ i → i < nI → hi i = if i = p1 then p3 else M 150 (2 * i + 1)) (hgv : ∀ i, 0 ≤ i → i < nI → M 138 (10 + 3 * i + 2) = giv i) (hU : UnOK n mk ag giv U) (ho : -1 ≤ only) (hSp : SpD n nS only mk ag F U lo hi sh D) (hf : M 138 3 = D 0 3) (ha : M 138 4 = D 0 4) :
    ∃ q r, fX12_rangesWith p1 p2 p3 M = some q ∧ fX12_needs only q = some r ∧ (∀ b, b ≠ 132 → b < 153 ∨ b = 157 ∨ 161 < b → r b = M b) ∧ (∀ k, k ≠ 38 → k ≠ 39 → r 132 k = M 132 k) ∧ MD r D ∧ MX r D F := by
  have n1 := hV.2.1
  obtain ⟨q, f1, fr1, R1, F1, U1⟩ := s_X12_rangesWith hM hV hI hlo hhi hgv
  have e138 : q 138 = M 138 := fr1 _ (by omega) (by omega) (by omega) (by omega)
  obtain ⟨r, f2, fr2, k2, C2⟩ := s_X12_needs (M := q) (only := only) (MV_fr hM e138) hV (MS_fr hS e138) hsh ho
  obtain ⟨e0, e1, hR, hW, hN, -, -⟩ := hSp
  have eL : ∀ v, 0 ≤ v → v < n → q 153 v = D 7 v ∧ q 154 v = D 8 v := fun v a b => Rg_uniq hV hR R1 (v.toNat + 1) v (by omega) a b
  obtain ⟨u1, u2, u3⟩ := NdC_uniq hV hsh eL hN C2
  have g138 : r 138 = M 138 := by rw [fr2 _ (by omega) (by omega) (by omega) (by omega) (by omega), e138]
  have g153 : r 153 = q 153 := fr2 _ (by omega) (by omega) (by omega) (by omega) (by omega)
  have g154 : r 154 = q 154 := fr2 _ (by omega) (by omega) (by omega) (by omega) (by omega)
  have g155 : r 155 = q 155 := fr2 _ (by omega) (by omega) (by omega) (by omega) (by omega)
  have g156 : r 156 = q 156 := fr2 _ (by omega) (by omega) (by omega) (by omega) (by omega)
  refine ⟨q, r, f1, f2, fun b b1 b2 => by rw [fr2 b b1 (by omega) (by omega) (by omega) (by omega), fr1 b (by omega) (by omega) (by omega) (by omega)], fun k k1 k2' => by rw [k2 k k1 k2', fr1 132 (by omega) (by omega) (by omega) (by omega)], ⟨by rw [g138, e0]; exact hM.1, u1, u2, by rw [g138]; exact hf, by rw [g138]; exact ha, fun v a b => ?_⟩, fun v a b => ?_⟩
  · rw [e0] at b
    obtain ⟨x1, x2, x3, x4⟩ := u3 v a b
    have l := eL v a b
    refine ⟨by rw [g138, (e1 v a b).1]; exact (hM.2 v a b).1, ?_, ?_, x2, x3, x4⟩
    · rw [g153, g154, g155, l.1, l.2, F1 v a b, hW v a b]
      rfl
    · rw [g156, (e1 v a b).2]
      exact Un_uniq hV hU U1 (v.toNat + 1) v (by omega) a b
  · rw [e0] at b
    obtain ⟨x1, x2, x3, x4⟩ := u3 v a b
    have l := eL v a b
    exact ⟨by rw [g153]; exact l.1, by rw [g154]; exact l.2, by rw [g155]; exact F1 v a b, x1⟩
