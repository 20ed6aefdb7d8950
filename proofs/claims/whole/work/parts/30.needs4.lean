/-- what both sides tell of needs -/
def NdC (n : Int) (mk ag L G sh : Int → Int) (nS only : Int) (S SB UB H : Int → Int) (N K : Int) : Prop :=
  StOK n mk ag L G S ∧ (∀ v, 0 ≤ v → v < n → SrcB mk ag L G S SB v) ∧ (i64 K ∧ ∀ s, 0 ≤ s → s < 64 → (tb K s = true ↔ KpP L G S sh nS only s)) ∧ NdOK n (KpP L G S sh nS only) (SrcP mk ag L G S) N ∧ UsOK n (SrcP mk ag L G S) N UB ∧ HtOK n N UB H
def ShOK (n nS : Int) (sh : Int → Int) : Prop := 0 ≤ nS ∧ nS ≤ 8 ∧ ∀ i, 0 ≤ i → i < nS → 0 ≤ sh i ∧ sh i < n
set_option maxHeartbeats 4000000 in
set_option maxRecDepth 20000 in
theorem s_X5_reckon {g : Nat} {M : Mem} {n nI nS only : Int} {F : Int → Int} (hg : g = 62 ∨ g = 88) (hn : M 44 0 = n) (hV : Val n (M 45) (M 46) F nI) (hs : M 44 5 = nS) (hsh : ShOK n nS (M 49)) :
    ∃ M', fX5_reckon g only M = some M' ∧ (∀ b, b < g + 4 ∨ g + 12 < b → M' b = M b) ∧ NdC n (M 45) (M 46) (M (g + 1)) (M (g + 2)) (M 49) nS only (M' (g + 5)) (M' (g + 8)) (M' (g + 9)) (M' (g + 12)) (M' (g + 4) 3) (M' (g + 4) 4) ∧ (∀ v, 0 ≤ v → v < n → SrcR (M' (g + 8)) (M' (g + 6)) (M' (g + 7)) v ∧ AhB (M' (g + 8)) (M' (g + 10)) v) ∧ BhOK n (M' (g + 9)) (M' (g + 11)) := by
  have n0 := hV.1
  have n1 := hV.2.1
  have hg2 : 62 ≤ g := by omega
  obtain ⟨m1, f1, fr1, A1, z1⟩ := s_X5_loop hg hn hV
  have e44 : m1 44 = M 44 := fr1 44 (by omega)
  have e49 : m1 49 = M 49 := fr1 49 (by omega)
  have e1 : m1 (g + 1) = M (g + 1) := fr1 _ (by omega)
  have e2 : m1 (g + 2) = M (g + 2) := fr1 _ (by omega)
  obtain ⟨m2, f2, fr2, k3, ki, kb⟩ := s_X5_keepShown (M := m1) (n := n) (nS := nS) (only := only) hg n1 (by rw [e44]; exact hs) hsh.1 hsh.2.1 (by rw [e49]; exact hsh.2.2) (fun v a b => (A1.1 v a b).2)
  rw [e1, e2, e49] at kb
  have g5 : m2 (g + 5) = m1 (g + 5) := fr2 _ (by omega)
  have g6 : m2 (g + 6) = m1 (g + 6) := fr2 _ (by omega)
  have g7 : m2 (g + 7) = m1 (g + 7) := fr2 _ (by omega)
  have g8 : m2 (g + 8) = m1 (g + 8) := fr2 _ (by omega)
  have g9 : m2 (g + 9) = m1 (g + 9) := fr2 _ (by omega)
  have g10 : m2 (g + 10) = m1 (g + 10) := fr2 _ (by omega)
  have g11 : m2 (g + 11) = m1 (g + 11) := fr2 _ (by omega)
  have g12 : m2 (g + 12) = m1 (g + 12) := fr2 _ (by omega)
  obtain ⟨m3, f3, fr3, kk, N3, U3, H3, B3⟩ := s_X5_findUsers (M := m2) (n := n) (Kp := KpP (M (g + 1)) (M (g + 2)) (m1 (g + 5)) (M 49) nS only) (Sp := SrcP (M 45) (M 46) (M (g + 1)) (M (g + 2)) (m1 (g + 5))) hg n0 n1 (by rw [fr2 44 (by omega), e44]; exact hn)
    (fun v a b => by rw [g8]; exact (A1.2 v a b).1) (fun v s a b c => Src_lt hV a b (fun w w0 w1 => (A1.1 w w0 (by omega)).2) c) (fun v a b => by rw [g8, g6, g7]; exact (A1.2 v a b).2.1)
    ⟨by rw [k3]; exact ki, fun s a b => by rw [k3]; exact kb s a b⟩ (fun s a b c => by
      obtain ⟨-, i, i0, i1, -, e⟩ := c
      have q := hsh.2.2 i i0 i1
      have := (A1.1 _ q.1 q.2).2
      omega) (fun v a b => by rw [g9, g11, g12]; exact z1 v a b)
  refine ⟨m3, ?_, fun b hb => ?_, ?_, fun v a b => ?_, B3⟩
  · unfold fX5_reckon
    rw [f1]
    simp only [ob, f2, f3]
  · rw [fr3 b (by omega) (by omega) (by omega) (by omega), fr2 b (by omega), fr1 b (by omega)]
  · have h5 : m3 (g + 5) = m1 (g + 5) := by rw [fr3 _ (by omega) (by omega) (by omega) (by omega), g5]
    have h8 : m3 (g + 8) = m1 (g + 8) := by rw [fr3 _ (by omega) (by omega) (by omega) (by omega), g8]
    rw [h5, h8]
    refine ⟨A1.1, fun v a b => (A1.2 v a b).1, ⟨?_, fun s a b => ?_⟩, N3, U3, H3⟩
    · rw [kk 4 (by omega)]; exact ki
    · rw [kk 4 (by omega)]; exact kb s a b
  · have h6 : m3 (g + 6) = m1 (g + 6) := by rw [fr3 _ (by omega) (by omega) (by omega) (by omega), g6]
    have h7 : m3 (g + 7) = m1 (g + 7) := by rw [fr3 _ (by omega) (by omega) (by omega) (by omega), g7]
    have h8 : m3 (g + 8) = m1 (g + 8) := by rw [fr3 _ (by omega) (by omega) (by omega) (by omega), g8]
    have h10 : m3 (g + 10) = m1 (g + 10) := by rw [fr3 _ (by omega) (by omega) (by omega) (by omega), g10]
    rw [h6, h7, h8, h10]
    exact (A1.2 v a b).2
/-! uniqueness -/
theorem KpP_congr {L G S S' L' G' sh : Int → Int} {n nS only s : Int} (hsh : ShOK n nS sh) (hS : ∀ v, 0 ≤ v → v < n → S' v = S v) (hb : ∀ v, 0 ≤ v → v < n → 0 ≤ S v ∧ S v ≤ v) (hL : ∀ v, 0 ≤ v → v < n → L' v = L v ∧ G' v = G v) : KpP L' G' S' sh nS only s ↔ KpP L G S sh nS only s := by
  unfold KpP
  constructor
  · rintro ⟨a, i, i0, i1, c, e⟩
    have q := hsh.2.2 i i0 i1
    rw [hS _ q.1 q.2] at e
    have := hb _ q.1 q.2
    have hl := hL s (by omega) (by omega)
    rw [hl.1, hl.2] at a
    exact ⟨a, i, i0, i1, c, e⟩
  · rintro ⟨a, i, i0, i1, c, e⟩
    have q := hsh.2.2 i i0 i1
    have := hb _ q.1 q.2
    have hl := hL s (by omega) (by omega)
    exact ⟨by rw [hl.1, hl.2]; exact a, i, i0, i1, c, by rw [hS _ q.1 q.2]; exact e⟩
theorem Nd_uniq {n : Int} {Kp : Int → Prop} {Sp : Int → Int → Prop} {N N' : Int} (hn : n ≤ 64) (h : NdOK n Kp Sp N) (h' : NdOK n Kp Sp N') : N' = N := by
  have key : ∀ (k : Nat) (v : Int), n - v ≤ k → 0 ≤ v → v < n → (tb N' v = true ↔ tb N v = true) := by
    intro k
    induction k with
    | zero => intro v a b c; omega
    | succ k ih =>
      intro v a b c
      rw [h.2.1 v b c, h'.2.1 v b c]
      constructor
      · rintro (z | ⟨u, u0, u1, z, y⟩)
        · exact Or.inl z
        · exact Or.inr ⟨u, u0, u1, (ih u (by omega) (by omega) u1).mp z, y⟩
      · rintro (z | ⟨u, u0, u1, z, y⟩)
        · exact Or.inl z
        · exact Or.inr ⟨u, u0, u1, (ih u (by omega) (by omega) u1).mpr z, y⟩
  refine tb_ext h'.1 h.1 (fun i a b => ?_)
  by_cases hi : i < n
  · have := key (n - i).toNat i (by omega) a hi
    cases h1 : tb N i <;> cases h2 : tb N' i <;> simp_all
  · rw [h.2.2 i (by omega) b, h'.2.2 i (by omega) b]
theorem bits_eq {x y : Int} (hx : i64 x) (hy : i64 y) (h : ∀ i, 0 ≤ i → i < 64 → (tb x i = true ↔ tb y i = true)) : x = y := by
  refine tb_ext hx hy (fun i a b => ?_)
  have := h i a b
  cases h1 : tb x i <;> cases h2 : tb y i <;> simp_all
theorem Us_uniq {n : Int} {Sp : Int → Int → Prop} {N : Int} {UB UB' : Int → Int} (h : UsOK n Sp N UB) (h' : UsOK n Sp N UB') {v : Int} (a : 0 ≤ v) (b : v < n) : UB' v = UB v :=
  bits_eq (h' v a b).1 (h v a b).1 (fun i i0 i1 => by rw [(h v a b).2 i i0 i1, (h' v a b).2 i i0 i1])
theorem Ht_uniq {n : Int} {Sp : Int → Int → Prop} {N : Int} {UB UB' H H' : Int → Int} (hn : n ≤ 64) (hU : UsOK n Sp N UB) (hlt : ∀ v s, 0 ≤ v → v < n → Sp v s → 0 ≤ s ∧ s < v) (e : ∀ v, 0 ≤ v → v < n → UB' v = UB v) (h : HtOK n N UB H) (h' : HtOK n N UB' H') : ∀ (k : Nat) (v : Int), n - v ≤ k → 0 ≤ v → v < n → H' v = H v := by
  intro k
  induction k with
  | zero => intro v a b c; omega
  | succ k ih =>
    intro v a b c
    obtain ⟨p0, p1, p2, p3⟩ := h v b c
    obtain ⟨q0, q1, q2, q3⟩ := h' v b c
    rw [e v b c] at q3
    have up : ∀ u, 0 ≤ u → u < 64 → tb (UB v) u = true → H' u = H u ∧ v < u ∧ u < n := fun u u0 u1 z => by
      have zu := ((hU v b c).2 u u0 u1).mp z
      have := hlt u v u0 zu.1 zu.2.2
      exact ⟨ih u (by omega) u0 zu.1, this.2, zu.1⟩
    cases hb : tb N v
    · rw [p2 hb, q2 hb]
    · obtain ⟨x1, x2, x3⟩ := p3 hb
      obtain ⟨y1, y2, y3⟩ := q3 hb
      have l1 : H' v ≤ H v := by
        rcases y3 with z | ⟨u, u0, u1, z1, z2⟩
        · omega
        · have := x2 u u0 u1 z1
          have := (up u u0 u1 z1).1
          omega
      have l2 : H v ≤ H' v := by
        rcases x3 with z | ⟨u, u0, u1, z1, z2⟩
        · omega
        · have := y2 u u0 u1 z1
          have := (up u u0 u1 z1).1
          omega
      omega
theorem StOK_congr {n nI : Int} {mk ag F L G L' G' S : Int → Int} (hV : Val n mk ag F nI) (h : StOK n mk ag L' G' S) (hL : ∀ v, 0 ≤ v → v < n → L' v = L v ∧ G' v = G v) : StOK n mk ag L G S := by
  intro v a b
  obtain ⟨h1, h2⟩ := h v a b
  refine ⟨?_, h2⟩
  rw [h1]
  obtain ⟨k0, k1, -, -, k4, -⟩ := hV.2.2.2.2 v a b
  unfold stF
  by_cases h13 : mk v = 13
  · have q4 := k4 (by omega)
    have l1 := hL v a b
    have l2 := hL _ q4.1 (by omega)
    rw [l1.1, l1.2, l2.1, l2.2]
  · rw [if_neg (fun z => h13 z.1), if_neg (fun z => h13 z.1)]
theorem SrcP_L {n nI : Int} {mk ag F L G L' G' S : Int → Int} (hV : Val n mk ag F nI) (hL : ∀ v, 0 ≤ v → v < n → L' v = L v ∧ G' v = G v) {v s : Int} (a : 0 ≤ v) (b : v < n) (hS : ∀ w, 0 ≤ w → w < v → 0 ≤ S w ∧ S w ≤ w) : SrcP mk ag L' G' S v s ↔ SrcP mk ag L G S v s := by
  constructor
  · intro h
    have := Src_lt hV a b hS h
    have l := hL s this.1 (by omega)
    obtain ⟨h1, h2, h3⟩ := h
    rw [l.1, l.2] at h2
    exact ⟨h1, h2, h3⟩
  · intro h
    have := Src_lt hV a b hS h
    have l := hL s this.1 (by omega)
    obtain ⟨h1, h2, h3⟩ := h
    exact ⟨h1, by rw [l.1, l.2]; exact h2, h3⟩
/-- both sides tell the same of needs -/
theorem NdC_uniq {n nI nS only : Int} {mk ag F L G L' G' sh S SB UB H S' SB' UB' H' : Int → Int} {N K N' K' : Int} (hV : Val n mk ag F nI) (hsh : ShOK n nS sh) (hL : ∀ v, 0 ≤ v → v < n → L' v = L v ∧ G' v = G v) (h : NdC n mk ag L G sh nS only S SB UB H N K) (h' : NdC n mk ag L' G' sh nS only S' SB' UB' H' N' K') :
    N' = N ∧ K' = K ∧ ∀ v, 0 ≤ v → v < n → S' v = S v ∧ SB' v = SB v ∧ UB' v = UB v ∧ H' v = H v := by
  have n1 := hV.2.1
  obtain ⟨s1, b1, k1, nd1, u1, t1⟩ := h
  obtain ⟨s2, b2, k2, nd2, u2, t2⟩ := h'
  have eS : ∀ v, 0 ≤ v → v < n → S' v = S v := fun v a b => St_uniq hV s1 (StOK_congr hV s2 hL) (v.toNat + 1) v (by omega) a b
  have hb : ∀ v, 0 ≤ v → v < n → 0 ≤ S v ∧ S v ≤ v := fun v a b => (s1 v a b).2
  have hb2 : ∀ v, 0 ≤ v → v < n → 0 ≤ S' v ∧ S' v ≤ v := fun v a b => (s2 v a b).2
  have eP : ∀ v s, 0 ≤ v → v < n → (SrcP mk ag L' G' S' v s ↔ SrcP mk ag L G S v s) := fun v s a b => (SrcP_L hV hL a b (fun w w0 w1 => hb2 w w0 (by omega))).trans (SrcP_congr hV a b (fun w w0 w1 => eS w w0 (by omega)))
  have eK : ∀ s, KpP L' G' S' sh nS only s ↔ KpP L G S sh nS only s := fun s => KpP_congr hsh eS hb hL
  have nd3 : NdOK n (KpP L G S sh nS only) (SrcP mk ag L G S) N' := ⟨nd2.1, fun v a b => by
    rw [nd2.2.1 v a b, eK]
    constructor
    · rintro (z | ⟨u, u0, u1, z, y⟩)
      · exact Or.inl z
      · exact Or.inr ⟨u, u0, u1, z, (eP u v (by omega) u1).mp y⟩
    · rintro (z | ⟨u, u0, u1, z, y⟩)
      · exact Or.inl z
      · exact Or.inr ⟨u, u0, u1, z, (eP u v (by omega) u1).mpr y⟩, nd2.2.2⟩
  have eN : N' = N := Nd_uniq n1 nd1 nd3
  have eU : ∀ v, 0 ≤ v → v < n → UB' v = UB v := fun v a b => bits_eq (u2 v a b).1 (u1 v a b).1 (fun i i0 i1 => by
    rw [(u1 v a b).2 i i0 i1, (u2 v a b).2 i i0 i1, eN]
    constructor
    · rintro ⟨z1, z2, z3⟩; exact ⟨z1, z2, (eP i v i0 z1).mp z3⟩
    · rintro ⟨z1, z2, z3⟩; exact ⟨z1, z2, (eP i v i0 z1).mpr z3⟩)
  refine ⟨eN, bits_eq k2.1 k1.1 (fun i i0 i1 => by rw [k1.2 i i0 i1, k2.2 i i0 i1, eK]), fun v a b => ⟨eS v a b, bits_eq (b2 v a b).1 (b1 v a b).1 (fun i i0 i1 => by rw [(b1 v a b).2 i i0 i1, (b2 v a b).2 i i0 i1, eP v i a b]), eU v a b, ?_⟩⟩
  rw [eN] at t2
  exact Ht_uniq n1 u1 (fun v s a b c => Src_lt hV a b (fun w w0 w1 => hb w w0 (by omega)) c) eU t1 t2 (n - v).toNat v (by omega) a b
