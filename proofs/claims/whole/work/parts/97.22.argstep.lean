/-! the next token as an argument of both -/
set_option maxHeartbeats 4000000 in
set_option maxRecDepth 20000 in
theorem r_argN {A B : Mem} {t : Nat} {T : Int → Int} {n N j m i k ty' : Int} (hC : CK A t T n) (hM : MK B T n N) (hN : NmR A B m) (hA : A 1 3 = te T n (pos T n j)) (j0 : 0 ≤ j) (jN : j + 1 ≤ N) (h7 : B 132 7 = j + 1) (h8 : B 132 8 = 0) (i0 : 0 ≤ i) (i1 : i < 200) (k0 : 0 ≤ k) (k1 : k < 3) (ht : ty' = 0 ∨ ty' = 1 ∨ ty' = 2) : ∃ A1 x A' B', fX8_advance A = some A1 ∧ F1 A A1 ∧ fX6_takeArg i k ty' A1 = some (x, A') ∧ fX12_takeArg (12 * (210 + i) + 5 + 2 * k) (if ty' = 2 then 3 else ty') B = some B' ∧ (∀ b, b ≠ 1 → b ≠ 4 → b ≠ t + 6 → b ≠ t + 7 → A' b = A b) ∧ A' 1 2 = A 1 2 ∧ (∀ f, f ≠ 11 → A' 4 f = A 4 f) ∧ (∀ y, y ≠ 3 * i + k → A' (t + 6) y = A (t + 6) y ∧ A' (t + 7) y = A (t + 7) y) ∧ (∀ b, b ≠ 132 → b ≠ 139 → B' b = B b) ∧ (∀ f, f ≠ 7 → f ≠ 8 → f ≠ 19 → B' 132 f = B 132 f) ∧ (∀ y, y ≠ 12 * (210 + i) + 5 + 2 * k → y ≠ 12 * (210 + i) + 6 + 2 * k → B' 139 y = B 139 y) ∧ ((x = 0 ∧ A' 1 3 = te T n (pos T n (j + 1)) ∧ B' 132 7 = j + 1 + 1 ∧ B' 132 8 = 0 ∧ j + 1 + 1 ≤ N ∧ pos T n (j + 1) < n ∧ ArR A' B' t 210 i k m ∧ A' 4 11 = B' 132 19 ∧ (A' 4 11 = 0 ∨ A' 4 11 = 1) ∧ (ty' ≠ 2 → A' 4 11 = ty') ∧ A' 4 11 = (if 0 ≤ A' (t + 6) (3 * i + k) then A 19 (A' (t + 6) (3 * i + k)) else 0)) ∨ (0 < x ∧ B' 132 8 = x)) := by
  have ht5 := hC.1
  obtain ⟨A1, f1, fr1, at1⟩ := c_advance hC j0 hA
  have hN1 : NmR A1 B m := NmR_fr hN (by rw [fr1.1 4 (by omega)]) (fr1.1 18 (by omega)) (fr1.1 19 (by omega)) (fr1.1 20 (by omega)) rfl rfl rfl
  obtain ⟨x, A', B', e1, e2, u1, u2, u3, v1, v2, v3, res⟩ := r_arg (i := i) (k := k) (ty' := ty') (CK_F1 hC fr1) hM hN1 ⟨at1, h7, by omega, jN, h8⟩ i0 i1 k0 k1 ht
  refine ⟨A1, x, A', B', f1, fr1, e1, e2, fun b b1 b4 b6 b7 => by rw [u1 b b4 b6 b7, fr1.1 b b1], by rw [u1 1 (by omega) (by omega) (by omega)]; exact fr1.2, fun f hf => by rw [u2 f hf, fr1.1 4 (by omega)], fun y hy => by rw [(u3 y hy).1, (u3 y hy).2, fr1.1 _ (by omega), fr1.1 _ (by omega)]; exact ⟨rfl, rfl⟩, v1, v2, v3, ?_⟩
  rcases res with ⟨r0, r1, r2, r3, r4, r5, r6, r7, r8, r9⟩ | r
  · refine Or.inl ⟨r0, by rw [u1 1 (by omega) (by omega) (by omega)]; exact at1.2.1, r1, r2, r3, r4, r5, r6, r7, r8, ?_⟩
    rw [r9, fr1.1 19 (by omega)]
  · exact Or.inr r
