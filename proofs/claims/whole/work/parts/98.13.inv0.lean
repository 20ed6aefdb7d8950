/-! all that must hold between calls holds at the start -/
def D0 : Mem := fun a i => if a = 0 then (if i = 3 then 4 else if i = 4 then 8 else 0) else 0
theorem d00 : D0 0 0 = 0 := rfl
theorem pc00 : pc (D0 0 1) = 0 := pc_0
theorem M0e (a : Nat) (i : Int) (h3 : a ≠ 3) (h7 : a ≠ 137) (h8 : a ≠ 138) (h0 : a ≠ 1000) (h : M0T.getD a [] = []) : M0 a i = 0 := by
  rw [M0_tab h3 h7 h8 h0, h]
  rfl
theorem vac {v n : Int} {P : Prop} (hn : n = 0) (a : 0 ≤ v) (b : v < n) : P := by
  exfalso
  omega
set_option maxHeartbeats 4000000 in
set_option maxRecDepth 20000 in
theorem inv0q : InvQ M0 119 0 0 0 := by
  refine ⟨Or.inr rfl, by decide +kernel, by decide +kernel, ⟨by omega, by omega, by omega, by omega, fun v a b => vac rfl a b⟩, ⟨by decide +kernel, fun v a b => vac rfl a b⟩, by decide +kernel, ⟨by decide +kernel, fun v a b => vac rfl a b⟩, ⟨by omega, by omega, fun v a b => vac rfl a b⟩, fun v a b => vac rfl a b, ⟨by decide +kernel, by decide +kernel⟩, fun v a b => vac rfl a b, fun v a b => vac rfl a b, ⟨by decide +kernel, by decide +kernel, by decide +kernel⟩, ⟨by decide +kernel, by decide +kernel, by decide +kernel⟩, ⟨by decide +kernel, by decide +kernel, by decide +kernel⟩, by decide +kernel, ⟨by decide +kernel, by decide +kernel, by decide +kernel⟩, fun v a b => vac (by decide +kernel : M0 119 16 = 0) a b, by decide +kernel, fun i a b => ?_⟩
  rw [M0e 55 i (by decide) (by decide) (by decide) (by decide) rfl, M0e 152 i (by decide) (by decide) (by decide) (by decide) rfl]
  omega
set_option maxHeartbeats 4000000 in
set_option maxRecDepth 20000 in
theorem inv0c : Cch M0 119 0 0 D0 := by
  refine ⟨⟨d00, fun v a b => vac rfl a b, fun v a b => vac rfl a b, fun v a b => vac rfl a b, ⟨fun v a b => vac rfl a b, fun v a b => vac rfl a b, ⟨i64_0, fun s _ _ => ?_⟩, ⟨i64_0, fun v a b => vac rfl a b, fun v _ _ => tb_0 v⟩, fun v a b => vac rfl a b, fun v a b => vac rfl a b⟩, ⟨by decide, by decide⟩, ⟨by decide, by decide⟩⟩, ⟨by decide +kernel, by decide +kernel, by decide +kernel, fun v a b => vac d00 a b⟩, ⟨fun v a b => vac d00 a b, fun v a b => vac d00 a b⟩, ?_, ?_, by decide +kernel, by decide +kernel⟩
  · constructor
    · intro h
      rw [show D0 0 2 = 0 from rfl, tb_0] at h
      cases h
    · rintro ⟨-, i, a, b, -⟩
      exact vac rfl a b
  · rw [pc00]
    refine ⟨⟨by decide +kernel, fun p a b => vac rfl a b⟩, ⟨pc00.symm, fun p a b => vac rfl a b, fun p q a b c => by exfalso; omega, fun v a b => vac d00 a b, fun p s a b => vac rfl a b⟩, fun p a b => vac rfl a b, fun f _ _ => ⟨fun p a b => vac rfl a b, M0e 80 f (by decide) (by decide) (by decide) (by decide) rfl⟩, fun p a b => vac rfl a b, fun f _ => M0e 83 f (by decide) (by decide) (by decide) (by decide) rfl, ⟨by decide +kernel, by decide +kernel, fun i a b => vac rfl a b, fun i a b => vac rfl a b⟩⟩
  · intro p a b
    exact vac pc00 a b
set_option maxHeartbeats 4000000 in
set_option maxRecDepth 20000 in
theorem inv0r : Rst M0 119 := by
  refine ⟨⟨5, Or.inl rfl, by decide, by decide +kernel⟩, fun w a b => ?_, fun w a b => ?_, fun _ _ _ => 0, 0, ⟨fun i a b => vac rfl a b, fun i _ _ => ⟨⟨show (0 : Int) ≤ 0 by decide, show (0 : Int) ≤ 4 by decide⟩, ⟨show (0 : Int) ≤ 0 by decide, show (0 : Int) ≤ 20 by decide⟩, fun s a b => vac rfl a b, fun s a b => vac rfl a b⟩, fun l a b => vac rfl a b, rfl⟩, by omega, by omega, rfl, by decide +kernel, by decide +kernel, 0, by omega, rfl, fun k h => absurd h (Nat.not_lt_zero _), ?_⟩
  · obtain ⟨j, rfl⟩ := w22 a b
    revert j
    decide +kernel
  · obtain ⟨j, rfl⟩ := w22 a b
    revert j
    decide +kernel
  · show (0 : Int) = M0 44 5
    decide +kernel
theorem inv0 : Inv M0 := ⟨119, 0, 0, 0, D0, inv0q, inv0c, fun _ h => absurd (by decide +kernel) h, ⟨⟨by decide +kernel, by decide +kernel⟩, by decide +kernel, fun i a b => vac (by decide +kernel : M0 1 2 = 0) a b, fun i a b => vac (by decide +kernel : M0 1 2 = 0) a b⟩, inv0r⟩
