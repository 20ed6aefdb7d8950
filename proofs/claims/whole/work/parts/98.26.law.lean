/-! THE LAW: rows of its own frame -/
def xv (xs : Nat → Int32) (n : Nat) : Int := (xs n).toInt
theorem xv_of {xs : Nat → Int32} {n : Nat} : Int32.ofInt (xv xs n) = xs n := Int32.ofInt_toInt _
theorem xv_in {xs : Nat → Int32} {n : Nat} : i32 (xv xs n) := i32_of _
abbrev lL (ad : Nat → Nat) (b i : Nat) : List (Nat × Value) := [(4, .int (Int32.ofInt ((i : Nat) : Int))), (3, .ref (ad 173)), (2, .ref (ad 132)), (1, .ref (ad 0)), (0, .ref b)]
def LC (p : Program) (l : Launch) (s : State) (m : MethodId) (c : Code) (b L : Nat) (xs : Nat → Int32) (D : va_G) (cA : Nat → ClassId) (A : Nat → Prop) : Prop := WC p s m #[Value.ref b] c RL cL_law 7 D cA A ∧ (va_X b L xs s s.heap ∧ b < s.heap.size ∧ ¬ A b) ∧ ThE A s ∧ l.stackTraces = false ∧ L ≤ 3584
def LK (p : Program) (l : Launch) (e : Env) (s : State) (m : MethodId) (below : List Frame) (meth : Method) (c : Code) (b i : Nat) (D : va_G) (cA : Nat → ClassId) (A : Nat → Prop) (Q : State → Prop) (cells slots : Nat) : Prop :=
  ∀ (ad : Nat → Nat) (M : Mem) (H : Heap) (locs : List Loc) (ls : Array Slot) (cells' slots' : Nat), Inv M → WSt D cA A s ad M H locs → lv_has ls 7 (lL ad b i) → cells' ≤ cells + 1 → slots' ≤ slots + 4096 → W p l e room_1 s m #[Value.ref b] below meth c H locs cells' slots' Q (F0 m 1311 ls [])
def shv (a : Int) : Int := (Int64.ofInt a <<< ((32 : Int32).toInt64 &&& 63)).toInt
def fdv (a b : Int) : Int := (Int64.ofInt (shv a) ||| (Int64.ofInt b &&& 4294967295)).toInt
theorem fdv_in {a b : Int} : i64 (fdv a b) := i64_of _
theorem cmp_self {x : Int64} : lg_cmp x x = 0 := by
  unfold lg_cmp
  simp
section LRows
variable {p : Program} {l : Launch} {e : Env} {s : State} {m : MethodId} {below : List Frame} {meth : Method} {c : Code} {H : Heap} {locs : List Loc} {cells slots : Nat} {Q : State → Prop} {pc b L i : Nat} {xs : Nat → Int32} {D : va_G} {cA : Nat → ClassId} {A : Nat → Prop} {ls : Array Slot} {rest : List Value} {ad : Nat → Nat} {M : Mem}
theorem l_ld {j : Nat} (C : LC p l s m c b L xs D cA A) (S : WSt D cA A s ad M H locs) (hi : i + 7 ≤ L) (hj : j < 7) (d5 : decode cL_law pc = .ok (.iaload, 1)) (kk : W p l e room_1 s m #[Value.ref b] below meth c H locs cells slots Q (F0 m (pc + 1) ls (.int (Int32.ofInt (xv xs (i + j))) :: rest))) : W p l e room_1 s m #[Value.ref b] below meth c H locs cells slots Q (F0 m pc ls (.int (Int32.ofInt ((i : Nat) : Int) + Int32.ofInt ((j : Nat) : Int)) :: .ref b :: rest)) := by
  obtain ⟨X, ⟨x1, x2, x3⟩, -, -, hL⟩ := C
  have hij : i32 (((i : Nat) : Int) + ((j : Nat) : Int)) := ⟨by omega, by omega⟩
  rw [ofI_add, w32_id hij.1 hij.2]
  refine va_sld X.1 X.2.1 x1 x2 x3 S.2.2.2 (i := Int32.ofInt (((i : Nat) : Int) + ((j : Nat) : Int))) ?_ d5 ?_
  · have h := ix_in (n := (L : Int)) hij (by omega) (by omega)
    rw [Int.toNat_natCast] at h
    exact h
  · rw [ix_cl hij, show (((i : Nat) : Int) + ((j : Nat) : Int)).toNat = i + j by omega, ← xv_of (xs := xs) (n := i + j)]
    exact kk
theorem l_arg {j : Nat} {jz : Int} (C : LC p l s m c b L xs D cA A) (S : WSt D cA A s ad M H locs) (hb : ls[0]? = some (.val (.ref b))) (h4 : ls[4]? = some (.val (.int (Int32.ofInt ((i : Nat) : Int))))) (hi : i + 7 ≤ L) (hj : j < 7) (hz : jz = ((j : Nat) : Int)) (d1 : decode cL_law pc = .ok (.aload_n 0, 1)) (d2 : decode cL_law (pc + 1) = .ok (.iload 4, 2)) (d3 : decode cL_law (pc + 3) = .ok (.iconst jz, 1)) (d4 : decode cL_law (pc + 4) = .ok (.iadd, 1)) (d5 : decode cL_law (pc + 5) = .ok (.iaload, 1))
    (kk : W p l e room_1 s m #[Value.ref b] below meth c H locs cells slots Q (F0 m (pc + 6) ls (.int (Int32.ofInt (xv xs (i + j))) :: rest))) : W p l e room_1 s m #[Value.ref b] below meth c H locs cells slots Q (F0 m pc ls rest) := by
  have X := C.1
  refine lv_aload_n X.1 X.2.1 d1 rfl hb ?_
  refine lv_iload X.1 X.2.1 d2 h4 ?_
  refine lv_iconst (v := Int32.ofInt ((j : Nat) : Int)) X.1 X.2.1 d3 (by rw [hz]) ?_
  refine lv_iadd X.1 X.2.1 d4 ?_
  exact l_ld C S hi hj d5 kk
theorem l_arg6 (C : LC p l s m c b L xs D cA A) (S : WSt D cA A s ad M H locs) (hb : ls[0]? = some (.val (.ref b))) (h4 : ls[4]? = some (.val (.int (Int32.ofInt ((i : Nat) : Int))))) (hi : i + 7 ≤ L) (d1 : decode cL_law pc = .ok (.aload_n 0, 1)) (d2 : decode cL_law (pc + 1) = .ok (.iload 4, 2)) (d3 : decode cL_law (pc + 3) = .ok (.bipush 6, 2)) (d4 : decode cL_law (pc + 5) = .ok (.iadd, 1)) (d5 : decode cL_law (pc + 6) = .ok (.iaload, 1))
    (kk : W p l e room_1 s m #[Value.ref b] below meth c H locs cells slots Q (F0 m (pc + 7) ls (.int (Int32.ofInt (xv xs (i + 6))) :: rest))) : W p l e room_1 s m #[Value.ref b] below meth c H locs cells slots Q (F0 m pc ls rest) := by
  have X := C.1
  refine lv_aload_n X.1 X.2.1 d1 rfl hb ?_
  refine lv_iload X.1 X.2.1 d2 h4 ?_
  refine lv_bipush (v := Int32.ofInt ((6 : Nat) : Int)) X.1 X.2.1 d3 (by decide) ?_
  refine lv_iadd X.1 X.2.1 d4 ?_
  exact l_ld C S hi (by decide) d5 kk
end LRows
theorem kl_22 : Cond.constantLong RL 22 4294967295 ∈ gt := gt_t (i := 2057) (by decide +kernel) (by decide +kernel)
