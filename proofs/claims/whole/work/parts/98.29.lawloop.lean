/-! THE LAW: its loop -/
theorem and31 (x : Int32) : ∃ k : Nat, k < 32 ∧ (x &&& 31).toInt = (k : Int) := by
  have h1 : (x.toBitVec &&& 31#32).toNat ≤ 31 := by
    rw [BitVec.toNat_and]
    exact Nat.and_le_right
  refine ⟨(x.toBitVec &&& 31#32).toNat, by omega, ?_⟩
  show (x.toBitVec &&& 31#32).toInt = _
  exact BitVec.toInt_eq_toNat_of_lt (by omega)
section LLoop
variable {p : Program} {l : Launch} {e : Env} {s : State} {m : MethodId} {below : List Frame} {meth : Method} {c : Code} {H : Heap} {locs : List Loc} {cells slots : Nat} {Q : State → Prop} {b L i : Nat} {xs : Nat → Int32} {D : va_G} {cA : Nat → ClassId} {A : Nat → Prop} {ls : Array Slot} {ad : Nat → Nat} {M : Mem}
set_option maxHeartbeats 4000000 in
set_option maxRecDepth 20000 in
theorem law_sw (C : LC p l s m c b L xs D cA A) (S : WSt D cA A s ad M H locs) (hI : Inv M) (hl : lv_has ls 7 (lL ad b i)) (hi : i + 7 ≤ L) (hcs : cells + 1 ≤ 601024 ∧ slots + 4096 ≤ 7293033) (K : LK p l e s m below meth c b i D cA A Q cells slots) : W p l e room_1 s m #[Value.ref b] below meth c H locs cells slots Q (F0 m 33 ls []) := by
  have X := C.1
  have x0 := C.2.1
  have hL := C.2.2.2.2
  have hi9 : i32 ((i : Nat) : Int) := ⟨by omega, by omega⟩
  refine lv_aload_n X.1 X.2.1 dL_law_33 rfl (lv_at hl 4 rfl) ?_
  refine lv_iload X.1 X.2.1 dL_law_34 (lv_at hl 0 rfl) ?_
  refine va_sld X.1 X.2.1 x0.1 x0.2.1 x0.2.2 S.2.2.2 (i := Int32.ofInt ((i : Nat) : Int)) ?_ dL_law_36 ?_
  · have h := ix_in (n := (L : Int)) hi9 (by omega) (by omega)
    rw [Int.toNat_natCast] at h
    exact h
  refine lv_bipush (v := 31) X.1 X.2.1 dL_law_37 (by decide) ?_
  refine lv_iand X.1 X.2.1 dL_law_39 ?_
  obtain ⟨k, hk, hz⟩ := and31 (xs (Int32.ofInt ((i : Nat) : Int)).toNatClampNeg)
  by_cases k28 : k ≤ 28
  · have hc : k = 0 ∨ k = 1 ∨ k = 2 ∨ k = 3 ∨ k = 4 ∨ k = 5 ∨ k = 6 ∨ k = 7 ∨ k = 8 ∨ k = 9 ∨ k = 10 ∨ k = 11 ∨ k = 12 ∨ k = 13 ∨ k = 14 ∨ k = 15 ∨ k = 16 ∨ k = 17 ∨ k = 18 ∨ k = 19 ∨ k = 20 ∨ k = 21 ∨ k = 22 ∨ k = 23 ∨ k = 24 ∨ k = 25 ∨ k = 26 ∨ k = 27 ∨ k = 28 := by omega
    rcases hc with rfl | rfl | rfl | rfl | rfl | rfl | rfl | rfl | rfl | rfl | rfl | rfl | rfl | rfl | rfl | rfl | rfl | rfl | rfl | rfl | rfl | rfl | rfl | rfl | rfl | rfl | rfl | rfl | rfl
    · refine lv_tableIn (off := 132) (tgt := 172) X.1 X.2.1 dL_law_40 (by rw [hz]; decide) (by rw [hz]; decide) (by rw [hz]; rfl) (by decide) ?_
      exact law_0 C S hI hl hi hcs K
    · refine lv_tableIn (off := 279) (tgt := 319) X.1 X.2.1 dL_law_40 (by rw [hz]; decide) (by rw [hz]; decide) (by rw [hz]; rfl) (by decide) ?_
      exact law_1 C S hI hl hi hcs K
    · refine lv_tableIn (off := 292) (tgt := 332) X.1 X.2.1 dL_law_40 (by rw [hz]; decide) (by rw [hz]; decide) (by rw [hz]; rfl) (by decide) ?_
      exact law_2 C S hI hl hi hcs K
    · refine lv_tableIn (off := 341) (tgt := 381) X.1 X.2.1 dL_law_40 (by rw [hz]; decide) (by rw [hz]; decide) (by rw [hz]; rfl) (by decide) ?_
      exact law_3 C S hI hl hi hcs K
    · refine lv_tableIn (off := 378) (tgt := 418) X.1 X.2.1 dL_law_40 (by rw [hz]; decide) (by rw [hz]; decide) (by rw [hz]; rfl) (by decide) ?_
      exact law_4 C S hI hl hi hcs K
    · refine lv_tableIn (off := 403) (tgt := 443) X.1 X.2.1 dL_law_40 (by rw [hz]; decide) (by rw [hz]; decide) (by rw [hz]; rfl) (by decide) ?_
      exact law_5 C S hI hl hi hcs K
    · refine lv_tableIn (off := 452) (tgt := 492) X.1 X.2.1 dL_law_40 (by rw [hz]; decide) (by rw [hz]; decide) (by rw [hz]; rfl) (by decide) ?_
      exact law_6 C S hI hl hi hcs K
    · refine lv_tableIn (off := 489) (tgt := 529) X.1 X.2.1 dL_law_40 (by rw [hz]; decide) (by rw [hz]; decide) (by rw [hz]; rfl) (by decide) ?_
      exact law_7 C S hI hl hi hcs K
    · refine lv_tableIn (off := 526) (tgt := 566) X.1 X.2.1 dL_law_40 (by rw [hz]; decide) (by rw [hz]; decide) (by rw [hz]; rfl) (by decide) ?_
      exact law_8 C S hI hl hi hcs K
    · refine lv_tableIn (off := 563) (tgt := 603) X.1 X.2.1 dL_law_40 (by rw [hz]; decide) (by rw [hz]; decide) (by rw [hz]; rfl) (by decide) ?_
      exact law_9 C S hI hl hi hcs K
    · refine lv_tableIn (off := 600) (tgt := 640) X.1 X.2.1 dL_law_40 (by rw [hz]; decide) (by rw [hz]; decide) (by rw [hz]; rfl) (by decide) ?_
      exact law_10 C S hI hl hi hcs K
    · refine lv_tableIn (off := 625) (tgt := 665) X.1 X.2.1 dL_law_40 (by rw [hz]; decide) (by rw [hz]; decide) (by rw [hz]; rfl) (by decide) ?_
      exact law_11 C S hI hl hi hcs K
    · refine lv_tableIn (off := 650) (tgt := 690) X.1 X.2.1 dL_law_40 (by rw [hz]; decide) (by rw [hz]; decide) (by rw [hz]; rfl) (by decide) ?_
      exact law_12 C S hI hl hi hcs K
    · refine lv_tableIn (off := 718) (tgt := 758) X.1 X.2.1 dL_law_40 (by rw [hz]; decide) (by rw [hz]; decide) (by rw [hz]; rfl) (by decide) ?_
      exact law_13 C S hI hl hi hcs K
    · refine lv_tableIn (off := 786) (tgt := 826) X.1 X.2.1 dL_law_40 (by rw [hz]; decide) (by rw [hz]; decide) (by rw [hz]; rfl) (by decide) ?_
      exact law_14 C S hI hl hi hcs K
    · refine lv_tableIn (off := 812) (tgt := 852) X.1 X.2.1 dL_law_40 (by rw [hz]; decide) (by rw [hz]; decide) (by rw [hz]; rfl) (by decide) ?_
      exact law_15 C S hI hl hi hcs K
    · refine lv_tableIn (off := 850) (tgt := 890) X.1 X.2.1 dL_law_40 (by rw [hz]; decide) (by rw [hz]; decide) (by rw [hz]; rfl) (by decide) ?_
      exact law_16 C S hI hl hi hcs K
    · refine lv_tableIn (off := 875) (tgt := 915) X.1 X.2.1 dL_law_40 (by rw [hz]; decide) (by rw [hz]; decide) (by rw [hz]; rfl) (by decide) ?_
      exact law_17 C S hI hl hi hcs K
    · refine lv_tableIn (off := 912) (tgt := 952) X.1 X.2.1 dL_law_40 (by rw [hz]; decide) (by rw [hz]; decide) (by rw [hz]; rfl) (by decide) ?_
      exact law_18 C S hI hl hi hcs K
    · refine lv_tableIn (off := 937) (tgt := 977) X.1 X.2.1 dL_law_40 (by rw [hz]; decide) (by rw [hz]; decide) (by rw [hz]; rfl) (by decide) ?_
      exact law_19 C S hI hl hi hcs K
    · refine lv_tableIn (off := 974) (tgt := 1014) X.1 X.2.1 dL_law_40 (by rw [hz]; decide) (by rw [hz]; decide) (by rw [hz]; rfl) (by decide) ?_
      exact law_20 C S hI hl hi hcs K
    · refine lv_tableIn (off := 999) (tgt := 1039) X.1 X.2.1 dL_law_40 (by rw [hz]; decide) (by rw [hz]; decide) (by rw [hz]; rfl) (by decide) ?_
      exact law_21 C S hI hl hi hcs K
    · refine lv_tableIn (off := 1036) (tgt := 1076) X.1 X.2.1 dL_law_40 (by rw [hz]; decide) (by rw [hz]; decide) (by rw [hz]; rfl) (by decide) ?_
      exact law_22 C S hI hl hi hcs K
    · refine lv_tableIn (off := 1073) (tgt := 1113) X.1 X.2.1 dL_law_40 (by rw [hz]; decide) (by rw [hz]; decide) (by rw [hz]; rfl) (by decide) ?_
      exact law_23 C S hI hl hi hcs K
    · refine lv_tableIn (off := 1110) (tgt := 1150) X.1 X.2.1 dL_law_40 (by rw [hz]; decide) (by rw [hz]; decide) (by rw [hz]; rfl) (by decide) ?_
      exact law_24 C S hI hl hi hcs K
    · refine lv_tableIn (off := 1171) (tgt := 1211) X.1 X.2.1 dL_law_40 (by rw [hz]; decide) (by rw [hz]; decide) (by rw [hz]; rfl) (by decide) ?_
      exact law_25 C S hI hl hi hcs K
    · refine lv_tableIn (off := 1208) (tgt := 1248) X.1 X.2.1 dL_law_40 (by rw [hz]; decide) (by rw [hz]; decide) (by rw [hz]; rfl) (by decide) ?_
      exact law_26 C S hI hl hi hcs K
    · refine lv_tableIn (off := 1221) (tgt := 1261) X.1 X.2.1 dL_law_40 (by rw [hz]; decide) (by rw [hz]; decide) (by rw [hz]; rfl) (by decide) ?_
      exact law_27 C S hI hl hi hcs K
    · refine lv_tableIn (off := 1246) (tgt := 1286) X.1 X.2.1 dL_law_40 (by rw [hz]; decide) (by rw [hz]; decide) (by rw [hz]; rfl) (by decide) ?_
      exact law_28 C S hI hl hi hcs K
  · refine lv_tableOut (tgt := 1311) X.1 X.2.1 dL_law_40 (Or.inr (by rw [hz]; omega)) (by decide) ?_
    exact K ad M H locs ls cells slots hI S hl (by omega) (by omega)
set_option maxHeartbeats 4000000 in
set_option maxRecDepth 20000 in
theorem law_loop (C : LC p l s m c b L xs D cA A) (fin : ∀ (ad : Nat → Nat) (M : Mem) (H : Heap) (locs : List Loc) (ls : Array Slot) (cells slots : Nat), WSt D cA A s ad M H locs → cells ≤ 601024 → slots ≤ 7293033 → W p l e room_1 s m #[Value.ref b] below meth c H locs cells slots Q (F0 m 1317 ls [])) :
    ∀ (n i : Nat) (ad : Nat → Nat) (M : Mem) (H : Heap) (locs : List Loc) (ls : Array Slot) (cells slots : Nat), L < i + 7 * n → i ≤ L + 7 → Inv M → WSt D cA A s ad M H locs → lv_has ls 7 (lL ad b i) → cells + n ≤ 601024 → slots + 4096 * n ≤ 7293033 → W p l e room_1 s m #[Value.ref b] below meth c H locs cells slots Q (F0 m 23 ls []) := by
  have X := C.1
  have x0 := C.2.1
  have hL := C.2.2.2.2
  intro n
  induction n with
  | zero =>
    intro i ad M H locs ls cells slots h1 h2 hI S hl c1 c2
    have hi9 : i32 ((i : Nat) : Int) := ⟨by omega, by omega⟩
    have hl9 : i32 ((L : Int) - 7) := ⟨by omega, by omega⟩
    refine lv_iload X.1 X.2.1 dL_law_23 (lv_at hl 0 rfl) ?_
    refine lv_aload_n X.1 X.2.1 dL_law_25 rfl (lv_at hl 4 rfl) ?_
    refine va_slen X.1 X.2.1 x0.1 x0.2.1 x0.2.2 S.2.2.2 dL_law_26 ?_
    refine lv_bipush (v := Int32.ofInt 7) X.1 X.2.1 dL_law_27 (by decide) ?_
    refine lv_isub X.1 X.2.1 dL_law_29 ?_
    rw [← Int32.ofInt_eq_ofNat, ofI_sub, w32_id hl9.1 hl9.2]
    refine lv_icmp_gt (tgt := 1317) X.1 X.2.1 dL_law_30 (by decide) (fun hc => ?_) (fun hc => ?_)
    · exact fin ad M H locs ls cells slots S (by omega) (by omega)
    · exact absurd ((i32_lt hl9 hi9).mpr (by omega)) hc
  | succ n ih =>
    intro i ad M H locs ls cells slots h1 h2 hI S hl c1 c2
    have hi9 : i32 ((i : Nat) : Int) := ⟨by omega, by omega⟩
    have hl9 : i32 ((L : Int) - 7) := ⟨by omega, by omega⟩
    refine lv_iload X.1 X.2.1 dL_law_23 (lv_at hl 0 rfl) ?_
    refine lv_aload_n X.1 X.2.1 dL_law_25 rfl (lv_at hl 4 rfl) ?_
    refine va_slen X.1 X.2.1 x0.1 x0.2.1 x0.2.2 S.2.2.2 dL_law_26 ?_
    refine lv_bipush (v := Int32.ofInt 7) X.1 X.2.1 dL_law_27 (by decide) ?_
    refine lv_isub X.1 X.2.1 dL_law_29 ?_
    rw [← Int32.ofInt_eq_ofNat, ofI_sub, w32_id hl9.1 hl9.2]
    refine lv_icmp_gt (tgt := 1317) X.1 X.2.1 dL_law_30 (by decide) (fun hc => ?_) (fun hc => ?_)
    · exact fin ad M H locs ls cells slots S (by omega) (by omega)
    · have hc : ¬ (L : Int) - 7 < (i : Int) := fun z => hc ((i32_lt hl9 hi9).mpr z)
      have hi : i + 7 ≤ L := by omega
      refine law_sw C S hI hl hi ⟨by omega, by omega⟩ (fun ad' M' H locs ls cells' slots' hI S hl c3 c4 => ?_)
      have e7 : Int32.ofInt ((i : Nat) : Int) + Int32.ofInt 7 = Int32.ofInt (((i + 7 : Nat) : Nat) : Int) := by
        rw [ofI_add, w32_id (by omega) (by omega)]
        rfl
      refine lv_iinc (k := 0) (v := Int32.ofInt (((i + 7 : Nat) : Nat) : Int)) X.1 X.2.1 dL_law_1311 hl rfl e7 (by decide) rfl (fun ls hl => ?_)
      refine lv_goto (tgt := 23) X.1 X.2.1 dL_law_1314 (by decide) ?_
      exact ih (i + 7) ad' M' H locs ls cells' slots' (by omega) (by omega) hI S hl (by omega) (by omega)
end LLoop
