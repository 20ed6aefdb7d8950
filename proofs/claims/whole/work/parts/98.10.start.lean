/-! the world behind the constructors -/
def M0T : List (List Int) := [[1, 4, 22, 44, 51, 56, 62, 66, 75, 88, 92, 101, 114, 119, 0, (-2)], [2, 3, 0, 0, 0, 0, 0, 0], [], [], [1, 5, 18, 19, 20, 0, 21, 0, 0, 0, 0, 0], [0, 6, 7, 8, 9, 10, 11, 12, 13, 14, 0, 15, 16, 17, 4, 8, 0, 0], [], [], [], [], [], [], [], [], [], [], [], [], [], [], [], [], [23, 30, 31, 36, 41, 42, 43, 0, 0, 0], [0, 24, 25, 26, 27, 0, 28, 29], [], [], [], [], [], [], [], [32, 33, 34, 35], [], [], [], [], [37, 38, 39, 40], [], [], [], [], [], [], [], [0, 45, 46, 47, 48, 0, 49, 50], [], [], [], [], [], [], [52, 53, 54, 55], [], [], [], [], [51, 57, 58, 59, 60, 61, 0], [], [], [], [], [], [44, 63, 64, 65], [], [], [], [44, 62, 67, 0, 0, 68, 69, 70, 71, 72, 73, 74], [], [], [], [], [], [], [], [], [44, 62, 66, 76, 0, 77, 78, 79, 80, 81, 82, 83, 84, 85, 86, 87, 0, 0], [], [], [], [], [], [], [], [], [], [], [], [], [44, 89, 90, 91], [], [], [], [44, 88, 93, 0, 0, 94, 95, 96, 97, 98, 99, 100], [], [], [], [], [], [], [], [], [44, 88, 92, 102, 0, 103, 104, 105, 106, 107, 108, 109, 110, 111, 112, 113, 0, 0], [], [], [], [], [], [], [], [], [], [], [], [], [44, 62, 66, 115, 116, 117, 118, 0], [], [], [], [], [0, 120, 121, 122, 123, 124, 125, 126, 127, 128, 0, 129, 130, 131, 4, 8, 0, 0], [], [], [], [], [], [], [], [], [], [], [], [], [0, 133, 0, 0, 134, 135, 136, 0, 0, 137, 138, 139, 140, 141, 0, 142, 143, 144, 0, 0, 145, 146, 147, 148, 149, 150, 151, 152, 0, 153, 154, 155, 156, 157, 158, 159, 160, 161, 0, 0, 162, 0, 163, 164, 165, 166, 167, 168, 0, 169, 0, 170, 171, 172], [], [], [], [], [], [], [], [], [], [], [], [], [], [], [], [], [], [], [], [], [], [], [], [], [], [], [], [], [], [], [], [], [], [], [], [], [], [], [], [], []]
def M0 : Mem := fun a i => if a = 3 then (tpG 110 i.toNat).toInt else if a = 137 then (wdG 23 i.toNat).toInt else if a = 138 then (tdG i.toNat).toInt else if a = 1000 then (if i = 0 then 1 else 0) else (M0T.getD a []).getD i.toNat 0
theorem P_app {D : va_G} {cl : List vw_C} {a b : va_W} {H : Heap} (h : va_P D cl (a ++ b) H) : va_P D cl a H ∧ va_P D cl b H := by
  refine ⟨fun k q hk => h k q ?_, fun k q hk => h (a.length + k) q ?_⟩
  · rw [List.getElem?_append_left (List.getElem?_eq_some_iff.mp hk).1]; exact hk
  · rw [List.getElem?_append_right (by omega), show a.length + k - a.length = k by omega]; exact hk
theorem P_cons {D : va_G} {cl : List vw_C} {x : Nat × va_E} {b : va_W} {H : Heap} (h : va_P D cl (x :: b) H) : va_at D cl x H ∧ va_P D cl b H := ⟨h 0 x rfl, fun k q hk => h (k + 1) q hk⟩
def adOf (a0 : Nat) (us : Nat → Nat → Nat) (m0 : Nat) (w : Nat → Nat) (o : Nat) : Nat → Nat := fun id => if id < 1 then a0 else if id < 4 then us 0 (id - 1) else if id < 22 then us 1 (id - 4) else if id < 44 then us 2 (id - 22) else if id < 51 then us 3 (id - 44) else if id < 56 then us 4 (id - 51) else if id < 62 then us 5 (id - 56) else if id < 66 then us 6 (id - 62) else if id < 75 then us 7 (id - 66) else if id < 88 then us 8 (id - 75) else if id < 92 then us 9 (id - 88) else if id < 101 then us 10 (id - 92) else if id < 114 then us 11 (id - 101) else if id < 119 then us 12 (id - 114) else if id < 132 then us 13 (id - 119) else if id < 133 then m0 else if id < 173 then w (id - 133) else o
theorem arrV_cg {c : ClassId} {n : Nat} {f g : Nat → Value} (h : ∀ j, j < n → f j = g j) : arrV c n f = arrV c n g := by
  unfold arrV
  congr 2
  funext j
  exact h j.val j.isLt
theorem at_q {D : va_G} {cl : List vw_C} {x : Nat} {c : ClassId} {n : Nat} {f g : Nat → Option Nat} {H : Heap} (h : va_at D cl (x, .inl (c, n, .inr (.inr (.inr (.inr f))))) H) (e : ∀ j, j < n → f j = g j) : va_at D cl (x, .inl (c, n, .inr (.inr (.inr (.inr g))))) H := Eq.trans h (congrArg some (arrV_cg (fun j hj => congrArg va_rf (e j hj))))
set_option maxHeartbeats 2000000 in
set_option maxRecDepth 20000 in
theorem HX12_ex (w : Nat → Nat) : HX12 w = [.int 0, .ref (w 0), .int 0, .int 0, .ref (w 1), .ref (w 2), .ref (w 3), .int 0, .int 0, .ref (w 4), .ref (w 5), .ref (w 6), .ref (w 7), .ref (w 8), .int 0, .ref (w 9), .ref (w 10), .ref (w 11), .int 0, .int 0, .ref (w 12), .ref (w 13), .ref (w 14), .ref (w 15), .ref (w 16), .ref (w 17), .ref (w 18), .ref (w 19), .int 0, .ref (w 20), .ref (w 21), .ref (w 22), .ref (w 23), .ref (w 24), .ref (w 25), .ref (w 26), .ref (w 27), .ref (w 28), .long 0, .long 0, .ref (w 29), .int 0, .ref (w 30), .ref (w 31), .ref (w 32), .ref (w 33), .ref (w 34), .ref (w 35), .int 0, .ref (w 36), .int 0, .ref (w 37), .ref (w 38), .ref (w 39)] := by
  unfold HX12 dfX12
  simp only [List.set_cons_zero, List.set_cons_succ]
theorem se_0 {D : va_G} {cA : Nat → ClassId} {H : Heap} {a0 m0 o : Nat} {us : Nat → Nat → Nat} {w : Nat → Nat} (h : va_at D vwCl (a0, .inr (11, (GX11 cA us).1)) H) : va_at D vwCl (adOf a0 us m0 w o 0, ent cA (adOf a0 us m0 w o) M0 0) H := h
set_option maxRecDepth 20000 in
theorem se_1 {D : va_G} {cA : Nat → ClassId} {H : Heap} {a0 m0 o : Nat} {us : Nat → Nat → Nat} {w : Nat → Nat} (h : va_P D vwCl (blk 8 FX8 cA [] (us 0)) H) : va_at D vwCl (adOf a0 us m0 w o 1, ent cA (adOf a0 us m0 w o) M0 1) H := h 0 _ rfl
set_option maxRecDepth 20000 in
theorem se_2 {D : va_G} {cA : Nat → ClassId} {H : Heap} {a0 m0 o : Nat} {us : Nat → Nat → Nat} {w : Nat → Nat} (h : va_P D vwCl (blk 8 FX8 cA [] (us 0)) H) : va_at D vwCl (adOf a0 us m0 w o 2, ent cA (adOf a0 us m0 w o) M0 2) H := h 1 _ rfl
set_option maxRecDepth 20000 in
theorem se_3 {D : va_G} {cA : Nat → ClassId} {H : Heap} {a0 m0 o : Nat} {us : Nat → Nat → Nat} {w : Nat → Nat} (h : va_P D vwCl (blk 8 FX8 cA [] (us 0)) H) : va_at D vwCl (adOf a0 us m0 w o 3, ent cA (adOf a0 us m0 w o) M0 3) H := by
  have e : ent cA (adOf a0 us m0 w o) M0 3 = .inl (cA 4, 23, .inr (.inl (tpG 110))) := by
    show (Sum.inl (cA 4, 23, .inr (.inl (fun j : Nat => Int64.ofInt ((tpG 110 j).toInt)))) : va_E) = _
    congr 5
    funext j
    exact Int64.ofInt_toInt _
  rw [e]
  exact h 2 _ rfl
set_option maxRecDepth 20000 in
theorem se_4 {D : va_G} {cA : Nat → ClassId} {H : Heap} {a0 m0 o : Nat} {us : Nat → Nat → Nat} {w : Nat → Nat} (h : va_P D vwCl (blk 6 FX6 cA [us 0 0] (us 1)) H) : va_at D vwCl (adOf a0 us m0 w o 4, ent cA (adOf a0 us m0 w o) M0 4) H := h 0 _ rfl
set_option maxRecDepth 20000 in
theorem se_5 {D : va_G} {cA : Nat → ClassId} {H : Heap} {a0 m0 o : Nat} {us : Nat → Nat → Nat} {w : Nat → Nat} (h : va_P D vwCl (blk 6 FX6 cA [us 0 0] (us 1)) H) : va_at D vwCl (adOf a0 us m0 w o 5, ent cA (adOf a0 us m0 w o) M0 5) H := h 1 _ rfl
set_option maxRecDepth 20000 in
theorem se_6 {D : va_G} {cA : Nat → ClassId} {H : Heap} {a0 m0 o : Nat} {us : Nat → Nat → Nat} {w : Nat → Nat} (h : va_P D vwCl (blk 6 FX6 cA [us 0 0] (us 1)) H) : va_at D vwCl (adOf a0 us m0 w o 6, ent cA (adOf a0 us m0 w o) M0 6) H := h 2 _ rfl
set_option maxRecDepth 20000 in
theorem se_7 {D : va_G} {cA : Nat → ClassId} {H : Heap} {a0 m0 o : Nat} {us : Nat → Nat → Nat} {w : Nat → Nat} (h : va_P D vwCl (blk 6 FX6 cA [us 0 0] (us 1)) H) : va_at D vwCl (adOf a0 us m0 w o 7, ent cA (adOf a0 us m0 w o) M0 7) H := h 3 _ rfl
set_option maxRecDepth 20000 in
theorem se_8 {D : va_G} {cA : Nat → ClassId} {H : Heap} {a0 m0 o : Nat} {us : Nat → Nat → Nat} {w : Nat → Nat} (h : va_P D vwCl (blk 6 FX6 cA [us 0 0] (us 1)) H) : va_at D vwCl (adOf a0 us m0 w o 8, ent cA (adOf a0 us m0 w o) M0 8) H := h 4 _ rfl
set_option maxRecDepth 20000 in
theorem se_9 {D : va_G} {cA : Nat → ClassId} {H : Heap} {a0 m0 o : Nat} {us : Nat → Nat → Nat} {w : Nat → Nat} (h : va_P D vwCl (blk 6 FX6 cA [us 0 0] (us 1)) H) : va_at D vwCl (adOf a0 us m0 w o 9, ent cA (adOf a0 us m0 w o) M0 9) H := h 5 _ rfl
set_option maxRecDepth 20000 in
theorem se_10 {D : va_G} {cA : Nat → ClassId} {H : Heap} {a0 m0 o : Nat} {us : Nat → Nat → Nat} {w : Nat → Nat} (h : va_P D vwCl (blk 6 FX6 cA [us 0 0] (us 1)) H) : va_at D vwCl (adOf a0 us m0 w o 10, ent cA (adOf a0 us m0 w o) M0 10) H := h 6 _ rfl
set_option maxRecDepth 20000 in
theorem se_11 {D : va_G} {cA : Nat → ClassId} {H : Heap} {a0 m0 o : Nat} {us : Nat → Nat → Nat} {w : Nat → Nat} (h : va_P D vwCl (blk 6 FX6 cA [us 0 0] (us 1)) H) : va_at D vwCl (adOf a0 us m0 w o 11, ent cA (adOf a0 us m0 w o) M0 11) H := h 7 _ rfl
set_option maxRecDepth 20000 in
theorem se_12 {D : va_G} {cA : Nat → ClassId} {H : Heap} {a0 m0 o : Nat} {us : Nat → Nat → Nat} {w : Nat → Nat} (h : va_P D vwCl (blk 6 FX6 cA [us 0 0] (us 1)) H) : va_at D vwCl (adOf a0 us m0 w o 12, ent cA (adOf a0 us m0 w o) M0 12) H := h 8 _ rfl
set_option maxRecDepth 20000 in
theorem se_13 {D : va_G} {cA : Nat → ClassId} {H : Heap} {a0 m0 o : Nat} {us : Nat → Nat → Nat} {w : Nat → Nat} (h : va_P D vwCl (blk 6 FX6 cA [us 0 0] (us 1)) H) : va_at D vwCl (adOf a0 us m0 w o 13, ent cA (adOf a0 us m0 w o) M0 13) H := h 9 _ rfl
set_option maxRecDepth 20000 in
theorem se_14 {D : va_G} {cA : Nat → ClassId} {H : Heap} {a0 m0 o : Nat} {us : Nat → Nat → Nat} {w : Nat → Nat} (h : va_P D vwCl (blk 6 FX6 cA [us 0 0] (us 1)) H) : va_at D vwCl (adOf a0 us m0 w o 14, ent cA (adOf a0 us m0 w o) M0 14) H := h 10 _ rfl
set_option maxRecDepth 20000 in
theorem se_15 {D : va_G} {cA : Nat → ClassId} {H : Heap} {a0 m0 o : Nat} {us : Nat → Nat → Nat} {w : Nat → Nat} (h : va_P D vwCl (blk 6 FX6 cA [us 0 0] (us 1)) H) : va_at D vwCl (adOf a0 us m0 w o 15, ent cA (adOf a0 us m0 w o) M0 15) H := h 11 _ rfl
set_option maxRecDepth 20000 in
theorem se_16 {D : va_G} {cA : Nat → ClassId} {H : Heap} {a0 m0 o : Nat} {us : Nat → Nat → Nat} {w : Nat → Nat} (h : va_P D vwCl (blk 6 FX6 cA [us 0 0] (us 1)) H) : va_at D vwCl (adOf a0 us m0 w o 16, ent cA (adOf a0 us m0 w o) M0 16) H := h 12 _ rfl
set_option maxRecDepth 20000 in
theorem se_17 {D : va_G} {cA : Nat → ClassId} {H : Heap} {a0 m0 o : Nat} {us : Nat → Nat → Nat} {w : Nat → Nat} (h : va_P D vwCl (blk 6 FX6 cA [us 0 0] (us 1)) H) : va_at D vwCl (adOf a0 us m0 w o 17, ent cA (adOf a0 us m0 w o) M0 17) H := h 13 _ rfl
set_option maxRecDepth 20000 in
theorem se_18 {D : va_G} {cA : Nat → ClassId} {H : Heap} {a0 m0 o : Nat} {us : Nat → Nat → Nat} {w : Nat → Nat} (h : va_P D vwCl (blk 6 FX6 cA [us 0 0] (us 1)) H) : va_at D vwCl (adOf a0 us m0 w o 18, ent cA (adOf a0 us m0 w o) M0 18) H := h 14 _ rfl
set_option maxRecDepth 20000 in
theorem se_19 {D : va_G} {cA : Nat → ClassId} {H : Heap} {a0 m0 o : Nat} {us : Nat → Nat → Nat} {w : Nat → Nat} (h : va_P D vwCl (blk 6 FX6 cA [us 0 0] (us 1)) H) : va_at D vwCl (adOf a0 us m0 w o 19, ent cA (adOf a0 us m0 w o) M0 19) H := h 15 _ rfl
set_option maxRecDepth 20000 in
theorem se_20 {D : va_G} {cA : Nat → ClassId} {H : Heap} {a0 m0 o : Nat} {us : Nat → Nat → Nat} {w : Nat → Nat} (h : va_P D vwCl (blk 6 FX6 cA [us 0 0] (us 1)) H) : va_at D vwCl (adOf a0 us m0 w o 20, ent cA (adOf a0 us m0 w o) M0 20) H := h 16 _ rfl
set_option maxRecDepth 20000 in
theorem se_21 {D : va_G} {cA : Nat → ClassId} {H : Heap} {a0 m0 o : Nat} {us : Nat → Nat → Nat} {w : Nat → Nat} (h : va_P D vwCl (blk 6 FX6 cA [us 0 0] (us 1)) H) : va_at D vwCl (adOf a0 us m0 w o 21, ent cA (adOf a0 us m0 w o) M0 21) H := h 17 _ rfl
set_option maxRecDepth 20000 in
theorem se_22 {D : va_G} {cA : Nat → ClassId} {H : Heap} {a0 m0 o : Nat} {us : Nat → Nat → Nat} {w : Nat → Nat} (h : va_P D vwCl (blk 10 FX10 cA [] (us 2)) H) : va_at D vwCl (adOf a0 us m0 w o 22, ent cA (adOf a0 us m0 w o) M0 22) H := h 0 _ rfl
set_option maxRecDepth 20000 in
theorem se_23 {D : va_G} {cA : Nat → ClassId} {H : Heap} {a0 m0 o : Nat} {us : Nat → Nat → Nat} {w : Nat → Nat} (h : va_P D vwCl (blk 10 FX10 cA [] (us 2)) H) : va_at D vwCl (adOf a0 us m0 w o 23, ent cA (adOf a0 us m0 w o) M0 23) H := h 1 _ rfl
set_option maxRecDepth 20000 in
theorem se_24 {D : va_G} {cA : Nat → ClassId} {H : Heap} {a0 m0 o : Nat} {us : Nat → Nat → Nat} {w : Nat → Nat} (h : va_P D vwCl (blk 10 FX10 cA [] (us 2)) H) : va_at D vwCl (adOf a0 us m0 w o 24, ent cA (adOf a0 us m0 w o) M0 24) H := h 2 _ rfl
set_option maxRecDepth 20000 in
theorem se_25 {D : va_G} {cA : Nat → ClassId} {H : Heap} {a0 m0 o : Nat} {us : Nat → Nat → Nat} {w : Nat → Nat} (h : va_P D vwCl (blk 10 FX10 cA [] (us 2)) H) : va_at D vwCl (adOf a0 us m0 w o 25, ent cA (adOf a0 us m0 w o) M0 25) H := h 3 _ rfl
set_option maxRecDepth 20000 in
theorem se_26 {D : va_G} {cA : Nat → ClassId} {H : Heap} {a0 m0 o : Nat} {us : Nat → Nat → Nat} {w : Nat → Nat} (h : va_P D vwCl (blk 10 FX10 cA [] (us 2)) H) : va_at D vwCl (adOf a0 us m0 w o 26, ent cA (adOf a0 us m0 w o) M0 26) H := h 4 _ rfl
set_option maxRecDepth 20000 in
theorem se_27 {D : va_G} {cA : Nat → ClassId} {H : Heap} {a0 m0 o : Nat} {us : Nat → Nat → Nat} {w : Nat → Nat} (h : va_P D vwCl (blk 10 FX10 cA [] (us 2)) H) : va_at D vwCl (adOf a0 us m0 w o 27, ent cA (adOf a0 us m0 w o) M0 27) H := h 5 _ rfl
set_option maxRecDepth 20000 in
theorem se_28 {D : va_G} {cA : Nat → ClassId} {H : Heap} {a0 m0 o : Nat} {us : Nat → Nat → Nat} {w : Nat → Nat} (h : va_P D vwCl (blk 10 FX10 cA [] (us 2)) H) : va_at D vwCl (adOf a0 us m0 w o 28, ent cA (adOf a0 us m0 w o) M0 28) H := h 6 _ rfl
set_option maxRecDepth 20000 in
theorem se_29 {D : va_G} {cA : Nat → ClassId} {H : Heap} {a0 m0 o : Nat} {us : Nat → Nat → Nat} {w : Nat → Nat} (h : va_P D vwCl (blk 10 FX10 cA [] (us 2)) H) : va_at D vwCl (adOf a0 us m0 w o 29, ent cA (adOf a0 us m0 w o) M0 29) H := h 7 _ rfl
set_option maxRecDepth 20000 in
theorem se_30 {D : va_G} {cA : Nat → ClassId} {H : Heap} {a0 m0 o : Nat} {us : Nat → Nat → Nat} {w : Nat → Nat} (h : va_P D vwCl (blk 10 FX10 cA [] (us 2)) H) : va_at D vwCl (adOf a0 us m0 w o 30, ent cA (adOf a0 us m0 w o) M0 30) H := h 8 _ rfl
set_option maxRecDepth 20000 in
theorem se_31 {D : va_G} {cA : Nat → ClassId} {H : Heap} {a0 m0 o : Nat} {us : Nat → Nat → Nat} {w : Nat → Nat} (h : va_P D vwCl (blk 10 FX10 cA [] (us 2)) H) : va_at D vwCl (adOf a0 us m0 w o 31, ent cA (adOf a0 us m0 w o) M0 31) H := by
  show va_at D vwCl (adOf a0 us m0 w o 31, .inl (cA 5, 4, .inr (.inr (.inr (.inr (fun j : Nat => some (adOf a0 us m0 w o (M0 31 j).toNat))))))) H
  refine at_q (h 9 _ rfl) (fun j hj => ?_)
  match j, hj with
  | 0, _ => rfl
  | 1, _ => rfl
  | 2, _ => rfl
  | 3, _ => rfl
  | j + 4, hj => exact absurd hj (by omega)
set_option maxRecDepth 20000 in
theorem se_32 {D : va_G} {cA : Nat → ClassId} {H : Heap} {a0 m0 o : Nat} {us : Nat → Nat → Nat} {w : Nat → Nat} (h : va_P D vwCl (blk 10 FX10 cA [] (us 2)) H) : va_at D vwCl (adOf a0 us m0 w o 32, ent cA (adOf a0 us m0 w o) M0 32) H := h 10 _ rfl
set_option maxRecDepth 20000 in
theorem se_33 {D : va_G} {cA : Nat → ClassId} {H : Heap} {a0 m0 o : Nat} {us : Nat → Nat → Nat} {w : Nat → Nat} (h : va_P D vwCl (blk 10 FX10 cA [] (us 2)) H) : va_at D vwCl (adOf a0 us m0 w o 33, ent cA (adOf a0 us m0 w o) M0 33) H := h 11 _ rfl
set_option maxRecDepth 20000 in
theorem se_34 {D : va_G} {cA : Nat → ClassId} {H : Heap} {a0 m0 o : Nat} {us : Nat → Nat → Nat} {w : Nat → Nat} (h : va_P D vwCl (blk 10 FX10 cA [] (us 2)) H) : va_at D vwCl (adOf a0 us m0 w o 34, ent cA (adOf a0 us m0 w o) M0 34) H := h 12 _ rfl
set_option maxRecDepth 20000 in
theorem se_35 {D : va_G} {cA : Nat → ClassId} {H : Heap} {a0 m0 o : Nat} {us : Nat → Nat → Nat} {w : Nat → Nat} (h : va_P D vwCl (blk 10 FX10 cA [] (us 2)) H) : va_at D vwCl (adOf a0 us m0 w o 35, ent cA (adOf a0 us m0 w o) M0 35) H := h 13 _ rfl
set_option maxRecDepth 20000 in
theorem se_36 {D : va_G} {cA : Nat → ClassId} {H : Heap} {a0 m0 o : Nat} {us : Nat → Nat → Nat} {w : Nat → Nat} (h : va_P D vwCl (blk 10 FX10 cA [] (us 2)) H) : va_at D vwCl (adOf a0 us m0 w o 36, ent cA (adOf a0 us m0 w o) M0 36) H := by
  show va_at D vwCl (adOf a0 us m0 w o 36, .inl (cA 5, 4, .inr (.inr (.inr (.inr (fun j : Nat => some (adOf a0 us m0 w o (M0 36 j).toNat))))))) H
  refine at_q (h 14 _ rfl) (fun j hj => ?_)
  match j, hj with
  | 0, _ => rfl
  | 1, _ => rfl
  | 2, _ => rfl
  | 3, _ => rfl
  | j + 4, hj => exact absurd hj (by omega)
set_option maxRecDepth 20000 in
theorem se_37 {D : va_G} {cA : Nat → ClassId} {H : Heap} {a0 m0 o : Nat} {us : Nat → Nat → Nat} {w : Nat → Nat} (h : va_P D vwCl (blk 10 FX10 cA [] (us 2)) H) : va_at D vwCl (adOf a0 us m0 w o 37, ent cA (adOf a0 us m0 w o) M0 37) H := h 15 _ rfl
set_option maxRecDepth 20000 in
theorem se_38 {D : va_G} {cA : Nat → ClassId} {H : Heap} {a0 m0 o : Nat} {us : Nat → Nat → Nat} {w : Nat → Nat} (h : va_P D vwCl (blk 10 FX10 cA [] (us 2)) H) : va_at D vwCl (adOf a0 us m0 w o 38, ent cA (adOf a0 us m0 w o) M0 38) H := h 16 _ rfl
set_option maxRecDepth 20000 in
theorem se_39 {D : va_G} {cA : Nat → ClassId} {H : Heap} {a0 m0 o : Nat} {us : Nat → Nat → Nat} {w : Nat → Nat} (h : va_P D vwCl (blk 10 FX10 cA [] (us 2)) H) : va_at D vwCl (adOf a0 us m0 w o 39, ent cA (adOf a0 us m0 w o) M0 39) H := h 17 _ rfl
set_option maxRecDepth 20000 in
theorem se_40 {D : va_G} {cA : Nat → ClassId} {H : Heap} {a0 m0 o : Nat} {us : Nat → Nat → Nat} {w : Nat → Nat} (h : va_P D vwCl (blk 10 FX10 cA [] (us 2)) H) : va_at D vwCl (adOf a0 us m0 w o 40, ent cA (adOf a0 us m0 w o) M0 40) H := h 18 _ rfl
set_option maxRecDepth 20000 in
theorem se_41 {D : va_G} {cA : Nat → ClassId} {H : Heap} {a0 m0 o : Nat} {us : Nat → Nat → Nat} {w : Nat → Nat} (h : va_P D vwCl (blk 10 FX10 cA [] (us 2)) H) : va_at D vwCl (adOf a0 us m0 w o 41, ent cA (adOf a0 us m0 w o) M0 41) H := h 19 _ rfl
set_option maxRecDepth 20000 in
theorem se_42 {D : va_G} {cA : Nat → ClassId} {H : Heap} {a0 m0 o : Nat} {us : Nat → Nat → Nat} {w : Nat → Nat} (h : va_P D vwCl (blk 10 FX10 cA [] (us 2)) H) : va_at D vwCl (adOf a0 us m0 w o 42, ent cA (adOf a0 us m0 w o) M0 42) H := h 20 _ rfl
set_option maxRecDepth 20000 in
theorem se_43 {D : va_G} {cA : Nat → ClassId} {H : Heap} {a0 m0 o : Nat} {us : Nat → Nat → Nat} {w : Nat → Nat} (h : va_P D vwCl (blk 10 FX10 cA [] (us 2)) H) : va_at D vwCl (adOf a0 us m0 w o 43, ent cA (adOf a0 us m0 w o) M0 43) H := h 21 _ rfl
set_option maxRecDepth 20000 in
theorem se_44 {D : va_G} {cA : Nat → ClassId} {H : Heap} {a0 m0 o : Nat} {us : Nat → Nat → Nat} {w : Nat → Nat} (h : va_P D vwCl (blk 9 FX9 cA [] (us 3)) H) : va_at D vwCl (adOf a0 us m0 w o 44, ent cA (adOf a0 us m0 w o) M0 44) H := h 0 _ rfl
set_option maxRecDepth 20000 in
theorem se_45 {D : va_G} {cA : Nat → ClassId} {H : Heap} {a0 m0 o : Nat} {us : Nat → Nat → Nat} {w : Nat → Nat} (h : va_P D vwCl (blk 9 FX9 cA [] (us 3)) H) : va_at D vwCl (adOf a0 us m0 w o 45, ent cA (adOf a0 us m0 w o) M0 45) H := h 1 _ rfl
set_option maxRecDepth 20000 in
theorem se_46 {D : va_G} {cA : Nat → ClassId} {H : Heap} {a0 m0 o : Nat} {us : Nat → Nat → Nat} {w : Nat → Nat} (h : va_P D vwCl (blk 9 FX9 cA [] (us 3)) H) : va_at D vwCl (adOf a0 us m0 w o 46, ent cA (adOf a0 us m0 w o) M0 46) H := h 2 _ rfl
set_option maxRecDepth 20000 in
theorem se_47 {D : va_G} {cA : Nat → ClassId} {H : Heap} {a0 m0 o : Nat} {us : Nat → Nat → Nat} {w : Nat → Nat} (h : va_P D vwCl (blk 9 FX9 cA [] (us 3)) H) : va_at D vwCl (adOf a0 us m0 w o 47, ent cA (adOf a0 us m0 w o) M0 47) H := h 3 _ rfl
set_option maxRecDepth 20000 in
theorem se_48 {D : va_G} {cA : Nat → ClassId} {H : Heap} {a0 m0 o : Nat} {us : Nat → Nat → Nat} {w : Nat → Nat} (h : va_P D vwCl (blk 9 FX9 cA [] (us 3)) H) : va_at D vwCl (adOf a0 us m0 w o 48, ent cA (adOf a0 us m0 w o) M0 48) H := h 4 _ rfl
set_option maxRecDepth 20000 in
theorem se_49 {D : va_G} {cA : Nat → ClassId} {H : Heap} {a0 m0 o : Nat} {us : Nat → Nat → Nat} {w : Nat → Nat} (h : va_P D vwCl (blk 9 FX9 cA [] (us 3)) H) : va_at D vwCl (adOf a0 us m0 w o 49, ent cA (adOf a0 us m0 w o) M0 49) H := h 5 _ rfl
set_option maxRecDepth 20000 in
theorem se_50 {D : va_G} {cA : Nat → ClassId} {H : Heap} {a0 m0 o : Nat} {us : Nat → Nat → Nat} {w : Nat → Nat} (h : va_P D vwCl (blk 9 FX9 cA [] (us 3)) H) : va_at D vwCl (adOf a0 us m0 w o 50, ent cA (adOf a0 us m0 w o) M0 50) H := h 6 _ rfl
set_option maxRecDepth 20000 in
theorem se_51 {D : va_G} {cA : Nat → ClassId} {H : Heap} {a0 m0 o : Nat} {us : Nat → Nat → Nat} {w : Nat → Nat} (h : va_P D vwCl (blk 0 FX0 cA [] (us 4)) H) : va_at D vwCl (adOf a0 us m0 w o 51, ent cA (adOf a0 us m0 w o) M0 51) H := h 0 _ rfl
set_option maxRecDepth 20000 in
theorem se_52 {D : va_G} {cA : Nat → ClassId} {H : Heap} {a0 m0 o : Nat} {us : Nat → Nat → Nat} {w : Nat → Nat} (h : va_P D vwCl (blk 0 FX0 cA [] (us 4)) H) : va_at D vwCl (adOf a0 us m0 w o 52, ent cA (adOf a0 us m0 w o) M0 52) H := h 1 _ rfl
set_option maxRecDepth 20000 in
theorem se_53 {D : va_G} {cA : Nat → ClassId} {H : Heap} {a0 m0 o : Nat} {us : Nat → Nat → Nat} {w : Nat → Nat} (h : va_P D vwCl (blk 0 FX0 cA [] (us 4)) H) : va_at D vwCl (adOf a0 us m0 w o 53, ent cA (adOf a0 us m0 w o) M0 53) H := h 2 _ rfl
set_option maxRecDepth 20000 in
theorem se_54 {D : va_G} {cA : Nat → ClassId} {H : Heap} {a0 m0 o : Nat} {us : Nat → Nat → Nat} {w : Nat → Nat} (h : va_P D vwCl (blk 0 FX0 cA [] (us 4)) H) : va_at D vwCl (adOf a0 us m0 w o 54, ent cA (adOf a0 us m0 w o) M0 54) H := h 3 _ rfl
set_option maxRecDepth 20000 in
theorem se_55 {D : va_G} {cA : Nat → ClassId} {H : Heap} {a0 m0 o : Nat} {us : Nat → Nat → Nat} {w : Nat → Nat} (h : va_P D vwCl (blk 0 FX0 cA [] (us 4)) H) : va_at D vwCl (adOf a0 us m0 w o 55, ent cA (adOf a0 us m0 w o) M0 55) H := h 4 _ rfl
set_option maxRecDepth 20000 in
theorem se_56 {D : va_G} {cA : Nat → ClassId} {H : Heap} {a0 m0 o : Nat} {us : Nat → Nat → Nat} {w : Nat → Nat} (h : va_P D vwCl (blk 4 FX4 cA [us 4 0] (us 5)) H) : va_at D vwCl (adOf a0 us m0 w o 56, ent cA (adOf a0 us m0 w o) M0 56) H := h 0 _ rfl
set_option maxRecDepth 20000 in
theorem se_57 {D : va_G} {cA : Nat → ClassId} {H : Heap} {a0 m0 o : Nat} {us : Nat → Nat → Nat} {w : Nat → Nat} (h : va_P D vwCl (blk 4 FX4 cA [us 4 0] (us 5)) H) : va_at D vwCl (adOf a0 us m0 w o 57, ent cA (adOf a0 us m0 w o) M0 57) H := h 1 _ rfl
set_option maxRecDepth 20000 in
theorem se_58 {D : va_G} {cA : Nat → ClassId} {H : Heap} {a0 m0 o : Nat} {us : Nat → Nat → Nat} {w : Nat → Nat} (h : va_P D vwCl (blk 4 FX4 cA [us 4 0] (us 5)) H) : va_at D vwCl (adOf a0 us m0 w o 58, ent cA (adOf a0 us m0 w o) M0 58) H := h 2 _ rfl
set_option maxRecDepth 20000 in
theorem se_59 {D : va_G} {cA : Nat → ClassId} {H : Heap} {a0 m0 o : Nat} {us : Nat → Nat → Nat} {w : Nat → Nat} (h : va_P D vwCl (blk 4 FX4 cA [us 4 0] (us 5)) H) : va_at D vwCl (adOf a0 us m0 w o 59, ent cA (adOf a0 us m0 w o) M0 59) H := h 3 _ rfl
set_option maxRecDepth 20000 in
theorem se_60 {D : va_G} {cA : Nat → ClassId} {H : Heap} {a0 m0 o : Nat} {us : Nat → Nat → Nat} {w : Nat → Nat} (h : va_P D vwCl (blk 4 FX4 cA [us 4 0] (us 5)) H) : va_at D vwCl (adOf a0 us m0 w o 60, ent cA (adOf a0 us m0 w o) M0 60) H := h 4 _ rfl
set_option maxRecDepth 20000 in
theorem se_61 {D : va_G} {cA : Nat → ClassId} {H : Heap} {a0 m0 o : Nat} {us : Nat → Nat → Nat} {w : Nat → Nat} (h : va_P D vwCl (blk 4 FX4 cA [us 4 0] (us 5)) H) : va_at D vwCl (adOf a0 us m0 w o 61, ent cA (adOf a0 us m0 w o) M0 61) H := h 5 _ rfl
set_option maxRecDepth 20000 in
theorem se_62 {D : va_G} {cA : Nat → ClassId} {H : Heap} {a0 m0 o : Nat} {us : Nat → Nat → Nat} {w : Nat → Nat} (h : va_P D vwCl (blk 2 FX2 cA [us 3 0] (us 6)) H) : va_at D vwCl (adOf a0 us m0 w o 62, ent cA (adOf a0 us m0 w o) M0 62) H := h 0 _ rfl
set_option maxRecDepth 20000 in
theorem se_63 {D : va_G} {cA : Nat → ClassId} {H : Heap} {a0 m0 o : Nat} {us : Nat → Nat → Nat} {w : Nat → Nat} (h : va_P D vwCl (blk 2 FX2 cA [us 3 0] (us 6)) H) : va_at D vwCl (adOf a0 us m0 w o 63, ent cA (adOf a0 us m0 w o) M0 63) H := h 1 _ rfl
set_option maxRecDepth 20000 in
theorem se_64 {D : va_G} {cA : Nat → ClassId} {H : Heap} {a0 m0 o : Nat} {us : Nat → Nat → Nat} {w : Nat → Nat} (h : va_P D vwCl (blk 2 FX2 cA [us 3 0] (us 6)) H) : va_at D vwCl (adOf a0 us m0 w o 64, ent cA (adOf a0 us m0 w o) M0 64) H := h 2 _ rfl
set_option maxRecDepth 20000 in
theorem se_65 {D : va_G} {cA : Nat → ClassId} {H : Heap} {a0 m0 o : Nat} {us : Nat → Nat → Nat} {w : Nat → Nat} (h : va_P D vwCl (blk 2 FX2 cA [us 3 0] (us 6)) H) : va_at D vwCl (adOf a0 us m0 w o 65, ent cA (adOf a0 us m0 w o) M0 65) H := h 3 _ rfl
set_option maxRecDepth 20000 in
theorem se_66 {D : va_G} {cA : Nat → ClassId} {H : Heap} {a0 m0 o : Nat} {us : Nat → Nat → Nat} {w : Nat → Nat} (h : va_P D vwCl (blk 5 FX5 cA [us 3 0, us 6 0] (us 7)) H) : va_at D vwCl (adOf a0 us m0 w o 66, ent cA (adOf a0 us m0 w o) M0 66) H := h 0 _ rfl
set_option maxRecDepth 20000 in
theorem se_67 {D : va_G} {cA : Nat → ClassId} {H : Heap} {a0 m0 o : Nat} {us : Nat → Nat → Nat} {w : Nat → Nat} (h : va_P D vwCl (blk 5 FX5 cA [us 3 0, us 6 0] (us 7)) H) : va_at D vwCl (adOf a0 us m0 w o 67, ent cA (adOf a0 us m0 w o) M0 67) H := h 1 _ rfl
set_option maxRecDepth 20000 in
theorem se_68 {D : va_G} {cA : Nat → ClassId} {H : Heap} {a0 m0 o : Nat} {us : Nat → Nat → Nat} {w : Nat → Nat} (h : va_P D vwCl (blk 5 FX5 cA [us 3 0, us 6 0] (us 7)) H) : va_at D vwCl (adOf a0 us m0 w o 68, ent cA (adOf a0 us m0 w o) M0 68) H := h 2 _ rfl
set_option maxRecDepth 20000 in
theorem se_69 {D : va_G} {cA : Nat → ClassId} {H : Heap} {a0 m0 o : Nat} {us : Nat → Nat → Nat} {w : Nat → Nat} (h : va_P D vwCl (blk 5 FX5 cA [us 3 0, us 6 0] (us 7)) H) : va_at D vwCl (adOf a0 us m0 w o 69, ent cA (adOf a0 us m0 w o) M0 69) H := h 3 _ rfl
set_option maxRecDepth 20000 in
theorem se_70 {D : va_G} {cA : Nat → ClassId} {H : Heap} {a0 m0 o : Nat} {us : Nat → Nat → Nat} {w : Nat → Nat} (h : va_P D vwCl (blk 5 FX5 cA [us 3 0, us 6 0] (us 7)) H) : va_at D vwCl (adOf a0 us m0 w o 70, ent cA (adOf a0 us m0 w o) M0 70) H := h 4 _ rfl
set_option maxRecDepth 20000 in
theorem se_71 {D : va_G} {cA : Nat → ClassId} {H : Heap} {a0 m0 o : Nat} {us : Nat → Nat → Nat} {w : Nat → Nat} (h : va_P D vwCl (blk 5 FX5 cA [us 3 0, us 6 0] (us 7)) H) : va_at D vwCl (adOf a0 us m0 w o 71, ent cA (adOf a0 us m0 w o) M0 71) H := h 5 _ rfl
set_option maxRecDepth 20000 in
theorem se_72 {D : va_G} {cA : Nat → ClassId} {H : Heap} {a0 m0 o : Nat} {us : Nat → Nat → Nat} {w : Nat → Nat} (h : va_P D vwCl (blk 5 FX5 cA [us 3 0, us 6 0] (us 7)) H) : va_at D vwCl (adOf a0 us m0 w o 72, ent cA (adOf a0 us m0 w o) M0 72) H := h 6 _ rfl
set_option maxRecDepth 20000 in
theorem se_73 {D : va_G} {cA : Nat → ClassId} {H : Heap} {a0 m0 o : Nat} {us : Nat → Nat → Nat} {w : Nat → Nat} (h : va_P D vwCl (blk 5 FX5 cA [us 3 0, us 6 0] (us 7)) H) : va_at D vwCl (adOf a0 us m0 w o 73, ent cA (adOf a0 us m0 w o) M0 73) H := h 7 _ rfl
set_option maxRecDepth 20000 in
theorem se_74 {D : va_G} {cA : Nat → ClassId} {H : Heap} {a0 m0 o : Nat} {us : Nat → Nat → Nat} {w : Nat → Nat} (h : va_P D vwCl (blk 5 FX5 cA [us 3 0, us 6 0] (us 7)) H) : va_at D vwCl (adOf a0 us m0 w o 74, ent cA (adOf a0 us m0 w o) M0 74) H := h 8 _ rfl
set_option maxRecDepth 20000 in
theorem se_75 {D : va_G} {cA : Nat → ClassId} {H : Heap} {a0 m0 o : Nat} {us : Nat → Nat → Nat} {w : Nat → Nat} (h : va_P D vwCl (blk 7 FX7 cA [us 3 0, us 6 0, us 7 0] (us 8)) H) : va_at D vwCl (adOf a0 us m0 w o 75, ent cA (adOf a0 us m0 w o) M0 75) H := h 0 _ rfl
set_option maxRecDepth 20000 in
theorem se_76 {D : va_G} {cA : Nat → ClassId} {H : Heap} {a0 m0 o : Nat} {us : Nat → Nat → Nat} {w : Nat → Nat} (h : va_P D vwCl (blk 7 FX7 cA [us 3 0, us 6 0, us 7 0] (us 8)) H) : va_at D vwCl (adOf a0 us m0 w o 76, ent cA (adOf a0 us m0 w o) M0 76) H := h 1 _ rfl
set_option maxRecDepth 20000 in
theorem se_77 {D : va_G} {cA : Nat → ClassId} {H : Heap} {a0 m0 o : Nat} {us : Nat → Nat → Nat} {w : Nat → Nat} (h : va_P D vwCl (blk 7 FX7 cA [us 3 0, us 6 0, us 7 0] (us 8)) H) : va_at D vwCl (adOf a0 us m0 w o 77, ent cA (adOf a0 us m0 w o) M0 77) H := h 2 _ rfl
set_option maxRecDepth 20000 in
theorem se_78 {D : va_G} {cA : Nat → ClassId} {H : Heap} {a0 m0 o : Nat} {us : Nat → Nat → Nat} {w : Nat → Nat} (h : va_P D vwCl (blk 7 FX7 cA [us 3 0, us 6 0, us 7 0] (us 8)) H) : va_at D vwCl (adOf a0 us m0 w o 78, ent cA (adOf a0 us m0 w o) M0 78) H := h 3 _ rfl
set_option maxRecDepth 20000 in
theorem se_79 {D : va_G} {cA : Nat → ClassId} {H : Heap} {a0 m0 o : Nat} {us : Nat → Nat → Nat} {w : Nat → Nat} (h : va_P D vwCl (blk 7 FX7 cA [us 3 0, us 6 0, us 7 0] (us 8)) H) : va_at D vwCl (adOf a0 us m0 w o 79, ent cA (adOf a0 us m0 w o) M0 79) H := h 4 _ rfl
set_option maxRecDepth 20000 in
theorem se_80 {D : va_G} {cA : Nat → ClassId} {H : Heap} {a0 m0 o : Nat} {us : Nat → Nat → Nat} {w : Nat → Nat} (h : va_P D vwCl (blk 7 FX7 cA [us 3 0, us 6 0, us 7 0] (us 8)) H) : va_at D vwCl (adOf a0 us m0 w o 80, ent cA (adOf a0 us m0 w o) M0 80) H := h 5 _ rfl
set_option maxRecDepth 20000 in
theorem se_81 {D : va_G} {cA : Nat → ClassId} {H : Heap} {a0 m0 o : Nat} {us : Nat → Nat → Nat} {w : Nat → Nat} (h : va_P D vwCl (blk 7 FX7 cA [us 3 0, us 6 0, us 7 0] (us 8)) H) : va_at D vwCl (adOf a0 us m0 w o 81, ent cA (adOf a0 us m0 w o) M0 81) H := h 6 _ rfl
set_option maxRecDepth 20000 in
theorem se_82 {D : va_G} {cA : Nat → ClassId} {H : Heap} {a0 m0 o : Nat} {us : Nat → Nat → Nat} {w : Nat → Nat} (h : va_P D vwCl (blk 7 FX7 cA [us 3 0, us 6 0, us 7 0] (us 8)) H) : va_at D vwCl (adOf a0 us m0 w o 82, ent cA (adOf a0 us m0 w o) M0 82) H := h 7 _ rfl
set_option maxRecDepth 20000 in
theorem se_83 {D : va_G} {cA : Nat → ClassId} {H : Heap} {a0 m0 o : Nat} {us : Nat → Nat → Nat} {w : Nat → Nat} (h : va_P D vwCl (blk 7 FX7 cA [us 3 0, us 6 0, us 7 0] (us 8)) H) : va_at D vwCl (adOf a0 us m0 w o 83, ent cA (adOf a0 us m0 w o) M0 83) H := h 8 _ rfl
set_option maxRecDepth 20000 in
theorem se_84 {D : va_G} {cA : Nat → ClassId} {H : Heap} {a0 m0 o : Nat} {us : Nat → Nat → Nat} {w : Nat → Nat} (h : va_P D vwCl (blk 7 FX7 cA [us 3 0, us 6 0, us 7 0] (us 8)) H) : va_at D vwCl (adOf a0 us m0 w o 84, ent cA (adOf a0 us m0 w o) M0 84) H := h 9 _ rfl
set_option maxRecDepth 20000 in
theorem se_85 {D : va_G} {cA : Nat → ClassId} {H : Heap} {a0 m0 o : Nat} {us : Nat → Nat → Nat} {w : Nat → Nat} (h : va_P D vwCl (blk 7 FX7 cA [us 3 0, us 6 0, us 7 0] (us 8)) H) : va_at D vwCl (adOf a0 us m0 w o 85, ent cA (adOf a0 us m0 w o) M0 85) H := h 10 _ rfl
set_option maxRecDepth 20000 in
theorem se_86 {D : va_G} {cA : Nat → ClassId} {H : Heap} {a0 m0 o : Nat} {us : Nat → Nat → Nat} {w : Nat → Nat} (h : va_P D vwCl (blk 7 FX7 cA [us 3 0, us 6 0, us 7 0] (us 8)) H) : va_at D vwCl (adOf a0 us m0 w o 86, ent cA (adOf a0 us m0 w o) M0 86) H := h 11 _ rfl
set_option maxRecDepth 20000 in
theorem se_87 {D : va_G} {cA : Nat → ClassId} {H : Heap} {a0 m0 o : Nat} {us : Nat → Nat → Nat} {w : Nat → Nat} (h : va_P D vwCl (blk 7 FX7 cA [us 3 0, us 6 0, us 7 0] (us 8)) H) : va_at D vwCl (adOf a0 us m0 w o 87, ent cA (adOf a0 us m0 w o) M0 87) H := h 12 _ rfl
set_option maxRecDepth 20000 in
theorem se_88 {D : va_G} {cA : Nat → ClassId} {H : Heap} {a0 m0 o : Nat} {us : Nat → Nat → Nat} {w : Nat → Nat} (h : va_P D vwCl (blk 2 FX2 cA [us 3 0] (us 9)) H) : va_at D vwCl (adOf a0 us m0 w o 88, ent cA (adOf a0 us m0 w o) M0 88) H := h 0 _ rfl
set_option maxRecDepth 20000 in
theorem se_89 {D : va_G} {cA : Nat → ClassId} {H : Heap} {a0 m0 o : Nat} {us : Nat → Nat → Nat} {w : Nat → Nat} (h : va_P D vwCl (blk 2 FX2 cA [us 3 0] (us 9)) H) : va_at D vwCl (adOf a0 us m0 w o 89, ent cA (adOf a0 us m0 w o) M0 89) H := h 1 _ rfl
set_option maxRecDepth 20000 in
theorem se_90 {D : va_G} {cA : Nat → ClassId} {H : Heap} {a0 m0 o : Nat} {us : Nat → Nat → Nat} {w : Nat → Nat} (h : va_P D vwCl (blk 2 FX2 cA [us 3 0] (us 9)) H) : va_at D vwCl (adOf a0 us m0 w o 90, ent cA (adOf a0 us m0 w o) M0 90) H := h 2 _ rfl
set_option maxRecDepth 20000 in
theorem se_91 {D : va_G} {cA : Nat → ClassId} {H : Heap} {a0 m0 o : Nat} {us : Nat → Nat → Nat} {w : Nat → Nat} (h : va_P D vwCl (blk 2 FX2 cA [us 3 0] (us 9)) H) : va_at D vwCl (adOf a0 us m0 w o 91, ent cA (adOf a0 us m0 w o) M0 91) H := h 3 _ rfl
set_option maxRecDepth 20000 in
theorem se_92 {D : va_G} {cA : Nat → ClassId} {H : Heap} {a0 m0 o : Nat} {us : Nat → Nat → Nat} {w : Nat → Nat} (h : va_P D vwCl (blk 5 FX5 cA [us 3 0, us 9 0] (us 10)) H) : va_at D vwCl (adOf a0 us m0 w o 92, ent cA (adOf a0 us m0 w o) M0 92) H := h 0 _ rfl
set_option maxRecDepth 20000 in
theorem se_93 {D : va_G} {cA : Nat → ClassId} {H : Heap} {a0 m0 o : Nat} {us : Nat → Nat → Nat} {w : Nat → Nat} (h : va_P D vwCl (blk 5 FX5 cA [us 3 0, us 9 0] (us 10)) H) : va_at D vwCl (adOf a0 us m0 w o 93, ent cA (adOf a0 us m0 w o) M0 93) H := h 1 _ rfl
set_option maxRecDepth 20000 in
theorem se_94 {D : va_G} {cA : Nat → ClassId} {H : Heap} {a0 m0 o : Nat} {us : Nat → Nat → Nat} {w : Nat → Nat} (h : va_P D vwCl (blk 5 FX5 cA [us 3 0, us 9 0] (us 10)) H) : va_at D vwCl (adOf a0 us m0 w o 94, ent cA (adOf a0 us m0 w o) M0 94) H := h 2 _ rfl
set_option maxRecDepth 20000 in
theorem se_95 {D : va_G} {cA : Nat → ClassId} {H : Heap} {a0 m0 o : Nat} {us : Nat → Nat → Nat} {w : Nat → Nat} (h : va_P D vwCl (blk 5 FX5 cA [us 3 0, us 9 0] (us 10)) H) : va_at D vwCl (adOf a0 us m0 w o 95, ent cA (adOf a0 us m0 w o) M0 95) H := h 3 _ rfl
set_option maxRecDepth 20000 in
theorem se_96 {D : va_G} {cA : Nat → ClassId} {H : Heap} {a0 m0 o : Nat} {us : Nat → Nat → Nat} {w : Nat → Nat} (h : va_P D vwCl (blk 5 FX5 cA [us 3 0, us 9 0] (us 10)) H) : va_at D vwCl (adOf a0 us m0 w o 96, ent cA (adOf a0 us m0 w o) M0 96) H := h 4 _ rfl
set_option maxRecDepth 20000 in
theorem se_97 {D : va_G} {cA : Nat → ClassId} {H : Heap} {a0 m0 o : Nat} {us : Nat → Nat → Nat} {w : Nat → Nat} (h : va_P D vwCl (blk 5 FX5 cA [us 3 0, us 9 0] (us 10)) H) : va_at D vwCl (adOf a0 us m0 w o 97, ent cA (adOf a0 us m0 w o) M0 97) H := h 5 _ rfl
set_option maxRecDepth 20000 in
theorem se_98 {D : va_G} {cA : Nat → ClassId} {H : Heap} {a0 m0 o : Nat} {us : Nat → Nat → Nat} {w : Nat → Nat} (h : va_P D vwCl (blk 5 FX5 cA [us 3 0, us 9 0] (us 10)) H) : va_at D vwCl (adOf a0 us m0 w o 98, ent cA (adOf a0 us m0 w o) M0 98) H := h 6 _ rfl
set_option maxRecDepth 20000 in
theorem se_99 {D : va_G} {cA : Nat → ClassId} {H : Heap} {a0 m0 o : Nat} {us : Nat → Nat → Nat} {w : Nat → Nat} (h : va_P D vwCl (blk 5 FX5 cA [us 3 0, us 9 0] (us 10)) H) : va_at D vwCl (adOf a0 us m0 w o 99, ent cA (adOf a0 us m0 w o) M0 99) H := h 7 _ rfl
set_option maxRecDepth 20000 in
theorem se_100 {D : va_G} {cA : Nat → ClassId} {H : Heap} {a0 m0 o : Nat} {us : Nat → Nat → Nat} {w : Nat → Nat} (h : va_P D vwCl (blk 5 FX5 cA [us 3 0, us 9 0] (us 10)) H) : va_at D vwCl (adOf a0 us m0 w o 100, ent cA (adOf a0 us m0 w o) M0 100) H := h 8 _ rfl
set_option maxRecDepth 20000 in
theorem se_101 {D : va_G} {cA : Nat → ClassId} {H : Heap} {a0 m0 o : Nat} {us : Nat → Nat → Nat} {w : Nat → Nat} (h : va_P D vwCl (blk 7 FX7 cA [us 3 0, us 9 0, us 10 0] (us 11)) H) : va_at D vwCl (adOf a0 us m0 w o 101, ent cA (adOf a0 us m0 w o) M0 101) H := h 0 _ rfl
set_option maxRecDepth 20000 in
theorem se_102 {D : va_G} {cA : Nat → ClassId} {H : Heap} {a0 m0 o : Nat} {us : Nat → Nat → Nat} {w : Nat → Nat} (h : va_P D vwCl (blk 7 FX7 cA [us 3 0, us 9 0, us 10 0] (us 11)) H) : va_at D vwCl (adOf a0 us m0 w o 102, ent cA (adOf a0 us m0 w o) M0 102) H := h 1 _ rfl
set_option maxRecDepth 20000 in
theorem se_103 {D : va_G} {cA : Nat → ClassId} {H : Heap} {a0 m0 o : Nat} {us : Nat → Nat → Nat} {w : Nat → Nat} (h : va_P D vwCl (blk 7 FX7 cA [us 3 0, us 9 0, us 10 0] (us 11)) H) : va_at D vwCl (adOf a0 us m0 w o 103, ent cA (adOf a0 us m0 w o) M0 103) H := h 2 _ rfl
set_option maxRecDepth 20000 in
theorem se_104 {D : va_G} {cA : Nat → ClassId} {H : Heap} {a0 m0 o : Nat} {us : Nat → Nat → Nat} {w : Nat → Nat} (h : va_P D vwCl (blk 7 FX7 cA [us 3 0, us 9 0, us 10 0] (us 11)) H) : va_at D vwCl (adOf a0 us m0 w o 104, ent cA (adOf a0 us m0 w o) M0 104) H := h 3 _ rfl
set_option maxRecDepth 20000 in
theorem se_105 {D : va_G} {cA : Nat → ClassId} {H : Heap} {a0 m0 o : Nat} {us : Nat → Nat → Nat} {w : Nat → Nat} (h : va_P D vwCl (blk 7 FX7 cA [us 3 0, us 9 0, us 10 0] (us 11)) H) : va_at D vwCl (adOf a0 us m0 w o 105, ent cA (adOf a0 us m0 w o) M0 105) H := h 4 _ rfl
set_option maxRecDepth 20000 in
theorem se_106 {D : va_G} {cA : Nat → ClassId} {H : Heap} {a0 m0 o : Nat} {us : Nat → Nat → Nat} {w : Nat → Nat} (h : va_P D vwCl (blk 7 FX7 cA [us 3 0, us 9 0, us 10 0] (us 11)) H) : va_at D vwCl (adOf a0 us m0 w o 106, ent cA (adOf a0 us m0 w o) M0 106) H := h 5 _ rfl
set_option maxRecDepth 20000 in
theorem se_107 {D : va_G} {cA : Nat → ClassId} {H : Heap} {a0 m0 o : Nat} {us : Nat → Nat → Nat} {w : Nat → Nat} (h : va_P D vwCl (blk 7 FX7 cA [us 3 0, us 9 0, us 10 0] (us 11)) H) : va_at D vwCl (adOf a0 us m0 w o 107, ent cA (adOf a0 us m0 w o) M0 107) H := h 6 _ rfl
set_option maxRecDepth 20000 in
theorem se_108 {D : va_G} {cA : Nat → ClassId} {H : Heap} {a0 m0 o : Nat} {us : Nat → Nat → Nat} {w : Nat → Nat} (h : va_P D vwCl (blk 7 FX7 cA [us 3 0, us 9 0, us 10 0] (us 11)) H) : va_at D vwCl (adOf a0 us m0 w o 108, ent cA (adOf a0 us m0 w o) M0 108) H := h 7 _ rfl
set_option maxRecDepth 20000 in
theorem se_109 {D : va_G} {cA : Nat → ClassId} {H : Heap} {a0 m0 o : Nat} {us : Nat → Nat → Nat} {w : Nat → Nat} (h : va_P D vwCl (blk 7 FX7 cA [us 3 0, us 9 0, us 10 0] (us 11)) H) : va_at D vwCl (adOf a0 us m0 w o 109, ent cA (adOf a0 us m0 w o) M0 109) H := h 8 _ rfl
set_option maxRecDepth 20000 in
theorem se_110 {D : va_G} {cA : Nat → ClassId} {H : Heap} {a0 m0 o : Nat} {us : Nat → Nat → Nat} {w : Nat → Nat} (h : va_P D vwCl (blk 7 FX7 cA [us 3 0, us 9 0, us 10 0] (us 11)) H) : va_at D vwCl (adOf a0 us m0 w o 110, ent cA (adOf a0 us m0 w o) M0 110) H := h 9 _ rfl
set_option maxRecDepth 20000 in
theorem se_111 {D : va_G} {cA : Nat → ClassId} {H : Heap} {a0 m0 o : Nat} {us : Nat → Nat → Nat} {w : Nat → Nat} (h : va_P D vwCl (blk 7 FX7 cA [us 3 0, us 9 0, us 10 0] (us 11)) H) : va_at D vwCl (adOf a0 us m0 w o 111, ent cA (adOf a0 us m0 w o) M0 111) H := h 10 _ rfl
set_option maxRecDepth 20000 in
theorem se_112 {D : va_G} {cA : Nat → ClassId} {H : Heap} {a0 m0 o : Nat} {us : Nat → Nat → Nat} {w : Nat → Nat} (h : va_P D vwCl (blk 7 FX7 cA [us 3 0, us 9 0, us 10 0] (us 11)) H) : va_at D vwCl (adOf a0 us m0 w o 112, ent cA (adOf a0 us m0 w o) M0 112) H := h 11 _ rfl
set_option maxRecDepth 20000 in
theorem se_113 {D : va_G} {cA : Nat → ClassId} {H : Heap} {a0 m0 o : Nat} {us : Nat → Nat → Nat} {w : Nat → Nat} (h : va_P D vwCl (blk 7 FX7 cA [us 3 0, us 9 0, us 10 0] (us 11)) H) : va_at D vwCl (adOf a0 us m0 w o 113, ent cA (adOf a0 us m0 w o) M0 113) H := h 12 _ rfl
set_option maxRecDepth 20000 in
theorem se_114 {D : va_G} {cA : Nat → ClassId} {H : Heap} {a0 m0 o : Nat} {us : Nat → Nat → Nat} {w : Nat → Nat} (h : va_P D vwCl (blk 1 FX1 cA [us 3 0, us 6 0, us 7 0] (us 12)) H) : va_at D vwCl (adOf a0 us m0 w o 114, ent cA (adOf a0 us m0 w o) M0 114) H := h 0 _ rfl
set_option maxRecDepth 20000 in
theorem se_115 {D : va_G} {cA : Nat → ClassId} {H : Heap} {a0 m0 o : Nat} {us : Nat → Nat → Nat} {w : Nat → Nat} (h : va_P D vwCl (blk 1 FX1 cA [us 3 0, us 6 0, us 7 0] (us 12)) H) : va_at D vwCl (adOf a0 us m0 w o 115, ent cA (adOf a0 us m0 w o) M0 115) H := h 1 _ rfl
set_option maxRecDepth 20000 in
theorem se_116 {D : va_G} {cA : Nat → ClassId} {H : Heap} {a0 m0 o : Nat} {us : Nat → Nat → Nat} {w : Nat → Nat} (h : va_P D vwCl (blk 1 FX1 cA [us 3 0, us 6 0, us 7 0] (us 12)) H) : va_at D vwCl (adOf a0 us m0 w o 116, ent cA (adOf a0 us m0 w o) M0 116) H := h 2 _ rfl
set_option maxRecDepth 20000 in
theorem se_117 {D : va_G} {cA : Nat → ClassId} {H : Heap} {a0 m0 o : Nat} {us : Nat → Nat → Nat} {w : Nat → Nat} (h : va_P D vwCl (blk 1 FX1 cA [us 3 0, us 6 0, us 7 0] (us 12)) H) : va_at D vwCl (adOf a0 us m0 w o 117, ent cA (adOf a0 us m0 w o) M0 117) H := h 3 _ rfl
set_option maxRecDepth 20000 in
theorem se_118 {D : va_G} {cA : Nat → ClassId} {H : Heap} {a0 m0 o : Nat} {us : Nat → Nat → Nat} {w : Nat → Nat} (h : va_P D vwCl (blk 1 FX1 cA [us 3 0, us 6 0, us 7 0] (us 12)) H) : va_at D vwCl (adOf a0 us m0 w o 118, ent cA (adOf a0 us m0 w o) M0 118) H := h 4 _ rfl
set_option maxRecDepth 20000 in
theorem se_119 {D : va_G} {cA : Nat → ClassId} {H : Heap} {a0 m0 o : Nat} {us : Nat → Nat → Nat} {w : Nat → Nat} (h : va_P D vwCl (blk 3 FX3 cA [] (us 13)) H) : va_at D vwCl (adOf a0 us m0 w o 119, ent cA (adOf a0 us m0 w o) M0 119) H := h 0 _ rfl
set_option maxRecDepth 20000 in
theorem se_120 {D : va_G} {cA : Nat → ClassId} {H : Heap} {a0 m0 o : Nat} {us : Nat → Nat → Nat} {w : Nat → Nat} (h : va_P D vwCl (blk 3 FX3 cA [] (us 13)) H) : va_at D vwCl (adOf a0 us m0 w o 120, ent cA (adOf a0 us m0 w o) M0 120) H := h 1 _ rfl
set_option maxRecDepth 20000 in
theorem se_121 {D : va_G} {cA : Nat → ClassId} {H : Heap} {a0 m0 o : Nat} {us : Nat → Nat → Nat} {w : Nat → Nat} (h : va_P D vwCl (blk 3 FX3 cA [] (us 13)) H) : va_at D vwCl (adOf a0 us m0 w o 121, ent cA (adOf a0 us m0 w o) M0 121) H := h 2 _ rfl
set_option maxRecDepth 20000 in
theorem se_122 {D : va_G} {cA : Nat → ClassId} {H : Heap} {a0 m0 o : Nat} {us : Nat → Nat → Nat} {w : Nat → Nat} (h : va_P D vwCl (blk 3 FX3 cA [] (us 13)) H) : va_at D vwCl (adOf a0 us m0 w o 122, ent cA (adOf a0 us m0 w o) M0 122) H := h 3 _ rfl
set_option maxRecDepth 20000 in
theorem se_123 {D : va_G} {cA : Nat → ClassId} {H : Heap} {a0 m0 o : Nat} {us : Nat → Nat → Nat} {w : Nat → Nat} (h : va_P D vwCl (blk 3 FX3 cA [] (us 13)) H) : va_at D vwCl (adOf a0 us m0 w o 123, ent cA (adOf a0 us m0 w o) M0 123) H := h 4 _ rfl
set_option maxRecDepth 20000 in
theorem se_124 {D : va_G} {cA : Nat → ClassId} {H : Heap} {a0 m0 o : Nat} {us : Nat → Nat → Nat} {w : Nat → Nat} (h : va_P D vwCl (blk 3 FX3 cA [] (us 13)) H) : va_at D vwCl (adOf a0 us m0 w o 124, ent cA (adOf a0 us m0 w o) M0 124) H := h 5 _ rfl
set_option maxRecDepth 20000 in
theorem se_125 {D : va_G} {cA : Nat → ClassId} {H : Heap} {a0 m0 o : Nat} {us : Nat → Nat → Nat} {w : Nat → Nat} (h : va_P D vwCl (blk 3 FX3 cA [] (us 13)) H) : va_at D vwCl (adOf a0 us m0 w o 125, ent cA (adOf a0 us m0 w o) M0 125) H := h 6 _ rfl
set_option maxRecDepth 20000 in
theorem se_126 {D : va_G} {cA : Nat → ClassId} {H : Heap} {a0 m0 o : Nat} {us : Nat → Nat → Nat} {w : Nat → Nat} (h : va_P D vwCl (blk 3 FX3 cA [] (us 13)) H) : va_at D vwCl (adOf a0 us m0 w o 126, ent cA (adOf a0 us m0 w o) M0 126) H := h 7 _ rfl
set_option maxRecDepth 20000 in
theorem se_127 {D : va_G} {cA : Nat → ClassId} {H : Heap} {a0 m0 o : Nat} {us : Nat → Nat → Nat} {w : Nat → Nat} (h : va_P D vwCl (blk 3 FX3 cA [] (us 13)) H) : va_at D vwCl (adOf a0 us m0 w o 127, ent cA (adOf a0 us m0 w o) M0 127) H := h 8 _ rfl
set_option maxRecDepth 20000 in
theorem se_128 {D : va_G} {cA : Nat → ClassId} {H : Heap} {a0 m0 o : Nat} {us : Nat → Nat → Nat} {w : Nat → Nat} (h : va_P D vwCl (blk 3 FX3 cA [] (us 13)) H) : va_at D vwCl (adOf a0 us m0 w o 128, ent cA (adOf a0 us m0 w o) M0 128) H := h 9 _ rfl
set_option maxRecDepth 20000 in
theorem se_129 {D : va_G} {cA : Nat → ClassId} {H : Heap} {a0 m0 o : Nat} {us : Nat → Nat → Nat} {w : Nat → Nat} (h : va_P D vwCl (blk 3 FX3 cA [] (us 13)) H) : va_at D vwCl (adOf a0 us m0 w o 129, ent cA (adOf a0 us m0 w o) M0 129) H := h 10 _ rfl
set_option maxRecDepth 20000 in
theorem se_130 {D : va_G} {cA : Nat → ClassId} {H : Heap} {a0 m0 o : Nat} {us : Nat → Nat → Nat} {w : Nat → Nat} (h : va_P D vwCl (blk 3 FX3 cA [] (us 13)) H) : va_at D vwCl (adOf a0 us m0 w o 130, ent cA (adOf a0 us m0 w o) M0 130) H := h 11 _ rfl
set_option maxRecDepth 20000 in
theorem se_131 {D : va_G} {cA : Nat → ClassId} {H : Heap} {a0 m0 o : Nat} {us : Nat → Nat → Nat} {w : Nat → Nat} (h : va_P D vwCl (blk 3 FX3 cA [] (us 13)) H) : va_at D vwCl (adOf a0 us m0 w o 131, ent cA (adOf a0 us m0 w o) M0 131) H := h 12 _ rfl
set_option maxRecDepth 20000 in
theorem se_132 {D : va_G} {cA : Nat → ClassId} {H : Heap} {a0 m0 o : Nat} {us : Nat → Nat → Nat} {w : Nat → Nat} (h : va_at D vwCl (m0, .inr (12, HX12 w)) H) : va_at D vwCl (adOf a0 us m0 w o 132, ent cA (adOf a0 us m0 w o) M0 132) H := by
  rw [HX12_ex] at h
  exact h
set_option maxRecDepth 20000 in
theorem se_133 {D : va_G} {cA : Nat → ClassId} {H : Heap} {a0 m0 o : Nat} {us : Nat → Nat → Nat} {w : Nat → Nat} (h : va_P D vwCl (GX12 cA tdG w) H) : va_at D vwCl (adOf a0 us m0 w o 133, ent cA (adOf a0 us m0 w o) M0 133) H := h 0 _ rfl
set_option maxRecDepth 20000 in
theorem se_134 {D : va_G} {cA : Nat → ClassId} {H : Heap} {a0 m0 o : Nat} {us : Nat → Nat → Nat} {w : Nat → Nat} (h : va_P D vwCl (GX12 cA tdG w) H) : va_at D vwCl (adOf a0 us m0 w o 134, ent cA (adOf a0 us m0 w o) M0 134) H := h 1 _ rfl
set_option maxRecDepth 20000 in
theorem se_135 {D : va_G} {cA : Nat → ClassId} {H : Heap} {a0 m0 o : Nat} {us : Nat → Nat → Nat} {w : Nat → Nat} (h : va_P D vwCl (GX12 cA tdG w) H) : va_at D vwCl (adOf a0 us m0 w o 135, ent cA (adOf a0 us m0 w o) M0 135) H := h 2 _ rfl
set_option maxRecDepth 20000 in
theorem se_136 {D : va_G} {cA : Nat → ClassId} {H : Heap} {a0 m0 o : Nat} {us : Nat → Nat → Nat} {w : Nat → Nat} (h : va_P D vwCl (GX12 cA tdG w) H) : va_at D vwCl (adOf a0 us m0 w o 136, ent cA (adOf a0 us m0 w o) M0 136) H := h 3 _ rfl
set_option maxRecDepth 20000 in
theorem se_137 {D : va_G} {cA : Nat → ClassId} {H : Heap} {a0 m0 o : Nat} {us : Nat → Nat → Nat} {w : Nat → Nat} (h : va_P D vwCl (GX12 cA tdG w) H) : va_at D vwCl (adOf a0 us m0 w o 137, ent cA (adOf a0 us m0 w o) M0 137) H := by
  have e : ent cA (adOf a0 us m0 w o) M0 137 = .inl (cA 4, 23, .inr (.inl (wdG 23))) := by
    show (Sum.inl (cA 4, 23, .inr (.inl (fun j : Nat => Int64.ofInt ((wdG 23 j).toInt)))) : va_E) = _
    congr 5
    funext j
    exact Int64.ofInt_toInt _
  rw [e]
  exact h 4 _ rfl
set_option maxRecDepth 20000 in
theorem se_138 {D : va_G} {cA : Nat → ClassId} {H : Heap} {a0 m0 o : Nat} {us : Nat → Nat → Nat} {w : Nat → Nat} (h : va_P D vwCl (GX12 cA tdG w) H) : va_at D vwCl (adOf a0 us m0 w o 138, ent cA (adOf a0 us m0 w o) M0 138) H := by
  have e : ent cA (adOf a0 us m0 w o) M0 138 = .inl (cA 1, 824, .inl tdG) := by
    show (Sum.inl (cA 1, 824, .inl (fun j : Nat => Int32.ofInt ((tdG j).toInt))) : va_E) = _
    congr 4
    funext j
    exact Int32.ofInt_toInt _
  rw [e]
  exact h 5 _ rfl
set_option maxRecDepth 20000 in
theorem se_139 {D : va_G} {cA : Nat → ClassId} {H : Heap} {a0 m0 o : Nat} {us : Nat → Nat → Nat} {w : Nat → Nat} (h : va_P D vwCl (GX12 cA tdG w) H) : va_at D vwCl (adOf a0 us m0 w o 139, ent cA (adOf a0 us m0 w o) M0 139) H := h 6 _ rfl
set_option maxRecDepth 20000 in
theorem se_140 {D : va_G} {cA : Nat → ClassId} {H : Heap} {a0 m0 o : Nat} {us : Nat → Nat → Nat} {w : Nat → Nat} (h : va_P D vwCl (GX12 cA tdG w) H) : va_at D vwCl (adOf a0 us m0 w o 140, ent cA (adOf a0 us m0 w o) M0 140) H := h 7 _ rfl
set_option maxRecDepth 20000 in
theorem se_141 {D : va_G} {cA : Nat → ClassId} {H : Heap} {a0 m0 o : Nat} {us : Nat → Nat → Nat} {w : Nat → Nat} (h : va_P D vwCl (GX12 cA tdG w) H) : va_at D vwCl (adOf a0 us m0 w o 141, ent cA (adOf a0 us m0 w o) M0 141) H := h 8 _ rfl
set_option maxRecDepth 20000 in
theorem se_142 {D : va_G} {cA : Nat → ClassId} {H : Heap} {a0 m0 o : Nat} {us : Nat → Nat → Nat} {w : Nat → Nat} (h : va_P D vwCl (GX12 cA tdG w) H) : va_at D vwCl (adOf a0 us m0 w o 142, ent cA (adOf a0 us m0 w o) M0 142) H := h 9 _ rfl
set_option maxRecDepth 20000 in
theorem se_143 {D : va_G} {cA : Nat → ClassId} {H : Heap} {a0 m0 o : Nat} {us : Nat → Nat → Nat} {w : Nat → Nat} (h : va_P D vwCl (GX12 cA tdG w) H) : va_at D vwCl (adOf a0 us m0 w o 143, ent cA (adOf a0 us m0 w o) M0 143) H := h 10 _ rfl
set_option maxRecDepth 20000 in
theorem se_144 {D : va_G} {cA : Nat → ClassId} {H : Heap} {a0 m0 o : Nat} {us : Nat → Nat → Nat} {w : Nat → Nat} (h : va_P D vwCl (GX12 cA tdG w) H) : va_at D vwCl (adOf a0 us m0 w o 144, ent cA (adOf a0 us m0 w o) M0 144) H := h 11 _ rfl
set_option maxRecDepth 20000 in
theorem se_145 {D : va_G} {cA : Nat → ClassId} {H : Heap} {a0 m0 o : Nat} {us : Nat → Nat → Nat} {w : Nat → Nat} (h : va_P D vwCl (GX12 cA tdG w) H) : va_at D vwCl (adOf a0 us m0 w o 145, ent cA (adOf a0 us m0 w o) M0 145) H := h 12 _ rfl
set_option maxRecDepth 20000 in
theorem se_146 {D : va_G} {cA : Nat → ClassId} {H : Heap} {a0 m0 o : Nat} {us : Nat → Nat → Nat} {w : Nat → Nat} (h : va_P D vwCl (GX12 cA tdG w) H) : va_at D vwCl (adOf a0 us m0 w o 146, ent cA (adOf a0 us m0 w o) M0 146) H := h 13 _ rfl
set_option maxRecDepth 20000 in
theorem se_147 {D : va_G} {cA : Nat → ClassId} {H : Heap} {a0 m0 o : Nat} {us : Nat → Nat → Nat} {w : Nat → Nat} (h : va_P D vwCl (GX12 cA tdG w) H) : va_at D vwCl (adOf a0 us m0 w o 147, ent cA (adOf a0 us m0 w o) M0 147) H := h 14 _ rfl
set_option maxRecDepth 20000 in
theorem se_148 {D : va_G} {cA : Nat → ClassId} {H : Heap} {a0 m0 o : Nat} {us : Nat → Nat → Nat} {w : Nat → Nat} (h : va_P D vwCl (GX12 cA tdG w) H) : va_at D vwCl (adOf a0 us m0 w o 148, ent cA (adOf a0 us m0 w o) M0 148) H := h 15 _ rfl
set_option maxRecDepth 20000 in
theorem se_149 {D : va_G} {cA : Nat → ClassId} {H : Heap} {a0 m0 o : Nat} {us : Nat → Nat → Nat} {w : Nat → Nat} (h : va_P D vwCl (GX12 cA tdG w) H) : va_at D vwCl (adOf a0 us m0 w o 149, ent cA (adOf a0 us m0 w o) M0 149) H := h 16 _ rfl
set_option maxRecDepth 20000 in
theorem se_150 {D : va_G} {cA : Nat → ClassId} {H : Heap} {a0 m0 o : Nat} {us : Nat → Nat → Nat} {w : Nat → Nat} (h : va_P D vwCl (GX12 cA tdG w) H) : va_at D vwCl (adOf a0 us m0 w o 150, ent cA (adOf a0 us m0 w o) M0 150) H := h 17 _ rfl
set_option maxRecDepth 20000 in
theorem se_151 {D : va_G} {cA : Nat → ClassId} {H : Heap} {a0 m0 o : Nat} {us : Nat → Nat → Nat} {w : Nat → Nat} (h : va_P D vwCl (GX12 cA tdG w) H) : va_at D vwCl (adOf a0 us m0 w o 151, ent cA (adOf a0 us m0 w o) M0 151) H := h 18 _ rfl
set_option maxRecDepth 20000 in
theorem se_152 {D : va_G} {cA : Nat → ClassId} {H : Heap} {a0 m0 o : Nat} {us : Nat → Nat → Nat} {w : Nat → Nat} (h : va_P D vwCl (GX12 cA tdG w) H) : va_at D vwCl (adOf a0 us m0 w o 152, ent cA (adOf a0 us m0 w o) M0 152) H := h 19 _ rfl
set_option maxRecDepth 20000 in
theorem se_153 {D : va_G} {cA : Nat → ClassId} {H : Heap} {a0 m0 o : Nat} {us : Nat → Nat → Nat} {w : Nat → Nat} (h : va_P D vwCl (GX12 cA tdG w) H) : va_at D vwCl (adOf a0 us m0 w o 153, ent cA (adOf a0 us m0 w o) M0 153) H := h 20 _ rfl
set_option maxRecDepth 20000 in
theorem se_154 {D : va_G} {cA : Nat → ClassId} {H : Heap} {a0 m0 o : Nat} {us : Nat → Nat → Nat} {w : Nat → Nat} (h : va_P D vwCl (GX12 cA tdG w) H) : va_at D vwCl (adOf a0 us m0 w o 154, ent cA (adOf a0 us m0 w o) M0 154) H := h 21 _ rfl
set_option maxRecDepth 20000 in
theorem se_155 {D : va_G} {cA : Nat → ClassId} {H : Heap} {a0 m0 o : Nat} {us : Nat → Nat → Nat} {w : Nat → Nat} (h : va_P D vwCl (GX12 cA tdG w) H) : va_at D vwCl (adOf a0 us m0 w o 155, ent cA (adOf a0 us m0 w o) M0 155) H := h 22 _ rfl
set_option maxRecDepth 20000 in
theorem se_156 {D : va_G} {cA : Nat → ClassId} {H : Heap} {a0 m0 o : Nat} {us : Nat → Nat → Nat} {w : Nat → Nat} (h : va_P D vwCl (GX12 cA tdG w) H) : va_at D vwCl (adOf a0 us m0 w o 156, ent cA (adOf a0 us m0 w o) M0 156) H := h 23 _ rfl
set_option maxRecDepth 20000 in
theorem se_157 {D : va_G} {cA : Nat → ClassId} {H : Heap} {a0 m0 o : Nat} {us : Nat → Nat → Nat} {w : Nat → Nat} (h : va_P D vwCl (GX12 cA tdG w) H) : va_at D vwCl (adOf a0 us m0 w o 157, ent cA (adOf a0 us m0 w o) M0 157) H := h 24 _ rfl
set_option maxRecDepth 20000 in
theorem se_158 {D : va_G} {cA : Nat → ClassId} {H : Heap} {a0 m0 o : Nat} {us : Nat → Nat → Nat} {w : Nat → Nat} (h : va_P D vwCl (GX12 cA tdG w) H) : va_at D vwCl (adOf a0 us m0 w o 158, ent cA (adOf a0 us m0 w o) M0 158) H := h 25 _ rfl
set_option maxRecDepth 20000 in
theorem se_159 {D : va_G} {cA : Nat → ClassId} {H : Heap} {a0 m0 o : Nat} {us : Nat → Nat → Nat} {w : Nat → Nat} (h : va_P D vwCl (GX12 cA tdG w) H) : va_at D vwCl (adOf a0 us m0 w o 159, ent cA (adOf a0 us m0 w o) M0 159) H := h 26 _ rfl
set_option maxRecDepth 20000 in
theorem se_160 {D : va_G} {cA : Nat → ClassId} {H : Heap} {a0 m0 o : Nat} {us : Nat → Nat → Nat} {w : Nat → Nat} (h : va_P D vwCl (GX12 cA tdG w) H) : va_at D vwCl (adOf a0 us m0 w o 160, ent cA (adOf a0 us m0 w o) M0 160) H := h 27 _ rfl
set_option maxRecDepth 20000 in
theorem se_161 {D : va_G} {cA : Nat → ClassId} {H : Heap} {a0 m0 o : Nat} {us : Nat → Nat → Nat} {w : Nat → Nat} (h : va_P D vwCl (GX12 cA tdG w) H) : va_at D vwCl (adOf a0 us m0 w o 161, ent cA (adOf a0 us m0 w o) M0 161) H := h 28 _ rfl
set_option maxRecDepth 20000 in
theorem se_162 {D : va_G} {cA : Nat → ClassId} {H : Heap} {a0 m0 o : Nat} {us : Nat → Nat → Nat} {w : Nat → Nat} (h : va_P D vwCl (GX12 cA tdG w) H) : va_at D vwCl (adOf a0 us m0 w o 162, ent cA (adOf a0 us m0 w o) M0 162) H := h 29 _ rfl
set_option maxRecDepth 20000 in
theorem se_163 {D : va_G} {cA : Nat → ClassId} {H : Heap} {a0 m0 o : Nat} {us : Nat → Nat → Nat} {w : Nat → Nat} (h : va_P D vwCl (GX12 cA tdG w) H) : va_at D vwCl (adOf a0 us m0 w o 163, ent cA (adOf a0 us m0 w o) M0 163) H := h 30 _ rfl
set_option maxRecDepth 20000 in
theorem se_164 {D : va_G} {cA : Nat → ClassId} {H : Heap} {a0 m0 o : Nat} {us : Nat → Nat → Nat} {w : Nat → Nat} (h : va_P D vwCl (GX12 cA tdG w) H) : va_at D vwCl (adOf a0 us m0 w o 164, ent cA (adOf a0 us m0 w o) M0 164) H := h 31 _ rfl
set_option maxRecDepth 20000 in
theorem se_165 {D : va_G} {cA : Nat → ClassId} {H : Heap} {a0 m0 o : Nat} {us : Nat → Nat → Nat} {w : Nat → Nat} (h : va_P D vwCl (GX12 cA tdG w) H) : va_at D vwCl (adOf a0 us m0 w o 165, ent cA (adOf a0 us m0 w o) M0 165) H := h 32 _ rfl
set_option maxRecDepth 20000 in
theorem se_166 {D : va_G} {cA : Nat → ClassId} {H : Heap} {a0 m0 o : Nat} {us : Nat → Nat → Nat} {w : Nat → Nat} (h : va_P D vwCl (GX12 cA tdG w) H) : va_at D vwCl (adOf a0 us m0 w o 166, ent cA (adOf a0 us m0 w o) M0 166) H := h 33 _ rfl
set_option maxRecDepth 20000 in
theorem se_167 {D : va_G} {cA : Nat → ClassId} {H : Heap} {a0 m0 o : Nat} {us : Nat → Nat → Nat} {w : Nat → Nat} (h : va_P D vwCl (GX12 cA tdG w) H) : va_at D vwCl (adOf a0 us m0 w o 167, ent cA (adOf a0 us m0 w o) M0 167) H := h 34 _ rfl
set_option maxRecDepth 20000 in
theorem se_168 {D : va_G} {cA : Nat → ClassId} {H : Heap} {a0 m0 o : Nat} {us : Nat → Nat → Nat} {w : Nat → Nat} (h : va_P D vwCl (GX12 cA tdG w) H) : va_at D vwCl (adOf a0 us m0 w o 168, ent cA (adOf a0 us m0 w o) M0 168) H := h 35 _ rfl
set_option maxRecDepth 20000 in
theorem se_169 {D : va_G} {cA : Nat → ClassId} {H : Heap} {a0 m0 o : Nat} {us : Nat → Nat → Nat} {w : Nat → Nat} (h : va_P D vwCl (GX12 cA tdG w) H) : va_at D vwCl (adOf a0 us m0 w o 169, ent cA (adOf a0 us m0 w o) M0 169) H := h 36 _ rfl
set_option maxRecDepth 20000 in
theorem se_170 {D : va_G} {cA : Nat → ClassId} {H : Heap} {a0 m0 o : Nat} {us : Nat → Nat → Nat} {w : Nat → Nat} (h : va_P D vwCl (GX12 cA tdG w) H) : va_at D vwCl (adOf a0 us m0 w o 170, ent cA (adOf a0 us m0 w o) M0 170) H := h 37 _ rfl
set_option maxRecDepth 20000 in
theorem se_171 {D : va_G} {cA : Nat → ClassId} {H : Heap} {a0 m0 o : Nat} {us : Nat → Nat → Nat} {w : Nat → Nat} (h : va_P D vwCl (GX12 cA tdG w) H) : va_at D vwCl (adOf a0 us m0 w o 171, ent cA (adOf a0 us m0 w o) M0 171) H := h 38 _ rfl
set_option maxRecDepth 20000 in
theorem se_172 {D : va_G} {cA : Nat → ClassId} {H : Heap} {a0 m0 o : Nat} {us : Nat → Nat → Nat} {w : Nat → Nat} (h : va_P D vwCl (GX12 cA tdG w) H) : va_at D vwCl (adOf a0 us m0 w o 172, ent cA (adOf a0 us m0 w o) M0 172) H := h 39 _ rfl
theorem se_173 {D : va_G} {cA : Nat → ClassId} {H : Heap} {a0 m0 o : Nat} {us : Nat → Nat → Nat} {w : Nat → Nat} (h : va_at D vwCl (o, .inl (cA 4, 1, .inr (.inl (fun _ => 0)))) H) : va_at D vwCl (adOf a0 us m0 w o 173, ent cA (adOf a0 us m0 w o) M0 173) H := h
