/-! the start memory keeps the bounds -/
theorem getD_or {α : Type} (L : List α) (n : Nat) (d : α) : L.getD n d = d ∨ L.getD n d ∈ L := by
  rw [List.getD_eq_getElem?_getD]
  cases h : L[n]? with
  | none => exact Or.inl rfl
  | some x => exact Or.inr (List.mem_of_getElem? h)
theorem M0T_small : ∀ r ∈ M0T, ∀ x ∈ r, -2 ≤ x ∧ x ≤ 200 := by decide +kernel
theorem M0_tab {a : Nat} {i : Int} (h3 : a ≠ 3) (h7 : a ≠ 137) (h8 : a ≠ 138) (h0 : a ≠ 1000) : M0 a i = (M0T.getD a []).getD i.toNat 0 := by
  unfold M0
  rw [if_neg h3, if_neg h7, if_neg h8, if_neg h0]
theorem M0_small {a : Nat} {i : Int} (h3 : a ≠ 3) (h7 : a ≠ 137) (h8 : a ≠ 138) : -2 ≤ M0 a i ∧ M0 a i ≤ 200 := by
  by_cases h0 : a = 1000
  · subst h0
    have : M0 1000 i = if i = 0 then 1 else 0 := rfl
    rw [this]
    split <;> omega
  · rw [M0_tab h3 h7 h8 h0]
    rcases getD_or (M0T.getD a []) i.toNat 0 with e | e
    · rw [e]; omega
    · rcases getD_or M0T a [] with e2 | e2
      · rw [e2] at e; cases e
      · exact M0T_small _ e2 _ e
theorem ptr_lt {a k r : Nat} (h : ptr a k = some r) : a < 174 ∧ k < 60 := by
  unfold ptr at h
  have ha : a < 174 := by
    refine Nat.lt_of_not_le (fun z => ?_)
    rw [List.getD_eq_getElem?_getD (l := ptL), List.getElem?_eq_none (show ptL.length ≤ a from Nat.le_trans (by decide +kernel) z)] at h
    cases h
  refine ⟨ha, Nat.lt_of_not_le (fun z => ?_)⟩
  have hr : (ptL.getD a []).length ≤ 60 := by
    rcases getD_or ptL a [] with e | e
    · rw [e]; exact Nat.zero_le _
    · exact (by decide +kernel : ∀ r ∈ ptL, r.length ≤ 60) _ e
  rw [List.getD_eq_getElem?_getD (l := ptL.getD a []), List.getElem?_eq_none (Nat.le_trans hr z)] at h
  cases h
theorem ptr_tab : ∀ a, a < 174 → ∀ k, k < 60 → (ptr a k).all (fun r => decide ((M0T.getD a []).getD k 0 = (r : Int)) && decide (a ≠ 3) && decide (a ≠ 137) && decide (a ≠ 138)) = true := by decide +kernel
theorem okM0 : okM M0 := by
  refine ⟨fun a i => ?_, fun a i h => ?_, fun a k r h => ?_, ?_⟩
  · by_cases h3 : a = 3
    · subst h3
      have e : M0 3 i = (tpG 110 i.toNat).toInt := rfl
      rw [e]
      have h1 := (tpG 110 i.toNat).toInt_lt
      have h2 := (tpG 110 i.toNat).le_toInt
      unfold i64; omega
    by_cases h7 : a = 137
    · subst h7
      have e : M0 137 i = (wdG 23 i.toNat).toInt := rfl
      rw [e]
      have h1 := (wdG 23 i.toNat).toInt_lt
      have h2 := (wdG 23 i.toNat).le_toInt
      unfold i64; omega
    by_cases h8 : a = 138
    · subst h8
      have e : M0 138 i = (tdG i.toNat).toInt := rfl
      rw [e]
      have h1 := (tdG i.toNat).toInt_lt
      have h2 := (tdG i.toNat).le_toInt
      unfold i64; omega
    have := M0_small (i := i) h3 h7 h8
    unfold i64; omega
  · by_cases h3 : a = 3
    · subst h3; cases h
    by_cases h7 : a = 137
    · subst h7; cases h
    by_cases h8 : a = 138
    · subst h8
      have e : M0 138 i = (tdG i.toNat).toInt := rfl
      rw [e]
      have h1 := (tdG i.toNat).toInt_lt
      have h2 := (tdG i.toNat).le_toInt
      unfold i32; omega
    have := M0_small (i := i) h3 h7 h8
    unfold i32; omega
  · obtain ⟨ha, hk⟩ := ptr_lt h
    have e := ptr_tab a ha k hk
    rw [h] at e
    have e : (decide ((M0T.getD a []).getD k 0 = (r : Int)) && decide (a ≠ 3) && decide (a ≠ 137) && decide (a ≠ 138)) = true := e
    rw [Bool.and_eq_true, Bool.and_eq_true, Bool.and_eq_true, decide_eq_true_eq, decide_eq_true_eq, decide_eq_true_eq, decide_eq_true_eq] at e
    obtain ⟨⟨⟨e1, e2⟩, e3⟩, e4⟩ := e
    rw [M0_tab e2 e3 e4 (by omega)]
    exact e1
  · have e : M0 1000 0 = 1 := rfl
    rw [e]; omega
