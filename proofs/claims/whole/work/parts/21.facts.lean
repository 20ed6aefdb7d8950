/-! RANGES: small functions of both sides -/
theorem s_X2_isKnown {g : Nat} {v : Int} {M : Mem} (hg : g = 62 ∨ g = 88) (h0 : 0 ≤ v) (h1 : v < 64) : fX2_isKnown g v M = some (if M (g + 1) v = M (g + 2) v then 1 else 0, M) := by
  unfold fX2_isKnown
  rcases hg with rfl | rfl
  · simp (disch := omega) only [Nat.reduceAdd, LD, ob, obi]
    split <;> rfl
  · simp (disch := omega) only [Nat.reduceAdd, LD, ob, obi]
    split <;> rfl
theorem s_X2_isLow {g : Nat} {v : Int} {M : Mem} (hg : g = 62 ∨ g = 88) (h0 : 0 ≤ v) (h1 : v < 64) : fX2_isLow g v M = some (if M 47 v = 0 ∧ -512 ≤ M (g + 1) v ∧ M (g + 2) v ≤ 511 then 1 else 0, M) := by
  unfold fX2_isLow
  rcases hg with rfl | rfl
  · simp (disch := omega) only [Nat.reduceAdd, LD, ob, obi]
    repeat' split
    all_goals first | rfl | (exfalso; omega)
  · simp (disch := omega) only [Nat.reduceAdd, LD, ob, obi]
    repeat' split
    all_goals first | rfl | (exfalso; omega)
def cl5 (x : Int) : Int := max (-99999) (min 99999 x)
theorem cl5_bd (x : Int) : -99999 ≤ cl5 x ∧ cl5 x ≤ 99999 := by unfold cl5; omega
theorem s_X11_held {x : Int} {M : Mem} : fX11_held x M = some (cl5 x, M) := by
  unfold fX11_held
  rw [imin_eq, imax_eq]
  have := cl5_bd x
  unfold cl5 at this ⊢
  rw [w32_id (by omega) (by omega)]
theorem s_X12_held {x : Int} {M : Mem} (h : i64 x) : fX12_held x M = some (cl5 x, M) := by
  unfold fX12_held
  have hb := cl5_bd x
  simp only [obi, ob, lc_ge0 h (i64_lit (x := -99999) (by omega) (by omega)), lc_le0 h (i64_lit (x := 99999) (by omega) (by omega))]
  unfold cl5 at hb ⊢
  repeat' split
  · rw [w32_id (by omega) (by omega)]; congr 2; omega
  · congr 2; omega
  · congr 2; omega
theorem mul_bd {a b : Int} (ha : -99999 ≤ a ∧ a ≤ 99999) (hb : -99999 ≤ b ∧ b ≤ 99999) : -9999800001 ≤ a * b ∧ a * b ≤ 9999800001 := by
  have h1 : 0 ≤ (99999 - a) * (99999 - b) := Int.mul_nonneg (by omega) (by omega)
  have h2 : 0 ≤ (99999 + a) * (99999 + b) := Int.mul_nonneg (by omega) (by omega)
  have h3 : 0 ≤ (99999 - a) * (99999 + b) := Int.mul_nonneg (by omega) (by omega)
  have h4 : 0 ≤ (99999 + a) * (99999 - b) := Int.mul_nonneg (by omega) (by omega)
  rw [Int.sub_mul, Int.mul_sub, Int.mul_sub] at h1
  rw [Int.add_mul, Int.mul_add, Int.mul_add] at h2
  rw [Int.sub_mul, Int.mul_add, Int.mul_add] at h3
  rw [Int.add_mul, Int.mul_sub, Int.mul_sub] at h4
  omega
/-- the values as they are made: n of them, how (mk), of what (ag, three a value), whether flags (F), nI inputs -/
def Val (n : Int) (mk ag F : Int → Int) (nI : Int) : Prop := 0 ≤ n ∧ n ≤ 64 ∧ 0 ≤ nI ∧ nI ≤ 6 ∧ ∀ v, 0 ≤ v → v < n → 0 ≤ mk v ∧ mk v ≤ 13 ∧ (mk v = 0 → 0 ≤ ag (3 * v) ∧ ag (3 * v) < nI) ∧ (mk v = 1 → 0 ≤ ag (3 * v) ∧ ag (3 * v) ≤ 999) ∧ (2 ≤ mk v → 0 ≤ ag (3 * v) ∧ ag (3 * v) < v) ∧ (2 ≤ mk v → mk v ≠ 7 → mk v ≠ 12 → 0 ≤ ag (3 * v + 1) ∧ ag (3 * v + 1) < v) ∧ (mk v = 13 → 0 ≤ ag (3 * v + 2) ∧ ag (3 * v + 2) < v) ∧ (mk v ≤ 1 ∨ mk v = 7 ∨ mk v = 12 → ag (3 * v + 1) = -1) ∧ (mk v ≠ 13 → ag (3 * v + 2) = -1) ∧ (F v = if mk v = 13 then F (ag (3 * v + 1)) else if 8 ≤ mk v ∧ mk v ≤ 12 then 1 else 0) ∧ (10 ≤ mk v → F (ag (3 * v)) = 1) ∧ (mk v = 10 ∨ mk v = 11 → F (ag (3 * v + 1)) = 1) ∧ (mk v = 13 → F (ag (3 * v + 2)) = F (ag (3 * v + 1)))
def lF (mk ag lo L G : Int → Int) (v : Int) : Int :=
  if mk v = 0 then lo (ag (3 * v)) else if mk v = 1 then ag (3 * v)
  else if mk v = 2 then cl5 (L (ag (3 * v)) + L (ag (3 * v + 1)))
  else if mk v = 3 then cl5 (L (ag (3 * v)) - G (ag (3 * v + 1)))
  else if mk v = 4 then min (min (cl5 (L (ag (3 * v)) * L (ag (3 * v + 1)))) (cl5 (L (ag (3 * v)) * G (ag (3 * v + 1))))) (min (cl5 (G (ag (3 * v)) * L (ag (3 * v + 1)))) (cl5 (G (ag (3 * v)) * G (ag (3 * v + 1)))))
  else if mk v = 5 ∨ mk v = 10 then min (L (ag (3 * v))) (L (ag (3 * v + 1)))
  else if mk v = 6 ∨ mk v = 11 then max (L (ag (3 * v))) (L (ag (3 * v + 1)))
  else if mk v = 7 then 0
  else if mk v = 8 then (if G (ag (3 * v)) < L (ag (3 * v + 1)) then 1 else 0)
  else if mk v = 9 then (if L (ag (3 * v)) = G (ag (3 * v)) ∧ L (ag (3 * v + 1)) = G (ag (3 * v + 1)) ∧ L (ag (3 * v)) = L (ag (3 * v + 1)) then 1 else 0)
  else if mk v = 12 then 1 - G (ag (3 * v))
  else if L (ag (3 * v)) = G (ag (3 * v)) then (if L (ag (3 * v)) = 1 then L (ag (3 * v + 1)) else L (ag (3 * v + 2))) else min (L (ag (3 * v + 1))) (L (ag (3 * v + 2)))
def gF (mk ag hi L G : Int → Int) (v : Int) : Int :=
  if mk v = 0 then hi (ag (3 * v)) else if mk v = 1 then ag (3 * v)
  else if mk v = 2 then cl5 (G (ag (3 * v)) + G (ag (3 * v + 1)))
  else if mk v = 3 then cl5 (G (ag (3 * v)) - L (ag (3 * v + 1)))
  else if mk v = 4 then max (max (cl5 (L (ag (3 * v)) * L (ag (3 * v + 1)))) (cl5 (L (ag (3 * v)) * G (ag (3 * v + 1))))) (max (cl5 (G (ag (3 * v)) * L (ag (3 * v + 1)))) (cl5 (G (ag (3 * v)) * G (ag (3 * v + 1)))))
  else if mk v = 5 ∨ mk v = 10 then min (G (ag (3 * v))) (G (ag (3 * v + 1)))
  else if mk v = 6 ∨ mk v = 11 then max (G (ag (3 * v))) (G (ag (3 * v + 1)))
  else if mk v = 7 then 999
  else if mk v = 8 then (if G (ag (3 * v + 1)) ≤ L (ag (3 * v)) then 0 else 1)
  else if mk v = 9 then (if G (ag (3 * v)) < L (ag (3 * v + 1)) ∨ G (ag (3 * v + 1)) < L (ag (3 * v)) then 0 else 1)
  else if mk v = 12 then 1 - L (ag (3 * v))
  else if L (ag (3 * v)) = G (ag (3 * v)) then (if L (ag (3 * v)) = 1 then G (ag (3 * v + 1)) else G (ag (3 * v + 2))) else max (G (ag (3 * v + 1))) (G (ag (3 * v + 2)))
theorem kinds {k : Int} (h0 : 0 ≤ k) (h1 : k ≤ 13) : k = 0 ∨ k = 1 ∨ k = 2 ∨ k = 3 ∨ k = 4 ∨ k = 5 ∨ k = 6 ∨ k = 7 ∨ k = 8 ∨ k = 9 ∨ k = 10 ∨ k = 11 ∨ k = 12 ∨ k = 13 := by omega
theorem s_X2_put {g : Nat} {v x y : Int} {M : Mem} (hg : g = 62 ∨ g = 88) (h0 : 0 ≤ v) (h1 : v < 64) : fX2_put g v x y M = some (wr (wr M (g + 1) v x) (g + 2) v y) := by
  unfold fX2_put
  rcases hg with rfl | rfl <;> simp (disch := omega) only [Nat.reduceAdd, ST, ob]
theorem s_X2_putFlag {g : Nat} {v x y : Int} {M : Mem} (hg : g = 62 ∨ g = 88) (h0 : 0 ≤ v) (h1 : v < 64) : fX2_putFlag g v x y M = some (wr (wr M (g + 1) v (if x = 0 then 0 else 1)) (g + 2) v (if y = 0 then 1 else 0)) := by
  unfold fX2_putFlag
  simp only [obi, ob, s_X2_put hg h0 h1]
  repeat' split
  all_goals rfl
theorem s_X2_putProduct {g : Nat} {v a b : Int} {M : Mem} (hg : g = 62 ∨ g = 88) (h0 : 0 ≤ v) (h1 : v < 64) (a0 : 0 ≤ a) (a1 : a < 64) (b0 : 0 ≤ b) (b1 : b < 64) (hla : -99999 ≤ M (g + 1) a ∧ M (g + 1) a ≤ 99999) (hga : -99999 ≤ M (g + 2) a ∧ M (g + 2) a ≤ 99999) (hlb : -99999 ≤ M (g + 1) b ∧ M (g + 1) b ≤ 99999) (hgb : -99999 ≤ M (g + 2) b ∧ M (g + 2) b ≤ 99999) :
    fX2_putProduct g v a b M = some (wr (wr M (g + 1) v (min (min (cl5 (M (g + 1) a * M (g + 1) b)) (cl5 (M (g + 1) a * M (g + 2) b))) (min (cl5 (M (g + 2) a * M (g + 1) b)) (cl5 (M (g + 2) a * M (g + 2) b))))) (g + 2) v (max (max (cl5 (M (g + 1) a * M (g + 1) b)) (cl5 (M (g + 1) a * M (g + 2) b))) (max (cl5 (M (g + 2) a * M (g + 1) b)) (cl5 (M (g + 2) a * M (g + 2) b))))) := by
  have m1 := mul_bd hla hlb
  have m2 := mul_bd hla hgb
  have m3 := mul_bd hga hlb
  have m4 := mul_bd hga hgb
  unfold fX2_putProduct
  rcases hg with rfl | rfl
  · simp only [Nat.reduceAdd] at m1 m2 m3 m4 ⊢
    simp (disch := omega) only [LD, ob, s_X11_held, imin_eq, imax_eq, w64_id, s_X2_put (Or.inl rfl) h0 h1]
  · simp only [Nat.reduceAdd] at m1 m2 m3 m4 ⊢
    simp (disch := omega) only [LD, ob, s_X11_held, imin_eq, imax_eq, w64_id, s_X2_put (Or.inr rfl) h0 h1]
