/-! THE ROADS (id 115) MADE ANEW -/
def adR (ad : Nat → Nat) (q : Nat) : Nat → Nat := fun a => if a = 115 then q else ad a
def kndR (b k : Nat) : Bool := (decide (ft (kd b).2 k ≤ 2) || (decide (ft (kd b).2 k = 3) && (decide ((ptr b k).getD 115 ≠ 115) || (b == 114 && k == 3)))) || (decide (ft (kd b).2 k = 4) && ((b == 0 && k == 13) || (b == 4 && k == 1)))
theorem kndR_all : ∀ b, b < 174 → (kd b).1 = 0 → ∀ k, k < nf (kd b).2 → kndR b k = true := by decide +kernel
theorem kinds0 (b : Nat) (hb : b < 174) (h0 : (kd b).1 = 0) (k : Nat) (hk : k < nf (kd b).2) : ft (kd b).2 k ≤ 2 ∨ (ft (kd b).2 k = 3 ∧ ((ptr b k).getD 115 ≠ 115 ∨ (b = 114 ∧ k = 3))) ∨ (ft (kd b).2 k = 4 ∧ ((b = 0 ∧ k = 13) ∨ (b = 4 ∧ k = 1))) := by
  have h := kndR_all b hb h0 k hk
  unfold kndR at h
  simp only [Bool.or_eq_true, Bool.and_eq_true, decide_eq_true_eq, beq_iff_eq] at h
  rcases h with (h | h) | h
  · exact Or.inl h
  · exact Or.inr (Or.inl h)
  · exact Or.inr (Or.inr h)
theorem kinds5 : ∀ b, b < 174 → (kd b).1 = 5 → ∀ k, k < (kd b).2 → (ptr b k).getD 115 ≠ 115 := by decide +kernel
theorem kindsA : ∀ b, b < 174 → (kd b).1 = 0 ∨ (kd b).1 = 1 ∨ (kd b).1 = 2 ∨ (kd b).1 = 3 ∨ (kd b).1 = 4 ∨ (kd b).1 = 5 := by decide +kernel
theorem kd1_115 : (kd 115).1 = 1 := by decide +kernel
theorem ptr_R : ∀ k, ptr 115 k = none := fun k => by
  unfold ptr
  rw [show ptL.getD 115 [] = [] by decide +kernel]
  rfl
theorem ptr_K : ∀ k, ptr 1000 k = none := fun k => by
  unfold ptr
  rw [show ptL.getD 1000 [] = [] by decide +kernel]
  rfl
theorem mkR_ne {M : Mem} {n : Int} {b : Nat} (h1 : b ≠ 115) (h2 : b ≠ 1000) : mkR M n b = M b := by
  funext j
  unfold mkR
  rw [if_neg h1, if_neg (fun z => h2 z.1)]
theorem mkR_len {M : Mem} {n : Int} : len (mkR M n) 115 = n := by
  unfold len mkR
  rw [if_pos rfl, if_neg (by decide), if_pos ⟨rfl, rfl⟩]
theorem okM_mkR {M : Mem} {n : Int} (h : okM M) (n0 : 0 ≤ n) (n1 : n ≤ 65536) : okM (mkR M n) := by
  obtain ⟨h1, h2, h3, h4⟩ := h
  have q0 : i32 0 := ⟨by decide, by decide⟩
  have qn : i32 n := ⟨by omega, by omega⟩
  refine ⟨fun a i => ?_, fun a i hi => ?_, fun a k r hr => ?_, ?_⟩
  · unfold mkR
    split
    · exact i64_32 q0
    · split
      · exact i64_32 qn
      · exact h1 a i
  · unfold mkR
    split
    · exact q0
    · split
      · exact qn
      · exact h2 a i hi
  · have ha : a ≠ 115 := fun z => by rw [z, ptr_R] at hr; cases hr
    have hb : a ≠ 1000 := fun z => by rw [z, ptr_K] at hr; cases hr
    rw [mkR_ne ha hb]
    exact h3 a k r hr
  · unfold mkR
    rw [if_neg (by decide), if_pos ⟨rfl, rfl⟩]
    omega
theorem fvl_R {ad : Nat → Nat} {q t : Nat} {x : Int} (h : t ≤ 2 ∨ x.toNat ≠ 115) : fvl (adR ad q) t x = fvl ad t x := by
  match t, h with
  | 0, _ => rfl
  | 1, _ => rfl
  | 2, _ => rfl
  | t + 3, h =>
    have h9 : x.toNat ≠ 115 := h.resolve_left (by omega)
    show Value.ref (adR ad q x.toNat) = Value.ref (ad x.toNat)
    unfold adR
    rw [if_neg h9]
theorem fld_R {M : Mem} (hM : okM M) (h13 : M 0 13 = 5 ∨ M 0 13 = 119) (h41 : M 4 1 = 5 ∨ M 4 1 = 119) {b k : Nat} (hb : b < 174) (h0 : (kd b).1 = 0) (hk : k < nf (kd b).2) (hne : ¬ (b = 114 ∧ k = 3)) : ft (kd b).2 k ≤ 2 ∨ (M b k).toNat ≠ 115 := by
  rcases kinds0 b hb h0 k hk with h | ⟨_, h⟩ | ⟨_, h⟩
  · exact Or.inl h
  · right
    have h := h.resolve_right hne
    cases hp : ptr b k with
    | none => rw [hp] at h; exact absurd rfl h
    | some r =>
      rw [hp] at h
      rw [hM.2.2.1 b k r hp]
      exact h
  · right
    rcases h with ⟨rfl, rfl⟩ | ⟨rfl, rfl⟩
    · have e : M 0 ((13 : Nat) : Int) = M 0 13 := rfl
      rw [e]
      rcases h13 with z | z <;> rw [z] <;> decide
    · have e : M 4 ((1 : Nat) : Int) = M 4 1 := rfl
      rw [e]
      rcases h41 with z | z <;> rw [z] <;> decide
theorem arrV_same {cI : ClassId} {N : Nat} {f g : Nat → Value} (h : ∀ j, j < N → f j = g j) : arrV cI N f = arrV cI N g := by
  unfold arrV
  have e : (fun j : Fin N => f j.val) = fun j : Fin N => g j.val := funext fun j => h j.val j.isLt
  rw [e]
theorem at_R {D : va_G} {cA : Nat → ClassId} {ad : Nat → Nat} {M : Mem} {n : Int} {q b : Nat} {H : Heap} (hM : okM M) (h13 : M 0 13 = 5 ∨ M 0 13 = 119) (h41 : M 4 1 = 5 ∨ M 4 1 = 119) (hb : b < 174) (b1 : b ≠ 114) (b2 : b ≠ 115) (h : va_at D vwCl (ad b, ent cA ad M b) H) : va_at D vwCl (ad b, ent cA (adR ad q) (mkR M n) b) H := by
  have em : mkR M n b = M b := mkR_ne b2 (by omega)
  have el : len (mkR M n) b = len M b := by unfold len; rw [if_neg b2, if_neg b2]
  rcases kindsA b hb with z | z | z | z | z | z
  · have hk : kd b = (0, (kd b).2) := Prod.ext z rfl
    rw [ent_o hk] at h ⊢
    have e9 : ((List.range (nf (kd b).2)).map (fun k : Nat => fvl (adR ad q) (ft (kd b).2 k) (mkR M n b k))) = (List.range (nf (kd b).2)).map (fun k : Nat => fvl ad (ft (kd b).2 k) (M b k)) := by
      apply List.map_congr_left
      intro k hk9
      rw [em]
      exact fvl_R (fld_R hM h13 h41 hb z (List.mem_range.mp hk9) (fun z => b1 z.1))
    rw [e9]
    exact h
  · rw [ent_i z (Or.inl rfl)] at h ⊢; rw [em, el]; exact h
  · rw [ent_i z (Or.inr (Or.inl rfl))] at h ⊢; rw [em, el]; exact h
  · rw [ent_i z (Or.inr (Or.inr rfl))] at h ⊢; rw [em, el]; exact h
  · rw [ent_l z] at h ⊢; rw [em, el]; exact h
  · rw [ent_a z] at h ⊢; rw [em, el]
    have h9 : H[ad b]? = some (vp_cell (cA 5) ((len M b).toNat, .inr (.inr (.inr (.inr (fun j : Nat => some (ad (M b j).toNat))))))) := h
    show H[ad b]? = some (vp_cell (cA 5) ((len M b).toNat, .inr (.inr (.inr (.inr (fun j : Nat => some (adR ad q (M b j).toNat)))))))
    rw [h9, vp_cell_q, vp_cell_q]
    refine congrArg some (arrV_same fun j hj => ?_)
    have hl : len M b = ((kd b).2 : Int) := by unfold len; rw [if_neg b2]
    rw [hl, Int.toNat_natCast] at hj
    have hp := kinds5 b hb z j hj
    cases hp9 : ptr b j with
    | none => rw [hp9] at hp; exact absurd rfl hp
    | some r =>
      rw [hp9] at hp
      have e := hM.2.2.1 b j r hp9
      have hp : r ≠ 115 := hp
      rw [e, Int.toNat_natCast]
      unfold adR
      rw [if_neg hp]
theorem toW_len {cA : Nat → ClassId} {ad : Nat → Nat} {M : Mem} : (toW cA ad M).length = 174 := by
  unfold toW
  rw [List.length_map, List.length_range]
  rfl
section Roads
variable {p : Program} {l : Launch} {e : Env} {R : Room} {s : State} {m : MethodId} {args : Array Value} {below : List Frame} {meth : Method} {c : Code} {H : Heap} {locs : List Loc} {cells slots : Nat} {Q : State → Prop} {cc : ByteArray} {nL pc : Nat} {D : va_G} {cA : Nat → ClassId} {A : Nat → Prop} {ls : Array Slot} {rest : List Value} {ad : Nat → Nat} {M : Mem}
theorem roads_P {ws : va_W} {n : Int} {q : Nat} {fs : List Value} (hM : okM M) (h13 : M 0 13 = 5 ∨ M 0 13 = 119) (h41 : M 4 1 = 5 ∨ M 4 1 = 119) (hws : ws = toW cA ad M ++ [(q, .inl (cA 1, n.toNat, .inl (fun _ => 0)))]) (hfs : fs = ((List.range (nf 1)).map (fun k : Nat => fvl ad (ft 1 k) (M 114 k))).set 3 (.ref q)) (hP : va_P D vwCl (ws.set 114 (ad 114, .inr (1, fs))) H) : va_P D vwCl (toW cA (adR ad q) (mkR M n)) H := by
  intro k x hx
  obtain ⟨hk, rfl⟩ := toW_lt hx
  have hk : k < 174 := hk
  have hlen : (toW cA ad M).length = 174 := toW_len
  by_cases k5 : k = 115
  · subst k5
    have h9 : va_at D vwCl (q, .inl (cA 1, n.toNat, .inl (fun _ => 0))) H := hP 174 _ (by
      rw [List.getElem?_set_ne (by decide), hws, List.getElem?_append_right (by rw [hlen]; exact Nat.le_refl _), hlen]
      rfl)
    have e1 : adR ad q 115 = q := if_pos rfl
    have e2 : ent cA (adR ad q) (mkR M n) 115 = .inl (cA 1, n.toNat, .inl (fun _ => 0)) := by
      rw [ent_i kd1_115 (Or.inl rfl), mkR_len]
      have e3 : (fun j : Nat => Int32.ofInt (mkR M n 115 j)) = fun _ => 0 := by
        funext j
        unfold mkR
        rw [if_pos rfl]
        rfl
      rw [e3]
    rw [e1, e2]
    exact h9
  · by_cases k4 : k = 114
    · subst k4
      have h9 : va_at D vwCl (ad 114, .inr (1, fs)) H := hP 114 _ (List.getElem?_set_self (by rw [hws, List.length_append, hlen]; exact Nat.lt_of_lt_of_le (by decide) (Nat.le_add_right 174 _)))
      have e1 : adR ad q 114 = ad 114 := if_neg (by decide)
      have e2 : ent cA (adR ad q) (mkR M n) 114 = .inr (1, fs) := by
        rw [ent_o kd_114, hfs]
        congr 2
        apply List.ext_getElem?
        intro j
        by_cases hj : j = 3
        · subst hj
          rw [List.getElem?_set_self (by rw [List.length_map, List.length_range]; decide +kernel), List.getElem?_map, List.getElem?_range (show 3 < nf 1 by decide +kernel)]
          show some (fvl (adR ad q) (ft 1 3) (mkR M n 114 ((3 : Nat) : Int))) = some (Value.ref q)
          rw [mkR_ne (by decide) (by decide), hM.2.2.1 114 3 115 pt_114_3, show ft 1 3 = 3 by decide +kernel]
          rfl
        · rw [List.getElem?_set_ne (Ne.symm hj), List.getElem?_map, List.getElem?_map]
          by_cases hl : j < nf 1
          · rw [List.getElem?_range hl]
            show some (fvl (adR ad q) (ft 1 j) (mkR M n 114 j)) = some (fvl ad (ft 1 j) (M 114 j))
            rw [mkR_ne (by decide) (by decide)]
            have h8 := fld_R (b := 114) (k := j) hM h13 h41 (by decide) (by rw [kd_114]) (by rw [kd_114]; exact hl) (fun z => hj z.2)
            rw [kd_114] at h8
            rw [fvl_R h8]
          · rw [List.getElem?_eq_none (by simpa using hl)]
            rfl
      rw [e1, e2]
      exact h9
    · have h9 : va_at D vwCl (ad k, ent cA ad M k) H := hP k _ (by
        rw [List.getElem?_set_ne (Ne.symm k4), hws, List.getElem?_append_left (by rw [hlen]; exact hk)]
        exact toW_get hk)
      have e1 : adR ad q k = ad k := if_neg k5
      rw [e1]
      exact at_R hM h13 h41 hk k4 k5 h9
theorem roads_ad {ws : va_W} {x : va_E} {q : Nat} (hA : AdOK A ad) (hws : ws = toW cA ad M ++ [(q, x)]) (hD : va_D A ws) : AdOK A (adR ad q) := by
  have hlen : (toW cA ad M).length = 174 := toW_len
  have hq : ws[174]? = some (q, x) := by
    rw [hws, List.getElem?_append_right (by rw [hlen]; exact Nat.le_refl _), hlen]
    rfl
  have hb : ∀ b, b < 174 → ws[b]? = some (ad b, ent cA ad M b) := fun b hb => by
    rw [hws, List.getElem?_append_left (by rw [hlen]; exact hb)]
    exact toW_get hb
  have hne : ∀ b, b < 174 → q ≠ ad b := fun b h9 z => by
    have := hD.1 174 b _ _ hq (hb b h9) z
    omega
  refine ⟨fun a b ha hb9 h => ?_, fun a ha => ?_⟩
  · have ha : a < 174 := ha
    have hb9 : b < 174 := hb9
    unfold adR at h
    by_cases a5 : a = 115
    · rw [if_pos a5] at h
      by_cases b5 : b = 115
      · omega
      · rw [if_neg b5] at h
        exact absurd h (hne b hb9)
    · rw [if_neg a5] at h
      by_cases b5 : b = 115
      · rw [if_pos b5] at h
        exact absurd h.symm (hne a ha)
      · rw [if_neg b5] at h
        exact hA.1 a b ha hb9 h
  · unfold adR
    by_cases a5 : a = 115
    · rw [if_pos a5]
      exact hD.2 174 _ hq
    · rw [if_neg a5]
      exact hA.2 a ha
set_option maxHeartbeats 4000000 in
set_option maxRecDepth 20000 in
theorem w_roads {n : Int} (X : WC p s m args c RX1 cc nL D cA A) (S : WSt D cA A s ad M H locs) (n0 : 0 ≤ n) (n1 : n ≤ 65536) (h13 : M 0 13 = 5 ∨ M 0 13 = 119) (h41 : M 4 1 = 5 ∨ M 4 1 = 119) (hcells : cells + 1 ≤ R.cells) (hslots : slots + n.toNat ≤ R.slots) (d1 : decode cc pc = .ok (.newarray .int, 2)) (d2 : decode cc (pc + 2) = .ok (.putfield 11, 3))
    (kk : ∀ (q : Nat) (H1 : Heap) (locs1 : List Loc), WSt D cA A s (adR ad q) (mkR M n) H1 locs1 → W p l e R s m args below meth c H1 locs1 (cells + 1) (slots + n.toNat) Q (F0 m (pc + 5) ls rest)) : W p l e R s m args below meth c H locs cells slots Q (F0 m pc ls (.int (Int32.ofInt n) :: .ref (ad 114) :: rest)) := by
  obtain ⟨hx, hb, hml, hown, hts, hK, hNW, hA⟩ := X
  have hni : i32 n := ⟨by omega, by omega⟩
  have hn0 : ¬ Int32.ofInt n < 0 := fun z => by
    have := (i32_lt hni (b := 0) ⟨by decide, by decide⟩).mp z
    omega
  have hnb : n.toNat * componentBytes .int ≤ 536870912 := by
    show n.toNat * 4 ≤ 536870912
    omega
  refine va_newa (atype := .int) (ty := .int) (a0 := (n.toNat, .inl (fun _ => 0))) hx hb (hts _ (gt_t (i := 234) (by decide +kernel) (by decide +kernel))) rfl hK S.2.2.1 S.2.1.D S.2.2.2 hA (fun _ => rfl) hn0 (ix_cl hni) hnb hcells hslots d1 (fun q cA' H1 hK' h1 h2 h3 => ?_)
  have e9 : cA' = cA 1 := cA_eq (k := 0) hK hK' rfl (fun C z => by cases z)
  subst e9
  obtain ⟨c1, c2, c3, c4, c5⟩ := clX1
  have hAd := roads_ad S.2.1 rfl h2
  refine va_put (v := .ref q) hx hb hts c3 tyX1 c4 c5 hown hK h1 h2 h3 114 (fs := (List.range (nf 1)).map (fun k : Nat => fvl ad (ft 1 k) (M 114 k))) ?_ c1 3 (by decide) (hts _ flX1_11) (fun _ h9 => h9) rfl (c4 3 (by decide)) rfl rfl (by rw [List.length_map, List.length_range]; decide +kernel) d2 (fun H2 locs2 p1 p2 p3 => kk q H2 locs2 ⟨okM_mkR S.1 n0 n1, hAd, roads_P S.1 h13 h41 rfl rfl p1, p3⟩)
  rw [List.getElem?_append_left (by rw [toW_len]; decide)]
  exact (toW_get (by decide)).trans (congrArg (fun e => some (ad 114, e)) (ent_o kd_114))
end Roads
