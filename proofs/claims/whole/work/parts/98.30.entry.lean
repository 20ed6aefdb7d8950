/-! THE LAW'S ENTRY: what the words and the premises give -/
theorem tb_t {i : Nat} {w : Cond} (h : tables_1[i]? = some w) : w ∈ lw_tbl := List.mem_append_right _ (List.mem_of_getElem? h)
theorem gt_tbl {w : Cond} (h : w ∈ gt) : w ∈ lw_tbl := (List.mem_filter.mp h).1
section Entry
variable {s : State} {args : Array Value} {A : Nat → Prop}
theorem en_nw (hts : ∀ w ∈ lw_tbl, w.before args s = true) : NWs s := fun w hw => by
  have h := hts w (List.mem_append_right _ (List.mem_filter.mp hw).1)
  have hf := (List.mem_filter.mp hw).2
  exact va_any (by cases w <;> first | rfl | cases hf) h
theorem en_arr {ty : FieldType} (h : (Cond.arrayClass ty).before args s = true) : ∃ cA, ArrOfT s cA ty ∧ s.vm.findClass ("[" ++ ty.toString) = some cA := by
  obtain ⟨c, k, comp, h1, h2, h3⟩ := Cond.arrayClass_spec (args := args) (first := s) (o := none) (s := s) (idx := []) (type := ty) h
  exact ⟨c, fun n z => ⟨fun _ h9 => (by cases h9), k, h2, comp, h3⟩, h1⟩
theorem en_arr2 (h : (Cond.arrayOver (.array .int)).before args s = true) : ∃ cA, ArrOfT s cA (.array .int) ∧ s.vm.findClass ("[" ++ (FieldType.array .int).toString) = some cA := by
  obtain ⟨comp, c, k, h1, h2, h3, h4⟩ := Cond.arrayOver_specA (args := args) (first := s) (o := none) (s := s) (idx := []) (t := .int) h
  exact ⟨c, fun n z => ⟨fun _ h9 => (by cases h9), k, h2, comp, h3⟩, h4⟩
set_option maxHeartbeats 4000000 in
set_option maxRecDepth 20000 in
theorem en_K (hts : ∀ w ∈ lw_tbl, w.before args s = true) : ∃ (D : va_G) (cA : Nat → ClassId), va_K D vwCl (tysL cA) s := by
  have hg : ∀ w ∈ gt, w.before args s = true := fun w hw => hts w (gt_tbl hw)
  have mk : ∀ {C : String} {T : u_T} {N n : Nat}, (∀ w ∈ u_ws C T N, w ∈ gt) → Cond.instantiable C n ∈ lw_tbl → ∃ d : ClassId × (Nat → Nat), u_Kn s C T N d.1 d.2 := fun h1 h2 => by
    obtain ⟨c, f, h⟩ := u_known hg h1 (hts _ h2)
    exact ⟨(c, f), h⟩
  have hk : ∀ q ∈ vwCl, ∃ d : ClassId × (Nat → Nat), u_Kn s q.1 q.2.1 q.2.2 d.1 d.2 := by
    intro q hq
    simp only [vwCl, List.mem_cons, List.not_mem_nil, or_false] at hq
    rcases hq with rfl | rfl | rfl | rfl | rfl | rfl | rfl | rfl | rfl | rfl | rfl | rfl | rfl
    · exact mk (n := 4) clX0.2.2.1 (tb_t (i := 375) (by decide +kernel))
    · exact mk (n := 8) clX1.2.2.1 (tb_t (i := 591) (by decide +kernel))
    · exact mk (n := 4) clX2.2.2.1 (tb_t (i := 428) (by decide +kernel))
    · exact mk (n := 18) clX3.2.2.1 (tb_t (i := 128) (by decide +kernel))
    · exact mk (n := 7) clX4.2.2.1 (tb_t (i := 400) (by decide +kernel))
    · exact mk (n := 12) clX5.2.2.1 (tb_t (i := 454) (by decide +kernel))
    · exact mk (n := 12) clX6.2.2.1 (tb_t (i := 122) (by decide +kernel))
    · exact mk (n := 18) clX7.2.2.1 (tb_t (i := 511) (by decide +kernel))
    · exact mk (n := 8) clX8.2.2.1 (tb_t (i := 34) (by decide +kernel))
    · exact mk (n := 8) clX9.2.2.1 (tb_t (i := 281) (by decide +kernel))
    · exact mk (n := 10) clX10.2.2.1 (tb_t (i := 275) (by decide +kernel))
    · exact mk (n := 16) clX11.2.2.1 (tb_t (i := 26) (by decide +kernel))
    · exact mk (n := 54) clX12.2.2.1 (tb_t (i := 1377) (by decide +kernel))
  have hall : ∀ k : Nat, ∃ d : ClassId × (Nat → Nat), ∀ q, vwCl[k]? = some q → u_Kn s q.1 q.2.1 q.2.2 d.1 d.2 := by
    intro k
    cases h : vwCl[k]? with
    | none => exact ⟨(0, fun _ => 0), fun q hq => by cases hq⟩
    | some q =>
      obtain ⟨d, hd⟩ := hk q (List.mem_of_getElem? h)
      exact ⟨d, fun q' hq => by cases hq; exact hd⟩
  obtain ⟨f, hf⟩ := Classical.skolem.mp hall
  obtain ⟨c1, a1, n1⟩ := en_arr (ty := .int) (hts _ (tb_t (i := 234) (by decide +kernel)))
  obtain ⟨c2, a2, n2⟩ := en_arr (ty := .boolean) (hts _ (tb_t (i := 235) (by decide +kernel)))
  obtain ⟨c3, a3, n3⟩ := en_arr (ty := .byte) (hts _ (tb_t (i := 119) (by decide +kernel)))
  obtain ⟨c4, a4, n4⟩ := en_arr (ty := .long) (hts _ (tb_t (i := 120) (by decide +kernel)))
  obtain ⟨c5, a5, n5⟩ := en_arr2 (hts _ (tb_t (i := 339) (by decide +kernel)))
  refine ⟨(fun k => (f k).1, fun k => (f k).2), fun k => if k = 1 then c1 else if k = 2 then c2 else if k = 3 then c3 else if k = 4 then c4 else c5, fun c q hq => hf c q hq, fun k q hk => ?_⟩
  match k, hk with
  | 0, hk => cases hk; exact ⟨a1, n1⟩
  | 1, hk => cases hk; exact ⟨a2, n2⟩
  | 2, hk => cases hk; exact ⟨a3, n3⟩
  | 3, hk => cases hk; exact ⟨a4, n4⟩
  | 4, hk => cases hk; exact ⟨a5, n5⟩
  | k + 5, hk => exact absurd hk (by simp [tysL])
theorem en_eq {t : Term} {v : Int32} (h : (Cond.eq t (.int v)).before args s = true) : t.eval args s none [] s = some (.int v) := by
  obtain ⟨y, y1, y2⟩ := Cond.eq_one (show (Cond.eq t (.int v)).holds args s none s [] = true from h)
  have e : some (Value.int v) = some y := y2
  rw [y1, ← e]
theorem en_at (hgv : (Jvm.Cond.and given_1 narrow_1).before args s = true) {k : Nat} {w : Cond} (h : (flatC (Jvm.Cond.and given_1 narrow_1))[k]? = some w) : w.before args s = true := flat_of_before _ hgv _ (List.mem_of_getElem? h)
abbrev tpS : Term := .string "ShaderReady$Tape" 19
abbrev tpV : Term := .field tpS "java/lang/String" "value" "[B"
theorem en_el : ∀ j, j < 110 → (flatC (Jvm.Cond.and given_1 narrow_1))[28 + j]? = some (Cond.eq (.elem tpV (.int (Int32.ofNat j))) (.int (tpf j))) := by decide +kernel
set_option maxHeartbeats 4000000 in
set_option maxRecDepth 20000 in
theorem en_TE (hts : ∀ w ∈ lw_tbl, w.before args s = true) (hgv : (Jvm.Cond.and given_1 narrow_1).before args s = true) (hA : ∀ a : Nat, a < s.heap.size → ¬ A a) : TE A s := by
  have hex : (Cond.exactly tpS "java/lang/String").before args s = true := en_at hgv (k := 24) (by decide +kernel)
  obtain ⟨q, c, cl, kA, q1, -⟩ := Cond.exactly_spec (args := args) (first := s) (o := none) (s := s) (idx := []) (t := tpS) (cls := "java/lang/String") hex
  have e1 := en_eq (en_at hgv (k := 25) (w := Cond.eq (.field tpS "java/lang/String" "coder" "B") (.int 0)) (by decide +kernel))
  have e2 := en_eq (en_at hgv (k := 27) (w := Cond.eq (.length tpV) (.int (Int32.ofNat 110))) (by decide +kernel))
  have e3 : (Cond.arrayOf tpV .byte).before args s = true := en_at hgv (k := 26) (by decide +kernel)
  obtain ⟨w, w1, w2⟩ := va_Tof (N := 110) (f := fun j => .int (tpf j)) (by decide) e3 e2 (fun j hj => en_eq (en_at hgv (en_el j hj))) hA
  have e4 := en_eq (en_at hgv (k := 4) (w := Cond.eq (.static "java/lang/String" "COMPACT_STRINGS" "Z") (.int 1)) (by decide +kernel))
  have e5 : (Cond.isRef (.static "jdk/internal/util/Preconditions" "SIOOBE_FORMATTER" "Ljava/util/function/BiFunction;")).before args s = true := en_at hgv (k := 5) (by decide +kernel)
  exact ⟨q, w, ⟨va_Oof hex q1 hA, vk_OFof q1 e1 hA, vk_OFof q1 w1 hA, w2, va_Zof (hts _ (tb_t (i := 49) (by decide +kernel))) (hts _ (tb_t (i := 3) (by decide +kernel))) e4 hA, va_Zqof (hts _ (tb_t (i := 65) (by decide +kernel))) (hts _ (tb_t (i := 5) (by decide +kernel))) e5 hA⟩, vk_R.of (hts _ (tb_t (i := 39) (by decide +kernel))) q1⟩
theorem nseB_in : ∀ w ∈ nseB, w ∈ lw_tbl := by
  intro w hw
  simp only [nseB, List.mem_cons, List.not_mem_nil, or_false] at hw
  rcases hw with rfl | rfl | rfl | rfl
  · exact tb_t (i := 1265) (by decide +kernel)
  · exact tb_t (i := 1267) (by decide +kernel)
  · exact tb_t (i := 1269) (by decide +kernel)
  · exact tb_t (i := 1264) (by decide +kernel)
theorem en_Th (hts : ∀ w ∈ lw_tbl, w.before args s = true) (hgv : (Jvm.Cond.and given_1 narrow_1).before args s = true) (hA : ∀ a : Nat, a < s.heap.size → ¬ A a) : ThE A s :=
  ⟨vx_Zqof (hts _ (tb_t (i := 1289) (by decide +kernel))) (hts _ (tb_t (i := 20) (by decide +kernel))) (en_at hgv (k := 9) (by decide +kernel)) hA, vx_Zqof (hts _ (tb_t (i := 1291) (by decide +kernel))) (hts _ (tb_t (i := 20) (by decide +kernel))) (en_at hgv (k := 10) (by decide +kernel)) hA, fun w hw => va_any (nseB_ot w hw) (hts w (nseB_in w hw))⟩
theorem en_AO (hts : ∀ w ∈ lw_tbl, w.before args s = true) : va_AOA .int s := by
  have h := hts (Cond.arrayOver (.array .int)) (tb_t (i := 339) (by decide +kernel))
  exact h
end Entry
