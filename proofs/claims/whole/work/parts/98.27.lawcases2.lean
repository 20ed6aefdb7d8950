/-! THE LAW: case by case -/
section LCases
variable {p : Program} {l : Launch} {e : Env} {s : State} {m : MethodId} {below : List Frame} {meth : Method} {c : Code} {H : Heap} {locs : List Loc} {cells slots : Nat} {Q : State → Prop} {b L i : Nat} {xs : Nat → Int32} {D : va_G} {cA : Nat → ClassId} {A : Nat → Prop} {ls : Array Slot} {ad : Nat → Nat} {M : Mem}
set_option maxHeartbeats 4000000 in
set_option maxRecDepth 20000 in
theorem law_20 (C : LC p l s m c b L xs D cA A) (S : WSt D cA A s ad M H locs) (hI : Inv M) (hl : lv_has ls 7 (lL ad b i)) (hi : i + 7 ≤ L) (hcs : cells + 1 ≤ 601024 ∧ slots + 4096 ≤ 7293033) (K : LK p l e s m below meth c b i D cA A Q cells slots) : W p l e room_1 s m #[Value.ref b] below meth c H locs cells slots Q (F0 m 1014 ls []) := by
  have X := C.1
  have hcs0 : cells ≤ 601024 ∧ slots ≤ 7293033 := ⟨by omega, by omega⟩
  obtain ⟨t, n, nI, nS, D9, k1, k2, -, -, -⟩ := id hI
  obtain ⟨x, M1, M2, e1, e2, hI2⟩ := AnsI_q hI (q_used k1 k2 (xv xs (i + 1)))
  have t1 := tX11_used (xv xs (i + 1)) M
  rw [e1] at t1
  have t2 := tX12_used (xv xs (i + 1)) M1
  rw [e2] at t2
  refine lv_aload_n X.1 X.2.1 dL_law_1014 rfl (lv_at hl 3 rfl) ?_
  refine l_arg (j := 1) C S (lv_at hl 4 rfl) (lv_at hl 0 rfl) hi (by decide) rfl dL_law_1015 dL_law_1016 dL_law_1018 dL_law_1019 dL_law_1020 ?_
  refine w_callV (av := [zi (xv xs (i + 1))]) (rest := []) X S hl.1 t1 ⟨xv_in, trivial⟩ lkL_115 kd_0 rfl rfl rfl (Nat.le_of_ble_eq_true rfl) ⟨Nat.le_of_ble_eq_true rfl, Nat.le_of_ble_eq_true rfl⟩ hcs0 dL_law_1021 (fun H locs S hok => ?_)
  have S : WSt D cA A s ad M1 H locs := S
  show W _ _ _ _ _ _ _ _ _ _ _ _ _ _ _ (F0 m 1024 ls [.int (Int32.ofInt x)])
  refine lv_aload_n X.1 X.2.1 dL_law_1024 rfl (lv_at hl 2 rfl) ?_
  refine l_arg (j := 1) C S (lv_at hl 4 rfl) (lv_at hl 0 rfl) hi (by decide) rfl dL_law_1025 dL_law_1026 dL_law_1028 dL_law_1029 dL_law_1030 ?_
  refine w_callV (av := [zi (xv xs (i + 1))]) (rest := [.int (Int32.ofInt x)]) X S hl.1 t2 ⟨xv_in, trivial⟩ lkL_118 kd_132 rfl rfl rfl (Nat.le_of_ble_eq_true rfl) ⟨Nat.le_of_ble_eq_true rfl, Nat.le_of_ble_eq_true rfl⟩ hcs0 dL_law_1031 (fun H locs S hok => ?_)
  have S : WSt D cA A s ad M2 H locs := S
  show W _ _ _ _ _ _ _ _ _ _ _ _ _ _ _ (F0 m 1034 ls [.int (Int32.ofInt x), .int (Int32.ofInt x)])
  refine lv_icmp_eq (tgt := 1311) X.1 X.2.1 dL_law_1034 (by decide) (fun _ => ?_) (fun hc => absurd rfl hc)
  exact K ad M2 H locs ls cells slots hI2 S hl (by omega) (by omega)
set_option maxHeartbeats 4000000 in
set_option maxRecDepth 20000 in
theorem law_21 (C : LC p l s m c b L xs D cA A) (S : WSt D cA A s ad M H locs) (hI : Inv M) (hl : lv_has ls 7 (lL ad b i)) (hi : i + 7 ≤ L) (hcs : cells + 1 ≤ 601024 ∧ slots + 4096 ≤ 7293033) (K : LK p l e s m below meth c b i D cA A Q cells slots) : W p l e room_1 s m #[Value.ref b] below meth c H locs cells slots Q (F0 m 1039 ls []) := by
  have X := C.1
  have hcs0 : cells ≤ 601024 ∧ slots ≤ 7293033 := ⟨by omega, by omega⟩
  obtain ⟨t, n, nI, nS, D9, k1, k2, -, -, -⟩ := id hI
  obtain ⟨x, M1, M2, e1, e2, hI2⟩ := AnsI_q hI (q_clause k1 k2 (xv xs (i + 1)) (xv xs (i + 2)))
  have t1 := tX11_clause (xv xs (i + 1)) (xv xs (i + 2)) M
  rw [e1] at t1
  have t2 := tX12_clause (xv xs (i + 1)) (xv xs (i + 2)) M1
  rw [e2] at t2
  refine lv_aload_n X.1 X.2.1 dL_law_1039 rfl (lv_at hl 3 rfl) ?_
  refine l_arg (j := 1) C S (lv_at hl 4 rfl) (lv_at hl 0 rfl) hi (by decide) rfl dL_law_1040 dL_law_1041 dL_law_1043 dL_law_1044 dL_law_1045 ?_
  refine l_arg (j := 2) C S (lv_at hl 4 rfl) (lv_at hl 0 rfl) hi (by decide) rfl dL_law_1046 dL_law_1047 dL_law_1049 dL_law_1050 dL_law_1051 ?_
  refine w_callV (av := [zi (xv xs (i + 1)), zi (xv xs (i + 2))]) (rest := []) X S hl.1 t1 ⟨xv_in, xv_in, trivial⟩ lkL_119 kd_0 rfl rfl rfl (Nat.le_of_ble_eq_true rfl) ⟨Nat.le_of_ble_eq_true rfl, Nat.le_of_ble_eq_true rfl⟩ hcs0 dL_law_1052 (fun H locs S hok => ?_)
  have S : WSt D cA A s ad M1 H locs := S
  show W _ _ _ _ _ _ _ _ _ _ _ _ _ _ _ (F0 m 1055 ls [.int (Int32.ofInt x)])
  refine lv_aload_n X.1 X.2.1 dL_law_1055 rfl (lv_at hl 2 rfl) ?_
  refine l_arg (j := 1) C S (lv_at hl 4 rfl) (lv_at hl 0 rfl) hi (by decide) rfl dL_law_1056 dL_law_1057 dL_law_1059 dL_law_1060 dL_law_1061 ?_
  refine l_arg (j := 2) C S (lv_at hl 4 rfl) (lv_at hl 0 rfl) hi (by decide) rfl dL_law_1062 dL_law_1063 dL_law_1065 dL_law_1066 dL_law_1067 ?_
  refine w_callV (av := [zi (xv xs (i + 1)), zi (xv xs (i + 2))]) (rest := [.int (Int32.ofInt x)]) X S hl.1 t2 ⟨xv_in, xv_in, trivial⟩ lkL_122 kd_132 rfl rfl rfl (Nat.le_of_ble_eq_true rfl) ⟨Nat.le_of_ble_eq_true rfl, Nat.le_of_ble_eq_true rfl⟩ hcs0 dL_law_1068 (fun H locs S hok => ?_)
  have S : WSt D cA A s ad M2 H locs := S
  show W _ _ _ _ _ _ _ _ _ _ _ _ _ _ _ (F0 m 1071 ls [.int (Int32.ofInt x), .int (Int32.ofInt x)])
  refine lv_icmp_eq (tgt := 1311) X.1 X.2.1 dL_law_1071 (by decide) (fun _ => ?_) (fun hc => absurd rfl hc)
  exact K ad M2 H locs ls cells slots hI2 S hl (by omega) (by omega)
set_option maxHeartbeats 4000000 in
set_option maxRecDepth 20000 in
theorem law_22 (C : LC p l s m c b L xs D cA A) (S : WSt D cA A s ad M H locs) (hI : Inv M) (hl : lv_has ls 7 (lL ad b i)) (hi : i + 7 ≤ L) (hcs : cells + 1 ≤ 601024 ∧ slots + 4096 ≤ 7293033) (K : LK p l e s m below meth c b i D cA A Q cells slots) : W p l e room_1 s m #[Value.ref b] below meth c H locs cells slots Q (F0 m 1076 ls []) := by
  have X := C.1
  have hcs0 : cells ≤ 601024 ∧ slots ≤ 7293033 := ⟨by omega, by omega⟩
  obtain ⟨t, n, nI, nS, D9, k1, k2, -, -, -⟩ := id hI
  obtain ⟨x, M1, M2, e1, e2, hI2⟩ := AnsI_q hI (q_by k1 k2 (xv xs (i + 1)) (xv xs (i + 2)))
  have t1 := tX11_by (xv xs (i + 1)) (xv xs (i + 2)) M
  rw [e1] at t1
  have t2 := tX12_by (xv xs (i + 1)) (xv xs (i + 2)) M1
  rw [e2] at t2
  refine lv_aload_n X.1 X.2.1 dL_law_1076 rfl (lv_at hl 3 rfl) ?_
  refine l_arg (j := 1) C S (lv_at hl 4 rfl) (lv_at hl 0 rfl) hi (by decide) rfl dL_law_1077 dL_law_1078 dL_law_1080 dL_law_1081 dL_law_1082 ?_
  refine l_arg (j := 2) C S (lv_at hl 4 rfl) (lv_at hl 0 rfl) hi (by decide) rfl dL_law_1083 dL_law_1084 dL_law_1086 dL_law_1087 dL_law_1088 ?_
  refine w_callV (av := [zi (xv xs (i + 1)), zi (xv xs (i + 2))]) (rest := []) X S hl.1 t1 ⟨xv_in, xv_in, trivial⟩ lkL_123 kd_0 rfl rfl rfl (Nat.le_of_ble_eq_true rfl) ⟨Nat.le_of_ble_eq_true rfl, Nat.le_of_ble_eq_true rfl⟩ hcs0 dL_law_1089 (fun H locs S hok => ?_)
  have S : WSt D cA A s ad M1 H locs := S
  show W _ _ _ _ _ _ _ _ _ _ _ _ _ _ _ (F0 m 1092 ls [.int (Int32.ofInt x)])
  refine lv_aload_n X.1 X.2.1 dL_law_1092 rfl (lv_at hl 2 rfl) ?_
  refine l_arg (j := 1) C S (lv_at hl 4 rfl) (lv_at hl 0 rfl) hi (by decide) rfl dL_law_1093 dL_law_1094 dL_law_1096 dL_law_1097 dL_law_1098 ?_
  refine l_arg (j := 2) C S (lv_at hl 4 rfl) (lv_at hl 0 rfl) hi (by decide) rfl dL_law_1099 dL_law_1100 dL_law_1102 dL_law_1103 dL_law_1104 ?_
  refine w_callV (av := [zi (xv xs (i + 1)), zi (xv xs (i + 2))]) (rest := [.int (Int32.ofInt x)]) X S hl.1 t2 ⟨xv_in, xv_in, trivial⟩ lkL_126 kd_132 rfl rfl rfl (Nat.le_of_ble_eq_true rfl) ⟨Nat.le_of_ble_eq_true rfl, Nat.le_of_ble_eq_true rfl⟩ hcs0 dL_law_1105 (fun H locs S hok => ?_)
  have S : WSt D cA A s ad M2 H locs := S
  show W _ _ _ _ _ _ _ _ _ _ _ _ _ _ _ (F0 m 1108 ls [.int (Int32.ofInt x), .int (Int32.ofInt x)])
  refine lv_icmp_eq (tgt := 1311) X.1 X.2.1 dL_law_1108 (by decide) (fun _ => ?_) (fun hc => absurd rfl hc)
  exact K ad M2 H locs ls cells slots hI2 S hl (by omega) (by omega)
set_option maxHeartbeats 4000000 in
set_option maxRecDepth 20000 in
theorem law_23 (C : LC p l s m c b L xs D cA A) (S : WSt D cA A s ad M H locs) (hI : Inv M) (hl : lv_has ls 7 (lL ad b i)) (hi : i + 7 ≤ L) (hcs : cells + 1 ≤ 601024 ∧ slots + 4096 ≤ 7293033) (K : LK p l e s m below meth c b i D cA A Q cells slots) : W p l e room_1 s m #[Value.ref b] below meth c H locs cells slots Q (F0 m 1113 ls []) := by
  have X := C.1
  have hcs0 : cells ≤ 601024 ∧ slots ≤ 7293033 := ⟨by omega, by omega⟩
  obtain ⟨t, n, nI, nS, D9, k1, k2, -, -, -⟩ := id hI
  obtain ⟨x, M1, M2, e1, e2, hI2⟩ := AnsI_q hI (q_alone k1 (xv xs (i + 1)) (xv xs (i + 2)))
  have t1 := tX11_alone (xv xs (i + 1)) (xv xs (i + 2)) M
  rw [e1] at t1
  have t2 := tX12_alone (xv xs (i + 1)) (xv xs (i + 2)) M1
  rw [e2] at t2
  refine lv_aload_n X.1 X.2.1 dL_law_1113 rfl (lv_at hl 3 rfl) ?_
  refine l_arg (j := 1) C S (lv_at hl 4 rfl) (lv_at hl 0 rfl) hi (by decide) rfl dL_law_1114 dL_law_1115 dL_law_1117 dL_law_1118 dL_law_1119 ?_
  refine l_arg (j := 2) C S (lv_at hl 4 rfl) (lv_at hl 0 rfl) hi (by decide) rfl dL_law_1120 dL_law_1121 dL_law_1123 dL_law_1124 dL_law_1125 ?_
  refine w_callV (av := [zi (xv xs (i + 1)), zi (xv xs (i + 2))]) (rest := []) X S hl.1 t1 ⟨xv_in, xv_in, trivial⟩ lkL_127 kd_0 rfl rfl rfl (Nat.le_of_ble_eq_true rfl) ⟨Nat.le_of_ble_eq_true rfl, Nat.le_of_ble_eq_true rfl⟩ hcs0 dL_law_1126 (fun H locs S hok => ?_)
  have S : WSt D cA A s ad M1 H locs := S
  show W _ _ _ _ _ _ _ _ _ _ _ _ _ _ _ (F0 m 1129 ls [.int (Int32.ofInt x)])
  refine lv_aload_n X.1 X.2.1 dL_law_1129 rfl (lv_at hl 2 rfl) ?_
  refine l_arg (j := 1) C S (lv_at hl 4 rfl) (lv_at hl 0 rfl) hi (by decide) rfl dL_law_1130 dL_law_1131 dL_law_1133 dL_law_1134 dL_law_1135 ?_
  refine l_arg (j := 2) C S (lv_at hl 4 rfl) (lv_at hl 0 rfl) hi (by decide) rfl dL_law_1136 dL_law_1137 dL_law_1139 dL_law_1140 dL_law_1141 ?_
  refine w_callV (av := [zi (xv xs (i + 1)), zi (xv xs (i + 2))]) (rest := [.int (Int32.ofInt x)]) X S hl.1 t2 ⟨xv_in, xv_in, trivial⟩ lkL_130 kd_132 rfl rfl rfl (Nat.le_of_ble_eq_true rfl) ⟨Nat.le_of_ble_eq_true rfl, Nat.le_of_ble_eq_true rfl⟩ hcs0 dL_law_1142 (fun H locs S hok => ?_)
  have S : WSt D cA A s ad M2 H locs := S
  show W _ _ _ _ _ _ _ _ _ _ _ _ _ _ _ (F0 m 1145 ls [.int (Int32.ofInt x), .int (Int32.ofInt x)])
  refine lv_icmp_eq (tgt := 1311) X.1 X.2.1 dL_law_1145 (by decide) (fun _ => ?_) (fun hc => absurd rfl hc)
  exact K ad M2 H locs ls cells slots hI2 S hl (by omega) (by omega)
set_option maxHeartbeats 4000000 in
set_option maxRecDepth 20000 in
theorem law_24 (C : LC p l s m c b L xs D cA A) (S : WSt D cA A s ad M H locs) (hI : Inv M) (hl : lv_has ls 7 (lL ad b i)) (hi : i + 7 ≤ L) (hcs : cells + 1 ≤ 601024 ∧ slots + 4096 ≤ 7293033) (K : LK p l e s m below meth c b i D cA A Q cells slots) : W p l e room_1 s m #[Value.ref b] below meth c H locs cells slots Q (F0 m 1150 ls []) := by
  have X := C.1
  have hcs0 : cells ≤ 601024 ∧ slots ≤ 7293033 := ⟨by omega, by omega⟩
  obtain ⟨t, n, nI, nS, D9, k1, k2, -, -, -⟩ := id hI
  obtain ⟨x, M1, M2, e1, e2, hI2⟩ := AnsI_q hI (q_narrowed k1 (xv xs (i + 1)) (xv xs (i + 2)) (xv xs (i + 3)) (xv xs (i + 4)))
  have t1 := tX11_narrowed (xv xs (i + 1)) (xv xs (i + 2)) (xv xs (i + 3)) (xv xs (i + 4)) M
  rw [e1] at t1
  have t2 := tX12_narrowed (xv xs (i + 1)) (xv xs (i + 2)) (xv xs (i + 3)) (xv xs (i + 4)) M1
  rw [e2] at t2
  refine lv_aload_n X.1 X.2.1 dL_law_1150 rfl (lv_at hl 3 rfl) ?_
  refine l_arg (j := 1) C S (lv_at hl 4 rfl) (lv_at hl 0 rfl) hi (by decide) rfl dL_law_1151 dL_law_1152 dL_law_1154 dL_law_1155 dL_law_1156 ?_
  refine l_arg (j := 2) C S (lv_at hl 4 rfl) (lv_at hl 0 rfl) hi (by decide) rfl dL_law_1157 dL_law_1158 dL_law_1160 dL_law_1161 dL_law_1162 ?_
  refine l_arg (j := 3) C S (lv_at hl 4 rfl) (lv_at hl 0 rfl) hi (by decide) rfl dL_law_1163 dL_law_1164 dL_law_1166 dL_law_1167 dL_law_1168 ?_
  refine l_arg (j := 4) C S (lv_at hl 4 rfl) (lv_at hl 0 rfl) hi (by decide) rfl dL_law_1169 dL_law_1170 dL_law_1172 dL_law_1173 dL_law_1174 ?_
  refine w_callV (av := [zi (xv xs (i + 1)), zi (xv xs (i + 2)), zi (xv xs (i + 3)), zi (xv xs (i + 4))]) (rest := []) X S hl.1 t1 ⟨xv_in, xv_in, xv_in, xv_in, trivial⟩ lkL_131 kd_0 rfl rfl rfl (Nat.le_of_ble_eq_true rfl) ⟨Nat.le_of_ble_eq_true rfl, Nat.le_of_ble_eq_true rfl⟩ hcs0 dL_law_1175 (fun H locs S hok => ?_)
  have S : WSt D cA A s ad M1 H locs := S
  show W _ _ _ _ _ _ _ _ _ _ _ _ _ _ _ (F0 m 1178 ls [.int (Int32.ofInt x)])
  refine lv_aload_n X.1 X.2.1 dL_law_1178 rfl (lv_at hl 2 rfl) ?_
  refine l_arg (j := 1) C S (lv_at hl 4 rfl) (lv_at hl 0 rfl) hi (by decide) rfl dL_law_1179 dL_law_1180 dL_law_1182 dL_law_1183 dL_law_1184 ?_
  refine l_arg (j := 2) C S (lv_at hl 4 rfl) (lv_at hl 0 rfl) hi (by decide) rfl dL_law_1185 dL_law_1186 dL_law_1188 dL_law_1189 dL_law_1190 ?_
  refine l_arg (j := 3) C S (lv_at hl 4 rfl) (lv_at hl 0 rfl) hi (by decide) rfl dL_law_1191 dL_law_1192 dL_law_1194 dL_law_1195 dL_law_1196 ?_
  refine l_arg (j := 4) C S (lv_at hl 4 rfl) (lv_at hl 0 rfl) hi (by decide) rfl dL_law_1197 dL_law_1198 dL_law_1200 dL_law_1201 dL_law_1202 ?_
  refine w_callV (av := [zi (xv xs (i + 1)), zi (xv xs (i + 2)), zi (xv xs (i + 3)), zi (xv xs (i + 4))]) (rest := [.int (Int32.ofInt x)]) X S hl.1 t2 ⟨xv_in, xv_in, xv_in, xv_in, trivial⟩ lkL_135 kd_132 rfl rfl rfl (Nat.le_of_ble_eq_true rfl) ⟨Nat.le_of_ble_eq_true rfl, Nat.le_of_ble_eq_true rfl⟩ hcs0 dL_law_1203 (fun H locs S hok => ?_)
  have S : WSt D cA A s ad M2 H locs := S
  show W _ _ _ _ _ _ _ _ _ _ _ _ _ _ _ (F0 m 1206 ls [.int (Int32.ofInt x), .int (Int32.ofInt x)])
  refine lv_icmp_eq (tgt := 1311) X.1 X.2.1 dL_law_1206 (by decide) (fun _ => ?_) (fun hc => absurd rfl hc)
  exact K ad M2 H locs ls cells slots hI2 S hl (by omega) (by omega)
set_option maxHeartbeats 4000000 in
set_option maxRecDepth 20000 in
theorem law_25 (C : LC p l s m c b L xs D cA A) (S : WSt D cA A s ad M H locs) (hI : Inv M) (hl : lv_has ls 7 (lL ad b i)) (hi : i + 7 ≤ L) (hcs : cells + 1 ≤ 601024 ∧ slots + 4096 ≤ 7293033) (K : LK p l e s m below meth c b i D cA A Q cells slots) : W p l e room_1 s m #[Value.ref b] below meth c H locs cells slots Q (F0 m 1211 ls []) := by
  have X := C.1
  have hcs0 : cells ≤ 601024 ∧ slots ≤ 7293033 := ⟨by omega, by omega⟩
  obtain ⟨t, n, nI, nS, D9, k1, k2, -, -, -⟩ := id hI
  obtain ⟨x, M1, M2, e1, e2, hI2⟩ := AnsI_q hI (q_swapped k1 k2 (xv xs (i + 1)) (xv xs (i + 2)))
  have t1 := tX11_swapped (xv xs (i + 1)) (xv xs (i + 2)) M
  rw [e1] at t1
  have t2 := tX12_swapped (xv xs (i + 1)) (xv xs (i + 2)) M1
  rw [e2] at t2
  refine lv_aload_n X.1 X.2.1 dL_law_1211 rfl (lv_at hl 3 rfl) ?_
  refine l_arg (j := 1) C S (lv_at hl 4 rfl) (lv_at hl 0 rfl) hi (by decide) rfl dL_law_1212 dL_law_1213 dL_law_1215 dL_law_1216 dL_law_1217 ?_
  refine l_arg (j := 2) C S (lv_at hl 4 rfl) (lv_at hl 0 rfl) hi (by decide) rfl dL_law_1218 dL_law_1219 dL_law_1221 dL_law_1222 dL_law_1223 ?_
  refine w_callV (av := [zi (xv xs (i + 1)), zi (xv xs (i + 2))]) (rest := []) X S hl.1 t1 ⟨xv_in, xv_in, trivial⟩ lkL_136 kd_0 rfl rfl rfl (Nat.le_of_ble_eq_true rfl) ⟨Nat.le_of_ble_eq_true rfl, Nat.le_of_ble_eq_true rfl⟩ hcs0 dL_law_1224 (fun H locs S hok => ?_)
  have S : WSt D cA A s ad M1 H locs := S
  show W _ _ _ _ _ _ _ _ _ _ _ _ _ _ _ (F0 m 1227 ls [.int (Int32.ofInt x)])
  refine lv_aload_n X.1 X.2.1 dL_law_1227 rfl (lv_at hl 2 rfl) ?_
  refine l_arg (j := 1) C S (lv_at hl 4 rfl) (lv_at hl 0 rfl) hi (by decide) rfl dL_law_1228 dL_law_1229 dL_law_1231 dL_law_1232 dL_law_1233 ?_
  refine l_arg (j := 2) C S (lv_at hl 4 rfl) (lv_at hl 0 rfl) hi (by decide) rfl dL_law_1234 dL_law_1235 dL_law_1237 dL_law_1238 dL_law_1239 ?_
  refine w_callV (av := [zi (xv xs (i + 1)), zi (xv xs (i + 2))]) (rest := [.int (Int32.ofInt x)]) X S hl.1 t2 ⟨xv_in, xv_in, trivial⟩ lkL_139 kd_132 rfl rfl rfl (Nat.le_of_ble_eq_true rfl) ⟨Nat.le_of_ble_eq_true rfl, Nat.le_of_ble_eq_true rfl⟩ hcs0 dL_law_1240 (fun H locs S hok => ?_)
  have S : WSt D cA A s ad M2 H locs := S
  show W _ _ _ _ _ _ _ _ _ _ _ _ _ _ _ (F0 m 1243 ls [.int (Int32.ofInt x), .int (Int32.ofInt x)])
  refine lv_icmp_eq (tgt := 1311) X.1 X.2.1 dL_law_1243 (by decide) (fun _ => ?_) (fun hc => absurd rfl hc)
  exact K ad M2 H locs ls cells slots hI2 S hl (by omega) (by omega)
set_option maxHeartbeats 4000000 in
set_option maxRecDepth 20000 in
theorem law_26 (C : LC p l s m c b L xs D cA A) (S : WSt D cA A s ad M H locs) (hI : Inv M) (hl : lv_has ls 7 (lL ad b i)) (hi : i + 7 ≤ L) (hcs : cells + 1 ≤ 601024 ∧ slots + 4096 ≤ 7293033) (K : LK p l e s m below meth c b i D cA A Q cells slots) : W p l e room_1 s m #[Value.ref b] below meth c H locs cells slots Q (F0 m 1248 ls []) := by
  have X := C.1
  have hcs0 : cells ≤ 601024 ∧ slots ≤ 7293033 := ⟨by omega, by omega⟩
  obtain ⟨x, M1, M2, e1, e2, hI2⟩ := i_best hI 
  have t1 := cnX11_best hI
  rw [e1] at t1
  have t2 := tX12_best  M1
  rw [e2] at t2
  refine lv_aload_n X.1 X.2.1 dL_law_1248 rfl (lv_at hl 3 rfl) ?_
  refine w_callW (av := []) (rest := []) X S hl.1 t1 trivial lkL_140 kd_0 rfl rfl rfl (Nat.le_of_ble_eq_true rfl) ⟨Nat.le_of_ble_eq_true rfl, Nat.le_of_ble_eq_true rfl⟩ hcs dL_law_1249 (fun ad2 H locs had S hok => ?_)
  have S : WSt D cA A s ad2 M1 H locs := S
  have hl : lv_has ls 7 (lL ad2 b i) := by unfold lL; rw [had 173 (by decide), had 132 (by decide), had 0 (by decide)]; exact hl
  show W _ _ _ _ _ _ _ _ _ _ _ _ _ _ _ (F0 m 1252 ls [.int (Int32.ofInt x)])
  refine lv_aload_n X.1 X.2.1 dL_law_1252 rfl (lv_at hl 2 rfl) ?_
  refine w_callV (av := []) (rest := [.int (Int32.ofInt x)]) X S hl.1 t2 trivial lkL_143 kd_132 rfl rfl rfl (Nat.le_of_ble_eq_true rfl) ⟨Nat.le_of_ble_eq_true rfl, Nat.le_of_ble_eq_true rfl⟩ hcs dL_law_1253 (fun H locs S hok => ?_)
  have S : WSt D cA A s ad2 M2 H locs := S
  show W _ _ _ _ _ _ _ _ _ _ _ _ _ _ _ (F0 m 1256 ls [.int (Int32.ofInt x), .int (Int32.ofInt x)])
  refine lv_icmp_eq (tgt := 1311) X.1 X.2.1 dL_law_1256 (by decide) (fun _ => ?_) (fun hc => absurd rfl hc)
  exact K ad2 M2 H locs ls (cells + 1) (slots + 4096) hI2 S hl (Nat.le_refl _) (Nat.le_refl _)
set_option maxHeartbeats 4000000 in
set_option maxRecDepth 20000 in
theorem law_27 (C : LC p l s m c b L xs D cA A) (S : WSt D cA A s ad M H locs) (hI : Inv M) (hl : lv_has ls 7 (lL ad b i)) (hi : i + 7 ≤ L) (hcs : cells + 1 ≤ 601024 ∧ slots + 4096 ≤ 7293033) (K : LK p l e s m below meth c b i D cA A Q cells slots) : W p l e room_1 s m #[Value.ref b] below meth c H locs cells slots Q (F0 m 1261 ls []) := by
  have X := C.1
  have hcs0 : cells ≤ 601024 ∧ slots ≤ 7293033 := ⟨by omega, by omega⟩
  obtain ⟨t, n, nI, nS, D9, k1, k2, -, -, -⟩ := id hI
  obtain ⟨x, M1, M2, e1, e2, hI2⟩ := AnsI_q hI (q_parts k1 (xv xs (i + 1)))
  have t1 := tX11_parts (xv xs (i + 1)) M
  rw [e1] at t1
  have t2 := tX12_parts (xv xs (i + 1)) M1
  rw [e2] at t2
  refine lv_aload_n X.1 X.2.1 dL_law_1261 rfl (lv_at hl 3 rfl) ?_
  refine l_arg (j := 1) C S (lv_at hl 4 rfl) (lv_at hl 0 rfl) hi (by decide) rfl dL_law_1262 dL_law_1263 dL_law_1265 dL_law_1266 dL_law_1267 ?_
  refine w_callV (av := [zi (xv xs (i + 1))]) (rest := []) X S hl.1 t1 ⟨xv_in, trivial⟩ lkL_144 kd_0 rfl rfl rfl (Nat.le_of_ble_eq_true rfl) ⟨Nat.le_of_ble_eq_true rfl, Nat.le_of_ble_eq_true rfl⟩ hcs0 dL_law_1268 (fun H locs S hok => ?_)
  have S : WSt D cA A s ad M1 H locs := S
  show W _ _ _ _ _ _ _ _ _ _ _ _ _ _ _ (F0 m 1271 ls [.int (Int32.ofInt x)])
  refine lv_aload_n X.1 X.2.1 dL_law_1271 rfl (lv_at hl 2 rfl) ?_
  refine l_arg (j := 1) C S (lv_at hl 4 rfl) (lv_at hl 0 rfl) hi (by decide) rfl dL_law_1272 dL_law_1273 dL_law_1275 dL_law_1276 dL_law_1277 ?_
  refine w_callV (av := [zi (xv xs (i + 1))]) (rest := [.int (Int32.ofInt x)]) X S hl.1 t2 ⟨xv_in, trivial⟩ lkL_147 kd_132 rfl rfl rfl (Nat.le_of_ble_eq_true rfl) ⟨Nat.le_of_ble_eq_true rfl, Nat.le_of_ble_eq_true rfl⟩ hcs0 dL_law_1278 (fun H locs S hok => ?_)
  have S : WSt D cA A s ad M2 H locs := S
  show W _ _ _ _ _ _ _ _ _ _ _ _ _ _ _ (F0 m 1281 ls [.int (Int32.ofInt x), .int (Int32.ofInt x)])
  refine lv_icmp_eq (tgt := 1311) X.1 X.2.1 dL_law_1281 (by decide) (fun _ => ?_) (fun hc => absurd rfl hc)
  exact K ad M2 H locs ls cells slots hI2 S hl (by omega) (by omega)
set_option maxHeartbeats 4000000 in
set_option maxRecDepth 20000 in
theorem law_28 (C : LC p l s m c b L xs D cA A) (S : WSt D cA A s ad M H locs) (hI : Inv M) (hl : lv_has ls 7 (lL ad b i)) (hi : i + 7 ≤ L) (hcs : cells + 1 ≤ 601024 ∧ slots + 4096 ≤ 7293033) (K : LK p l e s m below meth c b i D cA A Q cells slots) : W p l e room_1 s m #[Value.ref b] below meth c H locs cells slots Q (F0 m 1286 ls []) := by
  have X := C.1
  have hcs0 : cells ≤ 601024 ∧ slots ≤ 7293033 := ⟨by omega, by omega⟩
  obtain ⟨t, n, nI, nS, D9, k1, k2, -, -, -⟩ := id hI
  obtain ⟨x, M1, M2, e1, e2, hI2⟩ := AnsI_q hI (q_count k1 k2 (xv xs (i + 1)))
  have t1 := tX11_count (xv xs (i + 1)) M
  rw [e1] at t1
  have t2 := tX12_count (xv xs (i + 1)) M1
  rw [e2] at t2
  refine lv_aload_n X.1 X.2.1 dL_law_1286 rfl (lv_at hl 3 rfl) ?_
  refine l_arg (j := 1) C S (lv_at hl 4 rfl) (lv_at hl 0 rfl) hi (by decide) rfl dL_law_1287 dL_law_1288 dL_law_1290 dL_law_1291 dL_law_1292 ?_
  refine w_callV (av := [zi (xv xs (i + 1))]) (rest := []) X S hl.1 t1 ⟨xv_in, trivial⟩ lkL_148 kd_0 rfl rfl rfl (Nat.le_of_ble_eq_true rfl) ⟨Nat.le_of_ble_eq_true rfl, Nat.le_of_ble_eq_true rfl⟩ hcs0 dL_law_1293 (fun H locs S hok => ?_)
  have S : WSt D cA A s ad M1 H locs := S
  show W _ _ _ _ _ _ _ _ _ _ _ _ _ _ _ (F0 m 1296 ls [.int (Int32.ofInt x)])
  refine lv_aload_n X.1 X.2.1 dL_law_1296 rfl (lv_at hl 2 rfl) ?_
  refine l_arg (j := 1) C S (lv_at hl 4 rfl) (lv_at hl 0 rfl) hi (by decide) rfl dL_law_1297 dL_law_1298 dL_law_1300 dL_law_1301 dL_law_1302 ?_
  refine w_callV (av := [zi (xv xs (i + 1))]) (rest := [.int (Int32.ofInt x)]) X S hl.1 t2 ⟨xv_in, trivial⟩ lkL_151 kd_132 rfl rfl rfl (Nat.le_of_ble_eq_true rfl) ⟨Nat.le_of_ble_eq_true rfl, Nat.le_of_ble_eq_true rfl⟩ hcs0 dL_law_1303 (fun H locs S hok => ?_)
  have S : WSt D cA A s ad M2 H locs := S
  show W _ _ _ _ _ _ _ _ _ _ _ _ _ _ _ (F0 m 1306 ls [.int (Int32.ofInt x), .int (Int32.ofInt x)])
  refine lv_icmp_eq (tgt := 1311) X.1 X.2.1 dL_law_1306 (by decide) (fun _ => ?_) (fun hc => absurd rfl hc)
  exact K ad M2 H locs ls cells slots hI2 S hl (by omega) (by omega)
end LCases
