/-! ===== the law: its cases ===== -/
set_option maxHeartbeats 4000000 in
theorem kc_deals : kw_case 1104 := by
  intro p l e s m below meth c b L xs D cA adX adN H locs ls n S Qf C hL hn hl hd kk
  obtain ⟨MX, MN, hPX, hPN, hmX, hmN, eX, eN, hI, hS⟩ := hd
  refine lv_aload_n C.hx C.hb dl_1104 rfl (lv_at hl 2 rfl) ?_
  refine kg_arg (k := 1) C hL hn hl hS (by decide) dl_1105 dl_1106 dl_1107 dl_1108 dl_1109 ?_
  refine kg_callV (Lc := LX) (ad := adX) (M := MX) (ci := 5) (T := TX5) (N := 10) (k := 1) (as := [.inl (ka xs (n + 1))]) (rest := []) (Q := fun v M' => v = some (.inr (.inl (op_deals S (ka xs (n + 1))))) ∧ ff_X M' = S) C so_X5_deals q_500 q_72 ⟨by decide +kernel, by decide +kernel, by decide +kernel⟩ q_497 q_498 q_499 rfl rfl ⟨by decide, by decide⟩ (List.forall_mem_cons.mpr ⟨ka_ri xs _, fun _ h => absurd h List.not_mem_nil⟩) hmX (by unfold sp_X5_deals; exact ⟨rfl, by rw [eX]; exact hI, fun M' h => ⟨by rw [eX], by rw [h, eX]⟩⟩) rfl hPX (C.hDX _) C.hAX hS hPN (C.hdX _) hl (Nat.le_of_ble_eq_true rfl) rfl dl_1110 (fun v MX H locs hQ hmX hPX hPN hS => ?_)
  obtain ⟨rfl, eX⟩ := hQ
  refine W.eq (g2 := F0 m 1113 ls [.long (Int64.ofInt (op_deals S (ka xs (n + 1))))]) rfl ?_
  refine lv_aload_n C.hx C.hb dl_1113 rfl (lv_at hl 1 rfl) ?_
  refine kg_arg (k := 1) C hL hn hl hS (by decide) dl_1114 dl_1115 dl_1116 dl_1117 dl_1118 ?_
  refine kg_callV (Lc := LM) (ad := adN) (M := MN) (ci := 6) (T := TX6) (N := 28) (k := 1) (as := [.inl (ka xs (n + 1))]) (rest := [.long (Int64.ofInt (op_deals S (ka xs (n + 1))))]) (Q := fun v M' => v = some (.inr (.inl (op_deals S (ka xs (n + 1))))) ∧ ff_N M' = S) C so_X6_deals q_982 q_78 ⟨by decide +kernel, by decide +kernel, by decide +kernel⟩ q_979 q_980 q_981 rfl rfl ⟨by decide, by decide⟩ (List.forall_mem_cons.mpr ⟨ka_ri xs _, fun _ h => absurd h List.not_mem_nil⟩) hmN (by unfold sp_X6_deals; exact ⟨rfl, by rw [eN]; exact hI, fun M' h => ⟨by rw [eN], by rw [h, eN]⟩⟩) rfl hPN (C.hDN _) C.hAN hS hPX (C.hdN _) hl (Nat.le_of_ble_eq_true rfl) rfl dl_1119 (fun v MN H locs hQ hmN hPN hPX hS => ?_)
  obtain ⟨rfl, eN⟩ := hQ
  refine W.eq (g2 := F0 m 1122 ls [.long (Int64.ofInt (op_deals S (ka xs (n + 1)))), .long (Int64.ofInt (op_deals S (ka xs (n + 1))))]) rfl ?_
  exact kg_eqL rfl C dl_1122 dl_1123 (by decide) (kk _ _ _ ⟨MX, MN, hPX, hPN, hmX, hmN, eX, eN, hI, hS⟩)
set_option maxHeartbeats 4000000 in
theorem kc_dealt : kw_case 1128 := by
  intro p l e s m below meth c b L xs D cA adX adN H locs ls n S Qf C hL hn hl hd kk
  obtain ⟨MX, MN, hPX, hPN, hmX, hmN, eX, eN, hI, hS⟩ := hd
  refine lv_aload_n C.hx C.hb dl_1128 rfl (lv_at hl 2 rfl) ?_
  refine kg_arg (k := 1) C hL hn hl hS (by decide) dl_1129 dl_1130 dl_1131 dl_1132 dl_1133 ?_
  refine kg_bool C dl_1134 dl_1137 dl_1138 dl_1141 ?_
  refine kg_callV (Lc := LX) (ad := adX) (M := MX) (ci := 5) (T := TX5) (N := 10) (k := 1) (as := [.inl (kb (Int32.ofInt (ka xs (n + 1))))]) (rest := []) (Q := fun v M' => v = some (.inr (.inl (op_dealt S (kb (Int32.ofInt (ka xs (n + 1))))))) ∧ ff_X M' = S) C so_X5_dealt q_548 q_72 ⟨by decide +kernel, by decide +kernel, by decide +kernel⟩ q_545 q_546 q_547 rfl rfl ⟨by decide, by decide⟩ (List.forall_mem_cons.mpr ⟨kb_ri _, fun _ h => absurd h List.not_mem_nil⟩) hmX (by unfold sp_X5_dealt; exact ⟨rfl, by rw [eX]; exact hI, kb_01 _, fun M' h => ⟨by rw [eX], by rw [h, eX]⟩⟩) rfl hPX (C.hDX _) C.hAX hS hPN (C.hdX _) hl (Nat.le_of_ble_eq_true rfl) rfl dl_1142 (fun v MX H locs hQ hmX hPX hPN hS => ?_)
  obtain ⟨rfl, eX⟩ := hQ
  refine W.eq (g2 := F0 m 1145 ls [.long (Int64.ofInt (op_dealt S (kb (Int32.ofInt (ka xs (n + 1))))))]) rfl ?_
  refine lv_aload_n C.hx C.hb dl_1145 rfl (lv_at hl 1 rfl) ?_
  refine kg_arg (k := 1) C hL hn hl hS (by decide) dl_1146 dl_1147 dl_1148 dl_1149 dl_1150 ?_
  refine kg_bool C dl_1151 dl_1154 dl_1155 dl_1158 ?_
  refine kg_callV (Lc := LM) (ad := adN) (M := MN) (ci := 6) (T := TX6) (N := 28) (k := 1) (as := [.inl (kb (Int32.ofInt (ka xs (n + 1))))]) (rest := [.long (Int64.ofInt (op_dealt S (kb (Int32.ofInt (ka xs (n + 1))))))]) (Q := fun v M' => v = some (.inr (.inl (op_dealt S (kb (Int32.ofInt (ka xs (n + 1))))))) ∧ ff_N M' = S) C so_X6_dealt q_995 q_78 ⟨by decide +kernel, by decide +kernel, by decide +kernel⟩ q_992 q_993 q_994 rfl rfl ⟨by decide, by decide⟩ (List.forall_mem_cons.mpr ⟨kb_ri _, fun _ h => absurd h List.not_mem_nil⟩) hmN (by unfold sp_X6_dealt; exact ⟨rfl, by rw [eN]; exact hI, kb_01 _, fun M' h => ⟨by rw [eN], by rw [h, eN]⟩⟩) rfl hPN (C.hDN _) C.hAN hS hPX (C.hdN _) hl (Nat.le_of_ble_eq_true rfl) rfl dl_1159 (fun v MN H locs hQ hmN hPN hPX hS => ?_)
  obtain ⟨rfl, eN⟩ := hQ
  refine W.eq (g2 := F0 m 1162 ls [.long (Int64.ofInt (op_dealt S (kb (Int32.ofInt (ka xs (n + 1)))))), .long (Int64.ofInt (op_dealt S (kb (Int32.ofInt (ka xs (n + 1))))))]) rfl ?_
  exact kg_eqL rfl C dl_1162 dl_1163 (by decide) (kk _ _ _ ⟨MX, MN, hPX, hPN, hmX, hmN, eX, eN, hI, hS⟩)
set_option maxHeartbeats 4000000 in
theorem kc_goes : kw_case 1168 := by
  intro p l e s m below meth c b L xs D cA adX adN H locs ls n S Qf C hL hn hl hd kk
  obtain ⟨MX, MN, hPX, hPN, hmX, hmN, eX, eN, hI, hS⟩ := hd
  refine lv_aload_n C.hx C.hb dl_1168 rfl (lv_at hl 2 rfl) ?_
  refine kg_callV (Lc := LX) (ad := adX) (M := MX) (ci := 5) (T := TX5) (N := 10) (k := 0) (as := []) (rest := []) (Q := fun v M' => v = some (.inl (op_goes S)) ∧ ff_X M' = S) C so_X5_goes q_552 q_72 ⟨by decide +kernel, by decide +kernel, by decide +kernel⟩ q_549 q_550 q_551 rfl rfl ⟨by decide, by decide⟩ (fun _ h => absurd h List.not_mem_nil) hmX (by unfold sp_X5_goes; exact ⟨rfl, by rw [eX]; exact hI, fun M' h => ⟨by rw [eX], by rw [h, eX]⟩⟩) rfl hPX (C.hDX _) C.hAX hS hPN (C.hdX _) hl (Nat.le_of_ble_eq_true rfl) rfl dl_1169 (fun v MX H locs hQ hmX hPX hPN hS => ?_)
  obtain ⟨rfl, eX⟩ := hQ
  refine W.eq (g2 := F0 m 1172 ls [.int (Int32.ofInt (op_goes S))]) rfl ?_
  refine lv_aload_n C.hx C.hb dl_1172 rfl (lv_at hl 1 rfl) ?_
  refine kg_callV (Lc := LM) (ad := adN) (M := MN) (ci := 6) (T := TX6) (N := 28) (k := 0) (as := []) (rest := [.int (Int32.ofInt (op_goes S))]) (Q := fun v M' => v = some (.inl (op_goes S)) ∧ ff_N M' = S) C so_X6_goes q_999 q_78 ⟨by decide +kernel, by decide +kernel, by decide +kernel⟩ q_996 q_997 q_998 rfl rfl ⟨by decide, by decide⟩ (fun _ h => absurd h List.not_mem_nil) hmN (by unfold sp_X6_goes; exact ⟨rfl, by rw [eN]; exact hI, fun M' h => ⟨by rw [eN], by rw [h, eN]⟩⟩) rfl hPN (C.hDN _) C.hAN hS hPX (C.hdN _) hl (Nat.le_of_ble_eq_true rfl) rfl dl_1173 (fun v MN H locs hQ hmN hPN hPX hS => ?_)
  obtain ⟨rfl, eN⟩ := hQ
  refine W.eq (g2 := F0 m 1176 ls [.int (Int32.ofInt (op_goes S)), .int (Int32.ofInt (op_goes S))]) rfl ?_
  exact kg_eqI rfl C dl_1176 (by decide) (kk _ _ _ ⟨MX, MN, hPX, hPN, hmX, hmN, eX, eN, hI, hS⟩)
set_option maxHeartbeats 4000000 in
theorem kc_luck : kw_case 1181 := by
  intro p l e s m below meth c b L xs D cA adX adN H locs ls n S Qf C hL hn hl hd kk
  obtain ⟨MX, MN, hPX, hPN, hmX, hmN, eX, eN, hI, hS⟩ := hd
  refine lv_aload_n C.hx C.hb dl_1181 rfl (lv_at hl 2 rfl) ?_
  refine kg_arg (k := 1) C hL hn hl hS (by decide) dl_1182 dl_1183 dl_1184 dl_1185 dl_1186 ?_
  refine kg_bool C dl_1187 dl_1190 dl_1191 dl_1194 ?_
  refine kg_callV (Lc := LX) (ad := adX) (M := MX) (ci := 5) (T := TX5) (N := 10) (k := 1) (as := [.inl (kb (Int32.ofInt (ka xs (n + 1))))]) (rest := []) (Q := fun v M' => v = some (.inr (.inl (op_luck S (kb (Int32.ofInt (ka xs (n + 1))))))) ∧ ff_X M' = S) C so_X5_luck q_584 q_72 ⟨by decide +kernel, by decide +kernel, by decide +kernel⟩ q_581 q_582 q_583 rfl rfl ⟨by decide, by decide⟩ (List.forall_mem_cons.mpr ⟨kb_ri _, fun _ h => absurd h List.not_mem_nil⟩) hmX (by unfold sp_X5_luck; exact ⟨rfl, by rw [eX]; exact hI, kb_01 _, fun M' h => ⟨by rw [eX], by rw [h, eX]⟩⟩) rfl hPX (C.hDX _) C.hAX hS hPN (C.hdX _) hl (Nat.le_of_ble_eq_true rfl) rfl dl_1195 (fun v MX H locs hQ hmX hPX hPN hS => ?_)
  obtain ⟨rfl, eX⟩ := hQ
  refine W.eq (g2 := F0 m 1198 ls [.long (Int64.ofInt (op_luck S (kb (Int32.ofInt (ka xs (n + 1))))))]) rfl ?_
  refine lv_aload_n C.hx C.hb dl_1198 rfl (lv_at hl 1 rfl) ?_
  refine kg_arg (k := 1) C hL hn hl hS (by decide) dl_1199 dl_1200 dl_1201 dl_1202 dl_1203 ?_
  refine kg_bool C dl_1204 dl_1207 dl_1208 dl_1211 ?_
  refine kg_callV (Lc := LM) (ad := adN) (M := MN) (ci := 6) (T := TX6) (N := 28) (k := 1) (as := [.inl (kb (Int32.ofInt (ka xs (n + 1))))]) (rest := [.long (Int64.ofInt (op_luck S (kb (Int32.ofInt (ka xs (n + 1))))))]) (Q := fun v M' => v = some (.inr (.inl (op_luck S (kb (Int32.ofInt (ka xs (n + 1))))))) ∧ ff_N M' = S) C so_X6_luck q_1019 q_78 ⟨by decide +kernel, by decide +kernel, by decide +kernel⟩ q_1016 q_1017 q_1018 rfl rfl ⟨by decide, by decide⟩ (List.forall_mem_cons.mpr ⟨kb_ri _, fun _ h => absurd h List.not_mem_nil⟩) hmN (by unfold sp_X6_luck; exact ⟨rfl, by rw [eN]; exact hI, kb_01 _, fun M' h => ⟨by rw [eN], by rw [h, eN]⟩⟩) rfl hPN (C.hDN _) C.hAN hS hPX (C.hdN _) hl (Nat.le_of_ble_eq_true rfl) rfl dl_1212 (fun v MN H locs hQ hmN hPN hPX hS => ?_)
  obtain ⟨rfl, eN⟩ := hQ
  refine W.eq (g2 := F0 m 1215 ls [.long (Int64.ofInt (op_luck S (kb (Int32.ofInt (ka xs (n + 1)))))), .long (Int64.ofInt (op_luck S (kb (Int32.ofInt (ka xs (n + 1))))))]) rfl ?_
  exact kg_eqL rfl C dl_1215 dl_1216 (by decide) (kk _ _ _ ⟨MX, MN, hPX, hPN, hmX, hmN, eX, eN, hI, hS⟩)
set_option maxHeartbeats 4000000 in
theorem kc_dated : kw_case 1221 := by
  intro p l e s m below meth c b L xs D cA adX adN H locs ls n S Qf C hL hn hl hd kk
  obtain ⟨MX, MN, hPX, hPN, hmX, hmN, eX, eN, hI, hS⟩ := hd
  refine lv_aload_n C.hx C.hb dl_1221 rfl (lv_at hl 2 rfl) ?_
  refine kg_arg (k := 1) C hL hn hl hS (by decide) dl_1222 dl_1223 dl_1224 dl_1225 dl_1226 ?_
  refine kg_arg (k := 2) C hL hn hl hS (by decide) dl_1227 dl_1228 dl_1229 dl_1230 dl_1231 ?_
  refine kg_callV (Lc := LX) (ad := adX) (M := MX) (ci := 5) (T := TX5) (N := 10) (k := 2) (as := [.inl (ka xs (n + 1)), .inl (ka xs (n + 2))]) (rest := []) (Q := fun v M' => v = some (.inl (op_dated S (ka xs (n + 1)) (ka xs (n + 2)))) ∧ ff_X M' = S) C so_X5_dated q_595 q_72 ⟨by decide +kernel, by decide +kernel, by decide +kernel⟩ q_592 q_593 q_594 rfl rfl ⟨by decide, by decide⟩ (List.forall_mem_cons.mpr ⟨ka_ri xs _, List.forall_mem_cons.mpr ⟨ka_ri xs _, fun _ h => absurd h List.not_mem_nil⟩⟩) hmX (by unfold sp_X5_dated; exact ⟨rfl, by rw [eX]; exact hI, fun M' h => ⟨by rw [eX], by rw [h, eX]⟩⟩) rfl hPX (C.hDX _) C.hAX hS hPN (C.hdX _) hl (Nat.le_of_ble_eq_true rfl) rfl dl_1232 (fun v MX H locs hQ hmX hPX hPN hS => ?_)
  obtain ⟨rfl, eX⟩ := hQ
  refine W.eq (g2 := F0 m 1235 ls [.int (Int32.ofInt (op_dated S (ka xs (n + 1)) (ka xs (n + 2))))]) rfl ?_
  refine lv_aload_n C.hx C.hb dl_1235 rfl (lv_at hl 1 rfl) ?_
  refine kg_arg (k := 1) C hL hn hl hS (by decide) dl_1236 dl_1237 dl_1238 dl_1239 dl_1240 ?_
  refine kg_arg (k := 2) C hL hn hl hS (by decide) dl_1241 dl_1242 dl_1243 dl_1244 dl_1245 ?_
  refine kg_callV (Lc := LM) (ad := adN) (M := MN) (ci := 6) (T := TX6) (N := 28) (k := 2) (as := [.inl (ka xs (n + 1)), .inl (ka xs (n + 2))]) (rest := [.int (Int32.ofInt (op_dated S (ka xs (n + 1)) (ka xs (n + 2))))]) (Q := fun v M' => v = some (.inl (op_dated S (ka xs (n + 1)) (ka xs (n + 2)))) ∧ ff_N M' = S) C so_X6_dated q_1024 q_78 ⟨by decide +kernel, by decide +kernel, by decide +kernel⟩ q_1021 q_1022 q_1023 rfl rfl ⟨by decide, by decide⟩ (List.forall_mem_cons.mpr ⟨ka_ri xs _, List.forall_mem_cons.mpr ⟨ka_ri xs _, fun _ h => absurd h List.not_mem_nil⟩⟩) hmN (by unfold sp_X6_dated; exact ⟨rfl, by rw [eN]; exact hI, fun M' h => ⟨by rw [eN], by rw [h, eN]⟩⟩) rfl hPN (C.hDN _) C.hAN hS hPX (C.hdN _) hl (Nat.le_of_ble_eq_true rfl) rfl dl_1246 (fun v MN H locs hQ hmN hPN hPX hS => ?_)
  obtain ⟨rfl, eN⟩ := hQ
  refine W.eq (g2 := F0 m 1249 ls [.int (Int32.ofInt (op_dated S (ka xs (n + 1)) (ka xs (n + 2)))), .int (Int32.ofInt (op_dated S (ka xs (n + 1)) (ka xs (n + 2))))]) rfl ?_
  exact kg_eqI rfl C dl_1249 (by decide) (kk _ _ _ ⟨MX, MN, hPX, hPN, hmX, hmN, eX, eN, hI, hS⟩)
set_option maxHeartbeats 4000000 in
theorem kc_master : kw_case 1254 := by
  intro p l e s m below meth c b L xs D cA adX adN H locs ls n S Qf C hL hn hl hd kk
  obtain ⟨MX, MN, hPX, hPN, hmX, hmN, eX, eN, hI, hS⟩ := hd
  refine lv_aload_n C.hx C.hb dl_1254 rfl (lv_at hl 2 rfl) ?_
  refine kg_arg (k := 1) C hL hn hl hS (by decide) dl_1255 dl_1256 dl_1257 dl_1258 dl_1259 ?_
  refine kg_arg (k := 2) C hL hn hl hS (by decide) dl_1260 dl_1261 dl_1262 dl_1263 dl_1264 ?_
  refine kg_callV (Lc := LX) (ad := adX) (M := MX) (ci := 5) (T := TX5) (N := 10) (k := 2) (as := [.inl (ka xs (n + 1)), .inl (ka xs (n + 2))]) (rest := []) (Q := fun v M' => v = some (.inl (op_master S (ka xs (n + 1)) (ka xs (n + 2)))) ∧ ff_X M' = S) C so_X5_master q_599 q_72 ⟨by decide +kernel, by decide +kernel, by decide +kernel⟩ q_596 q_597 q_598 rfl rfl ⟨by decide, by decide⟩ (List.forall_mem_cons.mpr ⟨ka_ri xs _, List.forall_mem_cons.mpr ⟨ka_ri xs _, fun _ h => absurd h List.not_mem_nil⟩⟩) hmX (by unfold sp_X5_master; exact ⟨rfl, by rw [eX]; exact hI, fun M' h => ⟨by rw [eX], by rw [h, eX]⟩⟩) rfl hPX (C.hDX _) C.hAX hS hPN (C.hdX _) hl (Nat.le_of_ble_eq_true rfl) rfl dl_1265 (fun v MX H locs hQ hmX hPX hPN hS => ?_)
  obtain ⟨rfl, eX⟩ := hQ
  refine W.eq (g2 := F0 m 1268 ls [.int (Int32.ofInt (op_master S (ka xs (n + 1)) (ka xs (n + 2))))]) rfl ?_
  refine lv_aload_n C.hx C.hb dl_1268 rfl (lv_at hl 1 rfl) ?_
  refine kg_arg (k := 1) C hL hn hl hS (by decide) dl_1269 dl_1270 dl_1271 dl_1272 dl_1273 ?_
  refine kg_arg (k := 2) C hL hn hl hS (by decide) dl_1274 dl_1275 dl_1276 dl_1277 dl_1278 ?_
  refine kg_callV (Lc := LM) (ad := adN) (M := MN) (ci := 6) (T := TX6) (N := 28) (k := 2) (as := [.inl (ka xs (n + 1)), .inl (ka xs (n + 2))]) (rest := [.int (Int32.ofInt (op_master S (ka xs (n + 1)) (ka xs (n + 2))))]) (Q := fun v M' => v = some (.inl (op_master S (ka xs (n + 1)) (ka xs (n + 2)))) ∧ ff_N M' = S) C so_X6_master q_1028 q_78 ⟨by decide +kernel, by decide +kernel, by decide +kernel⟩ q_1025 q_1026 q_1027 rfl rfl ⟨by decide, by decide⟩ (List.forall_mem_cons.mpr ⟨ka_ri xs _, List.forall_mem_cons.mpr ⟨ka_ri xs _, fun _ h => absurd h List.not_mem_nil⟩⟩) hmN (by unfold sp_X6_master; exact ⟨rfl, by rw [eN]; exact hI, fun M' h => ⟨by rw [eN], by rw [h, eN]⟩⟩) rfl hPN (C.hDN _) C.hAN hS hPX (C.hdN _) hl (Nat.le_of_ble_eq_true rfl) rfl dl_1279 (fun v MN H locs hQ hmN hPN hPX hS => ?_)
  obtain ⟨rfl, eN⟩ := hQ
  refine W.eq (g2 := F0 m 1282 ls [.int (Int32.ofInt (op_master S (ka xs (n + 1)) (ka xs (n + 2)))), .int (Int32.ofInt (op_master S (ka xs (n + 1)) (ka xs (n + 2))))]) rfl ?_
  exact kg_eqI rfl C dl_1282 (by decide) (kk _ _ _ ⟨MX, MN, hPX, hPN, hmX, hmN, eX, eN, hI, hS⟩)
set_option maxHeartbeats 4000000 in
theorem kc_choir : kw_case 1287 := by
  intro p l e s m below meth c b L xs D cA adX adN H locs ls n S Qf C hL hn hl hd kk
  obtain ⟨MX, MN, hPX, hPN, hmX, hmN, eX, eN, hI, hS⟩ := hd
  refine lv_aload_n C.hx C.hb dl_1287 rfl (lv_at hl 2 rfl) ?_
  refine kg_arg (k := 1) C hL hn hl hS (by decide) dl_1288 dl_1289 dl_1290 dl_1291 dl_1292 ?_
  refine kg_arg (k := 2) C hL hn hl hS (by decide) dl_1293 dl_1294 dl_1295 dl_1296 dl_1297 ?_
  refine kg_arg (k := 3) C hL hn hl hS (by decide) dl_1298 dl_1299 dl_1300 dl_1301 dl_1302 ?_
  refine kg_arg (k := 4) C hL hn hl hS (by decide) dl_1303 dl_1304 dl_1305 dl_1306 dl_1307 ?_
  refine kg_callV (Lc := LX) (ad := adX) (M := MX) (ci := 5) (T := TX5) (N := 10) (k := 4) (as := [.inl (ka xs (n + 1)), .inl (ka xs (n + 2)), .inl (ka xs (n + 3)), .inl (ka xs (n + 4))]) (rest := []) (Q := fun v M' => v = some (.inl (op_choir S (ka xs (n + 1)) (ka xs (n + 2)) (ka xs (n + 3)) (ka xs (n + 4)))) ∧ ff_X M' = op_choir_s S (ka xs (n + 1)) (ka xs (n + 2)) (ka xs (n + 3)) (ka xs (n + 4))) C so_X5_choir q_611 q_72 ⟨by decide +kernel, by decide +kernel, by decide +kernel⟩ q_608 q_609 q_610 rfl rfl ⟨by decide, by decide⟩ (List.forall_mem_cons.mpr ⟨ka_ri xs _, List.forall_mem_cons.mpr ⟨ka_ri xs _, List.forall_mem_cons.mpr ⟨ka_ri xs _, List.forall_mem_cons.mpr ⟨ka_ri xs _, fun _ h => absurd h List.not_mem_nil⟩⟩⟩⟩) hmX (by unfold sp_X5_choir; exact ⟨rfl, by rw [eX]; exact hI, fun M' h => ⟨by rw [eX], by rw [h, eX]⟩⟩) rfl hPX (C.hDX _) C.hAX hS hPN (C.hdX _) hl (Nat.le_of_ble_eq_true rfl) rfl dl_1308 (fun v MX H locs hQ hmX hPX hPN hS => ?_)
  obtain ⟨rfl, eX⟩ := hQ
  refine W.eq (g2 := F0 m 1311 ls [.int (Int32.ofInt (op_choir S (ka xs (n + 1)) (ka xs (n + 2)) (ka xs (n + 3)) (ka xs (n + 4))))]) rfl ?_
  refine lv_aload_n C.hx C.hb dl_1311 rfl (lv_at hl 1 rfl) ?_
  refine kg_arg (k := 1) C hL hn hl hS (by decide) dl_1312 dl_1313 dl_1314 dl_1315 dl_1316 ?_
  refine kg_arg (k := 2) C hL hn hl hS (by decide) dl_1317 dl_1318 dl_1319 dl_1320 dl_1321 ?_
  refine kg_arg (k := 3) C hL hn hl hS (by decide) dl_1322 dl_1323 dl_1324 dl_1325 dl_1326 ?_
  refine kg_arg (k := 4) C hL hn hl hS (by decide) dl_1327 dl_1328 dl_1329 dl_1330 dl_1331 ?_
  refine kg_callV (Lc := LM) (ad := adN) (M := MN) (ci := 6) (T := TX6) (N := 28) (k := 4) (as := [.inl (ka xs (n + 1)), .inl (ka xs (n + 2)), .inl (ka xs (n + 3)), .inl (ka xs (n + 4))]) (rest := [.int (Int32.ofInt (op_choir S (ka xs (n + 1)) (ka xs (n + 2)) (ka xs (n + 3)) (ka xs (n + 4))))]) (Q := fun v M' => v = some (.inl (op_choir S (ka xs (n + 1)) (ka xs (n + 2)) (ka xs (n + 3)) (ka xs (n + 4)))) ∧ ff_N M' = op_choir_s S (ka xs (n + 1)) (ka xs (n + 2)) (ka xs (n + 3)) (ka xs (n + 4))) C so_X6_choir q_1033 q_78 ⟨by decide +kernel, by decide +kernel, by decide +kernel⟩ q_1030 q_1031 q_1032 rfl rfl ⟨by decide, by decide⟩ (List.forall_mem_cons.mpr ⟨ka_ri xs _, List.forall_mem_cons.mpr ⟨ka_ri xs _, List.forall_mem_cons.mpr ⟨ka_ri xs _, List.forall_mem_cons.mpr ⟨ka_ri xs _, fun _ h => absurd h List.not_mem_nil⟩⟩⟩⟩) hmN (by unfold sp_X6_choir; exact ⟨rfl, by rw [eN]; exact hI, fun M' h => ⟨by rw [eN], by rw [h, eN]⟩⟩) rfl hPN (C.hDN _) C.hAN hS hPX (C.hdN _) hl (Nat.le_of_ble_eq_true rfl) rfl dl_1332 (fun v MN H locs hQ hmN hPN hPX hS => ?_)
  obtain ⟨rfl, eN⟩ := hQ
  refine W.eq (g2 := F0 m 1335 ls [.int (Int32.ofInt (op_choir S (ka xs (n + 1)) (ka xs (n + 2)) (ka xs (n + 3)) (ka xs (n + 4)))), .int (Int32.ofInt (op_choir S (ka xs (n + 1)) (ka xs (n + 2)) (ka xs (n + 3)) (ka xs (n + 4))))]) rfl ?_
  exact kg_eqI rfl C dl_1335 (by decide) (kk _ _ _ ⟨MX, MN, hPX, hPN, hmX, hmN, eX, eN, (ff_Inv_choir hI _ _ _ _), hS⟩)
set_option maxHeartbeats 4000000 in
theorem kc_bends : kw_case 1340 := by
  intro p l e s m below meth c b L xs D cA adX adN H locs ls n S Qf C hL hn hl hd kk
  obtain ⟨MX, MN, hPX, hPN, hmX, hmN, eX, eN, hI, hS⟩ := hd
  refine lv_aload_n C.hx C.hb dl_1340 rfl (lv_at hl 2 rfl) ?_
  refine kg_arg (k := 1) C hL hn hl hS (by decide) dl_1341 dl_1342 dl_1343 dl_1344 dl_1345 ?_
  refine kg_callV (Lc := LX) (ad := adX) (M := MX) (ci := 5) (T := TX5) (N := 10) (k := 1) (as := [.inl (ka xs (n + 1))]) (rest := []) (Q := fun v M' => v = some (.inl (op_bends S (ka xs (n + 1)))) ∧ ff_X M' = S) C so_X5_bends q_615 q_72 ⟨by decide +kernel, by decide +kernel, by decide +kernel⟩ q_612 q_613 q_614 rfl rfl ⟨by decide, by decide⟩ (List.forall_mem_cons.mpr ⟨ka_ri xs _, fun _ h => absurd h List.not_mem_nil⟩) hmX (by unfold sp_X5_bends; exact ⟨rfl, by rw [eX]; exact hI, fun M' h => ⟨by rw [eX], by rw [h, eX]⟩⟩) rfl hPX (C.hDX _) C.hAX hS hPN (C.hdX _) hl (Nat.le_of_ble_eq_true rfl) rfl dl_1346 (fun v MX H locs hQ hmX hPX hPN hS => ?_)
  obtain ⟨rfl, eX⟩ := hQ
  refine W.eq (g2 := F0 m 1349 ls [.int (Int32.ofInt (op_bends S (ka xs (n + 1))))]) rfl ?_
  refine lv_aload_n C.hx C.hb dl_1349 rfl (lv_at hl 1 rfl) ?_
  refine kg_arg (k := 1) C hL hn hl hS (by decide) dl_1350 dl_1351 dl_1352 dl_1353 dl_1354 ?_
  refine kg_callV (Lc := LM) (ad := adN) (M := MN) (ci := 6) (T := TX6) (N := 28) (k := 1) (as := [.inl (ka xs (n + 1))]) (rest := [.int (Int32.ofInt (op_bends S (ka xs (n + 1))))]) (Q := fun v M' => v = some (.inl (op_bends S (ka xs (n + 1)))) ∧ ff_N M' = S) C so_X6_bends q_1037 q_78 ⟨by decide +kernel, by decide +kernel, by decide +kernel⟩ q_1034 q_1035 q_1036 rfl rfl ⟨by decide, by decide⟩ (List.forall_mem_cons.mpr ⟨ka_ri xs _, fun _ h => absurd h List.not_mem_nil⟩) hmN (by unfold sp_X6_bends; exact ⟨rfl, by rw [eN]; exact hI, fun M' h => ⟨by rw [eN], by rw [h, eN]⟩⟩) rfl hPN (C.hDN _) C.hAN hS hPX (C.hdN _) hl (Nat.le_of_ble_eq_true rfl) rfl dl_1355 (fun v MN H locs hQ hmN hPN hPX hS => ?_)
  obtain ⟨rfl, eN⟩ := hQ
  refine W.eq (g2 := F0 m 1358 ls [.int (Int32.ofInt (op_bends S (ka xs (n + 1)))), .int (Int32.ofInt (op_bends S (ka xs (n + 1))))]) rfl ?_
  exact kg_eqI rfl C dl_1358 (by decide) (kk _ _ _ ⟨MX, MN, hPX, hPN, hmX, hmN, eX, eN, hI, hS⟩)
set_option maxHeartbeats 4000000 in
theorem kc_why : kw_case 1363 := by
  intro p l e s m below meth c b L xs D cA adX adN H locs ls n S Qf C hL hn hl hd kk
  obtain ⟨MX, MN, hPX, hPN, hmX, hmN, eX, eN, hI, hS⟩ := hd
  refine lv_aload_n C.hx C.hb dl_1363 rfl (lv_at hl 2 rfl) ?_
  refine kg_arg (k := 1) C hL hn hl hS (by decide) dl_1364 dl_1365 dl_1366 dl_1367 dl_1368 ?_
  refine kg_callV (Lc := LX) (ad := adX) (M := MX) (ci := 5) (T := TX5) (N := 10) (k := 1) (as := [.inl (ka xs (n + 1))]) (rest := []) (Q := fun v M' => v = some (.inl (op_why S (ka xs (n + 1)))) ∧ ff_X M' = S) C so_X5_why q_619 q_72 ⟨by decide +kernel, by decide +kernel, by decide +kernel⟩ q_616 q_617 q_618 rfl rfl ⟨by decide, by decide⟩ (List.forall_mem_cons.mpr ⟨ka_ri xs _, fun _ h => absurd h List.not_mem_nil⟩) hmX (by unfold sp_X5_why; exact ⟨rfl, by rw [eX]; exact hI, fun M' h => ⟨by rw [eX], by rw [h, eX]⟩⟩) rfl hPX (C.hDX _) C.hAX hS hPN (C.hdX _) hl (Nat.le_of_ble_eq_true rfl) rfl dl_1369 (fun v MX H locs hQ hmX hPX hPN hS => ?_)
  obtain ⟨rfl, eX⟩ := hQ
  refine W.eq (g2 := F0 m 1372 ls [.int (Int32.ofInt (op_why S (ka xs (n + 1))))]) rfl ?_
  refine lv_aload_n C.hx C.hb dl_1372 rfl (lv_at hl 1 rfl) ?_
  refine kg_arg (k := 1) C hL hn hl hS (by decide) dl_1373 dl_1374 dl_1375 dl_1376 dl_1377 ?_
  refine kg_callV (Lc := LM) (ad := adN) (M := MN) (ci := 6) (T := TX6) (N := 28) (k := 1) (as := [.inl (ka xs (n + 1))]) (rest := [.int (Int32.ofInt (op_why S (ka xs (n + 1))))]) (Q := fun v M' => v = some (.inl (op_why S (ka xs (n + 1)))) ∧ ff_N M' = S) C so_X6_why q_1041 q_78 ⟨by decide +kernel, by decide +kernel, by decide +kernel⟩ q_1038 q_1039 q_1040 rfl rfl ⟨by decide, by decide⟩ (List.forall_mem_cons.mpr ⟨ka_ri xs _, fun _ h => absurd h List.not_mem_nil⟩) hmN (by unfold sp_X6_why; exact ⟨rfl, by rw [eN]; exact hI, fun M' h => ⟨by rw [eN], by rw [h, eN]⟩⟩) rfl hPN (C.hDN _) C.hAN hS hPX (C.hdN _) hl (Nat.le_of_ble_eq_true rfl) rfl dl_1378 (fun v MN H locs hQ hmN hPN hPX hS => ?_)
  obtain ⟨rfl, eN⟩ := hQ
  refine W.eq (g2 := F0 m 1381 ls [.int (Int32.ofInt (op_why S (ka xs (n + 1)))), .int (Int32.ofInt (op_why S (ka xs (n + 1))))]) rfl ?_
  exact kg_eqI rfl C dl_1381 (by decide) (kk _ _ _ ⟨MX, MN, hPX, hPN, hmX, hmN, eX, eN, hI, hS⟩)
set_option maxHeartbeats 4000000 in
theorem kc_when : kw_case 1386 := by
  intro p l e s m below meth c b L xs D cA adX adN H locs ls n S Qf C hL hn hl hd kk
  obtain ⟨MX, MN, hPX, hPN, hmX, hmN, eX, eN, hI, hS⟩ := hd
  refine lv_aload_n C.hx C.hb dl_1386 rfl (lv_at hl 2 rfl) ?_
  refine kg_arg (k := 1) C hL hn hl hS (by decide) dl_1387 dl_1388 dl_1389 dl_1390 dl_1391 ?_
  refine kg_arg (k := 2) C hL hn hl hS (by decide) dl_1392 dl_1393 dl_1394 dl_1395 dl_1396 ?_
  refine kg_arg (k := 3) C hL hn hl hS (by decide) dl_1397 dl_1398 dl_1399 dl_1400 dl_1401 ?_
  refine kg_callV (Lc := LX) (ad := adX) (M := MX) (ci := 5) (T := TX5) (N := 10) (k := 3) (as := [.inl (ka xs (n + 1)), .inl (ka xs (n + 2)), .inl (ka xs (n + 3))]) (rest := []) (Q := fun v M' => v = some (.inl (op_when S (ka xs (n + 1)) (ka xs (n + 2)) (ka xs (n + 3)))) ∧ ff_X M' = S) C so_X5_when q_623 q_72 ⟨by decide +kernel, by decide +kernel, by decide +kernel⟩ q_620 q_621 q_622 rfl rfl ⟨by decide, by decide⟩ (List.forall_mem_cons.mpr ⟨ka_ri xs _, List.forall_mem_cons.mpr ⟨ka_ri xs _, List.forall_mem_cons.mpr ⟨ka_ri xs _, fun _ h => absurd h List.not_mem_nil⟩⟩⟩) hmX (by unfold sp_X5_when; exact ⟨rfl, by rw [eX]; exact hI, fun M' h => ⟨by rw [eX], by rw [h, eX]⟩⟩) rfl hPX (C.hDX _) C.hAX hS hPN (C.hdX _) hl (Nat.le_of_ble_eq_true rfl) rfl dl_1402 (fun v MX H locs hQ hmX hPX hPN hS => ?_)
  obtain ⟨rfl, eX⟩ := hQ
  refine W.eq (g2 := F0 m 1405 ls [.int (Int32.ofInt (op_when S (ka xs (n + 1)) (ka xs (n + 2)) (ka xs (n + 3))))]) rfl ?_
  refine lv_aload_n C.hx C.hb dl_1405 rfl (lv_at hl 1 rfl) ?_
  refine kg_arg (k := 1) C hL hn hl hS (by decide) dl_1406 dl_1407 dl_1408 dl_1409 dl_1410 ?_
  refine kg_arg (k := 2) C hL hn hl hS (by decide) dl_1411 dl_1412 dl_1413 dl_1414 dl_1415 ?_
  refine kg_arg (k := 3) C hL hn hl hS (by decide) dl_1416 dl_1417 dl_1418 dl_1419 dl_1420 ?_
  refine kg_callV (Lc := LM) (ad := adN) (M := MN) (ci := 6) (T := TX6) (N := 28) (k := 3) (as := [.inl (ka xs (n + 1)), .inl (ka xs (n + 2)), .inl (ka xs (n + 3))]) (rest := [.int (Int32.ofInt (op_when S (ka xs (n + 1)) (ka xs (n + 2)) (ka xs (n + 3))))]) (Q := fun v M' => v = some (.inl (op_when S (ka xs (n + 1)) (ka xs (n + 2)) (ka xs (n + 3)))) ∧ ff_N M' = S) C so_X6_when q_1045 q_78 ⟨by decide +kernel, by decide +kernel, by decide +kernel⟩ q_1042 q_1043 q_1044 rfl rfl ⟨by decide, by decide⟩ (List.forall_mem_cons.mpr ⟨ka_ri xs _, List.forall_mem_cons.mpr ⟨ka_ri xs _, List.forall_mem_cons.mpr ⟨ka_ri xs _, fun _ h => absurd h List.not_mem_nil⟩⟩⟩) hmN (by unfold sp_X6_when; exact ⟨rfl, by rw [eN]; exact hI, fun M' h => ⟨by rw [eN], by rw [h, eN]⟩⟩) rfl hPN (C.hDN _) C.hAN hS hPX (C.hdN _) hl (Nat.le_of_ble_eq_true rfl) rfl dl_1421 (fun v MN H locs hQ hmN hPN hPX hS => ?_)
  obtain ⟨rfl, eN⟩ := hQ
  refine W.eq (g2 := F0 m 1424 ls [.int (Int32.ofInt (op_when S (ka xs (n + 1)) (ka xs (n + 2)) (ka xs (n + 3)))), .int (Int32.ofInt (op_when S (ka xs (n + 1)) (ka xs (n + 2)) (ka xs (n + 3))))]) rfl ?_
  exact kg_eqI rfl C dl_1424 (by decide) (kk _ _ _ ⟨MX, MN, hPX, hPN, hmX, hmN, eX, eN, hI, hS⟩)
set_option maxHeartbeats 4000000 in
theorem kc_since : kw_case 1429 := by
  intro p l e s m below meth c b L xs D cA adX adN H locs ls n S Qf C hL hn hl hd kk
  obtain ⟨MX, MN, hPX, hPN, hmX, hmN, eX, eN, hI, hS⟩ := hd
  refine lv_aload_n C.hx C.hb dl_1429 rfl (lv_at hl 2 rfl) ?_
  refine kg_arg (k := 1) C hL hn hl hS (by decide) dl_1430 dl_1431 dl_1432 dl_1433 dl_1434 ?_
  refine kg_arg (k := 2) C hL hn hl hS (by decide) dl_1435 dl_1436 dl_1437 dl_1438 dl_1439 ?_
  refine kg_callV (Lc := LX) (ad := adX) (M := MX) (ci := 5) (T := TX5) (N := 10) (k := 2) (as := [.inl (ka xs (n + 1)), .inl (ka xs (n + 2))]) (rest := []) (Q := fun v M' => v = some (.inl (op_since S (ka xs (n + 1)) (ka xs (n + 2)))) ∧ ff_X M' = S) C so_X5_since q_627 q_72 ⟨by decide +kernel, by decide +kernel, by decide +kernel⟩ q_624 q_625 q_626 rfl rfl ⟨by decide, by decide⟩ (List.forall_mem_cons.mpr ⟨ka_ri xs _, List.forall_mem_cons.mpr ⟨ka_ri xs _, fun _ h => absurd h List.not_mem_nil⟩⟩) hmX (by unfold sp_X5_since; exact ⟨rfl, by rw [eX]; exact hI, fun M' h => ⟨by rw [eX], by rw [h, eX]⟩⟩) rfl hPX (C.hDX _) C.hAX hS hPN (C.hdX _) hl (Nat.le_of_ble_eq_true rfl) rfl dl_1440 (fun v MX H locs hQ hmX hPX hPN hS => ?_)
  obtain ⟨rfl, eX⟩ := hQ
  refine W.eq (g2 := F0 m 1443 ls [.int (Int32.ofInt (op_since S (ka xs (n + 1)) (ka xs (n + 2))))]) rfl ?_
  refine lv_aload_n C.hx C.hb dl_1443 rfl (lv_at hl 1 rfl) ?_
  refine kg_arg (k := 1) C hL hn hl hS (by decide) dl_1444 dl_1445 dl_1446 dl_1447 dl_1448 ?_
  refine kg_arg (k := 2) C hL hn hl hS (by decide) dl_1449 dl_1450 dl_1451 dl_1452 dl_1453 ?_
  refine kg_callV (Lc := LM) (ad := adN) (M := MN) (ci := 6) (T := TX6) (N := 28) (k := 2) (as := [.inl (ka xs (n + 1)), .inl (ka xs (n + 2))]) (rest := [.int (Int32.ofInt (op_since S (ka xs (n + 1)) (ka xs (n + 2))))]) (Q := fun v M' => v = some (.inl (op_since S (ka xs (n + 1)) (ka xs (n + 2)))) ∧ ff_N M' = S) C so_X6_since q_1053 q_78 ⟨by decide +kernel, by decide +kernel, by decide +kernel⟩ q_1050 q_1051 q_1052 rfl rfl ⟨by decide, by decide⟩ (List.forall_mem_cons.mpr ⟨ka_ri xs _, List.forall_mem_cons.mpr ⟨ka_ri xs _, fun _ h => absurd h List.not_mem_nil⟩⟩) hmN (by unfold sp_X6_since; exact ⟨rfl, by rw [eN]; exact hI, fun M' h => ⟨by rw [eN], by rw [h, eN]⟩⟩) rfl hPN (C.hDN _) C.hAN hS hPX (C.hdN _) hl (Nat.le_of_ble_eq_true rfl) rfl dl_1454 (fun v MN H locs hQ hmN hPN hPX hS => ?_)
  obtain ⟨rfl, eN⟩ := hQ
  refine W.eq (g2 := F0 m 1457 ls [.int (Int32.ofInt (op_since S (ka xs (n + 1)) (ka xs (n + 2)))), .int (Int32.ofInt (op_since S (ka xs (n + 1)) (ka xs (n + 2))))]) rfl ?_
  exact kg_eqI rfl C dl_1457 (by decide) (kk _ _ _ ⟨MX, MN, hPX, hPN, hmX, hmN, eX, eN, hI, hS⟩)
set_option maxHeartbeats 4000000 in
theorem kc_keep : kw_case 1462 := by
  intro p l e s m below meth c b L xs D cA adX adN H locs ls n S Qf C hL hn hl hd kk
  obtain ⟨MX, MN, hPX, hPN, hmX, hmN, eX, eN, hI, hS⟩ := hd
  refine lv_aload_n C.hx C.hb dl_1462 rfl (lv_at hl 2 rfl) ?_
  refine kg_arg (k := 1) C hL hn hl hS (by decide) dl_1463 dl_1464 dl_1465 dl_1466 dl_1467 ?_
  refine kg_callV (Lc := LX) (ad := adX) (M := MX) (ci := 5) (T := TX5) (N := 10) (k := 1) (as := [.inl (ka xs (n + 1))]) (rest := []) (Q := fun v M' => v = some (.inl (op_keep S (ka xs (n + 1)))) ∧ ff_X M' = op_keep_s S (ka xs (n + 1))) C so_X5_keep q_631 q_72 ⟨by decide +kernel, by decide +kernel, by decide +kernel⟩ q_628 q_629 q_630 rfl rfl ⟨by decide, by decide⟩ (List.forall_mem_cons.mpr ⟨ka_ri xs _, fun _ h => absurd h List.not_mem_nil⟩) hmX (by unfold sp_X5_keep; exact ⟨rfl, by rw [eX]; exact hI, fun M' h => ⟨by rw [eX], by rw [h, eX]⟩⟩) rfl hPX (C.hDX _) C.hAX hS hPN (C.hdX _) hl (Nat.le_of_ble_eq_true rfl) rfl dl_1468 (fun v MX H locs hQ hmX hPX hPN hS => ?_)
  obtain ⟨rfl, eX⟩ := hQ
  refine W.eq (g2 := F0 m 1471 ls [.int (Int32.ofInt (op_keep S (ka xs (n + 1))))]) rfl ?_
  refine lv_aload_n C.hx C.hb dl_1471 rfl (lv_at hl 1 rfl) ?_
  refine kg_arg (k := 1) C hL hn hl hS (by decide) dl_1472 dl_1473 dl_1474 dl_1475 dl_1476 ?_
  refine kg_callV (Lc := LM) (ad := adN) (M := MN) (ci := 6) (T := TX6) (N := 28) (k := 1) (as := [.inl (ka xs (n + 1))]) (rest := [.int (Int32.ofInt (op_keep S (ka xs (n + 1))))]) (Q := fun v M' => v = some (.inl (op_keep S (ka xs (n + 1)))) ∧ ff_N M' = op_keep_s S (ka xs (n + 1))) C so_X6_keep q_1057 q_78 ⟨by decide +kernel, by decide +kernel, by decide +kernel⟩ q_1054 q_1055 q_1056 rfl rfl ⟨by decide, by decide⟩ (List.forall_mem_cons.mpr ⟨ka_ri xs _, fun _ h => absurd h List.not_mem_nil⟩) hmN (by unfold sp_X6_keep; exact ⟨rfl, by rw [eN]; exact hI, fun M' h => ⟨by rw [eN], by rw [h, eN]⟩⟩) rfl hPN (C.hDN _) C.hAN hS hPX (C.hdN _) hl (Nat.le_of_ble_eq_true rfl) rfl dl_1477 (fun v MN H locs hQ hmN hPN hPX hS => ?_)
  obtain ⟨rfl, eN⟩ := hQ
  refine W.eq (g2 := F0 m 1480 ls [.int (Int32.ofInt (op_keep S (ka xs (n + 1)))), .int (Int32.ofInt (op_keep S (ka xs (n + 1))))]) rfl ?_
  exact kg_eqI rfl C dl_1480 (by decide) (kk _ _ _ ⟨MX, MN, hPX, hPN, hmX, hmN, eX, eN, (ff_Inv_keep hI _), hS⟩)
set_option maxHeartbeats 4000000 in
theorem kc_again : kw_case 1485 := by
  intro p l e s m below meth c b L xs D cA adX adN H locs ls n S Qf C hL hn hl hd kk
  obtain ⟨MX, MN, hPX, hPN, hmX, hmN, eX, eN, hI, hS⟩ := hd
  refine lv_aload_n C.hx C.hb dl_1485 rfl (lv_at hl 2 rfl) ?_
  refine kg_arg (k := 1) C hL hn hl hS (by decide) dl_1486 dl_1487 dl_1488 dl_1489 dl_1490 ?_
  refine kg_callV (Lc := LX) (ad := adX) (M := MX) (ci := 5) (T := TX5) (N := 10) (k := 1) (as := [.inl (ka xs (n + 1))]) (rest := []) (Q := fun v M' => v = some (.inl (op_again S (ka xs (n + 1)))) ∧ ff_X M' = op_again_s S (ka xs (n + 1))) C so_X5_again q_646 q_72 ⟨by decide +kernel, by decide +kernel, by decide +kernel⟩ q_643 q_644 q_645 rfl rfl ⟨by decide, by decide⟩ (List.forall_mem_cons.mpr ⟨ka_ri xs _, fun _ h => absurd h List.not_mem_nil⟩) hmX (by unfold sp_X5_again; exact ⟨rfl, by rw [eX]; exact hI, fun M' h => ⟨by rw [eX], by rw [h, eX]⟩⟩) rfl hPX (C.hDX _) C.hAX hS hPN (C.hdX _) hl (Nat.le_of_ble_eq_true rfl) rfl dl_1491 (fun v MX H locs hQ hmX hPX hPN hS => ?_)
  obtain ⟨rfl, eX⟩ := hQ
  refine W.eq (g2 := F0 m 1494 ls [.int (Int32.ofInt (op_again S (ka xs (n + 1))))]) rfl ?_
  refine lv_aload_n C.hx C.hb dl_1494 rfl (lv_at hl 1 rfl) ?_
  refine kg_arg (k := 1) C hL hn hl hS (by decide) dl_1495 dl_1496 dl_1497 dl_1498 dl_1499 ?_
  refine kg_callV (Lc := LM) (ad := adN) (M := MN) (ci := 6) (T := TX6) (N := 28) (k := 1) (as := [.inl (ka xs (n + 1))]) (rest := [.int (Int32.ofInt (op_again S (ka xs (n + 1))))]) (Q := fun v M' => v = some (.inl (op_again S (ka xs (n + 1)))) ∧ ff_N M' = op_again_s S (ka xs (n + 1))) C so_X6_again q_1061 q_78 ⟨by decide +kernel, by decide +kernel, by decide +kernel⟩ q_1058 q_1059 q_1060 rfl rfl ⟨by decide, by decide⟩ (List.forall_mem_cons.mpr ⟨ka_ri xs _, fun _ h => absurd h List.not_mem_nil⟩) hmN (by unfold sp_X6_again; exact ⟨rfl, by rw [eN]; exact hI, fun M' h => ⟨by rw [eN], by rw [h, eN]⟩⟩) rfl hPN (C.hDN _) C.hAN hS hPX (C.hdN _) hl (Nat.le_of_ble_eq_true rfl) rfl dl_1500 (fun v MN H locs hQ hmN hPN hPX hS => ?_)
  obtain ⟨rfl, eN⟩ := hQ
  refine W.eq (g2 := F0 m 1503 ls [.int (Int32.ofInt (op_again S (ka xs (n + 1)))), .int (Int32.ofInt (op_again S (ka xs (n + 1))))]) rfl ?_
  exact kg_eqI rfl C dl_1503 (by decide) (kk _ _ _ ⟨MX, MN, hPX, hPN, hmX, hmN, eX, eN, (ff_Inv_again hI _), hS⟩)
set_option maxHeartbeats 4000000 in
theorem kc_count : kw_case 1508 := by
  intro p l e s m below meth c b L xs D cA adX adN H locs ls n S Qf C hL hn hl hd kk
  obtain ⟨MX, MN, hPX, hPN, hmX, hmN, eX, eN, hI, hS⟩ := hd
  refine lv_aload_n C.hx C.hb dl_1508 rfl (lv_at hl 2 rfl) ?_
  refine kg_arg (k := 1) C hL hn hl hS (by decide) dl_1509 dl_1510 dl_1511 dl_1512 dl_1513 ?_
  refine kg_callV (Lc := LX) (ad := adX) (M := MX) (ci := 5) (T := TX5) (N := 10) (k := 1) (as := [.inl (ka xs (n + 1))]) (rest := []) (Q := fun v M' => v = some (.inl (op_count S (ka xs (n + 1)))) ∧ ff_X M' = S) C so_X5_count q_650 q_72 ⟨by decide +kernel, by decide +kernel, by decide +kernel⟩ q_647 q_648 q_649 rfl rfl ⟨by decide, by decide⟩ (List.forall_mem_cons.mpr ⟨ka_ri xs _, fun _ h => absurd h List.not_mem_nil⟩) hmX (by unfold sp_X5_count; exact ⟨rfl, by rw [eX]; exact hI, fun M' h => ⟨by rw [eX], by rw [h, eX]⟩⟩) rfl hPX (C.hDX _) C.hAX hS hPN (C.hdX _) hl (Nat.le_of_ble_eq_true rfl) rfl dl_1514 (fun v MX H locs hQ hmX hPX hPN hS => ?_)
  obtain ⟨rfl, eX⟩ := hQ
  refine W.eq (g2 := F0 m 1517 ls [.int (Int32.ofInt (op_count S (ka xs (n + 1))))]) rfl ?_
  refine lv_aload_n C.hx C.hb dl_1517 rfl (lv_at hl 1 rfl) ?_
  refine kg_arg (k := 1) C hL hn hl hS (by decide) dl_1518 dl_1519 dl_1520 dl_1521 dl_1522 ?_
  refine kg_callV (Lc := LM) (ad := adN) (M := MN) (ci := 6) (T := TX6) (N := 28) (k := 1) (as := [.inl (ka xs (n + 1))]) (rest := [.int (Int32.ofInt (op_count S (ka xs (n + 1))))]) (Q := fun v M' => v = some (.inl (op_count S (ka xs (n + 1)))) ∧ ff_N M' = S) C so_X6_count q_1065 q_78 ⟨by decide +kernel, by decide +kernel, by decide +kernel⟩ q_1062 q_1063 q_1064 rfl rfl ⟨by decide, by decide⟩ (List.forall_mem_cons.mpr ⟨ka_ri xs _, fun _ h => absurd h List.not_mem_nil⟩) hmN (by unfold sp_X6_count; exact ⟨rfl, by rw [eN]; exact hI, fun M' h => ⟨by rw [eN], by rw [h, eN]⟩⟩) rfl hPN (C.hDN _) C.hAN hS hPX (C.hdN _) hl (Nat.le_of_ble_eq_true rfl) rfl dl_1523 (fun v MN H locs hQ hmN hPN hPX hS => ?_)
  obtain ⟨rfl, eN⟩ := hQ
  refine W.eq (g2 := F0 m 1526 ls [.int (Int32.ofInt (op_count S (ka xs (n + 1)))), .int (Int32.ofInt (op_count S (ka xs (n + 1))))]) rfl ?_
  exact kg_eqI rfl C dl_1526 (by decide) (kk _ _ _ ⟨MX, MN, hPX, hPN, hmX, hmN, eX, eN, hI, hS⟩)

