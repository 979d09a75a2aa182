/-! the law: certificates (printed by gen/law.py) -/
theorem K_La_law_c35 (n : Nat) (E : zE) (r18 : Nat × Nat × Int32 × zS × zH → Option (Bool × zS × zH)) (a1 : Nat) (a2 : Nat) (x3 : Int32) (S : zS) (M : zH) (r : Bool) (S' : zS) (M' : zH) (kc nc : Nat) (hkc : kc + 6 ≤ 3214) (hnc : nc + 2567 ≤ 1341798) (hr18 : ∀ (a1 : Nat) (a2 : Nat) (x3 : Int32) (S : zS) (M : zH), r18 (a1, a2, x3, S, M) = some (r, S', M') → zG E Y_La_law (some (.int (bI r)), S', M') 18 [(0, .ref (eb E)), (1, .ref a1), (2, .ref a2), (3, .int x3)] [] S M (kc + 6) (nc + 2567)) (h : F_La_law_c35 n E r18 a1 a2 x3 S M = some (r, S', M')) : zG E Y_La_law (some (.int (bI r)), S', M') 1138 [(0, .ref (eb E)), (1, .ref a1), (2, .ref a2), (3, .int x3)] [] S M kc nc := by
  unfold F_La_law_c35 at h
  refine zi_aload_n 1 d_La_law_1138 rfl ?_
  refine zi_aload_n 0 d_La_law_1139 rfl ?_
  refine zi_iload_n 3 d_La_law_1140 rfl ?_
  refine zi_iconst 1 d_La_law_1141 rfl ?_
  refine zi_iadd d_La_law_1142 ?_
  obtain ⟨v_1, ev_1, h⟩ := zbind h
  refine zo_scr 1144 d_La_law_1143 ev_1 rfl ?_
  refine zi_aload_n 0 d_La_law_1144 rfl ?_
  refine zi_iload_n 3 d_La_law_1145 rfl ?_
  refine zi_iconst 2 d_La_law_1146 rfl ?_
  refine zi_iadd d_La_law_1147 ?_
  obtain ⟨v_2, ev_2, h⟩ := zbind h
  refine zo_scr 1149 d_La_law_1148 ev_2 rfl ?_
  obtain ⟨u_3, eu_3, h⟩ := zbind h
  obtain ⟨q_4, eq_4, h⟩ := zbind h
  refine zo_virt (k' := kc) (n' := nc) 1152 [.int v_1, .int v_2] [] [.int q_4.1] zkd_10 (zck_s eu_3) (C_NC_years n E S a1 v_1 v_2 M q_4.1 q_4.2 eq_4) d_La_law_1149 tw_1157 tw_1154 tw_1155 tw_1156 tw_1 dd_NC_years ⟨Nat.le_of_ble_eq_true rfl, Nat.le_of_ble_eq_true rfl, zle6 hkc (Nat.le_of_ble_eq_true rfl), zle6 hnc (Nat.le_of_ble_eq_true rfl)⟩ (Nat.le_of_ble_eq_true rfl) rfl rfl rfl rfl ?_
  refine zi_aload_n 2 d_La_law_1152 rfl ?_
  refine zi_aload_n 0 d_La_law_1153 rfl ?_
  refine zi_iload_n 3 d_La_law_1154 rfl ?_
  refine zi_iconst 1 d_La_law_1155 rfl ?_
  refine zi_iadd d_La_law_1156 ?_
  obtain ⟨v_5, ev_5, h⟩ := zbind h
  refine zo_scr 1158 d_La_law_1157 ev_5 rfl ?_
  refine zi_aload_n 0 d_La_law_1158 rfl ?_
  refine zi_iload_n 3 d_La_law_1159 rfl ?_
  refine zi_iconst 2 d_La_law_1160 rfl ?_
  refine zi_iadd d_La_law_1161 ?_
  obtain ⟨v_6, ev_6, h⟩ := zbind h
  refine zo_scr 1163 d_La_law_1162 ev_6 rfl ?_
  obtain ⟨u_7, eu_7, h⟩ := zbind h
  obtain ⟨q_8, eq_8, h⟩ := zbind h
  refine zo_virt (k' := kc) (n' := nc) 1166 [.int v_5, .int v_6] [.int q_4.1] [.int q_8.1, .int q_4.1] zkd_11 (zck_s eu_7) (C_Mo_years n E S a2 v_5 v_6 q_4.2 q_8.1 q_8.2 eq_8) d_La_law_1163 tw_1886 tw_1883 tw_1884 tw_1885 tw_13 dd_Mo_years ⟨Nat.le_of_ble_eq_true rfl, Nat.le_of_ble_eq_true rfl, zle6 hkc (Nat.le_of_ble_eq_true rfl), zle6 hnc (Nat.le_of_ble_eq_true rfl)⟩ (Nat.le_of_ble_eq_true rfl) rfl rfl rfl rfl ?_
  refine zi_icmp_eq (tgt := 1286) d_La_law_1166 rfl (fun c_9 => ?_) (fun c_9 => ?_)
  · rw [if_pos c_9] at h
    refine zi_lo [(0, .ref (eb E)), (1, .ref a1), (2, .ref a2), (3, .int x3)] [0, 1, 2, 3] rfl ?_
    refine zi_wide (kc + 6) (nc + 2567) (Nat.le_add_right _ _) (Nat.le_add_right _ _) ?_
    exact K_La_law_b1286 n E r18 a1 a2 x3 S q_8.2 r S' M' kc nc hr18 h
  · rw [if_neg c_9] at h
    refine zi_iconst 0 d_La_law_1169 rfl ?_
    cases h
    exact zo_retB d_La_law_1170 (zleR hkc) (zleR hnc) rfl
theorem K_La_law_c36 (n : Nat) (E : zE) (r18 : Nat × Nat × Int32 × zS × zH → Option (Bool × zS × zH)) (a1 : Nat) (a2 : Nat) (x3 : Int32) (S : zS) (M : zH) (r : Bool) (S' : zS) (M' : zH) (kc nc : Nat) (hkc : kc + 6 ≤ 3214) (hnc : nc + 2567 ≤ 1341798) (hr18 : ∀ (a1 : Nat) (a2 : Nat) (x3 : Int32) (S : zS) (M : zH), r18 (a1, a2, x3, S, M) = some (r, S', M') → zG E Y_La_law (some (.int (bI r)), S', M') 18 [(0, .ref (eb E)), (1, .ref a1), (2, .ref a2), (3, .int x3)] [] S M (kc + 6) (nc + 2567)) (h : F_La_law_c36 n E r18 a1 a2 x3 S M = some (r, S', M')) : zG E Y_La_law (some (.int (bI r)), S', M') 1171 [(0, .ref (eb E)), (1, .ref a1), (2, .ref a2), (3, .int x3)] [] S M kc nc := by
  unfold F_La_law_c36 at h
  refine zi_aload_n 1 d_La_law_1171 rfl ?_
  refine zi_aload_n 0 d_La_law_1172 rfl ?_
  refine zi_iload_n 3 d_La_law_1173 rfl ?_
  refine zi_iconst 1 d_La_law_1174 rfl ?_
  refine zi_iadd d_La_law_1175 ?_
  obtain ⟨v_1, ev_1, h⟩ := zbind h
  refine zo_scr 1177 d_La_law_1176 ev_1 rfl ?_
  refine zi_aload_n 0 d_La_law_1177 rfl ?_
  refine zi_iload_n 3 d_La_law_1178 rfl ?_
  refine zi_iconst 2 d_La_law_1179 rfl ?_
  refine zi_iadd d_La_law_1180 ?_
  obtain ⟨v_2, ev_2, h⟩ := zbind h
  refine zo_scr 1182 d_La_law_1181 ev_2 rfl ?_
  obtain ⟨u_3, eu_3, h⟩ := zbind h
  obtain ⟨q_4, eq_4, h⟩ := zbind h
  refine zo_virt (k' := kc) (n' := nc) 1185 [.int v_1, .int v_2] [] [.int q_4.1] zkd_10 (zck_s eu_3) (C_NC_drawn n E S a1 v_1 v_2 M q_4.1 q_4.2 eq_4) d_La_law_1182 tw_1175 tw_1172 tw_1173 tw_1174 tw_1 dd_NC_drawn ⟨Nat.le_of_ble_eq_true rfl, Nat.le_of_ble_eq_true rfl, zle6 hkc (Nat.le_of_ble_eq_true rfl), zle6 hnc (Nat.le_of_ble_eq_true rfl)⟩ (Nat.le_of_ble_eq_true rfl) rfl rfl rfl rfl ?_
  refine zi_aload_n 2 d_La_law_1185 rfl ?_
  refine zi_aload_n 0 d_La_law_1186 rfl ?_
  refine zi_iload_n 3 d_La_law_1187 rfl ?_
  refine zi_iconst 1 d_La_law_1188 rfl ?_
  refine zi_iadd d_La_law_1189 ?_
  obtain ⟨v_5, ev_5, h⟩ := zbind h
  refine zo_scr 1191 d_La_law_1190 ev_5 rfl ?_
  refine zi_aload_n 0 d_La_law_1191 rfl ?_
  refine zi_iload_n 3 d_La_law_1192 rfl ?_
  refine zi_iconst 2 d_La_law_1193 rfl ?_
  refine zi_iadd d_La_law_1194 ?_
  obtain ⟨v_6, ev_6, h⟩ := zbind h
  refine zo_scr 1196 d_La_law_1195 ev_6 rfl ?_
  obtain ⟨u_7, eu_7, h⟩ := zbind h
  obtain ⟨q_8, eq_8, h⟩ := zbind h
  refine zo_virt (k' := kc) (n' := nc) 1199 [.int v_5, .int v_6] [.int q_4.1] [.int q_8.1, .int q_4.1] zkd_11 (zck_s eu_7) (C_Mo_drawn n E S a2 v_5 v_6 q_4.2 q_8.1 q_8.2 eq_8) d_La_law_1196 tw_1898 tw_1895 tw_1896 tw_1897 tw_13 dd_Mo_drawn ⟨Nat.le_of_ble_eq_true rfl, Nat.le_of_ble_eq_true rfl, zle6 hkc (Nat.le_of_ble_eq_true rfl), zle6 hnc (Nat.le_of_ble_eq_true rfl)⟩ (Nat.le_of_ble_eq_true rfl) rfl rfl rfl rfl ?_
  refine zi_icmp_eq (tgt := 1286) d_La_law_1199 rfl (fun c_9 => ?_) (fun c_9 => ?_)
  · rw [if_pos c_9] at h
    refine zi_lo [(0, .ref (eb E)), (1, .ref a1), (2, .ref a2), (3, .int x3)] [0, 1, 2, 3] rfl ?_
    refine zi_wide (kc + 6) (nc + 2567) (Nat.le_add_right _ _) (Nat.le_add_right _ _) ?_
    exact K_La_law_b1286 n E r18 a1 a2 x3 S q_8.2 r S' M' kc nc hr18 h
  · rw [if_neg c_9] at h
    refine zi_iconst 0 d_La_law_1202 rfl ?_
    cases h
    exact zo_retB d_La_law_1203 (zleR hkc) (zleR hnc) rfl
theorem K_La_law_c37 (n : Nat) (E : zE) (r18 : Nat × Nat × Int32 × zS × zH → Option (Bool × zS × zH)) (a1 : Nat) (a2 : Nat) (x3 : Int32) (S : zS) (M : zH) (r : Bool) (S' : zS) (M' : zH) (kc nc : Nat) (hkc : kc + 6 ≤ 3214) (hnc : nc + 2567 ≤ 1341798) (hr18 : ∀ (a1 : Nat) (a2 : Nat) (x3 : Int32) (S : zS) (M : zH), r18 (a1, a2, x3, S, M) = some (r, S', M') → zG E Y_La_law (some (.int (bI r)), S', M') 18 [(0, .ref (eb E)), (1, .ref a1), (2, .ref a2), (3, .int x3)] [] S M (kc + 6) (nc + 2567)) (h : F_La_law_c37 n E r18 a1 a2 x3 S M = some (r, S', M')) : zG E Y_La_law (some (.int (bI r)), S', M') 1204 [(0, .ref (eb E)), (1, .ref a1), (2, .ref a2), (3, .int x3)] [] S M kc nc := by
  unfold F_La_law_c37 at h
  refine zi_aload_n 1 d_La_law_1204 rfl ?_
  refine zi_aload_n 0 d_La_law_1205 rfl ?_
  refine zi_iload_n 3 d_La_law_1206 rfl ?_
  refine zi_iconst 1 d_La_law_1207 rfl ?_
  refine zi_iadd d_La_law_1208 ?_
  obtain ⟨v_1, ev_1, h⟩ := zbind h
  refine zo_scr 1210 d_La_law_1209 ev_1 rfl ?_
  obtain ⟨u_2, eu_2, h⟩ := zbind h
  obtain ⟨q_3, eq_3, h⟩ := zbind h
  refine zo_virt (k' := kc) (n' := nc) 1213 [.int v_1] [] [.int q_3.1] zkd_10 (zck_s eu_2) (C_NC_image n E S a1 v_1 M q_3.1 q_3.2 eq_3) d_La_law_1210 tw_1183 tw_1180 tw_1181 tw_1182 tw_1 dd_NC_image ⟨Nat.le_of_ble_eq_true rfl, Nat.le_of_ble_eq_true rfl, zle6 hkc (Nat.le_of_ble_eq_true rfl), zle6 hnc (Nat.le_of_ble_eq_true rfl)⟩ (Nat.le_of_ble_eq_true rfl) rfl rfl rfl rfl ?_
  refine zi_aload_n 2 d_La_law_1213 rfl ?_
  refine zi_aload_n 0 d_La_law_1214 rfl ?_
  refine zi_iload_n 3 d_La_law_1215 rfl ?_
  refine zi_iconst 1 d_La_law_1216 rfl ?_
  refine zi_iadd d_La_law_1217 ?_
  obtain ⟨v_4, ev_4, h⟩ := zbind h
  refine zo_scr 1219 d_La_law_1218 ev_4 rfl ?_
  obtain ⟨u_5, eu_5, h⟩ := zbind h
  obtain ⟨q_6, eq_6, h⟩ := zbind h
  refine zo_virt (k' := kc) (n' := nc) 1222 [.int v_4] [.int q_3.1] [.int q_6.1, .int q_3.1] zkd_11 (zck_s eu_5) (C_Mo_image n E S a2 v_4 q_3.2 q_6.1 q_6.2 eq_6) d_La_law_1219 tw_1416 tw_1413 tw_1414 tw_1415 tw_13 dd_Mo_image ⟨Nat.le_of_ble_eq_true rfl, Nat.le_of_ble_eq_true rfl, zle6 hkc (Nat.le_of_ble_eq_true rfl), zle6 hnc (Nat.le_of_ble_eq_true rfl)⟩ (Nat.le_of_ble_eq_true rfl) rfl rfl rfl rfl ?_
  refine zi_icmp_eq (tgt := 1286) d_La_law_1222 rfl (fun c_7 => ?_) (fun c_7 => ?_)
  · rw [if_pos c_7] at h
    refine zi_lo [(0, .ref (eb E)), (1, .ref a1), (2, .ref a2), (3, .int x3)] [0, 1, 2, 3] rfl ?_
    refine zi_wide (kc + 6) (nc + 2567) (Nat.le_add_right _ _) (Nat.le_add_right _ _) ?_
    exact K_La_law_b1286 n E r18 a1 a2 x3 S q_6.2 r S' M' kc nc hr18 h
  · rw [if_neg c_7] at h
    refine zi_iconst 0 d_La_law_1225 rfl ?_
    cases h
    exact zo_retB d_La_law_1226 (zleR hkc) (zleR hnc) rfl
theorem K_La_law_c38 (n : Nat) (E : zE) (r18 : Nat × Nat × Int32 × zS × zH → Option (Bool × zS × zH)) (a1 : Nat) (a2 : Nat) (x3 : Int32) (S : zS) (M : zH) (r : Bool) (S' : zS) (M' : zH) (kc nc : Nat) (hkc : kc + 6 ≤ 3214) (hnc : nc + 2567 ≤ 1341798) (hr18 : ∀ (a1 : Nat) (a2 : Nat) (x3 : Int32) (S : zS) (M : zH), r18 (a1, a2, x3, S, M) = some (r, S', M') → zG E Y_La_law (some (.int (bI r)), S', M') 18 [(0, .ref (eb E)), (1, .ref a1), (2, .ref a2), (3, .int x3)] [] S M (kc + 6) (nc + 2567)) (h : F_La_law_c38 n E r18 a1 a2 x3 S M = some (r, S', M')) : zG E Y_La_law (some (.int (bI r)), S', M') 1227 [(0, .ref (eb E)), (1, .ref a1), (2, .ref a2), (3, .int x3)] [] S M kc nc := by
  unfold F_La_law_c38 at h
  refine zi_aload_n 1 d_La_law_1227 rfl ?_
  refine zi_aload_n 0 d_La_law_1228 rfl ?_
  refine zi_iload_n 3 d_La_law_1229 rfl ?_
  refine zi_iconst 1 d_La_law_1230 rfl ?_
  refine zi_iadd d_La_law_1231 ?_
  obtain ⟨v_1, ev_1, h⟩ := zbind h
  refine zo_scr 1233 d_La_law_1232 ev_1 rfl ?_
  obtain ⟨u_2, eu_2, h⟩ := zbind h
  obtain ⟨q_3, eq_3, h⟩ := zbind h
  refine zo_virt (k' := kc) (n' := nc) 1236 [.int v_1] [] [.int q_3.1] zkd_10 (zck_s eu_2) (C_NC_back n E S a1 v_1 M q_3.1 q_3.2 eq_3) d_La_law_1233 tw_1187 tw_1184 tw_1185 tw_1186 tw_1 dd_NC_back ⟨Nat.le_of_ble_eq_true rfl, Nat.le_of_ble_eq_true rfl, zle6 hkc (Nat.le_of_ble_eq_true rfl), zle6 hnc (Nat.le_of_ble_eq_true rfl)⟩ (Nat.le_of_ble_eq_true rfl) rfl rfl rfl rfl ?_
  refine zi_aload_n 2 d_La_law_1236 rfl ?_
  refine zi_aload_n 0 d_La_law_1237 rfl ?_
  refine zi_iload_n 3 d_La_law_1238 rfl ?_
  refine zi_iconst 1 d_La_law_1239 rfl ?_
  refine zi_iadd d_La_law_1240 ?_
  obtain ⟨v_4, ev_4, h⟩ := zbind h
  refine zo_scr 1242 d_La_law_1241 ev_4 rfl ?_
  obtain ⟨u_5, eu_5, h⟩ := zbind h
  obtain ⟨q_6, eq_6, h⟩ := zbind h
  refine zo_virt (k' := kc) (n' := nc) 1245 [.int v_4] [.int q_3.1] [.int q_6.1, .int q_3.1] zkd_11 (zck_s eu_5) (C_Mo_back n E S a2 v_4 q_3.2 q_6.1 q_6.2 eq_6) d_La_law_1242 tw_1423 tw_1420 tw_1421 tw_1422 tw_13 dd_Mo_back ⟨Nat.le_of_ble_eq_true rfl, Nat.le_of_ble_eq_true rfl, zle6 hkc (Nat.le_of_ble_eq_true rfl), zle6 hnc (Nat.le_of_ble_eq_true rfl)⟩ (Nat.le_of_ble_eq_true rfl) rfl rfl rfl rfl ?_
  refine zi_icmp_eq (tgt := 1286) d_La_law_1245 rfl (fun c_7 => ?_) (fun c_7 => ?_)
  · rw [if_pos c_7] at h
    refine zi_lo [(0, .ref (eb E)), (1, .ref a1), (2, .ref a2), (3, .int x3)] [0, 1, 2, 3] rfl ?_
    refine zi_wide (kc + 6) (nc + 2567) (Nat.le_add_right _ _) (Nat.le_add_right _ _) ?_
    exact K_La_law_b1286 n E r18 a1 a2 x3 S q_6.2 r S' M' kc nc hr18 h
  · rw [if_neg c_7] at h
    refine zi_iconst 0 d_La_law_1248 rfl ?_
    cases h
    exact zo_retB d_La_law_1249 (zleR hkc) (zleR hnc) rfl
theorem K_La_law_c39 (n : Nat) (E : zE) (r18 : Nat × Nat × Int32 × zS × zH → Option (Bool × zS × zH)) (a1 : Nat) (a2 : Nat) (x3 : Int32) (S : zS) (M : zH) (r : Bool) (S' : zS) (M' : zH) (kc nc : Nat) (hkc : kc + 6 ≤ 3214) (hnc : nc + 2567 ≤ 1341798) (hr18 : ∀ (a1 : Nat) (a2 : Nat) (x3 : Int32) (S : zS) (M : zH), r18 (a1, a2, x3, S, M) = some (r, S', M') → zG E Y_La_law (some (.int (bI r)), S', M') 18 [(0, .ref (eb E)), (1, .ref a1), (2, .ref a2), (3, .int x3)] [] S M (kc + 6) (nc + 2567)) (h : F_La_law_c39 n E r18 a1 a2 x3 S M = some (r, S', M')) : zG E Y_La_law (some (.int (bI r)), S', M') 1250 [(0, .ref (eb E)), (1, .ref a1), (2, .ref a2), (3, .int x3)] [] S M kc nc := by
  unfold F_La_law_c39 at h
  refine zi_aload_n 1 d_La_law_1250 rfl ?_
  refine zi_aload_n 0 d_La_law_1251 rfl ?_
  refine zi_iload_n 3 d_La_law_1252 rfl ?_
  refine zi_iconst 1 d_La_law_1253 rfl ?_
  refine zi_iadd d_La_law_1254 ?_
  obtain ⟨v_1, ev_1, h⟩ := zbind h
  refine zo_scr 1256 d_La_law_1255 ev_1 rfl ?_
  obtain ⟨u_2, eu_2, h⟩ := zbind h
  obtain ⟨q_3, eq_3, h⟩ := zbind h
  refine zo_virt (k' := kc) (n' := nc) 1259 [.int v_1] [] [.int q_3.1] zkd_10 (zck_s eu_2) (C_NC_count n E S a1 v_1 M q_3.1 q_3.2 eq_3) d_La_law_1256 tw_1191 tw_1188 tw_1189 tw_1190 tw_1 dd_NC_count ⟨Nat.le_of_ble_eq_true rfl, Nat.le_of_ble_eq_true rfl, zle6 hkc (Nat.le_of_ble_eq_true rfl), zle6 hnc (Nat.le_of_ble_eq_true rfl)⟩ (Nat.le_of_ble_eq_true rfl) rfl rfl rfl rfl ?_
  refine zi_aload_n 2 d_La_law_1259 rfl ?_
  refine zi_aload_n 0 d_La_law_1260 rfl ?_
  refine zi_iload_n 3 d_La_law_1261 rfl ?_
  refine zi_iconst 1 d_La_law_1262 rfl ?_
  refine zi_iadd d_La_law_1263 ?_
  obtain ⟨v_4, ev_4, h⟩ := zbind h
  refine zo_scr 1265 d_La_law_1264 ev_4 rfl ?_
  obtain ⟨u_5, eu_5, h⟩ := zbind h
  obtain ⟨q_6, eq_6, h⟩ := zbind h
  refine zo_virt (k' := kc) (n' := nc) 1268 [.int v_4] [.int q_3.1] [.int q_6.1, .int q_3.1] zkd_11 (zck_s eu_5) (C_Mo_count n E S a2 v_4 q_3.2 q_6.1 q_6.2 eq_6) d_La_law_1265 tw_1902 tw_1899 tw_1900 tw_1901 tw_13 dd_Mo_count ⟨Nat.le_of_ble_eq_true rfl, Nat.le_of_ble_eq_true rfl, zle6 hkc (Nat.le_of_ble_eq_true rfl), zle6 hnc (Nat.le_of_ble_eq_true rfl)⟩ (Nat.le_of_ble_eq_true rfl) rfl rfl rfl rfl ?_
  refine zi_icmp_eq (tgt := 1286) d_La_law_1268 rfl (fun c_7 => ?_) (fun c_7 => ?_)
  · rw [if_pos c_7] at h
    refine zi_lo [(0, .ref (eb E)), (1, .ref a1), (2, .ref a2), (3, .int x3)] [0, 1, 2, 3] rfl ?_
    refine zi_wide (kc + 6) (nc + 2567) (Nat.le_add_right _ _) (Nat.le_add_right _ _) ?_
    exact K_La_law_b1286 n E r18 a1 a2 x3 S q_6.2 r S' M' kc nc hr18 h
  · rw [if_neg c_7] at h
    refine zi_iconst 0 d_La_law_1271 rfl ?_
    cases h
    exact zo_retB d_La_law_1272 (zleR hkc) (zleR hnc) rfl
theorem K_La_law_c40 (n : Nat) (E : zE) (r18 : Nat × Nat × Int32 × zS × zH → Option (Bool × zS × zH)) (a1 : Nat) (a2 : Nat) (x3 : Int32) (S : zS) (M : zH) (r : Bool) (S' : zS) (M' : zH) (kc nc : Nat) (hkc : kc + 6 ≤ 3214) (hnc : nc + 2567 ≤ 1341798) (hr18 : ∀ (a1 : Nat) (a2 : Nat) (x3 : Int32) (S : zS) (M : zH), r18 (a1, a2, x3, S, M) = some (r, S', M') → zG E Y_La_law (some (.int (bI r)), S', M') 18 [(0, .ref (eb E)), (1, .ref a1), (2, .ref a2), (3, .int x3)] [] S M (kc + 6) (nc + 2567)) (h : F_La_law_c40 n E r18 a1 a2 x3 S M = some (r, S', M')) : zG E Y_La_law (some (.int (bI r)), S', M') 1273 [(0, .ref (eb E)), (1, .ref a1), (2, .ref a2), (3, .int x3)] [] S M kc nc := by
  unfold F_La_law_c40 at h
  refine zi_aload_n 1 d_La_law_1273 rfl ?_
  obtain ⟨u_1, eu_1, h⟩ := zbind h
  obtain ⟨q_2, eq_2, h⟩ := zbind h
  refine zo_virt (k' := kc) (n' := nc) 1277 [] [] [.int q_2.1] zkd_10 (zck_s eu_1) (C_NC_status n E S a1 M q_2.1 q_2.2 eq_2) d_La_law_1274 tw_1200 tw_1197 tw_1198 tw_1199 tw_1 dd_NC_status ⟨Nat.le_of_ble_eq_true rfl, Nat.le_of_ble_eq_true rfl, zle6 hkc (Nat.le_of_ble_eq_true rfl), zle6 hnc (Nat.le_of_ble_eq_true rfl)⟩ (Nat.le_of_ble_eq_true rfl) rfl rfl rfl rfl ?_
  refine zi_aload_n 2 d_La_law_1277 rfl ?_
  obtain ⟨u_3, eu_3, h⟩ := zbind h
  obtain ⟨q_4, eq_4, h⟩ := zbind h
  refine zo_virt (k' := kc) (n' := nc) 1281 [] [.int q_2.1] [.int q_4.1, .int q_2.1] zkd_11 (zck_s eu_3) (C_Mo_status n E S a2 q_2.2 q_4.1 q_4.2 eq_4) d_La_law_1278 tw_1912 tw_1909 tw_1910 tw_1911 tw_13 dd_Mo_status ⟨Nat.le_of_ble_eq_true rfl, Nat.le_of_ble_eq_true rfl, zle6 hkc (Nat.le_of_ble_eq_true rfl), zle6 hnc (Nat.le_of_ble_eq_true rfl)⟩ (Nat.le_of_ble_eq_true rfl) rfl rfl rfl rfl ?_
  refine zi_icmp_eq (tgt := 1286) d_La_law_1281 rfl (fun c_5 => ?_) (fun c_5 => ?_)
  · rw [if_pos c_5] at h
    refine zi_lo [(0, .ref (eb E)), (1, .ref a1), (2, .ref a2), (3, .int x3)] [0, 1, 2, 3] rfl ?_
    refine zi_wide (kc + 6) (nc + 2567) (Nat.le_add_right _ _) (Nat.le_add_right _ _) ?_
    exact K_La_law_b1286 n E r18 a1 a2 x3 S q_4.2 r S' M' kc nc hr18 h
  · rw [if_neg c_5] at h
    refine zi_iconst 0 d_La_law_1284 rfl ?_
    cases h
    exact zo_retB d_La_law_1285 (zleR hkc) (zleR hnc) rfl
theorem K_La_law_L18 (n : Nat) (E : zE) (r18 : Nat × Nat × Int32 × zS × zH → Option (Bool × zS × zH)) (a1 : Nat) (a2 : Nat) (x3 : Int32) (S : zS) (M : zH) (r : Bool) (S' : zS) (M' : zH) (kc nc : Nat) (hkc : kc + 6 ≤ 3214) (hnc : nc + 2567 ≤ 1341798) (hr18 : ∀ (a1 : Nat) (a2 : Nat) (x3 : Int32) (S : zS) (M : zH), r18 (a1, a2, x3, S, M) = some (r, S', M') → zG E Y_La_law (some (.int (bI r)), S', M') 18 [(0, .ref (eb E)), (1, .ref a1), (2, .ref a2), (3, .int x3)] [] S M (kc + 6) (nc + 2567)) (h : F_La_law_L18 n E r18 a1 a2 x3 S M = some (r, S', M')) : zG E Y_La_law (some (.int (bI r)), S', M') 18 [(0, .ref (eb E)), (1, .ref a1), (2, .ref a2), (3, .int x3)] [] S M kc nc := by
  unfold F_La_law_L18 at h
  refine zi_iload_n 3 d_La_law_18 rfl ?_
  refine zi_aload_n 0 d_La_law_19 rfl ?_
  refine zo_scrlen 21 d_La_law_20 rfl ?_
  refine zi_bipush 6 d_La_law_21 rfl ?_
  refine zi_isub d_La_law_23 ?_
  refine zi_icmp_gt (tgt := 1292) d_La_law_24 rfl (fun c_1 => ?_) (fun c_1 => ?_)
  · rw [if_pos c_1] at h
    refine zi_iconst 1 d_La_law_1292 rfl ?_
    cases h
    exact zo_retB d_La_law_1293 (zleR hkc) (zleR hnc) rfl
  · rw [if_neg c_1] at h
    refine zi_aload_n 0 d_La_law_27 rfl ?_
    refine zi_iload_n 3 d_La_law_28 rfl ?_
    obtain ⟨v_2, ev_2, h⟩ := zbind h
    refine zo_scr 30 d_La_law_29 ev_2 rfl ?_
    refine zi_bipush 63 d_La_law_30 rfl ?_
    refine zi_iand d_La_law_32 ?_
    by_cases c_3 : (v_2 &&& (63 : Int32)) = 0
    · rw [if_pos c_3] at h
      refine zo_tab (tgt := 212) 0 d_La_law_33 c_3 (by decide) (by decide) rfl rfl ?_
      exact K_La_law_c0 n E r18 a1 a2 x3 S M r S' M' kc nc hkc hnc hr18 h
    rw [if_neg c_3] at h
    by_cases c_4 : (v_2 &&& (63 : Int32)) = 1
    · rw [if_pos c_4] at h
      refine zo_tab (tgt := 255) 1 d_La_law_33 c_4 (by decide) (by decide) rfl rfl ?_
      exact K_La_law_c1 n E r18 a1 a2 x3 S M r S' M' kc nc hkc hnc hr18 h
    rw [if_neg c_4] at h
    by_cases c_5 : (v_2 &&& (63 : Int32)) = 2
    · rw [if_pos c_5] at h
      refine zo_tab (tgt := 288) 2 d_La_law_33 c_5 (by decide) (by decide) rfl rfl ?_
      exact K_La_law_c2 n E r18 a1 a2 x3 S M r S' M' kc nc hkc hnc hr18 h
    rw [if_neg c_5] at h
    by_cases c_6 : (v_2 &&& (63 : Int32)) = 3
    · rw [if_pos c_6] at h
      refine zo_tab (tgt := 321) 3 d_La_law_33 c_6 (by decide) (by decide) rfl rfl ?_
      exact K_La_law_c3 n E r18 a1 a2 x3 S M r S' M' kc nc hkc hnc hr18 h
    rw [if_neg c_6] at h
    by_cases c_7 : (v_2 &&& (63 : Int32)) = 4
    · rw [if_pos c_7] at h
      refine zo_tab (tgt := 354) 4 d_La_law_33 c_7 (by decide) (by decide) rfl rfl ?_
      exact K_La_law_c4 n E r18 a1 a2 x3 S M r S' M' kc nc hkc hnc hr18 h
    rw [if_neg c_7] at h
    by_cases c_8 : (v_2 &&& (63 : Int32)) = 5
    · rw [if_pos c_8] at h
      refine zo_tab (tgt := 387) 5 d_La_law_33 c_8 (by decide) (by decide) rfl rfl ?_
      exact K_La_law_c5 n E r18 a1 a2 x3 S M r S' M' kc nc hkc hnc hr18 h
    rw [if_neg c_8] at h
    by_cases c_9 : (v_2 &&& (63 : Int32)) = 6
    · rw [if_pos c_9] at h
      refine zo_tab (tgt := 410) 6 d_La_law_33 c_9 (by decide) (by decide) rfl rfl ?_
      exact K_La_law_c6 n E r18 a1 a2 x3 S M r S' M' kc nc hkc hnc hr18 h
    rw [if_neg c_9] at h
    by_cases c_10 : (v_2 &&& (63 : Int32)) = 7
    · rw [if_pos c_10] at h
      refine zo_tab (tgt := 443) 7 d_La_law_33 c_10 (by decide) (by decide) rfl rfl ?_
      exact K_La_law_c7 n E r18 a1 a2 x3 S M r S' M' kc nc hkc hnc hr18 h
    rw [if_neg c_10] at h
    by_cases c_11 : (v_2 &&& (63 : Int32)) = 8
    · rw [if_pos c_11] at h
      refine zo_tab (tgt := 506) 8 d_La_law_33 c_11 (by decide) (by decide) rfl rfl ?_
      exact K_La_law_c8 n E r18 a1 a2 x3 S M r S' M' kc nc hkc hnc hr18 h
    rw [if_neg c_11] at h
    by_cases c_12 : (v_2 &&& (63 : Int32)) = 9
    · rw [if_pos c_12] at h
      refine zo_tab (tgt := 529) 9 d_La_law_33 c_12 (by decide) (by decide) rfl rfl ?_
      exact K_La_law_c9 n E r18 a1 a2 x3 S M r S' M' kc nc hkc hnc hr18 h
    rw [if_neg c_12] at h
    by_cases c_13 : (v_2 &&& (63 : Int32)) = 10
    · rw [if_pos c_13] at h
      refine zo_tab (tgt := 542) 10 d_La_law_33 c_13 (by decide) (by decide) rfl rfl ?_
      exact K_La_law_c10 n E r18 a1 a2 x3 S M r S' M' kc nc hkc hnc hr18 h
    rw [if_neg c_13] at h
    by_cases c_14 : (v_2 &&& (63 : Int32)) = 11
    · rw [if_pos c_14] at h
      refine zo_tab (tgt := 555) 11 d_La_law_33 c_14 (by decide) (by decide) rfl rfl ?_
      exact K_La_law_c11 n E r18 a1 a2 x3 S M r S' M' kc nc hkc hnc hr18 h
    rw [if_neg c_14] at h
    by_cases c_15 : (v_2 &&& (63 : Int32)) = 12
    · rw [if_pos c_15] at h
      refine zo_tab (tgt := 568) 12 d_La_law_33 c_15 (by decide) (by decide) rfl rfl ?_
      exact K_La_law_c12 n E r18 a1 a2 x3 S M r S' M' kc nc hkc hnc hr18 h
    rw [if_neg c_15] at h
    by_cases c_16 : (v_2 &&& (63 : Int32)) = 13
    · rw [if_pos c_16] at h
      refine zo_tab (tgt := 581) 13 d_La_law_33 c_16 (by decide) (by decide) rfl rfl ?_
      exact K_La_law_c13 n E r18 a1 a2 x3 S M r S' M' kc nc hkc hnc hr18 h
    rw [if_neg c_16] at h
    by_cases c_17 : (v_2 &&& (63 : Int32)) = 14
    · rw [if_pos c_17] at h
      refine zo_tab (tgt := 594) 14 d_La_law_33 c_17 (by decide) (by decide) rfl rfl ?_
      exact K_La_law_c14 n E r18 a1 a2 x3 S M r S' M' kc nc hkc hnc hr18 h
    rw [if_neg c_17] at h
    by_cases c_18 : (v_2 &&& (63 : Int32)) = 15
    · rw [if_pos c_18] at h
      refine zo_tab (tgt := 607) 15 d_La_law_33 c_18 (by decide) (by decide) rfl rfl ?_
      exact K_La_law_c15 n E r18 a1 a2 x3 S M r S' M' kc nc hkc hnc hr18 h
    rw [if_neg c_18] at h
    by_cases c_19 : (v_2 &&& (63 : Int32)) = 16
    · rw [if_pos c_19] at h
      refine zo_tab (tgt := 630) 16 d_La_law_33 c_19 (by decide) (by decide) rfl rfl ?_
      exact K_La_law_c16 n E r18 a1 a2 x3 S M r S' M' kc nc hkc hnc hr18 h
    rw [if_neg c_19] at h
    by_cases c_20 : (v_2 &&& (63 : Int32)) = 17
    · rw [if_pos c_20] at h
      refine zo_tab (tgt := 663) 17 d_La_law_33 c_20 (by decide) (by decide) rfl rfl ?_
      exact K_La_law_c17 n E r18 a1 a2 x3 S M r S' M' kc nc hkc hnc hr18 h
    rw [if_neg c_20] at h
    by_cases c_21 : (v_2 &&& (63 : Int32)) = 18
    · rw [if_pos c_21] at h
      refine zo_tab (tgt := 696) 18 d_La_law_33 c_21 (by decide) (by decide) rfl rfl ?_
      exact K_La_law_c18 n E r18 a1 a2 x3 S M r S' M' kc nc hkc hnc hr18 h
    rw [if_neg c_21] at h
    by_cases c_22 : (v_2 &&& (63 : Int32)) = 19
    · rw [if_pos c_22] at h
      refine zo_tab (tgt := 729) 19 d_La_law_33 c_22 (by decide) (by decide) rfl rfl ?_
      exact K_La_law_c19 n E r18 a1 a2 x3 S M r S' M' kc nc hkc hnc hr18 h
    rw [if_neg c_22] at h
    by_cases c_23 : (v_2 &&& (63 : Int32)) = 20
    · rw [if_pos c_23] at h
      refine zo_tab (tgt := 742) 20 d_La_law_33 c_23 (by decide) (by decide) rfl rfl ?_
      exact K_La_law_c20 n E r18 a1 a2 x3 S M r S' M' kc nc hkc hnc hr18 h
    rw [if_neg c_23] at h
    by_cases c_24 : (v_2 &&& (63 : Int32)) = 21
    · rw [if_pos c_24] at h
      refine zo_tab (tgt := 755) 21 d_La_law_33 c_24 (by decide) (by decide) rfl rfl ?_
      exact K_La_law_c21 n E r18 a1 a2 x3 S M r S' M' kc nc hkc hnc hr18 h
    rw [if_neg c_24] at h
    by_cases c_25 : (v_2 &&& (63 : Int32)) = 22
    · rw [if_pos c_25] at h
      refine zo_tab (tgt := 788) 22 d_La_law_33 c_25 (by decide) (by decide) rfl rfl ?_
      exact K_La_law_c22 n E r18 a1 a2 x3 S M r S' M' kc nc hkc hnc hr18 h
    rw [if_neg c_25] at h
    by_cases c_26 : (v_2 &&& (63 : Int32)) = 23
    · rw [if_pos c_26] at h
      refine zo_tab (tgt := 821) 23 d_La_law_33 c_26 (by decide) (by decide) rfl rfl ?_
      exact K_La_law_c23 n E r18 a1 a2 x3 S M r S' M' kc nc hkc hnc hr18 h
    rw [if_neg c_26] at h
    by_cases c_27 : (v_2 &&& (63 : Int32)) = 24
    · rw [if_pos c_27] at h
      refine zo_tab (tgt := 854) 24 d_La_law_33 c_27 (by decide) (by decide) rfl rfl ?_
      exact K_La_law_c24 n E r18 a1 a2 x3 S M r S' M' kc nc hkc hnc hr18 h
    rw [if_neg c_27] at h
    by_cases c_28 : (v_2 &&& (63 : Int32)) = 25
    · rw [if_pos c_28] at h
      refine zo_tab (tgt := 867) 25 d_La_law_33 c_28 (by decide) (by decide) rfl rfl ?_
      exact K_La_law_c25 n E r18 a1 a2 x3 S M r S' M' kc nc hkc hnc hr18 h
    rw [if_neg c_28] at h
    by_cases c_29 : (v_2 &&& (63 : Int32)) = 26
    · rw [if_pos c_29] at h
      refine zo_tab (tgt := 890) 26 d_La_law_33 c_29 (by decide) (by decide) rfl rfl ?_
      exact K_La_law_c26 n E r18 a1 a2 x3 S M r S' M' kc nc hkc hnc hr18 h
    rw [if_neg c_29] at h
    by_cases c_30 : (v_2 &&& (63 : Int32)) = 27
    · rw [if_pos c_30] at h
      refine zo_tab (tgt := 913) 27 d_La_law_33 c_30 (by decide) (by decide) rfl rfl ?_
      exact K_La_law_c27 n E r18 a1 a2 x3 S M r S' M' kc nc hkc hnc hr18 h
    rw [if_neg c_30] at h
    by_cases c_31 : (v_2 &&& (63 : Int32)) = 28
    · rw [if_pos c_31] at h
      refine zo_tab (tgt := 936) 28 d_La_law_33 c_31 (by decide) (by decide) rfl rfl ?_
      exact K_La_law_c28 n E r18 a1 a2 x3 S M r S' M' kc nc hkc hnc hr18 h
    rw [if_neg c_31] at h
    by_cases c_32 : (v_2 &&& (63 : Int32)) = 29
    · rw [if_pos c_32] at h
      refine zo_tab (tgt := 979) 29 d_La_law_33 c_32 (by decide) (by decide) rfl rfl ?_
      exact K_La_law_c29 n E r18 a1 a2 x3 S M r S' M' kc nc hkc hnc hr18 h
    rw [if_neg c_32] at h
    by_cases c_33 : (v_2 &&& (63 : Int32)) = 30
    · rw [if_pos c_33] at h
      refine zo_tab (tgt := 1002) 30 d_La_law_33 c_33 (by decide) (by decide) rfl rfl ?_
      exact K_La_law_c30 n E r18 a1 a2 x3 S M r S' M' kc nc hkc hnc hr18 h
    rw [if_neg c_33] at h
    by_cases c_34 : (v_2 &&& (63 : Int32)) = 31
    · rw [if_pos c_34] at h
      refine zo_tab (tgt := 1025) 31 d_La_law_33 c_34 (by decide) (by decide) rfl rfl ?_
      exact K_La_law_c31 n E r18 a1 a2 x3 S M r S' M' kc nc hkc hnc hr18 h
    rw [if_neg c_34] at h
    by_cases c_35 : (v_2 &&& (63 : Int32)) = 32
    · rw [if_pos c_35] at h
      refine zo_tab (tgt := 1058) 32 d_La_law_33 c_35 (by decide) (by decide) rfl rfl ?_
      exact K_La_law_c32 n E r18 a1 a2 x3 S M r S' M' kc nc hkc hnc hr18 h
    rw [if_neg c_35] at h
    by_cases c_36 : (v_2 &&& (63 : Int32)) = 33
    · rw [if_pos c_36] at h
      refine zo_tab (tgt := 1081) 33 d_La_law_33 c_36 (by decide) (by decide) rfl rfl ?_
      exact K_La_law_c33 n E r18 a1 a2 x3 S M r S' M' kc nc hkc hnc hr18 h
    rw [if_neg c_36] at h
    by_cases c_37 : (v_2 &&& (63 : Int32)) = 34
    · rw [if_pos c_37] at h
      refine zo_tab (tgt := 1115) 34 d_La_law_33 c_37 (by decide) (by decide) rfl rfl ?_
      exact K_La_law_c34 n E r18 a1 a2 x3 S M r S' M' kc nc hkc hnc hr18 h
    rw [if_neg c_37] at h
    by_cases c_38 : (v_2 &&& (63 : Int32)) = 35
    · rw [if_pos c_38] at h
      refine zo_tab (tgt := 1138) 35 d_La_law_33 c_38 (by decide) (by decide) rfl rfl ?_
      exact K_La_law_c35 n E r18 a1 a2 x3 S M r S' M' kc nc hkc hnc hr18 h
    rw [if_neg c_38] at h
    by_cases c_39 : (v_2 &&& (63 : Int32)) = 36
    · rw [if_pos c_39] at h
      refine zo_tab (tgt := 1171) 36 d_La_law_33 c_39 (by decide) (by decide) rfl rfl ?_
      exact K_La_law_c36 n E r18 a1 a2 x3 S M r S' M' kc nc hkc hnc hr18 h
    rw [if_neg c_39] at h
    by_cases c_40 : (v_2 &&& (63 : Int32)) = 37
    · rw [if_pos c_40] at h
      refine zo_tab (tgt := 1204) 37 d_La_law_33 c_40 (by decide) (by decide) rfl rfl ?_
      exact K_La_law_c37 n E r18 a1 a2 x3 S M r S' M' kc nc hkc hnc hr18 h
    rw [if_neg c_40] at h
    by_cases c_41 : (v_2 &&& (63 : Int32)) = 38
    · rw [if_pos c_41] at h
      refine zo_tab (tgt := 1227) 38 d_La_law_33 c_41 (by decide) (by decide) rfl rfl ?_
      exact K_La_law_c38 n E r18 a1 a2 x3 S M r S' M' kc nc hkc hnc hr18 h
    rw [if_neg c_41] at h
    by_cases c_42 : (v_2 &&& (63 : Int32)) = 39
    · rw [if_pos c_42] at h
      refine zo_tab (tgt := 1250) 39 d_La_law_33 c_42 (by decide) (by decide) rfl rfl ?_
      exact K_La_law_c39 n E r18 a1 a2 x3 S M r S' M' kc nc hkc hnc hr18 h
    rw [if_neg c_42] at h
    by_cases c_43 : (v_2 &&& (63 : Int32)) = 40
    · rw [if_pos c_43] at h
      refine zo_tab (tgt := 1273) 40 d_La_law_33 c_43 (by decide) (by decide) rfl rfl ?_
      exact K_La_law_c40 n E r18 a1 a2 x3 S M r S' M' kc nc hkc hnc hr18 h
    rw [if_neg c_43] at h
    refine zo_tabP (tgt := 1286) 0 41 d_La_law_33 rfl rfl (fun j hj => by match j, hj with | 0, _ => exact c_3  | 1, _ => exact c_4  | 2, _ => exact c_5  | 3, _ => exact c_6  | 4, _ => exact c_7  | 5, _ => exact c_8  | 6, _ => exact c_9  | 7, _ => exact c_10  | 8, _ => exact c_11  | 9, _ => exact c_12  | 10, _ => exact c_13  | 11, _ => exact c_14  | 12, _ => exact c_15  | 13, _ => exact c_16  | 14, _ => exact c_17  | 15, _ => exact c_18  | 16, _ => exact c_19  | 17, _ => exact c_20  | 18, _ => exact c_21  | 19, _ => exact c_22  | 20, _ => exact c_23  | 21, _ => exact c_24  | 22, _ => exact c_25  | 23, _ => exact c_26  | 24, _ => exact c_27  | 25, _ => exact c_28  | 26, _ => exact c_29  | 27, _ => exact c_30  | 28, _ => exact c_31  | 29, _ => exact c_32  | 30, _ => exact c_33  | 31, _ => exact c_34  | 32, _ => exact c_35  | 33, _ => exact c_36  | 34, _ => exact c_37  | 35, _ => exact c_38  | 36, _ => exact c_39  | 37, _ => exact c_40  | 38, _ => exact c_41  | 39, _ => exact c_42  | 40, _ => exact c_43 | j + 41, hj => exact absurd hj (by omega)) rfl ?_
    refine zi_lo [(0, .ref (eb E)), (1, .ref a1), (2, .ref a2), (3, .int x3)] [0, 1, 2, 3] rfl ?_
    refine zi_wide (kc + 6) (nc + 2567) (Nat.le_add_right _ _) (Nat.le_add_right _ _) ?_
    exact K_La_law_b1286 n E r18 a1 a2 x3 S M r S' M' kc nc hr18 h
theorem K_La_law_b18 (n : Nat) (E : zE) (a1 : Nat) (a2 : Nat) (x3 : Int32) (S : zS) (M : zH) (r : Bool) (S' : zS) (M' : zH) (h : F_La_law_b18 n E (a1, a2, x3, S, M) = some (r, S', M')) : zG E Y_La_law (some (.int (bI r)), S', M') 18 [(0, .ref (eb E)), (1, .ref a1), (2, .ref a2), (3, .int x3)] [] S M 136 24927 := by
  have key : ∀ (k : Nat), k ≤ 513 → ∀ (a1 : Nat) (a2 : Nat) (x3 : Int32) (S : zS) (M : zH), zfix (fun r18 s => F_La_law_L18 n E r18 s.1 s.2.1 s.2.2.1 s.2.2.2.1 s.2.2.2.2) k (a1, a2, x3, S, M) = some (r, S', M') → zG E Y_La_law (some (.int (bI r)), S', M') 18 [(0, .ref (eb E)), (1, .ref a1), (2, .ref a2), (3, .int x3)] [] S M (136 + 6 * (513 - k)) (24927 + 2567 * (513 - k)) := by
    intro k
    induction k with
    | zero => intro _ a1 a2 x3 S M h; cases h
    | succ k ih =>
      intro hk a1 a2 x3 S M h
      refine K_La_law_L18 n E _ a1 a2 x3 S M r S' M' _ _ (by omega) (by omega) (fun a1 a2 x3 S M h => ?_) h
      have h1 := ih (by omega) a1 a2 x3 S M h
      rw [show 136 + 6 * (513 - (k + 1)) + 6 = 136 + 6 * (513 - k) by omega, show 24927 + 2567 * (513 - (k + 1)) + 2567 = 24927 + 2567 * (513 - k) by omega]
      exact h1
  have h1 := key 513 (Nat.le_refl _) a1 a2 x3 S M h
  simpa using h1
theorem K_La_law (n : Nat) (E : zE) (S : zS) (M : zH) (r : Bool) (S' : zS) (M' : zH) (h : F_La_law n E S M = some (r, S', M')) : zG E Y_La_law (some (.int (bI r)), S', M') 0 [(0, .ref (eb E))] [] S M 0 0 := by
  unfold F_La_law at h
  obtain ⟨q_1, eq_1, h⟩ := zbind h
  refine zo_new 3 zkd_10 d_La_law_0 eq_1 tw_22 tw_23 tw_1 (by decide) (Nat.le_of_ble_eq_true rfl) (Nat.le_of_ble_eq_true rfl) rfl rfl rfl ?_
  refine zi_dup d_La_law_3 rfl ?_
  obtain ⟨q_2, eq_2, h⟩ := zbind h
  refine zo_init (k' := 105) (n' := 3319) 7 [] [.ref q_1.1] (C_NC_init n E q_1.1 q_1.2.1 q_1.2.2 q_2.1 q_2.2 eq_2) d_La_law_4 rfl rfl tw_26 tw_24 tw_25 tw_1 dd_NC_init ⟨Nat.le_of_ble_eq_true rfl, Nat.le_of_ble_eq_true rfl, Nat.le_of_ble_eq_true rfl, Nat.le_of_ble_eq_true rfl⟩ (Nat.le_of_ble_eq_true rfl) rfl rfl rfl ?_
  refine zi_astore_n [(1, .ref q_1.1), (0, .ref (eb E))] d_La_law_7 (by decide) rfl ?_
  obtain ⟨q_3, eq_3, h⟩ := zbind h
  refine zo_new 11 zkd_11 d_La_law_8 eq_3 tw_1201 tw_1202 tw_13 (by decide) (Nat.le_of_ble_eq_true rfl) (Nat.le_of_ble_eq_true rfl) rfl rfl rfl ?_
  refine zi_dup d_La_law_11 rfl ?_
  obtain ⟨q_4, eq_4, h⟩ := zbind h
  refine zo_init (k' := 136) (n' := 24927) 15 [] [.ref q_3.1] (C_Mo_init n E q_3.1 q_3.2.1 q_3.2.2 q_4.1 q_4.2 eq_4) d_La_law_12 rfl rfl tw_1205 tw_1203 tw_1204 tw_13 dd_Mo_init ⟨Nat.le_of_ble_eq_true rfl, Nat.le_of_ble_eq_true rfl, Nat.le_of_ble_eq_true rfl, Nat.le_of_ble_eq_true rfl⟩ (Nat.le_of_ble_eq_true rfl) rfl rfl rfl ?_
  refine zi_astore_n [(2, .ref q_3.1), (1, .ref q_1.1), (0, .ref (eb E))] d_La_law_15 (by decide) rfl ?_
  refine zi_iconst 0 d_La_law_16 rfl ?_
  refine zi_istore_n [(3, .int 0), (2, .ref q_3.1), (1, .ref q_1.1), (0, .ref (eb E))] d_La_law_17 (by decide) rfl ?_
  refine zi_lo [(0, .ref (eb E)), (1, .ref q_1.1), (2, .ref q_3.1), (3, .int 0)] [3, 2, 1, 0] rfl ?_
  exact K_La_law_b18 n E q_1.1 q_3.1 0 q_4.1 q_4.2 r S' M' h
