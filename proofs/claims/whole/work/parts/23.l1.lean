set_option maxRecDepth 100000 in
set_option maxHeartbeats 4000000 in
theorem cL_c25 {X : mm_X} (C : mm_C X cL_law yL_law 1300 183448 8551906) {sb L : Nat} {xs : Nat → Int32} (hX : mm_scr X sb L xs) {cl sl : Nat} (hcl : cl + 350 ≤ 183448) (hsl : sl + 16500 ≤ 8551906) {ax ay : Nat} {xi : Int32} {K : mm_H → Option (Int32 × mm_H)} {u : Int32 × mm_H} (hk : ∀ h, K h = some u → mm_E X h (cl + 350) (sl + 16500) 2011 [some (vR (some sb)), some (vR (some ax)), some (vR (some ay)), some (vI xi)] []) : ∀ h, fL_c25 L xs ax ay xi K h = some u → mm_E X h (cl + 0) (sl + 0) 1199 [some (vR (some sb)), some (vR (some ax)), some (vR (some ay)), some (vI xi)] [] := by
  intro h hf
  unfold fL_c25 at hf
  refine me_aload_n (q := 1200) C dL_law_1199 rfl rfl rfl ?_
  refine me_aload_n (q := 1201) C dL_law_1200 rfl rfl rfl ?_
  refine me_iload_n (q := 1202) C dL_law_1201 rfl rfl rfl ?_
  refine me_iconst (v := (1 : Int32)) (q := 1203) C dL_law_1202 (by decide) rfl ?_
  refine me_iadd (q := 1204) C dL_law_1203 rfl ?_
  obtain ⟨k1, hf⟩ := mm_ck_some hf
  refine me_sld (q := 1205) C hX dL_law_1204 k1 rfl ?_
  obtain ⟨k2, hf⟩ := mm_ck_some hf
  obtain ⟨v3, g4, e5, hf⟩ := mm_cl_some hf
  refine me_callV (q := 1208) (c2 := cl + 0) (s2 := sl + 0) (st := []) C (cX11_chest_ok _ e5) mt_L_120 mv_X11_chest rfl (by decide) dL_law_1205 rfl k2 rfl rfl rfl (Nat.le_of_ble_eq_true rfl) (by omega) (by omega) (by omega) (by omega) rfl rfl ?_
  refine me_aload_n (q := 1209) C dL_law_1208 rfl rfl rfl ?_
  refine me_aload_n (q := 1210) C dL_law_1209 rfl rfl rfl ?_
  refine me_iload_n (q := 1211) C dL_law_1210 rfl rfl rfl ?_
  refine me_iconst (v := (1 : Int32)) (q := 1212) C dL_law_1211 (by decide) rfl ?_
  refine me_iadd (q := 1213) C dL_law_1212 rfl ?_
  obtain ⟨k6, hf⟩ := mm_ck_some hf
  refine me_sld (q := 1214) C hX dL_law_1213 k6 rfl ?_
  obtain ⟨k7, hf⟩ := mm_ck_some hf
  obtain ⟨v8, g9, e10, hf⟩ := mm_cl_some hf
  refine me_callV (q := 1217) (c2 := cl + 0) (s2 := sl + 0) (st := [vI v3]) C (cX12_chest_ok _ e10) mt_L_123 mv_X12_chest rfl (by decide) dL_law_1214 rfl k7 rfl rfl rfl (Nat.le_of_ble_eq_true rfl) (by omega) (by omega) (by omega) (by omega) rfl rfl ?_
  refine me_icmp_eq (q2 := 2011) (q := 1220) C dL_law_1217 (by decide) rfl (fun c11 => ?_) (fun c11 => ?_)
  · have hf := mm_if_t c11 hf
    refine me_widen (by omega) (by omega) (hk _ hf)
  · have hf := mm_if_f c11 hf
    refine me_iconst (v := (0 : Int32)) (q := 1221) C dL_law_1220 (by decide) rfl ?_
    exact absurd hf (by simp)
set_option maxRecDepth 100000 in
set_option maxHeartbeats 4000000 in
theorem cL_c26 {X : mm_X} (C : mm_C X cL_law yL_law 1300 183448 8551906) {sb L : Nat} {xs : Nat → Int32} (hX : mm_scr X sb L xs) {cl sl : Nat} (hcl : cl + 350 ≤ 183448) (hsl : sl + 16500 ≤ 8551906) {ax ay : Nat} {xi : Int32} {K : mm_H → Option (Int32 × mm_H)} {u : Int32 × mm_H} (hk : ∀ h, K h = some u → mm_E X h (cl + 350) (sl + 16500) 2011 [some (vR (some sb)), some (vR (some ax)), some (vR (some ay)), some (vI xi)] []) : ∀ h, fL_c26 L xs ax ay xi K h = some u → mm_E X h (cl + 0) (sl + 0) 1222 [some (vR (some sb)), some (vR (some ax)), some (vR (some ay)), some (vI xi)] [] := by
  intro h hf
  unfold fL_c26 at hf
  refine me_aload_n (q := 1223) C dL_law_1222 rfl rfl rfl ?_
  refine me_aload_n (q := 1224) C dL_law_1223 rfl rfl rfl ?_
  refine me_iload_n (q := 1225) C dL_law_1224 rfl rfl rfl ?_
  refine me_iconst (v := (1 : Int32)) (q := 1226) C dL_law_1225 (by decide) rfl ?_
  refine me_iadd (q := 1227) C dL_law_1226 rfl ?_
  obtain ⟨k1, hf⟩ := mm_ck_some hf
  refine me_sld (q := 1228) C hX dL_law_1227 k1 rfl ?_
  refine me_aload_n (q := 1229) C dL_law_1228 rfl rfl rfl ?_
  refine me_iload_n (q := 1230) C dL_law_1229 rfl rfl rfl ?_
  refine me_iconst (v := (2 : Int32)) (q := 1231) C dL_law_1230 (by decide) rfl ?_
  refine me_iadd (q := 1232) C dL_law_1231 rfl ?_
  obtain ⟨k2, hf⟩ := mm_ck_some hf
  refine me_sld (q := 1233) C hX dL_law_1232 k2 rfl ?_
  refine me_aload_n (q := 1234) C dL_law_1233 rfl rfl rfl ?_
  refine me_iload_n (q := 1235) C dL_law_1234 rfl rfl rfl ?_
  refine me_iconst (v := (3 : Int32)) (q := 1236) C dL_law_1235 (by decide) rfl ?_
  refine me_iadd (q := 1237) C dL_law_1236 rfl ?_
  obtain ⟨k3, hf⟩ := mm_ck_some hf
  refine me_sld (q := 1238) C hX dL_law_1237 k3 rfl ?_
  obtain ⟨k4, hf⟩ := mm_ck_some hf
  obtain ⟨v5, g6, e7, hf⟩ := mm_cl_some hf
  refine me_callV (q := 1241) (c2 := cl + 0) (s2 := sl + 0) (st := []) C (cX11_weigh_ok _ e7) mt_L_124 mv_X11_weigh rfl (by decide) dL_law_1238 rfl k4 rfl rfl rfl (Nat.le_of_ble_eq_true rfl) (by omega) (by omega) (by omega) (by omega) rfl rfl ?_
  refine me_aload_n (q := 1242) C dL_law_1241 rfl rfl rfl ?_
  refine me_aload_n (q := 1243) C dL_law_1242 rfl rfl rfl ?_
  refine me_iload_n (q := 1244) C dL_law_1243 rfl rfl rfl ?_
  refine me_iconst (v := (1 : Int32)) (q := 1245) C dL_law_1244 (by decide) rfl ?_
  refine me_iadd (q := 1246) C dL_law_1245 rfl ?_
  obtain ⟨k8, hf⟩ := mm_ck_some hf
  refine me_sld (q := 1247) C hX dL_law_1246 k8 rfl ?_
  refine me_aload_n (q := 1248) C dL_law_1247 rfl rfl rfl ?_
  refine me_iload_n (q := 1249) C dL_law_1248 rfl rfl rfl ?_
  refine me_iconst (v := (2 : Int32)) (q := 1250) C dL_law_1249 (by decide) rfl ?_
  refine me_iadd (q := 1251) C dL_law_1250 rfl ?_
  obtain ⟨k9, hf⟩ := mm_ck_some hf
  refine me_sld (q := 1252) C hX dL_law_1251 k9 rfl ?_
  refine me_aload_n (q := 1253) C dL_law_1252 rfl rfl rfl ?_
  refine me_iload_n (q := 1254) C dL_law_1253 rfl rfl rfl ?_
  refine me_iconst (v := (3 : Int32)) (q := 1255) C dL_law_1254 (by decide) rfl ?_
  refine me_iadd (q := 1256) C dL_law_1255 rfl ?_
  obtain ⟨k10, hf⟩ := mm_ck_some hf
  refine me_sld (q := 1257) C hX dL_law_1256 k10 rfl ?_
  obtain ⟨k11, hf⟩ := mm_ck_some hf
  obtain ⟨v12, g13, e14, hf⟩ := mm_cl_some hf
  refine me_callV (q := 1260) (c2 := cl + 0) (s2 := sl + 0) (st := [vI v5]) C (cX12_weigh_ok _ e14) mt_L_127 mv_X12_weigh rfl (by decide) dL_law_1257 rfl k11 rfl rfl rfl (Nat.le_of_ble_eq_true rfl) (by omega) (by omega) (by omega) (by omega) rfl rfl ?_
  refine me_icmp_eq (q2 := 2011) (q := 1263) C dL_law_1260 (by decide) rfl (fun c15 => ?_) (fun c15 => ?_)
  · have hf := mm_if_t c15 hf
    refine me_widen (by omega) (by omega) (hk _ hf)
  · have hf := mm_if_f c15 hf
    refine me_iconst (v := (0 : Int32)) (q := 1264) C dL_law_1263 (by decide) rfl ?_
    exact absurd hf (by simp)
set_option maxRecDepth 100000 in
set_option maxHeartbeats 4000000 in
theorem cL_c27 {X : mm_X} (C : mm_C X cL_law yL_law 1300 183448 8551906) {sb L : Nat} {xs : Nat → Int32} (hX : mm_scr X sb L xs) {cl sl : Nat} (hcl : cl + 350 ≤ 183448) (hsl : sl + 16500 ≤ 8551906) {ax ay : Nat} {xi : Int32} {K : mm_H → Option (Int32 × mm_H)} {u : Int32 × mm_H} (hk : ∀ h, K h = some u → mm_E X h (cl + 350) (sl + 16500) 2011 [some (vR (some sb)), some (vR (some ax)), some (vR (some ay)), some (vI xi)] []) : ∀ h, fL_c27 L xs ax ay xi K h = some u → mm_E X h (cl + 0) (sl + 0) 1265 [some (vR (some sb)), some (vR (some ax)), some (vR (some ay)), some (vI xi)] [] := by
  intro h hf
  unfold fL_c27 at hf
  refine me_aload_n (q := 1266) C dL_law_1265 rfl rfl rfl ?_
  refine me_aload_n (q := 1267) C dL_law_1266 rfl rfl rfl ?_
  refine me_iload_n (q := 1268) C dL_law_1267 rfl rfl rfl ?_
  refine me_iconst (v := (1 : Int32)) (q := 1269) C dL_law_1268 (by decide) rfl ?_
  refine me_iadd (q := 1270) C dL_law_1269 rfl ?_
  obtain ⟨k1, hf⟩ := mm_ck_some hf
  refine me_sld (q := 1271) C hX dL_law_1270 k1 rfl ?_
  obtain ⟨k2, hf⟩ := mm_ck_some hf
  obtain ⟨v3, g4, e5, hf⟩ := mm_cl_some hf
  refine me_callV (q := 1274) (c2 := cl + 0) (s2 := sl + 0) (st := []) C (cX11_takeBack_ok _ e5) mt_L_128 mv_X11_takeBack rfl (by decide) dL_law_1271 rfl k2 rfl rfl rfl (Nat.le_of_ble_eq_true rfl) (by omega) (by omega) (by omega) (by omega) rfl rfl ?_
  refine me_aload_n (q := 1275) C dL_law_1274 rfl rfl rfl ?_
  refine me_aload_n (q := 1276) C dL_law_1275 rfl rfl rfl ?_
  refine me_iload_n (q := 1277) C dL_law_1276 rfl rfl rfl ?_
  refine me_iconst (v := (1 : Int32)) (q := 1278) C dL_law_1277 (by decide) rfl ?_
  refine me_iadd (q := 1279) C dL_law_1278 rfl ?_
  obtain ⟨k6, hf⟩ := mm_ck_some hf
  refine me_sld (q := 1280) C hX dL_law_1279 k6 rfl ?_
  obtain ⟨k7, hf⟩ := mm_ck_some hf
  obtain ⟨v8, g9, e10, hf⟩ := mm_cl_some hf
  refine me_callV (q := 1283) (c2 := cl + 0) (s2 := sl + 0) (st := [vI v3]) C (cX12_takeBack_ok _ e10) mt_L_131 mv_X12_takeBack rfl (by decide) dL_law_1280 rfl k7 rfl rfl rfl (Nat.le_of_ble_eq_true rfl) (by omega) (by omega) (by omega) (by omega) rfl rfl ?_
  refine me_icmp_eq (q2 := 2011) (q := 1286) C dL_law_1283 (by decide) rfl (fun c11 => ?_) (fun c11 => ?_)
  · have hf := mm_if_t c11 hf
    refine me_widen (by omega) (by omega) (hk _ hf)
  · have hf := mm_if_f c11 hf
    refine me_iconst (v := (0 : Int32)) (q := 1287) C dL_law_1286 (by decide) rfl ?_
    exact absurd hf (by simp)
set_option maxRecDepth 100000 in
set_option maxHeartbeats 4000000 in
theorem cL_c28 {X : mm_X} (C : mm_C X cL_law yL_law 1300 183448 8551906) {sb L : Nat} {xs : Nat → Int32} (hX : mm_scr X sb L xs) {cl sl : Nat} (hcl : cl + 350 ≤ 183448) (hsl : sl + 16500 ≤ 8551906) {ax ay : Nat} {xi : Int32} {K : mm_H → Option (Int32 × mm_H)} {u : Int32 × mm_H} (hk : ∀ h, K h = some u → mm_E X h (cl + 350) (sl + 16500) 2011 [some (vR (some sb)), some (vR (some ax)), some (vR (some ay)), some (vI xi)] []) : ∀ h, fL_c28 L xs ax ay xi K h = some u → mm_E X h (cl + 0) (sl + 0) 1288 [some (vR (some sb)), some (vR (some ax)), some (vR (some ay)), some (vI xi)] [] := by
  intro h hf
  unfold fL_c28 at hf
  refine me_aload_n (q := 1289) C dL_law_1288 rfl rfl rfl ?_
  refine me_aload_n (q := 1290) C dL_law_1289 rfl rfl rfl ?_
  refine me_iload_n (q := 1291) C dL_law_1290 rfl rfl rfl ?_
  refine me_iconst (v := (1 : Int32)) (q := 1292) C dL_law_1291 (by decide) rfl ?_
  refine me_iadd (q := 1293) C dL_law_1292 rfl ?_
  obtain ⟨k1, hf⟩ := mm_ck_some hf
  refine me_sld (q := 1294) C hX dL_law_1293 k1 rfl ?_
  refine me_aload_n (q := 1295) C dL_law_1294 rfl rfl rfl ?_
  refine me_iload_n (q := 1296) C dL_law_1295 rfl rfl rfl ?_
  refine me_iconst (v := (2 : Int32)) (q := 1297) C dL_law_1296 (by decide) rfl ?_
  refine me_iadd (q := 1298) C dL_law_1297 rfl ?_
  obtain ⟨k2, hf⟩ := mm_ck_some hf
  refine me_sld (q := 1299) C hX dL_law_1298 k2 rfl ?_
  refine me_aload_n (q := 1300) C dL_law_1299 rfl rfl rfl ?_
  refine me_iload_n (q := 1301) C dL_law_1300 rfl rfl rfl ?_
  refine me_iconst (v := (3 : Int32)) (q := 1302) C dL_law_1301 (by decide) rfl ?_
  refine me_iadd (q := 1303) C dL_law_1302 rfl ?_
  obtain ⟨k3, hf⟩ := mm_ck_some hf
  refine me_sld (q := 1304) C hX dL_law_1303 k3 rfl ?_
  obtain ⟨k4, hf⟩ := mm_ck_some hf
  obtain ⟨v5, g6, e7, hf⟩ := mm_cl_some hf
  refine me_callV (q := 1307) (c2 := cl + 0) (s2 := sl + 0) (st := []) C (cX11_span_ok _ e7) mt_L_132 mv_X11_span rfl (by decide) dL_law_1304 rfl k4 rfl rfl rfl (Nat.le_of_ble_eq_true rfl) (by omega) (by omega) (by omega) (by omega) rfl rfl ?_
  refine me_aload_n (q := 1308) C dL_law_1307 rfl rfl rfl ?_
  refine me_aload_n (q := 1309) C dL_law_1308 rfl rfl rfl ?_
  refine me_iload_n (q := 1310) C dL_law_1309 rfl rfl rfl ?_
  refine me_iconst (v := (1 : Int32)) (q := 1311) C dL_law_1310 (by decide) rfl ?_
  refine me_iadd (q := 1312) C dL_law_1311 rfl ?_
  obtain ⟨k8, hf⟩ := mm_ck_some hf
  refine me_sld (q := 1313) C hX dL_law_1312 k8 rfl ?_
  refine me_aload_n (q := 1314) C dL_law_1313 rfl rfl rfl ?_
  refine me_iload_n (q := 1315) C dL_law_1314 rfl rfl rfl ?_
  refine me_iconst (v := (2 : Int32)) (q := 1316) C dL_law_1315 (by decide) rfl ?_
  refine me_iadd (q := 1317) C dL_law_1316 rfl ?_
  obtain ⟨k9, hf⟩ := mm_ck_some hf
  refine me_sld (q := 1318) C hX dL_law_1317 k9 rfl ?_
  refine me_aload_n (q := 1319) C dL_law_1318 rfl rfl rfl ?_
  refine me_iload_n (q := 1320) C dL_law_1319 rfl rfl rfl ?_
  refine me_iconst (v := (3 : Int32)) (q := 1321) C dL_law_1320 (by decide) rfl ?_
  refine me_iadd (q := 1322) C dL_law_1321 rfl ?_
  obtain ⟨k10, hf⟩ := mm_ck_some hf
  refine me_sld (q := 1323) C hX dL_law_1322 k10 rfl ?_
  obtain ⟨k11, hf⟩ := mm_ck_some hf
  obtain ⟨v12, g13, e14, hf⟩ := mm_cl_some hf
  refine me_callV (q := 1326) (c2 := cl + 0) (s2 := sl + 0) (st := [vI v5]) C (cX12_span_ok _ e14) mt_L_135 mv_X12_span rfl (by decide) dL_law_1323 rfl k11 rfl rfl rfl (Nat.le_of_ble_eq_true rfl) (by omega) (by omega) (by omega) (by omega) rfl rfl ?_
  refine me_icmp_eq (q2 := 2011) (q := 1329) C dL_law_1326 (by decide) rfl (fun c15 => ?_) (fun c15 => ?_)
  · have hf := mm_if_t c15 hf
    refine me_widen (by omega) (by omega) (hk _ hf)
  · have hf := mm_if_f c15 hf
    refine me_iconst (v := (0 : Int32)) (q := 1330) C dL_law_1329 (by decide) rfl ?_
    exact absurd hf (by simp)
set_option maxRecDepth 100000 in
set_option maxHeartbeats 4000000 in
theorem cL_c29 {X : mm_X} (C : mm_C X cL_law yL_law 1300 183448 8551906) {sb L : Nat} {xs : Nat → Int32} (hX : mm_scr X sb L xs) {cl sl : Nat} (hcl : cl + 350 ≤ 183448) (hsl : sl + 16500 ≤ 8551906) {ax ay : Nat} {xi : Int32} {K : mm_H → Option (Int32 × mm_H)} {u : Int32 × mm_H} (hk : ∀ h, K h = some u → mm_E X h (cl + 350) (sl + 16500) 2011 [some (vR (some sb)), some (vR (some ax)), some (vR (some ay)), some (vI xi)] []) : ∀ h, fL_c29 L xs ax ay xi K h = some u → mm_E X h (cl + 0) (sl + 0) 1331 [some (vR (some sb)), some (vR (some ax)), some (vR (some ay)), some (vI xi)] [] := by
  intro h hf
  unfold fL_c29 at hf
  refine me_aload_n (q := 1332) C dL_law_1331 rfl rfl rfl ?_
  refine me_aload_n (q := 1333) C dL_law_1332 rfl rfl rfl ?_
  refine me_iload_n (q := 1334) C dL_law_1333 rfl rfl rfl ?_
  refine me_iconst (v := (1 : Int32)) (q := 1335) C dL_law_1334 (by decide) rfl ?_
  refine me_iadd (q := 1336) C dL_law_1335 rfl ?_
  obtain ⟨k1, hf⟩ := mm_ck_some hf
  refine me_sld (q := 1337) C hX dL_law_1336 k1 rfl ?_
  refine me_aload_n (q := 1338) C dL_law_1337 rfl rfl rfl ?_
  refine me_iload_n (q := 1339) C dL_law_1338 rfl rfl rfl ?_
  refine me_iconst (v := (2 : Int32)) (q := 1340) C dL_law_1339 (by decide) rfl ?_
  refine me_iadd (q := 1341) C dL_law_1340 rfl ?_
  obtain ⟨k2, hf⟩ := mm_ck_some hf
  refine me_sld (q := 1342) C hX dL_law_1341 k2 rfl ?_
  refine me_aload_n (q := 1343) C dL_law_1342 rfl rfl rfl ?_
  refine me_iload_n (q := 1344) C dL_law_1343 rfl rfl rfl ?_
  refine me_iconst (v := (3 : Int32)) (q := 1345) C dL_law_1344 (by decide) rfl ?_
  refine me_iadd (q := 1346) C dL_law_1345 rfl ?_
  obtain ⟨k3, hf⟩ := mm_ck_some hf
  refine me_sld (q := 1347) C hX dL_law_1346 k3 rfl ?_
  refine me_aload_n (q := 1348) C dL_law_1347 rfl rfl rfl ?_
  refine me_iload_n (q := 1349) C dL_law_1348 rfl rfl rfl ?_
  refine me_iconst (v := (4 : Int32)) (q := 1350) C dL_law_1349 (by decide) rfl ?_
  refine me_iadd (q := 1351) C dL_law_1350 rfl ?_
  obtain ⟨k4, hf⟩ := mm_ck_some hf
  refine me_sld (q := 1352) C hX dL_law_1351 k4 rfl ?_
  obtain ⟨k5, hf⟩ := mm_ck_some hf
  obtain ⟨v6, g7, e8, hf⟩ := mm_cl_some hf
  refine me_callV (q := 1355) (c2 := cl + 0) (s2 := sl + 0) (st := []) C (cX11_theirs_ok _ e8) mt_L_136 mv_X11_theirs rfl (by decide) dL_law_1352 rfl k5 rfl rfl rfl (Nat.le_of_ble_eq_true rfl) (by omega) (by omega) (by omega) (by omega) rfl rfl ?_
  refine me_aload_n (q := 1356) C dL_law_1355 rfl rfl rfl ?_
  refine me_aload_n (q := 1357) C dL_law_1356 rfl rfl rfl ?_
  refine me_iload_n (q := 1358) C dL_law_1357 rfl rfl rfl ?_
  refine me_iconst (v := (1 : Int32)) (q := 1359) C dL_law_1358 (by decide) rfl ?_
  refine me_iadd (q := 1360) C dL_law_1359 rfl ?_
  obtain ⟨k9, hf⟩ := mm_ck_some hf
  refine me_sld (q := 1361) C hX dL_law_1360 k9 rfl ?_
  refine me_aload_n (q := 1362) C dL_law_1361 rfl rfl rfl ?_
  refine me_iload_n (q := 1363) C dL_law_1362 rfl rfl rfl ?_
  refine me_iconst (v := (2 : Int32)) (q := 1364) C dL_law_1363 (by decide) rfl ?_
  refine me_iadd (q := 1365) C dL_law_1364 rfl ?_
  obtain ⟨k10, hf⟩ := mm_ck_some hf
  refine me_sld (q := 1366) C hX dL_law_1365 k10 rfl ?_
  refine me_aload_n (q := 1367) C dL_law_1366 rfl rfl rfl ?_
  refine me_iload_n (q := 1368) C dL_law_1367 rfl rfl rfl ?_
  refine me_iconst (v := (3 : Int32)) (q := 1369) C dL_law_1368 (by decide) rfl ?_
  refine me_iadd (q := 1370) C dL_law_1369 rfl ?_
  obtain ⟨k11, hf⟩ := mm_ck_some hf
  refine me_sld (q := 1371) C hX dL_law_1370 k11 rfl ?_
  refine me_aload_n (q := 1372) C dL_law_1371 rfl rfl rfl ?_
  refine me_iload_n (q := 1373) C dL_law_1372 rfl rfl rfl ?_
  refine me_iconst (v := (4 : Int32)) (q := 1374) C dL_law_1373 (by decide) rfl ?_
  refine me_iadd (q := 1375) C dL_law_1374 rfl ?_
  obtain ⟨k12, hf⟩ := mm_ck_some hf
  refine me_sld (q := 1376) C hX dL_law_1375 k12 rfl ?_
  obtain ⟨k13, hf⟩ := mm_ck_some hf
  obtain ⟨v14, g15, e16, hf⟩ := mm_cl_some hf
  refine me_callV (q := 1379) (c2 := cl + 0) (s2 := sl + 0) (st := [vI v6]) C (cX12_theirs_ok _ e16) mt_L_140 mv_X12_theirs rfl (by decide) dL_law_1376 rfl k13 rfl rfl rfl (Nat.le_of_ble_eq_true rfl) (by omega) (by omega) (by omega) (by omega) rfl rfl ?_
  refine me_icmp_eq (q2 := 2011) (q := 1382) C dL_law_1379 (by decide) rfl (fun c17 => ?_) (fun c17 => ?_)
  · have hf := mm_if_t c17 hf
    refine me_widen (by omega) (by omega) (hk _ hf)
  · have hf := mm_if_f c17 hf
    refine me_iconst (v := (0 : Int32)) (q := 1383) C dL_law_1382 (by decide) rfl ?_
    exact absurd hf (by simp)
set_option maxRecDepth 100000 in
set_option maxHeartbeats 4000000 in
theorem cL_c30 {X : mm_X} (C : mm_C X cL_law yL_law 1300 183448 8551906) {sb L : Nat} {xs : Nat → Int32} (hX : mm_scr X sb L xs) {cl sl : Nat} (hcl : cl + 350 ≤ 183448) (hsl : sl + 16500 ≤ 8551906) {ax ay : Nat} {xi : Int32} {K : mm_H → Option (Int32 × mm_H)} {u : Int32 × mm_H} (hk : ∀ h, K h = some u → mm_E X h (cl + 350) (sl + 16500) 2011 [some (vR (some sb)), some (vR (some ax)), some (vR (some ay)), some (vI xi)] []) : ∀ h, fL_c30 L xs ax ay xi K h = some u → mm_E X h (cl + 0) (sl + 0) 1384 [some (vR (some sb)), some (vR (some ax)), some (vR (some ay)), some (vI xi)] [] := by
  intro h hf
  unfold fL_c30 at hf
  refine me_aload_n (q := 1385) C dL_law_1384 rfl rfl rfl ?_
  refine me_aload_n (q := 1386) C dL_law_1385 rfl rfl rfl ?_
  refine me_iload_n (q := 1387) C dL_law_1386 rfl rfl rfl ?_
  refine me_iconst (v := (1 : Int32)) (q := 1388) C dL_law_1387 (by decide) rfl ?_
  refine me_iadd (q := 1389) C dL_law_1388 rfl ?_
  obtain ⟨k1, hf⟩ := mm_ck_some hf
  refine me_sld (q := 1390) C hX dL_law_1389 k1 rfl ?_
  refine me_aload_n (q := 1391) C dL_law_1390 rfl rfl rfl ?_
  refine me_iload_n (q := 1392) C dL_law_1391 rfl rfl rfl ?_
  refine me_iconst (v := (2 : Int32)) (q := 1393) C dL_law_1392 (by decide) rfl ?_
  refine me_iadd (q := 1394) C dL_law_1393 rfl ?_
  obtain ⟨k2, hf⟩ := mm_ck_some hf
  refine me_sld (q := 1395) C hX dL_law_1394 k2 rfl ?_
  refine me_i2l (q := 1396) C dL_law_1395 rfl ?_
  refine me_bipush (v := (32 : Int32)) (q := 1398) C dL_law_1396 (by decide) rfl ?_
  refine me_lshl (q := 1399) C dL_law_1398 rfl ?_
  refine me_aload_n (q := 1400) C dL_law_1399 rfl rfl rfl ?_
  refine me_iload_n (q := 1401) C dL_law_1400 rfl rfl rfl ?_
  refine me_iconst (v := (3 : Int32)) (q := 1402) C dL_law_1401 (by decide) rfl ?_
  refine me_iadd (q := 1403) C dL_law_1402 rfl ?_
  obtain ⟨k3, hf⟩ := mm_ck_some hf
  refine me_sld (q := 1404) C hX dL_law_1403 k3 rfl ?_
  refine me_i2l (q := 1405) C dL_law_1404 rfl ?_
  refine me_ldc2_w (v := (4294967295 : Int64)) (q := 1408) C dL_law_1405 mc_L_141 rfl ?_
  refine me_land (q := 1409) C dL_law_1408 rfl ?_
  refine me_lor (q := 1410) C dL_law_1409 rfl ?_
  refine me_aload_n (q := 1411) C dL_law_1410 rfl rfl rfl ?_
  refine me_iload_n (q := 1412) C dL_law_1411 rfl rfl rfl ?_
  refine me_iconst (v := (4 : Int32)) (q := 1413) C dL_law_1412 (by decide) rfl ?_
  refine me_iadd (q := 1414) C dL_law_1413 rfl ?_
  obtain ⟨k4, hf⟩ := mm_ck_some hf
  refine me_sld (q := 1415) C hX dL_law_1414 k4 rfl ?_
  obtain ⟨k5, hf⟩ := mm_ck_some hf
  obtain ⟨v6, g7, e8, hf⟩ := mm_cl_some hf
  refine me_callV (q := 1418) (c2 := cl + 1) (s2 := sl + 8) (st := []) C (cX11_order_ok _ e8) mt_L_143 mv_X11_order rfl (by decide) dL_law_1415 rfl k5 rfl rfl rfl (Nat.le_of_ble_eq_true rfl) (by omega) (by omega) (by omega) (by omega) rfl rfl ?_
  refine me_aload_n (q := 1419) C dL_law_1418 rfl rfl rfl ?_
  refine me_aload_n (q := 1420) C dL_law_1419 rfl rfl rfl ?_
  refine me_iload_n (q := 1421) C dL_law_1420 rfl rfl rfl ?_
  refine me_iconst (v := (1 : Int32)) (q := 1422) C dL_law_1421 (by decide) rfl ?_
  refine me_iadd (q := 1423) C dL_law_1422 rfl ?_
  obtain ⟨k9, hf⟩ := mm_ck_some hf
  refine me_sld (q := 1424) C hX dL_law_1423 k9 rfl ?_
  refine me_aload_n (q := 1425) C dL_law_1424 rfl rfl rfl ?_
  refine me_iload_n (q := 1426) C dL_law_1425 rfl rfl rfl ?_
  refine me_iconst (v := (2 : Int32)) (q := 1427) C dL_law_1426 (by decide) rfl ?_
  refine me_iadd (q := 1428) C dL_law_1427 rfl ?_
  obtain ⟨k10, hf⟩ := mm_ck_some hf
  refine me_sld (q := 1429) C hX dL_law_1428 k10 rfl ?_
  refine me_i2l (q := 1430) C dL_law_1429 rfl ?_
  refine me_bipush (v := (32 : Int32)) (q := 1432) C dL_law_1430 (by decide) rfl ?_
  refine me_lshl (q := 1433) C dL_law_1432 rfl ?_
  refine me_aload_n (q := 1434) C dL_law_1433 rfl rfl rfl ?_
  refine me_iload_n (q := 1435) C dL_law_1434 rfl rfl rfl ?_
  refine me_iconst (v := (3 : Int32)) (q := 1436) C dL_law_1435 (by decide) rfl ?_
  refine me_iadd (q := 1437) C dL_law_1436 rfl ?_
  obtain ⟨k11, hf⟩ := mm_ck_some hf
  refine me_sld (q := 1438) C hX dL_law_1437 k11 rfl ?_
  refine me_i2l (q := 1439) C dL_law_1438 rfl ?_
  refine me_ldc2_w (v := (4294967295 : Int64)) (q := 1442) C dL_law_1439 mc_L_141 rfl ?_
  refine me_land (q := 1443) C dL_law_1442 rfl ?_
  refine me_lor (q := 1444) C dL_law_1443 rfl ?_
  refine me_aload_n (q := 1445) C dL_law_1444 rfl rfl rfl ?_
  refine me_iload_n (q := 1446) C dL_law_1445 rfl rfl rfl ?_
  refine me_iconst (v := (4 : Int32)) (q := 1447) C dL_law_1446 (by decide) rfl ?_
  refine me_iadd (q := 1448) C dL_law_1447 rfl ?_
  obtain ⟨k12, hf⟩ := mm_ck_some hf
  refine me_sld (q := 1449) C hX dL_law_1448 k12 rfl ?_
  obtain ⟨k13, hf⟩ := mm_ck_some hf
  obtain ⟨v14, g15, e16, hf⟩ := mm_cl_some hf
  refine me_callV (q := 1452) (c2 := cl + 1) (s2 := sl + 8) (st := [vI v6]) C (cX12_order_ok _ e16) mt_L_147 mv_X12_order rfl (by decide) dL_law_1449 rfl k13 rfl rfl rfl (Nat.le_of_ble_eq_true rfl) (by omega) (by omega) (by omega) (by omega) rfl rfl ?_
  refine me_icmp_eq (q2 := 2011) (q := 1455) C dL_law_1452 (by decide) rfl (fun c17 => ?_) (fun c17 => ?_)
  · have hf := mm_if_t c17 hf
    refine me_widen (by omega) (by omega) (hk _ hf)
  · have hf := mm_if_f c17 hf
    refine me_iconst (v := (0 : Int32)) (q := 1456) C dL_law_1455 (by decide) rfl ?_
    exact absurd hf (by simp)
set_option maxRecDepth 100000 in
set_option maxHeartbeats 4000000 in
theorem cL_c31 {X : mm_X} (C : mm_C X cL_law yL_law 1300 183448 8551906) {sb L : Nat} {xs : Nat → Int32} (hX : mm_scr X sb L xs) {cl sl : Nat} (hcl : cl + 350 ≤ 183448) (hsl : sl + 16500 ≤ 8551906) {ax ay : Nat} {xi : Int32} {K : mm_H → Option (Int32 × mm_H)} {u : Int32 × mm_H} (hk : ∀ h, K h = some u → mm_E X h (cl + 350) (sl + 16500) 2011 [some (vR (some sb)), some (vR (some ax)), some (vR (some ay)), some (vI xi)] []) : ∀ h, fL_c31 L xs ax ay xi K h = some u → mm_E X h (cl + 0) (sl + 0) 1457 [some (vR (some sb)), some (vR (some ax)), some (vR (some ay)), some (vI xi)] [] := by
  intro h hf
  unfold fL_c31 at hf
  refine me_aload_n (q := 1458) C dL_law_1457 rfl rfl rfl ?_
  refine me_aload_n (q := 1459) C dL_law_1458 rfl rfl rfl ?_
  refine me_iload_n (q := 1460) C dL_law_1459 rfl rfl rfl ?_
  refine me_iconst (v := (1 : Int32)) (q := 1461) C dL_law_1460 (by decide) rfl ?_
  refine me_iadd (q := 1462) C dL_law_1461 rfl ?_
  obtain ⟨k1, hf⟩ := mm_ck_some hf
  refine me_sld (q := 1463) C hX dL_law_1462 k1 rfl ?_
  obtain ⟨k2, hf⟩ := mm_ck_some hf
  obtain ⟨v3, g4, e5, hf⟩ := mm_cl_some hf
  refine me_callV (q := 1466) (c2 := cl + 0) (s2 := sl + 0) (st := []) C (cX11_elder_ok _ e5) mt_L_148 mv_X11_elder rfl (by decide) dL_law_1463 rfl k2 rfl rfl rfl (Nat.le_of_ble_eq_true rfl) (by omega) (by omega) (by omega) (by omega) rfl rfl ?_
  refine me_aload_n (q := 1467) C dL_law_1466 rfl rfl rfl ?_
  refine me_aload_n (q := 1468) C dL_law_1467 rfl rfl rfl ?_
  refine me_iload_n (q := 1469) C dL_law_1468 rfl rfl rfl ?_
  refine me_iconst (v := (1 : Int32)) (q := 1470) C dL_law_1469 (by decide) rfl ?_
  refine me_iadd (q := 1471) C dL_law_1470 rfl ?_
  obtain ⟨k6, hf⟩ := mm_ck_some hf
  refine me_sld (q := 1472) C hX dL_law_1471 k6 rfl ?_
  obtain ⟨k7, hf⟩ := mm_ck_some hf
  obtain ⟨v8, g9, e10, hf⟩ := mm_cl_some hf
  refine me_callV (q := 1475) (c2 := cl + 0) (s2 := sl + 0) (st := [vI v3]) C (cX12_elder_ok _ e10) mt_L_151 mv_X12_elder rfl (by decide) dL_law_1472 rfl k7 rfl rfl rfl (Nat.le_of_ble_eq_true rfl) (by omega) (by omega) (by omega) (by omega) rfl rfl ?_
  refine me_icmp_eq (q2 := 2011) (q := 1478) C dL_law_1475 (by decide) rfl (fun c11 => ?_) (fun c11 => ?_)
  · have hf := mm_if_t c11 hf
    refine me_widen (by omega) (by omega) (hk _ hf)
  · have hf := mm_if_f c11 hf
    refine me_iconst (v := (0 : Int32)) (q := 1479) C dL_law_1478 (by decide) rfl ?_
    exact absurd hf (by simp)
set_option maxRecDepth 100000 in
set_option maxHeartbeats 4000000 in
theorem cL_c32 {X : mm_X} (C : mm_C X cL_law yL_law 1300 183448 8551906) {sb L : Nat} {xs : Nat → Int32} (hX : mm_scr X sb L xs) {cl sl : Nat} (hcl : cl + 350 ≤ 183448) (hsl : sl + 16500 ≤ 8551906) {ax ay : Nat} {xi : Int32} {K : mm_H → Option (Int32 × mm_H)} {u : Int32 × mm_H} (hk : ∀ h, K h = some u → mm_E X h (cl + 350) (sl + 16500) 2011 [some (vR (some sb)), some (vR (some ax)), some (vR (some ay)), some (vI xi)] []) : ∀ h, fL_c32 L xs ax ay xi K h = some u → mm_E X h (cl + 0) (sl + 0) 1480 [some (vR (some sb)), some (vR (some ax)), some (vR (some ay)), some (vI xi)] [] := by
  intro h hf
  unfold fL_c32 at hf
  refine me_aload_n (q := 1481) C dL_law_1480 rfl rfl rfl ?_
  refine me_aload_n (q := 1482) C dL_law_1481 rfl rfl rfl ?_
  refine me_iload_n (q := 1483) C dL_law_1482 rfl rfl rfl ?_
  refine me_iconst (v := (1 : Int32)) (q := 1484) C dL_law_1483 (by decide) rfl ?_
  refine me_iadd (q := 1485) C dL_law_1484 rfl ?_
  obtain ⟨k1, hf⟩ := mm_ck_some hf
  refine me_sld (q := 1486) C hX dL_law_1485 k1 rfl ?_
  refine me_aload_n (q := 1487) C dL_law_1486 rfl rfl rfl ?_
  refine me_iload_n (q := 1488) C dL_law_1487 rfl rfl rfl ?_
  refine me_iconst (v := (2 : Int32)) (q := 1489) C dL_law_1488 (by decide) rfl ?_
  refine me_iadd (q := 1490) C dL_law_1489 rfl ?_
  obtain ⟨k2, hf⟩ := mm_ck_some hf
  refine me_sld (q := 1491) C hX dL_law_1490 k2 rfl ?_
  refine me_aload_n (q := 1492) C dL_law_1491 rfl rfl rfl ?_
  refine me_iload_n (q := 1493) C dL_law_1492 rfl rfl rfl ?_
  refine me_iconst (v := (3 : Int32)) (q := 1494) C dL_law_1493 (by decide) rfl ?_
  refine me_iadd (q := 1495) C dL_law_1494 rfl ?_
  obtain ⟨k3, hf⟩ := mm_ck_some hf
  refine me_sld (q := 1496) C hX dL_law_1495 k3 rfl ?_
  refine me_aload_n (q := 1497) C dL_law_1496 rfl rfl rfl ?_
  refine me_iload_n (q := 1498) C dL_law_1497 rfl rfl rfl ?_
  refine me_iconst (v := (4 : Int32)) (q := 1499) C dL_law_1498 (by decide) rfl ?_
  refine me_iadd (q := 1500) C dL_law_1499 rfl ?_
  obtain ⟨k4, hf⟩ := mm_ck_some hf
  refine me_sld (q := 1501) C hX dL_law_1500 k4 rfl ?_
  obtain ⟨k5, hf⟩ := mm_ck_some hf
  obtain ⟨v6, g7, e8, hf⟩ := mm_cl_some hf
  refine me_callV (q := 1504) (c2 := cl + 0) (s2 := sl + 0) (st := []) C (cX11_ship_ok _ e8) mt_L_152 mv_X11_ship rfl (by decide) dL_law_1501 rfl k5 rfl rfl rfl (Nat.le_of_ble_eq_true rfl) (by omega) (by omega) (by omega) (by omega) rfl rfl ?_
  refine me_aload_n (q := 1505) C dL_law_1504 rfl rfl rfl ?_
  refine me_aload_n (q := 1506) C dL_law_1505 rfl rfl rfl ?_
  refine me_iload_n (q := 1507) C dL_law_1506 rfl rfl rfl ?_
  refine me_iconst (v := (1 : Int32)) (q := 1508) C dL_law_1507 (by decide) rfl ?_
  refine me_iadd (q := 1509) C dL_law_1508 rfl ?_
  obtain ⟨k9, hf⟩ := mm_ck_some hf
  refine me_sld (q := 1510) C hX dL_law_1509 k9 rfl ?_
  refine me_aload_n (q := 1511) C dL_law_1510 rfl rfl rfl ?_
  refine me_iload_n (q := 1512) C dL_law_1511 rfl rfl rfl ?_
  refine me_iconst (v := (2 : Int32)) (q := 1513) C dL_law_1512 (by decide) rfl ?_
  refine me_iadd (q := 1514) C dL_law_1513 rfl ?_
  obtain ⟨k10, hf⟩ := mm_ck_some hf
  refine me_sld (q := 1515) C hX dL_law_1514 k10 rfl ?_
  refine me_aload_n (q := 1516) C dL_law_1515 rfl rfl rfl ?_
  refine me_iload_n (q := 1517) C dL_law_1516 rfl rfl rfl ?_
  refine me_iconst (v := (3 : Int32)) (q := 1518) C dL_law_1517 (by decide) rfl ?_
  refine me_iadd (q := 1519) C dL_law_1518 rfl ?_
  obtain ⟨k11, hf⟩ := mm_ck_some hf
  refine me_sld (q := 1520) C hX dL_law_1519 k11 rfl ?_
  refine me_aload_n (q := 1521) C dL_law_1520 rfl rfl rfl ?_
  refine me_iload_n (q := 1522) C dL_law_1521 rfl rfl rfl ?_
  refine me_iconst (v := (4 : Int32)) (q := 1523) C dL_law_1522 (by decide) rfl ?_
  refine me_iadd (q := 1524) C dL_law_1523 rfl ?_
  obtain ⟨k12, hf⟩ := mm_ck_some hf
  refine me_sld (q := 1525) C hX dL_law_1524 k12 rfl ?_
  obtain ⟨k13, hf⟩ := mm_ck_some hf
  obtain ⟨v14, g15, e16, hf⟩ := mm_cl_some hf
  refine me_callV (q := 1528) (c2 := cl + 0) (s2 := sl + 0) (st := [vI v6]) C (cX12_ship_ok _ e16) mt_L_155 mv_X12_ship rfl (by decide) dL_law_1525 rfl k13 rfl rfl rfl (Nat.le_of_ble_eq_true rfl) (by omega) (by omega) (by omega) (by omega) rfl rfl ?_
  refine me_icmp_eq (q2 := 2011) (q := 1531) C dL_law_1528 (by decide) rfl (fun c17 => ?_) (fun c17 => ?_)
  · have hf := mm_if_t c17 hf
    refine me_widen (by omega) (by omega) (hk _ hf)
  · have hf := mm_if_f c17 hf
    refine me_iconst (v := (0 : Int32)) (q := 1532) C dL_law_1531 (by decide) rfl ?_
    exact absurd hf (by simp)
set_option maxRecDepth 100000 in
set_option maxHeartbeats 4000000 in
theorem cL_c33 {X : mm_X} (C : mm_C X cL_law yL_law 1300 183448 8551906) {sb L : Nat} {xs : Nat → Int32} (hX : mm_scr X sb L xs) {cl sl : Nat} (hcl : cl + 350 ≤ 183448) (hsl : sl + 16500 ≤ 8551906) {ax ay : Nat} {xi : Int32} {K : mm_H → Option (Int32 × mm_H)} {u : Int32 × mm_H} (hk : ∀ h, K h = some u → mm_E X h (cl + 350) (sl + 16500) 2011 [some (vR (some sb)), some (vR (some ax)), some (vR (some ay)), some (vI xi)] []) : ∀ h, fL_c33 L xs ax ay xi K h = some u → mm_E X h (cl + 0) (sl + 0) 1533 [some (vR (some sb)), some (vR (some ax)), some (vR (some ay)), some (vI xi)] [] := by
  intro h hf
  unfold fL_c33 at hf
  refine me_aload_n (q := 1534) C dL_law_1533 rfl rfl rfl ?_
  refine me_aload_n (q := 1535) C dL_law_1534 rfl rfl rfl ?_
  refine me_iload_n (q := 1536) C dL_law_1535 rfl rfl rfl ?_
  refine me_iconst (v := (1 : Int32)) (q := 1537) C dL_law_1536 (by decide) rfl ?_
  refine me_iadd (q := 1538) C dL_law_1537 rfl ?_
  obtain ⟨k1, hf⟩ := mm_ck_some hf
  refine me_sld (q := 1539) C hX dL_law_1538 k1 rfl ?_
  refine me_aload_n (q := 1540) C dL_law_1539 rfl rfl rfl ?_
  refine me_iload_n (q := 1541) C dL_law_1540 rfl rfl rfl ?_
  refine me_iconst (v := (2 : Int32)) (q := 1542) C dL_law_1541 (by decide) rfl ?_
  refine me_iadd (q := 1543) C dL_law_1542 rfl ?_
  obtain ⟨k2, hf⟩ := mm_ck_some hf
  refine me_sld (q := 1544) C hX dL_law_1543 k2 rfl ?_
  refine me_aload_n (q := 1545) C dL_law_1544 rfl rfl rfl ?_
  refine me_iload_n (q := 1546) C dL_law_1545 rfl rfl rfl ?_
  refine me_iconst (v := (3 : Int32)) (q := 1547) C dL_law_1546 (by decide) rfl ?_
  refine me_iadd (q := 1548) C dL_law_1547 rfl ?_
  obtain ⟨k3, hf⟩ := mm_ck_some hf
  refine me_sld (q := 1549) C hX dL_law_1548 k3 rfl ?_
  refine me_aload_n (q := 1550) C dL_law_1549 rfl rfl rfl ?_
  refine me_iload_n (q := 1551) C dL_law_1550 rfl rfl rfl ?_
  refine me_iconst (v := (4 : Int32)) (q := 1552) C dL_law_1551 (by decide) rfl ?_
  refine me_iadd (q := 1553) C dL_law_1552 rfl ?_
  obtain ⟨k4, hf⟩ := mm_ck_some hf
  refine me_sld (q := 1554) C hX dL_law_1553 k4 rfl ?_
  obtain ⟨k5, hf⟩ := mm_ck_some hf
  obtain ⟨v6, g7, e8, hf⟩ := mm_cl_some hf
  refine me_callV (q := 1557) (c2 := cl + 0) (s2 := sl + 0) (st := []) C (cX11_news_ok _ e8) mt_L_156 mv_X11_news rfl (by decide) dL_law_1554 rfl k5 rfl rfl rfl (Nat.le_of_ble_eq_true rfl) (by omega) (by omega) (by omega) (by omega) rfl rfl ?_
  refine me_aload_n (q := 1558) C dL_law_1557 rfl rfl rfl ?_
  refine me_aload_n (q := 1559) C dL_law_1558 rfl rfl rfl ?_
  refine me_iload_n (q := 1560) C dL_law_1559 rfl rfl rfl ?_
  refine me_iconst (v := (1 : Int32)) (q := 1561) C dL_law_1560 (by decide) rfl ?_
  refine me_iadd (q := 1562) C dL_law_1561 rfl ?_
  obtain ⟨k9, hf⟩ := mm_ck_some hf
  refine me_sld (q := 1563) C hX dL_law_1562 k9 rfl ?_
  refine me_aload_n (q := 1564) C dL_law_1563 rfl rfl rfl ?_
  refine me_iload_n (q := 1565) C dL_law_1564 rfl rfl rfl ?_
  refine me_iconst (v := (2 : Int32)) (q := 1566) C dL_law_1565 (by decide) rfl ?_
  refine me_iadd (q := 1567) C dL_law_1566 rfl ?_
  obtain ⟨k10, hf⟩ := mm_ck_some hf
  refine me_sld (q := 1568) C hX dL_law_1567 k10 rfl ?_
  refine me_aload_n (q := 1569) C dL_law_1568 rfl rfl rfl ?_
  refine me_iload_n (q := 1570) C dL_law_1569 rfl rfl rfl ?_
  refine me_iconst (v := (3 : Int32)) (q := 1571) C dL_law_1570 (by decide) rfl ?_
  refine me_iadd (q := 1572) C dL_law_1571 rfl ?_
  obtain ⟨k11, hf⟩ := mm_ck_some hf
  refine me_sld (q := 1573) C hX dL_law_1572 k11 rfl ?_
  refine me_aload_n (q := 1574) C dL_law_1573 rfl rfl rfl ?_
  refine me_iload_n (q := 1575) C dL_law_1574 rfl rfl rfl ?_
  refine me_iconst (v := (4 : Int32)) (q := 1576) C dL_law_1575 (by decide) rfl ?_
  refine me_iadd (q := 1577) C dL_law_1576 rfl ?_
  obtain ⟨k12, hf⟩ := mm_ck_some hf
  refine me_sld (q := 1578) C hX dL_law_1577 k12 rfl ?_
  obtain ⟨k13, hf⟩ := mm_ck_some hf
  obtain ⟨v14, g15, e16, hf⟩ := mm_cl_some hf
  refine me_callV (q := 1581) (c2 := cl + 0) (s2 := sl + 0) (st := [vI v6]) C (cX12_news_ok _ e16) mt_L_159 mv_X12_news rfl (by decide) dL_law_1578 rfl k13 rfl rfl rfl (Nat.le_of_ble_eq_true rfl) (by omega) (by omega) (by omega) (by omega) rfl rfl ?_
  refine me_icmp_eq (q2 := 2011) (q := 1584) C dL_law_1581 (by decide) rfl (fun c17 => ?_) (fun c17 => ?_)
  · have hf := mm_if_t c17 hf
    refine me_widen (by omega) (by omega) (hk _ hf)
  · have hf := mm_if_f c17 hf
    refine me_iconst (v := (0 : Int32)) (q := 1585) C dL_law_1584 (by decide) rfl ?_
    exact absurd hf (by simp)
set_option maxRecDepth 100000 in
set_option maxHeartbeats 4000000 in
theorem cL_c34 {X : mm_X} (C : mm_C X cL_law yL_law 1300 183448 8551906) {sb L : Nat} {xs : Nat → Int32} (hX : mm_scr X sb L xs) {cl sl : Nat} (hcl : cl + 350 ≤ 183448) (hsl : sl + 16500 ≤ 8551906) {ax ay : Nat} {xi : Int32} {K : mm_H → Option (Int32 × mm_H)} {u : Int32 × mm_H} (hk : ∀ h, K h = some u → mm_E X h (cl + 350) (sl + 16500) 2011 [some (vR (some sb)), some (vR (some ax)), some (vR (some ay)), some (vI xi)] []) : ∀ h, fL_c34 L xs ax ay xi K h = some u → mm_E X h (cl + 0) (sl + 0) 1586 [some (vR (some sb)), some (vR (some ax)), some (vR (some ay)), some (vI xi)] [] := by
  intro h hf
  unfold fL_c34 at hf
  refine me_aload_n (q := 1587) C dL_law_1586 rfl rfl rfl ?_
  refine me_aload_n (q := 1588) C dL_law_1587 rfl rfl rfl ?_
  refine me_iload_n (q := 1589) C dL_law_1588 rfl rfl rfl ?_
  refine me_iconst (v := (1 : Int32)) (q := 1590) C dL_law_1589 (by decide) rfl ?_
  refine me_iadd (q := 1591) C dL_law_1590 rfl ?_
  obtain ⟨k1, hf⟩ := mm_ck_some hf
  refine me_sld (q := 1592) C hX dL_law_1591 k1 rfl ?_
  refine me_aload_n (q := 1593) C dL_law_1592 rfl rfl rfl ?_
  refine me_iload_n (q := 1594) C dL_law_1593 rfl rfl rfl ?_
  refine me_iconst (v := (2 : Int32)) (q := 1595) C dL_law_1594 (by decide) rfl ?_
  refine me_iadd (q := 1596) C dL_law_1595 rfl ?_
  obtain ⟨k2, hf⟩ := mm_ck_some hf
  refine me_sld (q := 1597) C hX dL_law_1596 k2 rfl ?_
  refine me_aload_n (q := 1598) C dL_law_1597 rfl rfl rfl ?_
  refine me_iload_n (q := 1599) C dL_law_1598 rfl rfl rfl ?_
  refine me_iconst (v := (3 : Int32)) (q := 1600) C dL_law_1599 (by decide) rfl ?_
  refine me_iadd (q := 1601) C dL_law_1600 rfl ?_
  obtain ⟨k3, hf⟩ := mm_ck_some hf
  refine me_sld (q := 1602) C hX dL_law_1601 k3 rfl ?_
  refine me_aload_n (q := 1603) C dL_law_1602 rfl rfl rfl ?_
  refine me_iload_n (q := 1604) C dL_law_1603 rfl rfl rfl ?_
  refine me_iconst (v := (4 : Int32)) (q := 1605) C dL_law_1604 (by decide) rfl ?_
  refine me_iadd (q := 1606) C dL_law_1605 rfl ?_
  obtain ⟨k4, hf⟩ := mm_ck_some hf
  refine me_sld (q := 1607) C hX dL_law_1606 k4 rfl ?_
  obtain ⟨k5, hf⟩ := mm_ck_some hf
  obtain ⟨v6, g7, e8, hf⟩ := mm_cl_some hf
  refine me_callV (q := 1610) (c2 := cl + 0) (s2 := sl + 0) (st := []) C (cX11_price_ok _ e8) mt_L_160 mv_X11_price rfl (by decide) dL_law_1607 rfl k5 rfl rfl rfl (Nat.le_of_ble_eq_true rfl) (by omega) (by omega) (by omega) (by omega) rfl rfl ?_
  refine me_aload_n (q := 1611) C dL_law_1610 rfl rfl rfl ?_
  refine me_aload_n (q := 1612) C dL_law_1611 rfl rfl rfl ?_
  refine me_iload_n (q := 1613) C dL_law_1612 rfl rfl rfl ?_
  refine me_iconst (v := (1 : Int32)) (q := 1614) C dL_law_1613 (by decide) rfl ?_
  refine me_iadd (q := 1615) C dL_law_1614 rfl ?_
  obtain ⟨k9, hf⟩ := mm_ck_some hf
  refine me_sld (q := 1616) C hX dL_law_1615 k9 rfl ?_
  refine me_aload_n (q := 1617) C dL_law_1616 rfl rfl rfl ?_
  refine me_iload_n (q := 1618) C dL_law_1617 rfl rfl rfl ?_
  refine me_iconst (v := (2 : Int32)) (q := 1619) C dL_law_1618 (by decide) rfl ?_
  refine me_iadd (q := 1620) C dL_law_1619 rfl ?_
  obtain ⟨k10, hf⟩ := mm_ck_some hf
  refine me_sld (q := 1621) C hX dL_law_1620 k10 rfl ?_
  refine me_aload_n (q := 1622) C dL_law_1621 rfl rfl rfl ?_
  refine me_iload_n (q := 1623) C dL_law_1622 rfl rfl rfl ?_
  refine me_iconst (v := (3 : Int32)) (q := 1624) C dL_law_1623 (by decide) rfl ?_
  refine me_iadd (q := 1625) C dL_law_1624 rfl ?_
  obtain ⟨k11, hf⟩ := mm_ck_some hf
  refine me_sld (q := 1626) C hX dL_law_1625 k11 rfl ?_
  refine me_aload_n (q := 1627) C dL_law_1626 rfl rfl rfl ?_
  refine me_iload_n (q := 1628) C dL_law_1627 rfl rfl rfl ?_
  refine me_iconst (v := (4 : Int32)) (q := 1629) C dL_law_1628 (by decide) rfl ?_
  refine me_iadd (q := 1630) C dL_law_1629 rfl ?_
  obtain ⟨k12, hf⟩ := mm_ck_some hf
  refine me_sld (q := 1631) C hX dL_law_1630 k12 rfl ?_
  obtain ⟨k13, hf⟩ := mm_ck_some hf
  obtain ⟨v14, g15, e16, hf⟩ := mm_cl_some hf
  refine me_callV (q := 1634) (c2 := cl + 0) (s2 := sl + 0) (st := [vI v6]) C (cX12_price_ok _ e16) mt_L_163 mv_X12_price rfl (by decide) dL_law_1631 rfl k13 rfl rfl rfl (Nat.le_of_ble_eq_true rfl) (by omega) (by omega) (by omega) (by omega) rfl rfl ?_
  refine me_icmp_eq (q2 := 2011) (q := 1637) C dL_law_1634 (by decide) rfl (fun c17 => ?_) (fun c17 => ?_)
  · have hf := mm_if_t c17 hf
    refine me_widen (by omega) (by omega) (hk _ hf)
  · have hf := mm_if_f c17 hf
    refine me_iconst (v := (0 : Int32)) (q := 1638) C dL_law_1637 (by decide) rfl ?_
    exact absurd hf (by simp)
set_option maxRecDepth 100000 in
set_option maxHeartbeats 4000000 in
theorem cL_c35 {X : mm_X} (C : mm_C X cL_law yL_law 1300 183448 8551906) {sb L : Nat} {xs : Nat → Int32} (hX : mm_scr X sb L xs) {cl sl : Nat} (hcl : cl + 350 ≤ 183448) (hsl : sl + 16500 ≤ 8551906) {ax ay : Nat} {xi : Int32} {K : mm_H → Option (Int32 × mm_H)} {u : Int32 × mm_H} (hk : ∀ h, K h = some u → mm_E X h (cl + 350) (sl + 16500) 2011 [some (vR (some sb)), some (vR (some ax)), some (vR (some ay)), some (vI xi)] []) : ∀ h, fL_c35 L xs ax ay xi K h = some u → mm_E X h (cl + 0) (sl + 0) 1639 [some (vR (some sb)), some (vR (some ax)), some (vR (some ay)), some (vI xi)] [] := by
  intro h hf
  unfold fL_c35 at hf
  refine me_aload_n (q := 1640) C dL_law_1639 rfl rfl rfl ?_
  refine me_aload_n (q := 1641) C dL_law_1640 rfl rfl rfl ?_
  refine me_iload_n (q := 1642) C dL_law_1641 rfl rfl rfl ?_
  refine me_iconst (v := (1 : Int32)) (q := 1643) C dL_law_1642 (by decide) rfl ?_
  refine me_iadd (q := 1644) C dL_law_1643 rfl ?_
  obtain ⟨k1, hf⟩ := mm_ck_some hf
  refine me_sld (q := 1645) C hX dL_law_1644 k1 rfl ?_
  obtain ⟨k2, hf⟩ := mm_ck_some hf
  obtain ⟨v3, g4, e5, hf⟩ := mm_cl_some hf
  refine me_callV (q := 1648) (c2 := cl + 0) (s2 := sl + 0) (st := []) C (cX11_plan_ok _ e5) mt_L_164 mv_X11_plan rfl (by decide) dL_law_1645 rfl k2 rfl rfl rfl (Nat.le_of_ble_eq_true rfl) (by omega) (by omega) (by omega) (by omega) rfl rfl ?_
  refine me_aload_n (q := 1649) C dL_law_1648 rfl rfl rfl ?_
  refine me_aload_n (q := 1650) C dL_law_1649 rfl rfl rfl ?_
  refine me_iload_n (q := 1651) C dL_law_1650 rfl rfl rfl ?_
  refine me_iconst (v := (1 : Int32)) (q := 1652) C dL_law_1651 (by decide) rfl ?_
  refine me_iadd (q := 1653) C dL_law_1652 rfl ?_
  obtain ⟨k6, hf⟩ := mm_ck_some hf
  refine me_sld (q := 1654) C hX dL_law_1653 k6 rfl ?_
  obtain ⟨k7, hf⟩ := mm_ck_some hf
  obtain ⟨v8, g9, e10, hf⟩ := mm_cl_some hf
  refine me_callV (q := 1657) (c2 := cl + 0) (s2 := sl + 0) (st := [vJ v3]) C (cX12_plan_ok _ e10) mt_L_168 mv_X12_plan rfl (by decide) dL_law_1654 rfl k7 rfl rfl rfl (Nat.le_of_ble_eq_true rfl) (by omega) (by omega) (by omega) (by omega) rfl rfl ?_
  refine me_lcmp (q := 1658) C dL_law_1657 rfl ?_
  refine me_if_eq (q2 := 2011) (q := 1661) C dL_law_1658 (by decide) rfl (fun c11 => ?_) (fun c11 => ?_)
  · have hf := mm_if_t c11 hf
    refine me_widen (by omega) (by omega) (hk _ hf)
  · have hf := mm_if_f c11 hf
    refine me_iconst (v := (0 : Int32)) (q := 1662) C dL_law_1661 (by decide) rfl ?_
    exact absurd hf (by simp)
set_option maxRecDepth 100000 in
set_option maxHeartbeats 4000000 in
theorem cL_c36 {X : mm_X} (C : mm_C X cL_law yL_law 1300 183448 8551906) {sb L : Nat} {xs : Nat → Int32} (hX : mm_scr X sb L xs) {cl sl : Nat} (hcl : cl + 350 ≤ 183448) (hsl : sl + 16500 ≤ 8551906) {ax ay : Nat} {xi : Int32} {K : mm_H → Option (Int32 × mm_H)} {u : Int32 × mm_H} (hk : ∀ h, K h = some u → mm_E X h (cl + 350) (sl + 16500) 2011 [some (vR (some sb)), some (vR (some ax)), some (vR (some ay)), some (vI xi)] []) : ∀ h, fL_c36 L xs ax ay xi K h = some u → mm_E X h (cl + 0) (sl + 0) 1663 [some (vR (some sb)), some (vR (some ax)), some (vR (some ay)), some (vI xi)] [] := by
  intro h hf
  unfold fL_c36 at hf
  refine me_aload_n (q := 1664) C dL_law_1663 rfl rfl rfl ?_
  refine me_aload_n (q := 1665) C dL_law_1664 rfl rfl rfl ?_
  refine me_iload_n (q := 1666) C dL_law_1665 rfl rfl rfl ?_
  refine me_iconst (v := (1 : Int32)) (q := 1667) C dL_law_1666 (by decide) rfl ?_
  refine me_iadd (q := 1668) C dL_law_1667 rfl ?_
  obtain ⟨k1, hf⟩ := mm_ck_some hf
  refine me_sld (q := 1669) C hX dL_law_1668 k1 rfl ?_
  refine me_aload_n (q := 1670) C dL_law_1669 rfl rfl rfl ?_
  refine me_iload_n (q := 1671) C dL_law_1670 rfl rfl rfl ?_
  refine me_iconst (v := (2 : Int32)) (q := 1672) C dL_law_1671 (by decide) rfl ?_
  refine me_iadd (q := 1673) C dL_law_1672 rfl ?_
  obtain ⟨k2, hf⟩ := mm_ck_some hf
  refine me_sld (q := 1674) C hX dL_law_1673 k2 rfl ?_
  obtain ⟨k3, hf⟩ := mm_ck_some hf
  obtain ⟨v4, g5, e6, hf⟩ := mm_cl_some hf
  refine me_callV (q := 1677) (c2 := cl + 0) (s2 := sl + 0) (st := []) C (cX11_planned_ok _ e6) mt_L_169 mv_X11_planned rfl (by decide) dL_law_1674 rfl k3 rfl rfl rfl (Nat.le_of_ble_eq_true rfl) (by omega) (by omega) (by omega) (by omega) rfl rfl ?_
  refine me_aload_n (q := 1678) C dL_law_1677 rfl rfl rfl ?_
  refine me_aload_n (q := 1679) C dL_law_1678 rfl rfl rfl ?_
  refine me_iload_n (q := 1680) C dL_law_1679 rfl rfl rfl ?_
  refine me_iconst (v := (1 : Int32)) (q := 1681) C dL_law_1680 (by decide) rfl ?_
  refine me_iadd (q := 1682) C dL_law_1681 rfl ?_
  obtain ⟨k7, hf⟩ := mm_ck_some hf
  refine me_sld (q := 1683) C hX dL_law_1682 k7 rfl ?_
  refine me_aload_n (q := 1684) C dL_law_1683 rfl rfl rfl ?_
  refine me_iload_n (q := 1685) C dL_law_1684 rfl rfl rfl ?_
  refine me_iconst (v := (2 : Int32)) (q := 1686) C dL_law_1685 (by decide) rfl ?_
  refine me_iadd (q := 1687) C dL_law_1686 rfl ?_
  obtain ⟨k8, hf⟩ := mm_ck_some hf
  refine me_sld (q := 1688) C hX dL_law_1687 k8 rfl ?_
  obtain ⟨k9, hf⟩ := mm_ck_some hf
  obtain ⟨v10, g11, e12, hf⟩ := mm_cl_some hf
  refine me_callV (q := 1691) (c2 := cl + 0) (s2 := sl + 0) (st := [vI v4]) C (cX12_planned_ok _ e12) mt_L_172 mv_X12_planned rfl (by decide) dL_law_1688 rfl k9 rfl rfl rfl (Nat.le_of_ble_eq_true rfl) (by omega) (by omega) (by omega) (by omega) rfl rfl ?_
  refine me_icmp_eq (q2 := 2011) (q := 1694) C dL_law_1691 (by decide) rfl (fun c13 => ?_) (fun c13 => ?_)
  · have hf := mm_if_t c13 hf
    refine me_widen (by omega) (by omega) (hk _ hf)
  · have hf := mm_if_f c13 hf
    refine me_iconst (v := (0 : Int32)) (q := 1695) C dL_law_1694 (by decide) rfl ?_
    exact absurd hf (by simp)
set_option maxRecDepth 100000 in
set_option maxHeartbeats 4000000 in
theorem cL_c37 {X : mm_X} (C : mm_C X cL_law yL_law 1300 183448 8551906) {sb L : Nat} {xs : Nat → Int32} (hX : mm_scr X sb L xs) {cl sl : Nat} (hcl : cl + 350 ≤ 183448) (hsl : sl + 16500 ≤ 8551906) {ax ay : Nat} {xi : Int32} {K : mm_H → Option (Int32 × mm_H)} {u : Int32 × mm_H} (hk : ∀ h, K h = some u → mm_E X h (cl + 350) (sl + 16500) 2011 [some (vR (some sb)), some (vR (some ax)), some (vR (some ay)), some (vI xi)] []) : ∀ h, fL_c37 L xs ax ay xi K h = some u → mm_E X h (cl + 0) (sl + 0) 1696 [some (vR (some sb)), some (vR (some ax)), some (vR (some ay)), some (vI xi)] [] := by
  intro h hf
  unfold fL_c37 at hf
  refine me_aload_n (q := 1697) C dL_law_1696 rfl rfl rfl ?_
  obtain ⟨k1, hf⟩ := mm_ck_some hf
  obtain ⟨v2, g3, e4, hf⟩ := mm_cl_some hf
  refine me_callV (q := 1700) (c2 := cl + 0) (s2 := sl + 0) (st := []) C (cX11_high_ok _ e4) mt_L_173 mv_X11_high rfl (by decide) dL_law_1697 rfl k1 rfl rfl rfl (Nat.le_of_ble_eq_true rfl) (by omega) (by omega) (by omega) (by omega) rfl rfl ?_
  refine me_aload_n (q := 1701) C dL_law_1700 rfl rfl rfl ?_
  obtain ⟨k5, hf⟩ := mm_ck_some hf
  obtain ⟨v6, g7, e8, hf⟩ := mm_cl_some hf
  refine me_callV (q := 1704) (c2 := cl + 0) (s2 := sl + 0) (st := [vJ v2]) C (cX12_high_ok _ e8) mt_L_177 mv_X12_high rfl (by decide) dL_law_1701 rfl k5 rfl rfl rfl (Nat.le_of_ble_eq_true rfl) (by omega) (by omega) (by omega) (by omega) rfl rfl ?_
  refine me_lcmp (q := 1705) C dL_law_1704 rfl ?_
  refine me_if_eq (q2 := 2011) (q := 1708) C dL_law_1705 (by decide) rfl (fun c9 => ?_) (fun c9 => ?_)
  · have hf := mm_if_t c9 hf
    refine me_widen (by omega) (by omega) (hk _ hf)
  · have hf := mm_if_f c9 hf
    refine me_iconst (v := (0 : Int32)) (q := 1709) C dL_law_1708 (by decide) rfl ?_
    exact absurd hf (by simp)
set_option maxRecDepth 100000 in
set_option maxHeartbeats 4000000 in
theorem cL_c38 {X : mm_X} (C : mm_C X cL_law yL_law 1300 183448 8551906) {sb L : Nat} {xs : Nat → Int32} (hX : mm_scr X sb L xs) {cl sl : Nat} (hcl : cl + 350 ≤ 183448) (hsl : sl + 16500 ≤ 8551906) {ax ay : Nat} {xi : Int32} {K : mm_H → Option (Int32 × mm_H)} {u : Int32 × mm_H} (hk : ∀ h, K h = some u → mm_E X h (cl + 350) (sl + 16500) 2011 [some (vR (some sb)), some (vR (some ax)), some (vR (some ay)), some (vI xi)] []) : ∀ h, fL_c38 L xs ax ay xi K h = some u → mm_E X h (cl + 0) (sl + 0) 1710 [some (vR (some sb)), some (vR (some ax)), some (vR (some ay)), some (vI xi)] [] := by
  intro h hf
  unfold fL_c38 at hf
  refine me_aload_n (q := 1711) C dL_law_1710 rfl rfl rfl ?_
  refine me_aload_n (q := 1712) C dL_law_1711 rfl rfl rfl ?_
  refine me_iload_n (q := 1713) C dL_law_1712 rfl rfl rfl ?_
  refine me_iconst (v := (1 : Int32)) (q := 1714) C dL_law_1713 (by decide) rfl ?_
  refine me_iadd (q := 1715) C dL_law_1714 rfl ?_
  obtain ⟨k1, hf⟩ := mm_ck_some hf
  refine me_sld (q := 1716) C hX dL_law_1715 k1 rfl ?_
  refine me_aload_n (q := 1717) C dL_law_1716 rfl rfl rfl ?_
  refine me_iload_n (q := 1718) C dL_law_1717 rfl rfl rfl ?_
  refine me_iconst (v := (2 : Int32)) (q := 1719) C dL_law_1718 (by decide) rfl ?_
  refine me_iadd (q := 1720) C dL_law_1719 rfl ?_
  obtain ⟨k2, hf⟩ := mm_ck_some hf
  refine me_sld (q := 1721) C hX dL_law_1720 k2 rfl ?_
  obtain ⟨k3, hf⟩ := mm_ck_some hf
  obtain ⟨v4, g5, e6, hf⟩ := mm_cl_some hf
  refine me_callV (q := 1724) (c2 := cl + 0) (s2 := sl + 0) (st := []) C (cX11_sail_ok _ e6) mt_L_178 mv_X11_sail rfl (by decide) dL_law_1721 rfl k3 rfl rfl rfl (Nat.le_of_ble_eq_true rfl) (by omega) (by omega) (by omega) (by omega) rfl rfl ?_
  refine me_aload_n (q := 1725) C dL_law_1724 rfl rfl rfl ?_
  refine me_aload_n (q := 1726) C dL_law_1725 rfl rfl rfl ?_
  refine me_iload_n (q := 1727) C dL_law_1726 rfl rfl rfl ?_
  refine me_iconst (v := (1 : Int32)) (q := 1728) C dL_law_1727 (by decide) rfl ?_
  refine me_iadd (q := 1729) C dL_law_1728 rfl ?_
  obtain ⟨k7, hf⟩ := mm_ck_some hf
  refine me_sld (q := 1730) C hX dL_law_1729 k7 rfl ?_
  refine me_aload_n (q := 1731) C dL_law_1730 rfl rfl rfl ?_
  refine me_iload_n (q := 1732) C dL_law_1731 rfl rfl rfl ?_
  refine me_iconst (v := (2 : Int32)) (q := 1733) C dL_law_1732 (by decide) rfl ?_
  refine me_iadd (q := 1734) C dL_law_1733 rfl ?_
  obtain ⟨k8, hf⟩ := mm_ck_some hf
  refine me_sld (q := 1735) C hX dL_law_1734 k8 rfl ?_
  obtain ⟨k9, hf⟩ := mm_ck_some hf
  obtain ⟨v10, g11, e12, hf⟩ := mm_cl_some hf
  refine me_callV (q := 1738) (c2 := cl + 0) (s2 := sl + 0) (st := [vI v4]) C (cX12_sail_ok _ e12) mt_L_181 mv_X12_sail rfl (by decide) dL_law_1735 rfl k9 rfl rfl rfl (Nat.le_of_ble_eq_true rfl) (by omega) (by omega) (by omega) (by omega) rfl rfl ?_
  refine me_icmp_eq (q2 := 2011) (q := 1741) C dL_law_1738 (by decide) rfl (fun c13 => ?_) (fun c13 => ?_)
  · have hf := mm_if_t c13 hf
    refine me_widen (by omega) (by omega) (hk _ hf)
  · have hf := mm_if_f c13 hf
    refine me_iconst (v := (0 : Int32)) (q := 1742) C dL_law_1741 (by decide) rfl ?_
    exact absurd hf (by simp)
set_option maxRecDepth 100000 in
set_option maxHeartbeats 4000000 in
theorem cL_c39 {X : mm_X} (C : mm_C X cL_law yL_law 1300 183448 8551906) {sb L : Nat} {xs : Nat → Int32} (hX : mm_scr X sb L xs) {cl sl : Nat} (hcl : cl + 350 ≤ 183448) (hsl : sl + 16500 ≤ 8551906) {ax ay : Nat} {xi : Int32} {K : mm_H → Option (Int32 × mm_H)} {u : Int32 × mm_H} (hk : ∀ h, K h = some u → mm_E X h (cl + 350) (sl + 16500) 2011 [some (vR (some sb)), some (vR (some ax)), some (vR (some ay)), some (vI xi)] []) : ∀ h, fL_c39 L xs ax ay xi K h = some u → mm_E X h (cl + 0) (sl + 0) 1743 [some (vR (some sb)), some (vR (some ax)), some (vR (some ay)), some (vI xi)] [] := by
  intro h hf
  unfold fL_c39 at hf
  refine me_aload_n (q := 1744) C dL_law_1743 rfl rfl rfl ?_
  refine me_aload_n (q := 1745) C dL_law_1744 rfl rfl rfl ?_
  refine me_iload_n (q := 1746) C dL_law_1745 rfl rfl rfl ?_
  refine me_iconst (v := (1 : Int32)) (q := 1747) C dL_law_1746 (by decide) rfl ?_
  refine me_iadd (q := 1748) C dL_law_1747 rfl ?_
  obtain ⟨k1, hf⟩ := mm_ck_some hf
  refine me_sld (q := 1749) C hX dL_law_1748 k1 rfl ?_
  obtain ⟨k2, hf⟩ := mm_ck_some hf
  obtain ⟨v3, g4, e5, hf⟩ := mm_cl_some hf
  refine me_callV (q := 1752) (c2 := cl + 0) (s2 := sl + 0) (st := []) C (cX11_broke_ok _ e5) mt_L_182 mv_X11_broke rfl (by decide) dL_law_1749 rfl k2 rfl rfl rfl (Nat.le_of_ble_eq_true rfl) (by omega) (by omega) (by omega) (by omega) rfl rfl ?_
  refine me_aload_n (q := 1753) C dL_law_1752 rfl rfl rfl ?_
  refine me_aload_n (q := 1754) C dL_law_1753 rfl rfl rfl ?_
  refine me_iload_n (q := 1755) C dL_law_1754 rfl rfl rfl ?_
  refine me_iconst (v := (1 : Int32)) (q := 1756) C dL_law_1755 (by decide) rfl ?_
  refine me_iadd (q := 1757) C dL_law_1756 rfl ?_
  obtain ⟨k6, hf⟩ := mm_ck_some hf
  refine me_sld (q := 1758) C hX dL_law_1757 k6 rfl ?_
  obtain ⟨k7, hf⟩ := mm_ck_some hf
  obtain ⟨v8, g9, e10, hf⟩ := mm_cl_some hf
  refine me_callV (q := 1761) (c2 := cl + 0) (s2 := sl + 0) (st := [vI v3]) C (cX12_broke_ok _ e10) mt_L_185 mv_X12_broke rfl (by decide) dL_law_1758 rfl k7 rfl rfl rfl (Nat.le_of_ble_eq_true rfl) (by omega) (by omega) (by omega) (by omega) rfl rfl ?_
  refine me_icmp_eq (q2 := 2011) (q := 1764) C dL_law_1761 (by decide) rfl (fun c11 => ?_) (fun c11 => ?_)
  · have hf := mm_if_t c11 hf
    refine me_widen (by omega) (by omega) (hk _ hf)
  · have hf := mm_if_f c11 hf
    refine me_iconst (v := (0 : Int32)) (q := 1765) C dL_law_1764 (by decide) rfl ?_
    exact absurd hf (by simp)
set_option maxRecDepth 100000 in
set_option maxHeartbeats 4000000 in
theorem cL_c40 {X : mm_X} (C : mm_C X cL_law yL_law 1300 183448 8551906) {sb L : Nat} {xs : Nat → Int32} (hX : mm_scr X sb L xs) {cl sl : Nat} (hcl : cl + 350 ≤ 183448) (hsl : sl + 16500 ≤ 8551906) {ax ay : Nat} {xi : Int32} {K : mm_H → Option (Int32 × mm_H)} {u : Int32 × mm_H} (hk : ∀ h, K h = some u → mm_E X h (cl + 350) (sl + 16500) 2011 [some (vR (some sb)), some (vR (some ax)), some (vR (some ay)), some (vI xi)] []) : ∀ h, fL_c40 L xs ax ay xi K h = some u → mm_E X h (cl + 0) (sl + 0) 1766 [some (vR (some sb)), some (vR (some ax)), some (vR (some ay)), some (vI xi)] [] := by
  intro h hf
  unfold fL_c40 at hf
  refine me_aload_n (q := 1767) C dL_law_1766 rfl rfl rfl ?_
  refine me_aload_n (q := 1768) C dL_law_1767 rfl rfl rfl ?_
  refine me_iload_n (q := 1769) C dL_law_1768 rfl rfl rfl ?_
  refine me_iconst (v := (1 : Int32)) (q := 1770) C dL_law_1769 (by decide) rfl ?_
  refine me_iadd (q := 1771) C dL_law_1770 rfl ?_
  obtain ⟨k1, hf⟩ := mm_ck_some hf
  refine me_sld (q := 1772) C hX dL_law_1771 k1 rfl ?_
  refine me_aload_n (q := 1773) C dL_law_1772 rfl rfl rfl ?_
  refine me_iload_n (q := 1774) C dL_law_1773 rfl rfl rfl ?_
  refine me_iconst (v := (2 : Int32)) (q := 1775) C dL_law_1774 (by decide) rfl ?_
  refine me_iadd (q := 1776) C dL_law_1775 rfl ?_
  obtain ⟨k2, hf⟩ := mm_ck_some hf
  refine me_sld (q := 1777) C hX dL_law_1776 k2 rfl ?_
  refine me_aload_n (q := 1778) C dL_law_1777 rfl rfl rfl ?_
  refine me_iload_n (q := 1779) C dL_law_1778 rfl rfl rfl ?_
  refine me_iconst (v := (3 : Int32)) (q := 1780) C dL_law_1779 (by decide) rfl ?_
  refine me_iadd (q := 1781) C dL_law_1780 rfl ?_
  obtain ⟨k3, hf⟩ := mm_ck_some hf
  refine me_sld (q := 1782) C hX dL_law_1781 k3 rfl ?_
  refine me_aload_n (q := 1783) C dL_law_1782 rfl rfl rfl ?_
  refine me_iload_n (q := 1784) C dL_law_1783 rfl rfl rfl ?_
  refine me_iconst (v := (4 : Int32)) (q := 1785) C dL_law_1784 (by decide) rfl ?_
  refine me_iadd (q := 1786) C dL_law_1785 rfl ?_
  obtain ⟨k4, hf⟩ := mm_ck_some hf
  refine me_sld (q := 1787) C hX dL_law_1786 k4 rfl ?_
  obtain ⟨k5, hf⟩ := mm_ck_some hf
  obtain ⟨v6, g7, e8, hf⟩ := mm_cl_some hf
  refine me_callV (q := 1790) (c2 := cl + 0) (s2 := sl + 0) (st := []) C (cX11_hand_ok _ e8) mt_L_186 mv_X11_hand rfl (by decide) dL_law_1787 rfl k5 rfl rfl rfl (Nat.le_of_ble_eq_true rfl) (by omega) (by omega) (by omega) (by omega) rfl rfl ?_
  refine me_aload_n (q := 1791) C dL_law_1790 rfl rfl rfl ?_
  refine me_aload_n (q := 1792) C dL_law_1791 rfl rfl rfl ?_
  refine me_iload_n (q := 1793) C dL_law_1792 rfl rfl rfl ?_
  refine me_iconst (v := (1 : Int32)) (q := 1794) C dL_law_1793 (by decide) rfl ?_
  refine me_iadd (q := 1795) C dL_law_1794 rfl ?_
  obtain ⟨k9, hf⟩ := mm_ck_some hf
  refine me_sld (q := 1796) C hX dL_law_1795 k9 rfl ?_
  refine me_aload_n (q := 1797) C dL_law_1796 rfl rfl rfl ?_
  refine me_iload_n (q := 1798) C dL_law_1797 rfl rfl rfl ?_
  refine me_iconst (v := (2 : Int32)) (q := 1799) C dL_law_1798 (by decide) rfl ?_
  refine me_iadd (q := 1800) C dL_law_1799 rfl ?_
  obtain ⟨k10, hf⟩ := mm_ck_some hf
  refine me_sld (q := 1801) C hX dL_law_1800 k10 rfl ?_
  refine me_aload_n (q := 1802) C dL_law_1801 rfl rfl rfl ?_
  refine me_iload_n (q := 1803) C dL_law_1802 rfl rfl rfl ?_
  refine me_iconst (v := (3 : Int32)) (q := 1804) C dL_law_1803 (by decide) rfl ?_
  refine me_iadd (q := 1805) C dL_law_1804 rfl ?_
  obtain ⟨k11, hf⟩ := mm_ck_some hf
  refine me_sld (q := 1806) C hX dL_law_1805 k11 rfl ?_
  refine me_aload_n (q := 1807) C dL_law_1806 rfl rfl rfl ?_
  refine me_iload_n (q := 1808) C dL_law_1807 rfl rfl rfl ?_
  refine me_iconst (v := (4 : Int32)) (q := 1809) C dL_law_1808 (by decide) rfl ?_
  refine me_iadd (q := 1810) C dL_law_1809 rfl ?_
  obtain ⟨k12, hf⟩ := mm_ck_some hf
  refine me_sld (q := 1811) C hX dL_law_1810 k12 rfl ?_
  obtain ⟨k13, hf⟩ := mm_ck_some hf
  obtain ⟨v14, g15, e16, hf⟩ := mm_cl_some hf
  refine me_callV (q := 1814) (c2 := cl + 0) (s2 := sl + 0) (st := [vI v6]) C (cX12_hand_ok _ e16) mt_L_190 mv_X12_hand rfl (by decide) dL_law_1811 rfl k13 rfl rfl rfl (Nat.le_of_ble_eq_true rfl) (by omega) (by omega) (by omega) (by omega) rfl rfl ?_
  refine me_icmp_eq (q2 := 2011) (q := 1817) C dL_law_1814 (by decide) rfl (fun c17 => ?_) (fun c17 => ?_)
  · have hf := mm_if_t c17 hf
    refine me_widen (by omega) (by omega) (hk _ hf)
  · have hf := mm_if_f c17 hf
    refine me_iconst (v := (0 : Int32)) (q := 1818) C dL_law_1817 (by decide) rfl ?_
    exact absurd hf (by simp)
set_option maxRecDepth 100000 in
set_option maxHeartbeats 4000000 in
theorem cL_c41 {X : mm_X} (C : mm_C X cL_law yL_law 1300 183448 8551906) {sb L : Nat} {xs : Nat → Int32} (hX : mm_scr X sb L xs) {cl sl : Nat} (hcl : cl + 350 ≤ 183448) (hsl : sl + 16500 ≤ 8551906) {ax ay : Nat} {xi : Int32} {K : mm_H → Option (Int32 × mm_H)} {u : Int32 × mm_H} (hk : ∀ h, K h = some u → mm_E X h (cl + 350) (sl + 16500) 2011 [some (vR (some sb)), some (vR (some ax)), some (vR (some ay)), some (vI xi)] []) : ∀ h, fL_c41 L xs ax ay xi K h = some u → mm_E X h (cl + 0) (sl + 0) 1819 [some (vR (some sb)), some (vR (some ax)), some (vR (some ay)), some (vI xi)] [] := by
  intro h hf
  unfold fL_c41 at hf
  refine me_aload_n (q := 1820) C dL_law_1819 rfl rfl rfl ?_
  refine me_aload_n (q := 1821) C dL_law_1820 rfl rfl rfl ?_
  refine me_iload_n (q := 1822) C dL_law_1821 rfl rfl rfl ?_
  refine me_iconst (v := (1 : Int32)) (q := 1823) C dL_law_1822 (by decide) rfl ?_
  refine me_iadd (q := 1824) C dL_law_1823 rfl ?_
  obtain ⟨k1, hf⟩ := mm_ck_some hf
  refine me_sld (q := 1825) C hX dL_law_1824 k1 rfl ?_
  obtain ⟨k2, hf⟩ := mm_ck_some hf
  obtain ⟨v3, g4, e5, hf⟩ := mm_cl_some hf
  refine me_callV (q := 1828) (c2 := cl + 0) (s2 := sl + 0) (st := []) C (cX11_breakers_ok _ e5) mt_L_191 mv_X11_breakers rfl (by decide) dL_law_1825 rfl k2 rfl rfl rfl (Nat.le_of_ble_eq_true rfl) (by omega) (by omega) (by omega) (by omega) rfl rfl ?_
  refine me_aload_n (q := 1829) C dL_law_1828 rfl rfl rfl ?_
  refine me_aload_n (q := 1830) C dL_law_1829 rfl rfl rfl ?_
  refine me_iload_n (q := 1831) C dL_law_1830 rfl rfl rfl ?_
  refine me_iconst (v := (1 : Int32)) (q := 1832) C dL_law_1831 (by decide) rfl ?_
  refine me_iadd (q := 1833) C dL_law_1832 rfl ?_
  obtain ⟨k6, hf⟩ := mm_ck_some hf
  refine me_sld (q := 1834) C hX dL_law_1833 k6 rfl ?_
  obtain ⟨k7, hf⟩ := mm_ck_some hf
  obtain ⟨v8, g9, e10, hf⟩ := mm_cl_some hf
  refine me_callV (q := 1837) (c2 := cl + 0) (s2 := sl + 0) (st := [vI v3]) C (cX12_breakers_ok _ e10) mt_L_194 mv_X12_breakers rfl (by decide) dL_law_1834 rfl k7 rfl rfl rfl (Nat.le_of_ble_eq_true rfl) (by omega) (by omega) (by omega) (by omega) rfl rfl ?_
  refine me_icmp_eq (q2 := 2011) (q := 1840) C dL_law_1837 (by decide) rfl (fun c11 => ?_) (fun c11 => ?_)
  · have hf := mm_if_t c11 hf
    refine me_widen (by omega) (by omega) (hk _ hf)
  · have hf := mm_if_f c11 hf
    refine me_iconst (v := (0 : Int32)) (q := 1841) C dL_law_1840 (by decide) rfl ?_
    exact absurd hf (by simp)
set_option maxRecDepth 100000 in
set_option maxHeartbeats 4000000 in
theorem cL_c42 {X : mm_X} (C : mm_C X cL_law yL_law 1300 183448 8551906) {sb L : Nat} {xs : Nat → Int32} (hX : mm_scr X sb L xs) {cl sl : Nat} (hcl : cl + 350 ≤ 183448) (hsl : sl + 16500 ≤ 8551906) {ax ay : Nat} {xi : Int32} {K : mm_H → Option (Int32 × mm_H)} {u : Int32 × mm_H} (hk : ∀ h, K h = some u → mm_E X h (cl + 350) (sl + 16500) 2011 [some (vR (some sb)), some (vR (some ax)), some (vR (some ay)), some (vI xi)] []) : ∀ h, fL_c42 L xs ax ay xi K h = some u → mm_E X h (cl + 0) (sl + 0) 1842 [some (vR (some sb)), some (vR (some ax)), some (vR (some ay)), some (vI xi)] [] := by
  intro h hf
  unfold fL_c42 at hf
  refine me_aload_n (q := 1843) C dL_law_1842 rfl rfl rfl ?_
  refine me_aload_n (q := 1844) C dL_law_1843 rfl rfl rfl ?_
  refine me_iload_n (q := 1845) C dL_law_1844 rfl rfl rfl ?_
  refine me_iconst (v := (1 : Int32)) (q := 1846) C dL_law_1845 (by decide) rfl ?_
  refine me_iadd (q := 1847) C dL_law_1846 rfl ?_
  obtain ⟨k1, hf⟩ := mm_ck_some hf
  refine me_sld (q := 1848) C hX dL_law_1847 k1 rfl ?_
  obtain ⟨k2, hf⟩ := mm_ck_some hf
  obtain ⟨v3, g4, e5, hf⟩ := mm_cl_some hf
  refine me_callV (q := 1851) (c2 := cl + 0) (s2 := sl + 0) (st := []) C (cX11_holds_ok _ e5) mt_L_195 mv_X11_holds rfl (by decide) dL_law_1848 rfl k2 rfl rfl rfl (Nat.le_of_ble_eq_true rfl) (by omega) (by omega) (by omega) (by omega) rfl rfl ?_
  refine me_aload_n (q := 1852) C dL_law_1851 rfl rfl rfl ?_
  refine me_aload_n (q := 1853) C dL_law_1852 rfl rfl rfl ?_
  refine me_iload_n (q := 1854) C dL_law_1853 rfl rfl rfl ?_
  refine me_iconst (v := (1 : Int32)) (q := 1855) C dL_law_1854 (by decide) rfl ?_
  refine me_iadd (q := 1856) C dL_law_1855 rfl ?_
  obtain ⟨k6, hf⟩ := mm_ck_some hf
  refine me_sld (q := 1857) C hX dL_law_1856 k6 rfl ?_
  obtain ⟨k7, hf⟩ := mm_ck_some hf
  obtain ⟨v8, g9, e10, hf⟩ := mm_cl_some hf
  refine me_callV (q := 1860) (c2 := cl + 0) (s2 := sl + 0) (st := [vI v3]) C (cX12_holds__ok _ e10) mt_L_198 mv_X12_holds_ rfl (by decide) dL_law_1857 rfl k7 rfl rfl rfl (Nat.le_of_ble_eq_true rfl) (by omega) (by omega) (by omega) (by omega) rfl rfl ?_
  refine me_icmp_eq (q2 := 2011) (q := 1863) C dL_law_1860 (by decide) rfl (fun c11 => ?_) (fun c11 => ?_)
  · have hf := mm_if_t c11 hf
    refine me_widen (by omega) (by omega) (hk _ hf)
  · have hf := mm_if_f c11 hf
    refine me_iconst (v := (0 : Int32)) (q := 1864) C dL_law_1863 (by decide) rfl ?_
    exact absurd hf (by simp)
set_option maxRecDepth 100000 in
set_option maxHeartbeats 4000000 in
theorem cL_c43 {X : mm_X} (C : mm_C X cL_law yL_law 1300 183448 8551906) {sb L : Nat} {xs : Nat → Int32} (hX : mm_scr X sb L xs) {cl sl : Nat} (hcl : cl + 350 ≤ 183448) (hsl : sl + 16500 ≤ 8551906) {ax ay : Nat} {xi : Int32} {K : mm_H → Option (Int32 × mm_H)} {u : Int32 × mm_H} (hk : ∀ h, K h = some u → mm_E X h (cl + 350) (sl + 16500) 2011 [some (vR (some sb)), some (vR (some ax)), some (vR (some ay)), some (vI xi)] []) : ∀ h, fL_c43 L xs ax ay xi K h = some u → mm_E X h (cl + 0) (sl + 0) 1865 [some (vR (some sb)), some (vR (some ax)), some (vR (some ay)), some (vI xi)] [] := by
  intro h hf
  unfold fL_c43 at hf
  refine me_aload_n (q := 1866) C dL_law_1865 rfl rfl rfl ?_
  refine me_aload_n (q := 1867) C dL_law_1866 rfl rfl rfl ?_
  refine me_iload_n (q := 1868) C dL_law_1867 rfl rfl rfl ?_
  refine me_iconst (v := (1 : Int32)) (q := 1869) C dL_law_1868 (by decide) rfl ?_
  refine me_iadd (q := 1870) C dL_law_1869 rfl ?_
  obtain ⟨k1, hf⟩ := mm_ck_some hf
  refine me_sld (q := 1871) C hX dL_law_1870 k1 rfl ?_
  refine me_aload_n (q := 1872) C dL_law_1871 rfl rfl rfl ?_
  refine me_iload_n (q := 1873) C dL_law_1872 rfl rfl rfl ?_
  refine me_iconst (v := (2 : Int32)) (q := 1874) C dL_law_1873 (by decide) rfl ?_
  refine me_iadd (q := 1875) C dL_law_1874 rfl ?_
  obtain ⟨k2, hf⟩ := mm_ck_some hf
  refine me_sld (q := 1876) C hX dL_law_1875 k2 rfl ?_
  refine me_aload_n (q := 1877) C dL_law_1876 rfl rfl rfl ?_
  refine me_iload_n (q := 1878) C dL_law_1877 rfl rfl rfl ?_
  refine me_iconst (v := (3 : Int32)) (q := 1879) C dL_law_1878 (by decide) rfl ?_
  refine me_iadd (q := 1880) C dL_law_1879 rfl ?_
  obtain ⟨k3, hf⟩ := mm_ck_some hf
  refine me_sld (q := 1881) C hX dL_law_1880 k3 rfl ?_
  refine me_aload_n (q := 1882) C dL_law_1881 rfl rfl rfl ?_
  refine me_iload_n (q := 1883) C dL_law_1882 rfl rfl rfl ?_
  refine me_iconst (v := (4 : Int32)) (q := 1884) C dL_law_1883 (by decide) rfl ?_
  refine me_iadd (q := 1885) C dL_law_1884 rfl ?_
  obtain ⟨k4, hf⟩ := mm_ck_some hf
  refine me_sld (q := 1886) C hX dL_law_1885 k4 rfl ?_
  obtain ⟨k5, hf⟩ := mm_ck_some hf
  obtain ⟨v6, g7, e8, hf⟩ := mm_cl_some hf
  refine me_callV (q := 1889) (c2 := cl + 0) (s2 := sl + 0) (st := []) C (cX11_entry_ok _ e8) mt_L_199 mv_X11_entry rfl (by decide) dL_law_1886 rfl k5 rfl rfl rfl (Nat.le_of_ble_eq_true rfl) (by omega) (by omega) (by omega) (by omega) rfl rfl ?_
  refine me_aload_n (q := 1890) C dL_law_1889 rfl rfl rfl ?_
  refine me_aload_n (q := 1891) C dL_law_1890 rfl rfl rfl ?_
  refine me_iload_n (q := 1892) C dL_law_1891 rfl rfl rfl ?_
  refine me_iconst (v := (1 : Int32)) (q := 1893) C dL_law_1892 (by decide) rfl ?_
  refine me_iadd (q := 1894) C dL_law_1893 rfl ?_
  obtain ⟨k9, hf⟩ := mm_ck_some hf
  refine me_sld (q := 1895) C hX dL_law_1894 k9 rfl ?_
  refine me_aload_n (q := 1896) C dL_law_1895 rfl rfl rfl ?_
  refine me_iload_n (q := 1897) C dL_law_1896 rfl rfl rfl ?_
  refine me_iconst (v := (2 : Int32)) (q := 1898) C dL_law_1897 (by decide) rfl ?_
  refine me_iadd (q := 1899) C dL_law_1898 rfl ?_
  obtain ⟨k10, hf⟩ := mm_ck_some hf
  refine me_sld (q := 1900) C hX dL_law_1899 k10 rfl ?_
  refine me_aload_n (q := 1901) C dL_law_1900 rfl rfl rfl ?_
  refine me_iload_n (q := 1902) C dL_law_1901 rfl rfl rfl ?_
  refine me_iconst (v := (3 : Int32)) (q := 1903) C dL_law_1902 (by decide) rfl ?_
  refine me_iadd (q := 1904) C dL_law_1903 rfl ?_
  obtain ⟨k11, hf⟩ := mm_ck_some hf
  refine me_sld (q := 1905) C hX dL_law_1904 k11 rfl ?_
  refine me_aload_n (q := 1906) C dL_law_1905 rfl rfl rfl ?_
  refine me_iload_n (q := 1907) C dL_law_1906 rfl rfl rfl ?_
  refine me_iconst (v := (4 : Int32)) (q := 1908) C dL_law_1907 (by decide) rfl ?_
  refine me_iadd (q := 1909) C dL_law_1908 rfl ?_
  obtain ⟨k12, hf⟩ := mm_ck_some hf
  refine me_sld (q := 1910) C hX dL_law_1909 k12 rfl ?_
  obtain ⟨k13, hf⟩ := mm_ck_some hf
  obtain ⟨v14, g15, e16, hf⟩ := mm_cl_some hf
  refine me_callV (q := 1913) (c2 := cl + 0) (s2 := sl + 0) (st := [vI v6]) C (cX12_entry_ok _ e16) mt_L_202 mv_X12_entry rfl (by decide) dL_law_1910 rfl k13 rfl rfl rfl (Nat.le_of_ble_eq_true rfl) (by omega) (by omega) (by omega) (by omega) rfl rfl ?_
  refine me_icmp_eq (q2 := 2011) (q := 1916) C dL_law_1913 (by decide) rfl (fun c17 => ?_) (fun c17 => ?_)
  · have hf := mm_if_t c17 hf
    refine me_widen (by omega) (by omega) (hk _ hf)
  · have hf := mm_if_f c17 hf
    refine me_iconst (v := (0 : Int32)) (q := 1917) C dL_law_1916 (by decide) rfl ?_
    exact absurd hf (by simp)
set_option maxRecDepth 100000 in
set_option maxHeartbeats 4000000 in
theorem cL_c44 {X : mm_X} (C : mm_C X cL_law yL_law 1300 183448 8551906) {sb L : Nat} {xs : Nat → Int32} (hX : mm_scr X sb L xs) {cl sl : Nat} (hcl : cl + 350 ≤ 183448) (hsl : sl + 16500 ≤ 8551906) {ax ay : Nat} {xi : Int32} {K : mm_H → Option (Int32 × mm_H)} {u : Int32 × mm_H} (hk : ∀ h, K h = some u → mm_E X h (cl + 350) (sl + 16500) 2011 [some (vR (some sb)), some (vR (some ax)), some (vR (some ay)), some (vI xi)] []) : ∀ h, fL_c44 L xs ax ay xi K h = some u → mm_E X h (cl + 0) (sl + 0) 1918 [some (vR (some sb)), some (vR (some ax)), some (vR (some ay)), some (vI xi)] [] := by
  intro h hf
  unfold fL_c44 at hf
  refine me_aload_n (q := 1919) C dL_law_1918 rfl rfl rfl ?_
  obtain ⟨k1, hf⟩ := mm_ck_some hf
  obtain ⟨v2, g3, e4, hf⟩ := mm_cl_some hf
  refine me_callV (q := 1922) (c2 := cl + 0) (s2 := sl + 0) (st := []) C (cX11_clear_ok _ e4) mt_L_203 mv_X11_clear rfl (by decide) dL_law_1919 rfl k1 rfl rfl rfl (Nat.le_of_ble_eq_true rfl) (by omega) (by omega) (by omega) (by omega) rfl rfl ?_
  refine me_aload_n (q := 1923) C dL_law_1922 rfl rfl rfl ?_
  obtain ⟨k5, hf⟩ := mm_ck_some hf
  obtain ⟨v6, g7, e8, hf⟩ := mm_cl_some hf
  refine me_callV (q := 1926) (c2 := cl + 0) (s2 := sl + 0) (st := [vI v2]) C (cX12_clear_ok _ e8) mt_L_207 mv_X12_clear rfl (by decide) dL_law_1923 rfl k5 rfl rfl rfl (Nat.le_of_ble_eq_true rfl) (by omega) (by omega) (by omega) (by omega) rfl rfl ?_
  refine me_icmp_eq (q2 := 2011) (q := 1929) C dL_law_1926 (by decide) rfl (fun c9 => ?_) (fun c9 => ?_)
  · have hf := mm_if_t c9 hf
    refine me_widen (by omega) (by omega) (hk _ hf)
  · have hf := mm_if_f c9 hf
    refine me_iconst (v := (0 : Int32)) (q := 1930) C dL_law_1929 (by decide) rfl ?_
    exact absurd hf (by simp)
set_option maxRecDepth 100000 in
set_option maxHeartbeats 4000000 in
theorem cL_c45 {X : mm_X} (C : mm_C X cL_law yL_law 1300 183448 8551906) {sb L : Nat} {xs : Nat → Int32} (hX : mm_scr X sb L xs) {cl sl : Nat} (hcl : cl + 350 ≤ 183448) (hsl : sl + 16500 ≤ 8551906) {ax ay : Nat} {xi : Int32} {K : mm_H → Option (Int32 × mm_H)} {u : Int32 × mm_H} (hk : ∀ h, K h = some u → mm_E X h (cl + 350) (sl + 16500) 2011 [some (vR (some sb)), some (vR (some ax)), some (vR (some ay)), some (vI xi)] []) : ∀ h, fL_c45 L xs ax ay xi K h = some u → mm_E X h (cl + 0) (sl + 0) 1931 [some (vR (some sb)), some (vR (some ax)), some (vR (some ay)), some (vI xi)] [] := by
  intro h hf
  unfold fL_c45 at hf
  refine me_aload_n (q := 1932) C dL_law_1931 rfl rfl rfl ?_
  refine me_aload_n (q := 1933) C dL_law_1932 rfl rfl rfl ?_
  refine me_iload_n (q := 1934) C dL_law_1933 rfl rfl rfl ?_
  refine me_iconst (v := (1 : Int32)) (q := 1935) C dL_law_1934 (by decide) rfl ?_
  refine me_iadd (q := 1936) C dL_law_1935 rfl ?_
  obtain ⟨k1, hf⟩ := mm_ck_some hf
  refine me_sld (q := 1937) C hX dL_law_1936 k1 rfl ?_
  refine me_aload_n (q := 1938) C dL_law_1937 rfl rfl rfl ?_
  refine me_iload_n (q := 1939) C dL_law_1938 rfl rfl rfl ?_
  refine me_iconst (v := (2 : Int32)) (q := 1940) C dL_law_1939 (by decide) rfl ?_
  refine me_iadd (q := 1941) C dL_law_1940 rfl ?_
  obtain ⟨k2, hf⟩ := mm_ck_some hf
  refine me_sld (q := 1942) C hX dL_law_1941 k2 rfl ?_
  obtain ⟨k3, hf⟩ := mm_ck_some hf
  obtain ⟨v4, g5, e6, hf⟩ := mm_cl_some hf
  refine me_callV (q := 1945) (c2 := cl + 1) (s2 := sl + 11264) (st := []) C (cX11_join_ok _ e6) mt_L_208 mv_X11_join rfl (by decide) dL_law_1942 rfl k3 rfl rfl rfl (Nat.le_of_ble_eq_true rfl) (by omega) (by omega) (by omega) (by omega) rfl rfl ?_
  refine me_aload_n (q := 1946) C dL_law_1945 rfl rfl rfl ?_
  refine me_aload_n (q := 1947) C dL_law_1946 rfl rfl rfl ?_
  refine me_iload_n (q := 1948) C dL_law_1947 rfl rfl rfl ?_
  refine me_iconst (v := (1 : Int32)) (q := 1949) C dL_law_1948 (by decide) rfl ?_
  refine me_iadd (q := 1950) C dL_law_1949 rfl ?_
  obtain ⟨k7, hf⟩ := mm_ck_some hf
  refine me_sld (q := 1951) C hX dL_law_1950 k7 rfl ?_
  refine me_aload_n (q := 1952) C dL_law_1951 rfl rfl rfl ?_
  refine me_iload_n (q := 1953) C dL_law_1952 rfl rfl rfl ?_
  refine me_iconst (v := (2 : Int32)) (q := 1954) C dL_law_1953 (by decide) rfl ?_
  refine me_iadd (q := 1955) C dL_law_1954 rfl ?_
  obtain ⟨k8, hf⟩ := mm_ck_some hf
  refine me_sld (q := 1956) C hX dL_law_1955 k8 rfl ?_
  obtain ⟨k9, hf⟩ := mm_ck_some hf
  obtain ⟨v10, g11, e12, hf⟩ := mm_cl_some hf
  refine me_callV (q := 1959) (c2 := cl + 1) (s2 := sl + 11264) (st := [vI v4]) C (cX12_join_ok _ e12) mt_L_211 mv_X12_join rfl (by decide) dL_law_1956 rfl k9 rfl rfl rfl (Nat.le_of_ble_eq_true rfl) (by omega) (by omega) (by omega) (by omega) rfl rfl ?_
  refine me_icmp_eq (q2 := 2011) (q := 1962) C dL_law_1959 (by decide) rfl (fun c13 => ?_) (fun c13 => ?_)
  · have hf := mm_if_t c13 hf
    refine me_widen (by omega) (by omega) (hk _ hf)
  · have hf := mm_if_f c13 hf
    refine me_iconst (v := (0 : Int32)) (q := 1963) C dL_law_1962 (by decide) rfl ?_
    exact absurd hf (by simp)
set_option maxRecDepth 100000 in
set_option maxHeartbeats 4000000 in
theorem cL_c46 {X : mm_X} (C : mm_C X cL_law yL_law 1300 183448 8551906) {sb L : Nat} {xs : Nat → Int32} (hX : mm_scr X sb L xs) {cl sl : Nat} (hcl : cl + 350 ≤ 183448) (hsl : sl + 16500 ≤ 8551906) {ax ay : Nat} {xi : Int32} {K : mm_H → Option (Int32 × mm_H)} {u : Int32 × mm_H} (hk : ∀ h, K h = some u → mm_E X h (cl + 350) (sl + 16500) 2011 [some (vR (some sb)), some (vR (some ax)), some (vR (some ay)), some (vI xi)] []) : ∀ h, fL_c46 L xs ax ay xi K h = some u → mm_E X h (cl + 0) (sl + 0) 1964 [some (vR (some sb)), some (vR (some ax)), some (vR (some ay)), some (vI xi)] [] := by
  intro h hf
  unfold fL_c46 at hf
  refine me_aload_n (q := 1965) C dL_law_1964 rfl rfl rfl ?_
  refine me_aload_n (q := 1966) C dL_law_1965 rfl rfl rfl ?_
  refine me_iload_n (q := 1967) C dL_law_1966 rfl rfl rfl ?_
  refine me_iconst (v := (1 : Int32)) (q := 1968) C dL_law_1967 (by decide) rfl ?_
  refine me_iadd (q := 1969) C dL_law_1968 rfl ?_
  obtain ⟨k1, hf⟩ := mm_ck_some hf
  refine me_sld (q := 1970) C hX dL_law_1969 k1 rfl ?_
  obtain ⟨k2, hf⟩ := mm_ck_some hf
  obtain ⟨v3, g4, e5, hf⟩ := mm_cl_some hf
  refine me_callV (q := 1973) (c2 := cl + 0) (s2 := sl + 0) (st := []) C (cX11_joined_ok _ e5) mt_L_212 mv_X11_joined rfl (by decide) dL_law_1970 rfl k2 rfl rfl rfl (Nat.le_of_ble_eq_true rfl) (by omega) (by omega) (by omega) (by omega) rfl rfl ?_
  refine me_aload_n (q := 1974) C dL_law_1973 rfl rfl rfl ?_
  refine me_aload_n (q := 1975) C dL_law_1974 rfl rfl rfl ?_
  refine me_iload_n (q := 1976) C dL_law_1975 rfl rfl rfl ?_
  refine me_iconst (v := (1 : Int32)) (q := 1977) C dL_law_1976 (by decide) rfl ?_
  refine me_iadd (q := 1978) C dL_law_1977 rfl ?_
  obtain ⟨k6, hf⟩ := mm_ck_some hf
  refine me_sld (q := 1979) C hX dL_law_1978 k6 rfl ?_
  obtain ⟨k7, hf⟩ := mm_ck_some hf
  obtain ⟨v8, g9, e10, hf⟩ := mm_cl_some hf
  refine me_callV (q := 1982) (c2 := cl + 0) (s2 := sl + 0) (st := [vI v3]) C (cX12_joined_ok _ e10) mt_L_215 mv_X12_joined rfl (by decide) dL_law_1979 rfl k7 rfl rfl rfl (Nat.le_of_ble_eq_true rfl) (by omega) (by omega) (by omega) (by omega) rfl rfl ?_
  refine me_icmp_eq (q2 := 2011) (q := 1985) C dL_law_1982 (by decide) rfl (fun c11 => ?_) (fun c11 => ?_)
  · have hf := mm_if_t c11 hf
    refine me_widen (by omega) (by omega) (hk _ hf)
  · have hf := mm_if_f c11 hf
    refine me_iconst (v := (0 : Int32)) (q := 1986) C dL_law_1985 (by decide) rfl ?_
    exact absurd hf (by simp)
set_option maxRecDepth 100000 in
set_option maxHeartbeats 4000000 in
theorem cL_c47 {X : mm_X} (C : mm_C X cL_law yL_law 1300 183448 8551906) {sb L : Nat} {xs : Nat → Int32} (hX : mm_scr X sb L xs) {cl sl : Nat} (hcl : cl + 350 ≤ 183448) (hsl : sl + 16500 ≤ 8551906) {ax ay : Nat} {xi : Int32} {K : mm_H → Option (Int32 × mm_H)} {u : Int32 × mm_H} (hk : ∀ h, K h = some u → mm_E X h (cl + 350) (sl + 16500) 2011 [some (vR (some sb)), some (vR (some ax)), some (vR (some ay)), some (vI xi)] []) : ∀ h, fL_c47 L xs ax ay xi K h = some u → mm_E X h (cl + 0) (sl + 0) 1987 [some (vR (some sb)), some (vR (some ax)), some (vR (some ay)), some (vI xi)] [] := by
  intro h hf
  unfold fL_c47 at hf
  refine me_aload_n (q := 1988) C dL_law_1987 rfl rfl rfl ?_
  refine me_aload_n (q := 1989) C dL_law_1988 rfl rfl rfl ?_
  refine me_iload_n (q := 1990) C dL_law_1989 rfl rfl rfl ?_
  refine me_iconst (v := (1 : Int32)) (q := 1991) C dL_law_1990 (by decide) rfl ?_
  refine me_iadd (q := 1992) C dL_law_1991 rfl ?_
  obtain ⟨k1, hf⟩ := mm_ck_some hf
  refine me_sld (q := 1993) C hX dL_law_1992 k1 rfl ?_
  obtain ⟨k2, hf⟩ := mm_ck_some hf
  obtain ⟨v3, g4, e5, hf⟩ := mm_cl_some hf
  refine me_callV (q := 1996) (c2 := cl + 0) (s2 := sl + 0) (st := []) C (cX11_count_ok _ e5) mt_L_216 mv_X11_count rfl (by decide) dL_law_1993 rfl k2 rfl rfl rfl (Nat.le_of_ble_eq_true rfl) (by omega) (by omega) (by omega) (by omega) rfl rfl ?_
  refine me_aload_n (q := 1997) C dL_law_1996 rfl rfl rfl ?_
  refine me_aload_n (q := 1998) C dL_law_1997 rfl rfl rfl ?_
  refine me_iload_n (q := 1999) C dL_law_1998 rfl rfl rfl ?_
  refine me_iconst (v := (1 : Int32)) (q := 2000) C dL_law_1999 (by decide) rfl ?_
  refine me_iadd (q := 2001) C dL_law_2000 rfl ?_
  obtain ⟨k6, hf⟩ := mm_ck_some hf
  refine me_sld (q := 2002) C hX dL_law_2001 k6 rfl ?_
  obtain ⟨k7, hf⟩ := mm_ck_some hf
  obtain ⟨v8, g9, e10, hf⟩ := mm_cl_some hf
  refine me_callV (q := 2005) (c2 := cl + 0) (s2 := sl + 0) (st := [vJ v3]) C (cX12_count_ok _ e10) mt_L_219 mv_X12_count rfl (by decide) dL_law_2002 rfl k7 rfl rfl rfl (Nat.le_of_ble_eq_true rfl) (by omega) (by omega) (by omega) (by omega) rfl rfl ?_
  refine me_lcmp (q := 2006) C dL_law_2005 rfl ?_
  refine me_if_eq (q2 := 2011) (q := 2009) C dL_law_2006 (by decide) rfl (fun c11 => ?_) (fun c11 => ?_)
  · have hf := mm_if_t c11 hf
    refine me_widen (by omega) (by omega) (hk _ hf)
  · have hf := mm_if_f c11 hf
    refine me_iconst (v := (0 : Int32)) (q := 2010) C dL_law_2009 (by decide) rfl ?_
    exact absurd hf (by simp)
set_option maxRecDepth 100000 in
set_option maxHeartbeats 4000000 in
theorem cL_s {X : mm_X} (C : mm_C X cL_law yL_law 1300 183448 8551906) {sb : Nat} {cl sl : Nat} (hcl : cl + 200 ≤ 183448) (hsl : sl + 80000 ≤ 8551906) {K : Nat → Nat → Int32 → mm_H → Option (Int32 × mm_H)} {u : Int32 × mm_H} (hk : ∀ ax ay xi h, K ax ay xi h = some u → mm_E X h (cl + 200) (sl + 80000) 18 [some (vR (some sb)), some (vR (some ax)), some (vR (some ay)), some (vI xi)] []) : ∀ h, fL_s K h = some u → mm_E X h (cl + 0) (sl + 0) 0 [some (vR (some sb)), none, none, none] [] := by
  intro h hf
  unfold fL_s at hf
  obtain ⟨g1, eg1, hf⟩ := mm_lt_some hf
  obtain ⟨u2, eu2, hf⟩ := mm_lt_some hf
  refine me_newH (q := 3) (c2 := cl + 1) (s2 := sl + 15) C eg1 dL_law_0 mn_L_7 (by omega) (by omega) (by omega) (by omega) rfl ?_
  refine me_topR (congrArg some eu2) ?_
  have k3 : mm_kd g1 u2 = 12 := by rw [eu2]; exact mm_kN eg1
  refine me_dup (q := 4) C dL_law_3 rfl rfl ?_
  obtain ⟨_, g4, e5, hf⟩ := mm_cl_some hf
  refine me_callI (q := 7) (c2 := cl + 66) (s2 := sl + 4429) (st := [vR (some u2)]) C (cX11_init_ok _ e5) mt_L_9 mi_X11_init dL_law_4 rfl rfl rfl rfl (Nat.le_of_ble_eq_true rfl) (by omega) (by omega) (by omega) (by omega) rfl rfl ?_
  refine me_astore_n (q := 8) (lv2 := [some (vR (some sb)), some (vR (some u2)), none, none]) C dL_law_7 rfl (Nat.le_of_ble_eq_true rfl) rfl rfl rfl ?_
  obtain ⟨g6, eg6, hf⟩ := mm_lt_some hf
  obtain ⟨u7, eu7, hf⟩ := mm_lt_some hf
  refine me_newH (q := 11) (c2 := cl + 67) (s2 := sl + 4546) C eg6 dL_law_8 mn_L_10 (by omega) (by omega) (by omega) (by omega) rfl ?_
  refine me_topR (congrArg some eu7) ?_
  have k8 : mm_kd g6 u7 = 13 := by rw [eu7]; exact mm_kN eg6
  refine me_dup (q := 12) C dL_law_11 rfl rfl ?_
  obtain ⟨_, g9, e10, hf⟩ := mm_cl_some hf
  refine me_callI (q := 15) (c2 := cl + 147) (s2 := sl + 53413) (st := [vR (some u7)]) C (cX12_init_ok _ e10) mt_L_12 mi_X12_init dL_law_12 rfl rfl rfl rfl (Nat.le_of_ble_eq_true rfl) (by omega) (by omega) (by omega) (by omega) rfl rfl ?_
  refine me_astore_n (q := 16) (lv2 := [some (vR (some sb)), some (vR (some u2)), some (vR (some u7)), none]) C dL_law_15 rfl (Nat.le_of_ble_eq_true rfl) rfl rfl rfl ?_
  refine me_iconst (v := (0 : Int32)) (q := 17) C dL_law_16 (by decide) rfl ?_
  refine me_istore_n (q := 18) (lv2 := [some (vR (some sb)), some (vR (some u2)), some (vR (some u7)), some (vI (0 : Int32))]) C dL_law_17 rfl (Nat.le_of_ble_eq_true rfl) rfl rfl rfl ?_
  refine me_widen (by omega) (by omega) (hk _ _ _ _ hf)
