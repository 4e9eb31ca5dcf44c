/-! contracts of the reference: statements -/
section PSJ
variable {X : ev_X} {W : Nat → Prop} {d : Nat} {P : MP}
theorem st_byPlace (hP : XC X W P 331 [] 2 7 2 1 1 d) (hC : CallC X W P d) (hE : XC X W P 332 [] 1 20 12 0 0 d) : FiC X W P 329 1 1 (d + 1) := fun μ T h9 s hS hd hh hn hT s0 s1 nd0 => by
  have hp := px0 hS
  have h0 := hS.2.2.2.2.1
  have at0 := hS.at
  have hcs := @ic s
  obtain ⟨h, rfl⟩ : ∃ h, h9 = h + 1 := ⟨h9 - 1, by omega⟩
  have p0 : TR s.toInt 0 0 0 0 0 μ μ := TR.rf hS
  have lt0 : s.toInt < (μ.1 19).toInt := by omega
  have s9 : s.toInt < 15990 := by omega
  have cv0 : CVs μ (s.toInt + 1) (μ.1 19).toInt [] := CVs.nil (by omega)
  obtain ⟨K, hK⟩ : ∃ K : Nat, (K : Int) + (μ.1 40).toInt = 20 := ⟨(20 - (μ.1 40).toInt).toNat, by have := hS.2.2.2.2.2.2.2.2; omega⟩
  refine me_meth (by omega) rfl (v_byPlace_0 _ ?_)
  obtain ⟨A1194, hA1195⟩ : ∃ A : Int, A = (μ.1 19).toInt := ⟨_, rfl⟩
  have x1199 := p0.px
  have u1200 := p0.2
  have y1201 := tT p0
  have z1202 := px0 p0.ps
  refine MC.mono (hP μ T h p0.ps (by omega) (by omega) (by omega) (fun _ h => hT _ (p0.1.1.tr h))) (fun r1196 κ1197 h1198 => ?_) (fun _ h => h)
  obtain ⟨q1203, a1205, g1204, n1206, c1207⟩ := h1198
  have l1208 := q1203.l19
  have l1209 := q1203.l32
  have p1210 : TR (s.toInt) (0) 0 0 0 (0) μ κ1197 := p0.trS q1203 (Or.inl (by decide)) rfl rfl rfl rfl (by omega)
  have cv1211 : CVs κ1197 (s.toInt + 1) ((κ1197).1 19).toInt [r1196] := cv0.add q1203.rb (Int.le_refl _) (Or.inl (by omega)) (by omega) l1208 (LCO.of g1204.in.1 c1207)
  have cx1212 := cv0.rb q1203.rb (by omega) (Or.inl (by omega))
  have nd1213 := nd0.tr q1203 (by have := @ic s; omega) (by omega)
  have lt1214 : s.toInt < (κ1197.1 19).toInt := by omega
  have k1215 : Kd κ1197 h s.toInt s 2 r1196 := Kd.of g1204 (by omega) (Int.le_refl _) s0 (Or.inl (by omega)) n1206
  obtain ⟨A1216, hA1217⟩ : ∃ A : Int, A = (κ1197.1 19).toInt := ⟨_, rfl⟩
  have b1218 : FK κ1197 (h) K 1 (1, 2) A1194 A1216 0 r1196 := FK.one (by omega) (g1204.up (Nat.le_refl _) (by omega) (by omega)) n1206 (by decide) (by decide)
  have p1219 : TR (s.toInt) (0) 0 0 0 (-1) μ κ1197 := ⟨p1210.1, by have := p1210.2; have := q1203.2; omega⟩
  refine MC.mono (c_is (by omega) p1219.ps) (fun r1220 κ1221 h1222 => ?_) (fun _ h => h)
  obtain ⟨rfl, rfl⟩ := h1222
  refine ⟨fun _ => ?_, fun _ => ?_⟩
  · skip
    refine MC.mono (t_expect (by omega) p1219.ps (by decide) (fun _ h => hT _ (p1219.1.1.tr h))) (fun v1223 κ1228 h1224 => ?_) (fun _ h => h)
    obtain ⟨q1225, m1226, a1227⟩ := h1224
    have p1229 : TR (s.toInt) (0) 0 0 0 (-3) μ κ1228 := p1219.trS q1225 (Or.inl (by decide)) rfl rfl rfl rfl (by omega)
    have k1230 := k1215.tr q1225 (Or.inl (by decide)) s0
    have cv1231 : CVs κ1228 (s.toInt + 1) ((κ1228).1 19).toInt [r1196] := cv1211.st q1225.rb (Int.le_refl _) (Or.inl (by omega)) m1226
    have b1232 := FK.tr b1218 q1225 (by omega) (by omega)
    have nd1233 := nd1213.tr q1225 (by have := @ic s; omega) (by omega)
    have lt1234 : s.toInt < (κ1228.1 19).toInt := by omega
    have g1235 : TR s.toInt 0 0 0 0 0 κ1228 (mA1 κ1228 22 s.toNatClampNeg r1196) := TR.put p1229.ps s0 rfl rfl
    have e1237 : ((mA1 κ1228 22 s.toNatClampNeg r1196).1 19).toInt = (κ1228.1 19).toInt := rfl
    have e1238 : ((mA1 κ1228 22 s.toNatClampNeg r1196).1 32).toInt = (κ1228.1 32).toInt := rfl
    have sr1240 : srt (mA1 κ1228 22 s.toNatClampNeg r1196) = srt κ1228 := srt_off rfl
    have nd1239 := nd1233.pa (x := r1196)
    have p1241 : TR (s.toInt) (0) 0 0 0 (-3) μ (mA1 κ1228 22 s.toNatClampNeg r1196) := p1229.trS g1235 (Or.inr (Or.inl rfl)) rfl rfl rfl rfl (by omega)
    have k1242 := k1230.tr g1235 (Or.inr rfl) s0
    have cv1243 : CVs (mA1 κ1228 22 s.toNatClampNeg r1196) (s.toInt + 1) (((mA1 κ1228 22 s.toNatClampNeg r1196)).1 19).toInt [r1196] := cv1231.st g1235.rb (Int.le_refl _) (Or.inl (by omega)) rfl
    have b1244 := FK.tr b1232 g1235 (by omega) (by omega)
    refine ⟨TR.mi p1229.ps rfl rfl s0 (by omega), ?_⟩
    generalize mA1 κ1228 22 s.toNatClampNeg r1196 = κ1236 at *
    have lt1245 : s.toInt < (κ1236.1 19).toInt := by omega
    refine MC.mono (c_is (by omega) p1241.ps) (fun r1246 κ1247 h1248 => ?_) (fun _ h => h)
    obtain ⟨rfl, rfl⟩ := h1248
    refine ⟨fun _ => ?_, fun hw => ?_⟩
    · skip
      have g1249 : TR s.toInt 0 0 0 0 0 κ1247 (mA1 κ1247 20 s.toNatClampNeg 40) := TR.put p1241.ps s0 rfl rfl
      have e1251 : ((mA1 κ1247 20 s.toNatClampNeg 40).1 19).toInt = (κ1247.1 19).toInt := rfl
      have e1252 : ((mA1 κ1247 20 s.toNatClampNeg 40).1 32).toInt = (κ1247.1 32).toInt := rfl
      have sr1254 : srt (mA1 κ1247 20 s.toNatClampNeg 40) = srt κ1247 := srt_off rfl
      have nd1253 := nd1239.pk (x := 40)
      have p1255 : TR (s.toInt) (0) 0 0 0 (-3) μ (mA1 κ1247 20 s.toNatClampNeg 40) := p1241.trS g1249 (Or.inr (Or.inl rfl)) rfl rfl rfl rfl (by omega)
      have k1256 := k1242.tr g1249 (Or.inr rfl) s0
      have cv1257 : CVs (mA1 κ1247 20 s.toNatClampNeg 40) (s.toInt + 1) (((mA1 κ1247 20 s.toNatClampNeg 40)).1 19).toInt [r1196] := cv1243.st g1249.rb (Int.le_refl _) (Or.inl (by omega)) rfl
      have b1258 := FK.tr b1244 g1249 (by omega) (by omega)
      refine ⟨TR.mi p1241.ps rfl rfl s0 (by omega), ?_⟩
      generalize mA1 κ1247 20 s.toNatClampNeg 40 = κ1250 at *
      have lt1259 : s.toInt < (κ1250.1 19).toInt := by omega
      have x1263 := p1255.px
      have u1264 := p1255.2
      have y1265 := tT p1255
      have z1266 := px0 p1255.ps
      refine MC.mono (hE κ1250 T h p1255.ps (by omega) (by omega) (by omega) (fun _ h => hT _ (p1255.1.1.tr h))) (fun r1260 κ1261 h1262 => ?_) (fun _ h => h)
      obtain ⟨q1267, a1269, g1268, n1270, c1271⟩ := h1262
      have l1272 := q1267.l19
      have l1273 := q1267.l32
      have p1274 : TR (s.toInt) (0) 0 0 0 (-3) μ κ1261 := p1255.trS q1267 (Or.inl (by decide)) rfl rfl rfl rfl (by omega)
      have k1275 := k1256.tr q1267 (Or.inl (by decide)) s0
      have cv1276 : CVs κ1261 (s.toInt + 1) ((κ1261).1 19).toInt [r1260, r1196] := cv1257.add q1267.rb (Int.le_refl _) (Or.inl (by omega)) (by omega) l1272 (LCO.of g1268.in.1 c1271)
      have b1277 := FK.tr b1258 q1267 (by omega) (by omega)
      have cx1278 := cv1257.rb q1267.rb (by omega) (Or.inl (by omega))
      have nd1279 := nd1253.tr q1267 (by have := @ic s; omega) (by omega)
      have lt1280 : s.toInt < (κ1261.1 19).toInt := by omega
      have k1281 : Kd κ1261 h s.toInt s 1 r1260 := Kd.of g1268 (by omega) (Int.le_refl _) s0 (Or.inl (by omega)) n1270
      obtain ⟨A1282, hA1283⟩ : ∃ A : Int, A = (κ1261.1 19).toInt := ⟨_, rfl⟩
      have b1284 : FK κ1261 (h) K 1 (1, 1) A1216 A1282 0 r1260 := FK.one (by omega) (g1268.up (Nat.le_refl _) (by omega) (by omega)) n1270 (by decide) (by decide)
      have g1285 : TR s.toInt 0 0 0 0 0 κ1261 (mA1 κ1261 23 s.toNatClampNeg r1260) := TR.put p1274.ps s0 rfl rfl
      have e1287 : ((mA1 κ1261 23 s.toNatClampNeg r1260).1 19).toInt = (κ1261.1 19).toInt := rfl
      have e1288 : ((mA1 κ1261 23 s.toNatClampNeg r1260).1 32).toInt = (κ1261.1 32).toInt := rfl
      have sr1290 : srt (mA1 κ1261 23 s.toNatClampNeg r1260) = srt κ1261 := srt_off rfl
      have nd1289 := nd1279.pb (x := r1260)
      have p1291 : TR (s.toInt) (0) 0 0 0 (-3) μ (mA1 κ1261 23 s.toNatClampNeg r1260) := p1274.trS g1285 (Or.inr (Or.inl rfl)) rfl rfl rfl rfl (by omega)
      have k1292 := k1275.tr g1285 (Or.inr rfl) s0
      have k1293 := k1281.tr g1285 (Or.inr rfl) s0
      have cv1294 : CVs (mA1 κ1261 23 s.toNatClampNeg r1260) (s.toInt + 1) (((mA1 κ1261 23 s.toNatClampNeg r1260)).1 19).toInt [r1260, r1196] := cv1276.st g1285.rb (Int.le_refl _) (Or.inl (by omega)) rfl
      have b1295 := FK.tr b1277 g1285 (by omega) (by omega)
      have b1296 := FK.tr b1284 g1285 (by omega) (by omega)
      have co1297 := c1271.rb g1285.rb (by omega) (Or.inl (by omega))
      have cx1298 := cx1278.rb g1285.rb (by omega) (Or.inl (by omega))
      have lk1300 := G.lk g1268 g1285 (by omega) (Or.inl (by omega)) n1270
      have gg1299 := g1268.tr g1285 (by omega) (Or.inl (by omega))
      refine ⟨TR.mi p1274.ps rfl rfl s0 (by omega), ?_⟩
      generalize mA1 κ1261 23 s.toNatClampNeg r1260 = κ1286 at *
      have lt1301 : s.toInt < (κ1286.1 19).toInt := by omega
      refine MC.mono (c_is (by omega) p1291.ps) (fun r1302 κ1303 h1304 => ?_) (fun _ h => h)
      obtain ⟨rfl, rfl⟩ := h1304
      refine ⟨fun _ => ?_, fun _ => ?_⟩
      · skip
        exact ⟨⟨p1291.1, by have := p1291.2; omega⟩, G.mk s0 (Int.le_refl _) lt1301 nd1289 (by decide) (Kd.up k1292 (Nat.le_succ _)) (Kd.up k1293 (Nat.le_succ _)) True.intro True.intro True.intro, nd1289.2.2.2.2.2.2, (CO.fin' (by omega) cv1294 s0 ⟨fun h => Par.fb nd1289 (by decide) h, fun h => Par.fa nd1289 (by decide) h, True.intro⟩ lt1301), (fun K9 hK9 => by obtain rfl : K9 = K := (by omega); exact ⟨0 + 0 + 0 + 0 + 0 + 0, by omega, PK.mk (c0 := A1194) (v0 := 0) (v1 := 0) (v2 := 0) (v3 := 0) (v4 := 0) nd1289 s0 (by omega) (by omega) (by omega) (by decide) (by have e : ow (40 : Int32) = 0 := (by decide); omega) ((FK.up (by omega) b1295)) ((FK.up (by omega) b1296)) (FK.fr (Int.le_refl _)) (FK.fr (Int.le_refl _)) (FK.fr (Int.le_refl _))⟩)⟩
      · skip
        obtain ⟨i1, i2, i3⟩ := gg1299.in
        have hce := @ic r1260
        have uc := p1291.2
        have ac := p1291.ps.at
        have eb := nd1289.2.2.1
        refine ⟨TR.mi p1291.ps rfl rfl s0 (by omega), ?_⟩
        rw [eb]
        refine ⟨TR.mi p1291.ps rfl rfl i1 (by omega), fun _ => ?_, fun h70 => ⟨TR.mi p1291.ps rfl rfl s0 (by omega), TR.mi p1291.ps rfl rfl i1 (by omega), fun _ => ?_, fun _ => ?_⟩⟩
        · skip
          exact ⟨⟨p1291.1, by have := p1291.2; omega⟩, G.mk s0 (Int.le_refl _) lt1301 nd1289 (by decide) (Kd.up k1292 (Nat.le_succ _)) (Kd.up k1293 (Nat.le_succ _)) True.intro True.intro True.intro, nd1289.2.2.2.2.2.2, (CO.fin' (by omega) cv1294 s0 ⟨fun h => Par.fb nd1289 (by decide) h, fun h => Par.fa nd1289 (by decide) h, True.intro⟩ lt1301), (fun K9 hK9 => by obtain rfl : K9 = K := (by omega); exact ⟨0 + 0 + 0 + 0 + 0 + 0, by omega, PK.mk (c0 := A1194) (v0 := 0) (v1 := 0) (v2 := 0) (v3 := 0) (v4 := 0) nd1289 s0 (by omega) (by omega) (by omega) (by decide) (by have e : ow (40 : Int32) = 0 := (by decide); omega) ((FK.up (by omega) b1295)) ((FK.up (by omega) b1296)) (FK.fr (Int.le_refl _)) (FK.fr (Int.le_refl _)) (FK.fr (Int.le_refl _))⟩)⟩
        · skip
          exact ⟨⟨p1291.1, by have := p1291.2; omega⟩, G.mk s0 (Int.le_refl _) lt1301 nd1289 (by decide) (Kd.up k1292 (Nat.le_succ _)) (Kd.up k1293 (Nat.le_succ _)) True.intro True.intro True.intro, nd1289.2.2.2.2.2.2, (CO.fin' (by omega) cv1294 s0 ⟨fun h => Par.fb nd1289 (by decide) h, fun h => Par.fa nd1289 (by decide) h, True.intro⟩ lt1301), (fun K9 hK9 => by obtain rfl : K9 = K := (by omega); exact ⟨0 + 0 + 0 + 0 + 0 + 0, by omega, PK.mk (c0 := A1194) (v0 := 0) (v1 := 0) (v2 := 0) (v3 := 0) (v4 := 0) nd1289 s0 (by omega) (by omega) (by omega) (by decide) (by have e : ow (40 : Int32) = 0 := (by decide); omega) ((FK.up (by omega) b1295)) ((FK.up (by omega) b1296)) (FK.fr (Int.le_refl _)) (FK.fr (Int.le_refl _)) (FK.fr (Int.le_refl _))⟩)⟩
        · skip
          refine ⟨TR.mi p1291.ps rfl rfl s0 (by omega), ?_⟩
          have gg1305 := G.lp gg1299 h70
          have g1307 : TR s.toInt 0 0 0 0 0 κ1303 (mA1 κ1303 20 s.toNatClampNeg 42) := TR.put p1291.ps s0 rfl rfl
          have e1309 : ((mA1 κ1303 20 s.toNatClampNeg 42).1 19).toInt = (κ1303.1 19).toInt := rfl
          have e1310 : ((mA1 κ1303 20 s.toNatClampNeg 42).1 32).toInt = (κ1303.1 32).toInt := rfl
          have sr1312 : srt (mA1 κ1303 20 s.toNatClampNeg 42) = srt κ1303 := srt_off rfl
          have nd1311 := nd1289.pk (x := 42)
          have p1313 : TR (s.toInt) (0) 0 0 0 (-3) μ (mA1 κ1303 20 s.toNatClampNeg 42) := p1291.trS g1307 (Or.inr (Or.inl rfl)) rfl rfl rfl rfl (by omega)
          have k1314 := k1292.tr g1307 (Or.inr rfl) s0
          have cv1315 : CVs (mA1 κ1303 20 s.toNatClampNeg 42) (s.toInt + 1) (((mA1 κ1303 20 s.toNatClampNeg 42)).1 19).toInt [r1260, r1196] := cv1294.st g1307.rb (Int.le_refl _) (Or.inl (by omega)) rfl
          have b1316 := FK.tr b1295 g1307 (by omega) (by omega)
          have b1317 := FK.tr b1296 g1307 (by omega) (by omega)
          have co1318 := co1297.rb g1307.rb (by omega) (Or.inl (by omega))
          have cx1319 := cx1298.rb g1307.rb (by omega) (Or.inl (by omega))
          have lk1321 := G.lk gg1305 g1307 (by omega) (Or.inl (by omega)) lk1300
          have gg1320 := gg1305.tr g1307 (by omega) (Or.inl (by omega))
          refine ⟨TR.mi p1291.ps rfl rfl s0 (by omega), ?_⟩
          generalize mA1 κ1303 20 s.toNatClampNeg 42 = κ1308 at *
          have lt1322 : s.toInt < (κ1308.1 19).toInt := by omega
          have x1331 := p1313.px
          have u1332 := p1313.2
          have y1333 := tT p1313
          have z1334 := px0 p1313.ps
          refine MC.mono (hC κ1308 T h r1260 (_) p1313.ps (by omega) (by omega) (by omega) (by omega) (by omega) (gg1320.up (Nat.le_refl _) (Int.le_refl _) (by omega)) (CO.ub co1318 (by omega)) lk1321 (fun _ h => hT _ (p1313.1.1.tr h))) (fun r1324 κ1325 h1326 => ?_) (fun _ h => h)
          obtain ⟨q1327, a1328, g1329, n1330, c1335⟩ := h1326
          have l1336 := q1327.l19
          have l1337 := q1327.l32
          have p1338 : TR (s.toInt) (0) 0 0 0 (-3) μ κ1325 := p1313.trS q1327 (Or.inl (by decide)) rfl rfl rfl rfl (by omega)
          have k1339 := k1314.tr q1327 (Or.inl (by decide)) s0
          have b1340 := FK.tr b1316 q1327 (by omega) (by omega)
          have cx1341 := cx1319.rb q1327.rb (by omega) (Or.inl (by omega))
          have cv1342 : CVs κ1325 (s.toInt + 1) (κ1325.1 19).toInt [r1324, r1196] := cx1341.add (e := -1) (n := (κ1325.1 19).toInt) RB.rf (by omega) (Or.inl (by omega)) (by omega) (by omega) (LCO.of g1329.in.1 c1335)
          have nd1343 := nd1311.tr q1327 (by have := @ic s; omega) (by omega)
          have lt1344 : s.toInt < (κ1325.1 19).toInt := by omega
          have k1345 : Kd κ1325 (h + 1) s.toInt s 17 r1324 := Kd.of g1329 (by omega) (Int.le_refl _) s0 (Or.inl (by omega)) n1330
          obtain ⟨A1346, hA1347⟩ : ∃ A : Int, A = (κ1325.1 19).toInt := ⟨_, rfl⟩
          have b1348 : FK κ1325 (h + 1) K 1 (1, 17) A1216 A1346 0 r1324 := FK.one (by omega) (g1329.up (Nat.le_refl _) (by omega) (by omega)) n1330 (by decide) (by decide)
          have g1349 : TR s.toInt 0 0 0 0 0 κ1325 (mA1 κ1325 23 s.toNatClampNeg r1324) := TR.put p1338.ps s0 rfl rfl
          have e1351 : ((mA1 κ1325 23 s.toNatClampNeg r1324).1 19).toInt = (κ1325.1 19).toInt := rfl
          have e1352 : ((mA1 κ1325 23 s.toNatClampNeg r1324).1 32).toInt = (κ1325.1 32).toInt := rfl
          have sr1354 : srt (mA1 κ1325 23 s.toNatClampNeg r1324) = srt κ1325 := srt_off rfl
          have nd1353 := nd1343.pb (x := r1324)
          have p1355 : TR (s.toInt) (0) 0 0 0 (-3) μ (mA1 κ1325 23 s.toNatClampNeg r1324) := p1338.trS g1349 (Or.inr (Or.inl rfl)) rfl rfl rfl rfl (by omega)
          have k1356 := k1339.tr g1349 (Or.inr rfl) s0
          have k1357 := k1345.tr g1349 (Or.inr rfl) s0
          have cv1358 : CVs (mA1 κ1325 23 s.toNatClampNeg r1324) (s.toInt + 1) (((mA1 κ1325 23 s.toNatClampNeg r1324)).1 19).toInt [r1324, r1196] := cv1342.st g1349.rb (Int.le_refl _) (Or.inl (by omega)) rfl
          have b1359 := FK.tr b1340 g1349 (by omega) (by omega)
          have b1360 := FK.tr b1348 g1349 (by omega) (by omega)
          refine ⟨TR.mi p1338.ps rfl rfl s0 (by omega), ?_⟩
          generalize mA1 κ1325 23 s.toNatClampNeg r1324 = κ1350 at *
          have lt1361 : s.toInt < (κ1350.1 19).toInt := by omega
          exact ⟨⟨p1355.1, by have := p1355.2; omega⟩, G.mk s0 (Int.le_refl _) lt1361 nd1353 (by decide) (Or.inr (Kd.up k1356 (Nat.le_succ _))) (k1357) True.intro True.intro True.intro, nd1353.2.2.2.2.2.2, (CO.fin' (by omega) cv1358 s0 ⟨fun h => Par.fb nd1353 (by decide) h, fun h => Par.fa nd1353 (by decide) h, True.intro⟩ lt1361), (fun K9 hK9 => by obtain rfl : K9 = K := (by omega); exact ⟨0 + 0 + 0 + 0 + 0 + 0, by omega, PK.mk (c0 := A1194) (v0 := 0) (v1 := 0) (v2 := 0) (v3 := 0) (v4 := 0) nd1353 s0 (by omega) (by omega) (by omega) (by decide) (by have e : ow (42 : Int32) = 0 := (by decide); omega) (FK.opt (FK.up (by omega) b1359)) ((FK.up (by omega) b1360)) (FK.fr (Int.le_refl _)) (FK.fr (Int.le_refl _)) (FK.fr (Int.le_refl _))⟩)⟩
    · skip
      have hw3 : ¬ srt κ1247 = 203 := by rw [is_t hw]; decide
      have g1362 : TR s.toInt 0 0 0 0 0 κ1247 (mA1 κ1247 20 s.toNatClampNeg 41) := TR.put p1241.ps s0 rfl rfl
      have e1364 : ((mA1 κ1247 20 s.toNatClampNeg 41).1 19).toInt = (κ1247.1 19).toInt := rfl
      have e1365 : ((mA1 κ1247 20 s.toNatClampNeg 41).1 32).toInt = (κ1247.1 32).toInt := rfl
      have sr1367 : srt (mA1 κ1247 20 s.toNatClampNeg 41) = srt κ1247 := srt_off rfl
      have nd1366 := nd1239.pk (x := 41)
      have p1368 : TR (s.toInt) (0) 0 0 0 (-3) μ (mA1 κ1247 20 s.toNatClampNeg 41) := p1241.trS g1362 (Or.inr (Or.inl rfl)) rfl rfl rfl rfl (by omega)
      have k1369 := k1242.tr g1362 (Or.inr rfl) s0
      have cv1370 : CVs (mA1 κ1247 20 s.toNatClampNeg 41) (s.toInt + 1) (((mA1 κ1247 20 s.toNatClampNeg 41)).1 19).toInt [r1196] := cv1243.st g1362.rb (Int.le_refl _) (Or.inl (by omega)) rfl
      have b1371 := FK.tr b1244 g1362 (by omega) (by omega)
      refine ⟨TR.mi p1241.ps rfl rfl s0 (by omega), ?_⟩
      generalize mA1 κ1247 20 s.toNatClampNeg 41 = κ1363 at *
      have lt1372 : s.toInt < (κ1363.1 19).toInt := by omega
      have hw4 : ¬ srt κ1363 = 203 := by rw [sr1367]; exact hw3
      refine MC.mono (t_next (by omega) p1368.ps (hw4) (fun _ h => hT _ (p1368.1.1.tr h))) (fun v1373 κ1378 h1374 => ?_) (fun _ h => h)
      obtain ⟨q1375, m1376, a1377⟩ := h1374
      have p1379 : TR (s.toInt) (0) 0 0 0 (-5) μ κ1378 := p1368.trS q1375 (Or.inl (by decide)) rfl rfl rfl rfl (by omega)
      have k1380 := k1369.tr q1375 (Or.inl (by decide)) s0
      have cv1381 : CVs κ1378 (s.toInt + 1) ((κ1378).1 19).toInt [r1196] := cv1370.st q1375.rb (Int.le_refl _) (Or.inl (by omega)) m1376
      have b1382 := FK.tr b1371 q1375 (by omega) (by omega)
      have nd1383 := nd1366.tr q1375 (by have := @ic s; omega) (by omega)
      have lt1384 : s.toInt < (κ1378.1 19).toInt := by omega
      have x1388 := p1379.px
      have u1389 := p1379.2
      have y1390 := tT p1379
      have z1391 := px0 p1379.ps
      refine MC.mono (hP κ1378 T h p1379.ps (by omega) (by omega) (by omega) (fun _ h => hT _ (p1379.1.1.tr h))) (fun r1385 κ1386 h1387 => ?_) (fun _ h => h)
      obtain ⟨q1392, a1394, g1393, n1395, c1396⟩ := h1387
      have l1397 := q1392.l19
      have l1398 := q1392.l32
      have p1399 : TR (s.toInt) (0) 0 0 0 (-5) μ κ1386 := p1379.trS q1392 (Or.inl (by decide)) rfl rfl rfl rfl (by omega)
      have k1400 := k1380.tr q1392 (Or.inl (by decide)) s0
      have cv1401 : CVs κ1386 (s.toInt + 1) ((κ1386).1 19).toInt [r1385, r1196] := cv1381.add q1392.rb (Int.le_refl _) (Or.inl (by omega)) (by omega) l1397 (LCO.of g1393.in.1 c1396)
      have b1402 := FK.tr b1382 q1392 (by omega) (by omega)
      have cx1403 := cv1381.rb q1392.rb (by omega) (Or.inl (by omega))
      have nd1404 := nd1383.tr q1392 (by have := @ic s; omega) (by omega)
      have lt1405 : s.toInt < (κ1386.1 19).toInt := by omega
      have k1406 : Kd κ1386 h s.toInt s 2 r1385 := Kd.of g1393 (by omega) (Int.le_refl _) s0 (Or.inl (by omega)) n1395
      obtain ⟨A1407, hA1408⟩ : ∃ A : Int, A = (κ1386.1 19).toInt := ⟨_, rfl⟩
      have b1409 : FK κ1386 (h) K 1 (1, 2) A1216 A1407 0 r1385 := FK.one (by omega) (g1393.up (Nat.le_refl _) (by omega) (by omega)) n1395 (by decide) (by decide)
      refine MC.mono (c_is (by omega) p1399.ps) (fun r1410 κ1411 h1412 => ?_) (fun _ h => h)
      obtain ⟨rfl, rfl⟩ := h1412
      refine ⟨fun _ => ?_, fun _ => MC.mono (c_unfit (by omega) p1399.ps (fun _ h => hT _ (p1399.1.1.tr h))) (fun _ _ h => h.elim) (fun _ h => h)⟩
      have x1420 := p1399.px
      have u1421 := p1399.2
      have y1422 := tT p1399
      have z1423 := px0 p1399.ps
      refine MC.mono (hC κ1411 T h r1385 (_) p1399.ps (by omega) (by omega) (by omega) (by omega) (by omega) (g1393.up (Nat.le_refl _) (Int.le_refl _) (by omega)) (CO.ub c1396 (by omega)) n1395 (fun _ h => hT _ (p1399.1.1.tr h))) (fun r1413 κ1414 h1415 => ?_) (fun _ h => h)
      obtain ⟨q1416, a1417, g1418, n1419, c1424⟩ := h1415
      have l1425 := q1416.l19
      have l1426 := q1416.l32
      have p1427 : TR (s.toInt) (0) 0 0 0 (-5) μ κ1414 := p1399.trS q1416 (Or.inl (by decide)) rfl rfl rfl rfl (by omega)
      have k1428 := k1400.tr q1416 (Or.inl (by decide)) s0
      have b1429 := FK.tr b1402 q1416 (by omega) (by omega)
      have cx1430 := cx1403.rb q1416.rb (by omega) (Or.inl (by omega))
      have cv1431 : CVs κ1414 (s.toInt + 1) (κ1414.1 19).toInt [r1413, r1196] := cx1430.add (e := -1) (n := (κ1414.1 19).toInt) RB.rf (by omega) (Or.inl (by omega)) (by omega) (by omega) (LCO.of g1418.in.1 c1424)
      have nd1432 := nd1404.tr q1416 (by have := @ic s; omega) (by omega)
      have lt1433 : s.toInt < (κ1414.1 19).toInt := by omega
      have k1434 : Kd κ1414 (h + 1) s.toInt s 17 r1413 := Kd.of g1418 (by omega) (Int.le_refl _) s0 (Or.inl (by omega)) n1419
      obtain ⟨A1435, hA1436⟩ : ∃ A : Int, A = (κ1414.1 19).toInt := ⟨_, rfl⟩
      have b1437 : FK κ1414 (h + 1) K 1 (1, 17) A1216 A1435 0 r1413 := FK.one (by omega) (g1418.up (Nat.le_refl _) (by omega) (by omega)) n1419 (by decide) (by decide)
      have g1438 : TR s.toInt 0 0 0 0 0 κ1414 (mA1 κ1414 23 s.toNatClampNeg r1413) := TR.put p1427.ps s0 rfl rfl
      have e1440 : ((mA1 κ1414 23 s.toNatClampNeg r1413).1 19).toInt = (κ1414.1 19).toInt := rfl
      have e1441 : ((mA1 κ1414 23 s.toNatClampNeg r1413).1 32).toInt = (κ1414.1 32).toInt := rfl
      have sr1443 : srt (mA1 κ1414 23 s.toNatClampNeg r1413) = srt κ1414 := srt_off rfl
      have nd1442 := nd1432.pb (x := r1413)
      have p1444 : TR (s.toInt) (0) 0 0 0 (-5) μ (mA1 κ1414 23 s.toNatClampNeg r1413) := p1427.trS g1438 (Or.inr (Or.inl rfl)) rfl rfl rfl rfl (by omega)
      have k1445 := k1428.tr g1438 (Or.inr rfl) s0
      have k1446 := k1434.tr g1438 (Or.inr rfl) s0
      have cv1447 : CVs (mA1 κ1414 23 s.toNatClampNeg r1413) (s.toInt + 1) (((mA1 κ1414 23 s.toNatClampNeg r1413)).1 19).toInt [r1413, r1196] := cv1431.st g1438.rb (Int.le_refl _) (Or.inl (by omega)) rfl
      have b1448 := FK.tr b1429 g1438 (by omega) (by omega)
      have b1449 := FK.tr b1437 g1438 (by omega) (by omega)
      refine ⟨TR.mi p1427.ps rfl rfl s0 (by omega), ?_⟩
      generalize mA1 κ1414 23 s.toNatClampNeg r1413 = κ1439 at *
      have lt1450 : s.toInt < (κ1439.1 19).toInt := by omega
      exact ⟨⟨p1444.1, by have := p1444.2; omega⟩, G.mk s0 (Int.le_refl _) lt1450 nd1442 (by decide) (Kd.up k1445 (Nat.le_succ _)) (k1446) True.intro True.intro True.intro, nd1442.2.2.2.2.2.2, (CO.fin' (by omega) cv1447 s0 ⟨fun h => Par.fb nd1442 (by decide) h, fun h => Par.fa nd1442 (by decide) h, True.intro⟩ lt1450), (fun K9 hK9 => by obtain rfl : K9 = K := (by omega); exact ⟨0 + 0 + 0 + 0 + 0 + 0, by omega, PK.mk (c0 := A1194) (v0 := 0) (v1 := 0) (v2 := 0) (v3 := 0) (v4 := 0) nd1442 s0 (by omega) (by omega) (by omega) (by decide) (by have e : ow (41 : Int32) = 0 := (by decide); omega) ((FK.up (by omega) b1448)) ((FK.up (by omega) b1449)) (FK.fr (Int.le_refl _)) (FK.fr (Int.le_refl _)) (FK.fr (Int.le_refl _))⟩)⟩
  · skip
    have g1451 : TR s.toInt 0 0 0 0 0 κ1221 (mA1 κ1221 20 s.toNatClampNeg 42) := TR.put p1219.ps s0 rfl rfl
    have e1453 : ((mA1 κ1221 20 s.toNatClampNeg 42).1 19).toInt = (κ1221.1 19).toInt := rfl
    have e1454 : ((mA1 κ1221 20 s.toNatClampNeg 42).1 32).toInt = (κ1221.1 32).toInt := rfl
    have sr1456 : srt (mA1 κ1221 20 s.toNatClampNeg 42) = srt κ1221 := srt_off rfl
    have nd1455 := nd1213.pk (x := 42)
    have p1457 : TR (s.toInt) (0) 0 0 0 (-1) μ (mA1 κ1221 20 s.toNatClampNeg 42) := p1219.trS g1451 (Or.inr (Or.inl rfl)) rfl rfl rfl rfl (by omega)
    have cv1458 : CVs (mA1 κ1221 20 s.toNatClampNeg 42) (s.toInt + 1) (((mA1 κ1221 20 s.toNatClampNeg 42)).1 19).toInt [r1196] := cv1211.st g1451.rb (Int.le_refl _) (Or.inl (by omega)) rfl
    have b1459 := FK.tr b1218 g1451 (by omega) (by omega)
    have co1460 := c1207.rb g1451.rb (by omega) (Or.inl (by omega))
    have cx1461 := cx1212.rb g1451.rb (by omega) (Or.inl (by omega))
    have lk1463 := G.lk g1204 g1451 (by omega) (Or.inl (by omega)) n1206
    have gg1462 := g1204.tr g1451 (by omega) (Or.inl (by omega))
    refine ⟨TR.mi p1219.ps rfl rfl s0 (by omega), ?_⟩
    generalize mA1 κ1221 20 s.toNatClampNeg 42 = κ1452 at *
    have lt1464 : s.toInt < (κ1452.1 19).toInt := by omega
    have x1472 := p1457.px
    have u1473 := p1457.2
    have y1474 := tT p1457
    have z1475 := px0 p1457.ps
    refine MC.mono (hC κ1452 T h r1196 (_) p1457.ps (by omega) (by omega) (by omega) (by omega) (by omega) (gg1462.up (Nat.le_refl _) (Int.le_refl _) (by omega)) (CO.ub co1460 (by omega)) lk1463 (fun _ h => hT _ (p1457.1.1.tr h))) (fun r1465 κ1466 h1467 => ?_) (fun _ h => h)
    obtain ⟨q1468, a1469, g1470, n1471, c1476⟩ := h1467
    have l1477 := q1468.l19
    have l1478 := q1468.l32
    have p1479 : TR (s.toInt) (0) 0 0 0 (-1) μ κ1466 := p1457.trS q1468 (Or.inl (by decide)) rfl rfl rfl rfl (by omega)
    have cx1480 := cx1461.rb q1468.rb (by omega) (Or.inl (by omega))
    have cv1481 : CVs κ1466 (s.toInt + 1) (κ1466.1 19).toInt [r1465] := cx1480.add (e := -1) (n := (κ1466.1 19).toInt) RB.rf (by omega) (Or.inl (by omega)) (by omega) (by omega) (LCO.of g1470.in.1 c1476)
    have nd1482 := nd1455.tr q1468 (by have := @ic s; omega) (by omega)
    have lt1483 : s.toInt < (κ1466.1 19).toInt := by omega
    have k1484 : Kd κ1466 (h + 1) s.toInt s 17 r1465 := Kd.of g1470 (by omega) (Int.le_refl _) s0 (Or.inl (by omega)) n1471
    obtain ⟨A1485, hA1486⟩ : ∃ A : Int, A = (κ1466.1 19).toInt := ⟨_, rfl⟩
    have b1487 : FK κ1466 (h + 1) K 1 (1, 17) A1194 A1485 0 r1465 := FK.one (by omega) (g1470.up (Nat.le_refl _) (by omega) (by omega)) n1471 (by decide) (by decide)
    have g1488 : TR s.toInt 0 0 0 0 0 κ1466 (mA1 κ1466 23 s.toNatClampNeg r1465) := TR.put p1479.ps s0 rfl rfl
    have e1490 : ((mA1 κ1466 23 s.toNatClampNeg r1465).1 19).toInt = (κ1466.1 19).toInt := rfl
    have e1491 : ((mA1 κ1466 23 s.toNatClampNeg r1465).1 32).toInt = (κ1466.1 32).toInt := rfl
    have sr1493 : srt (mA1 κ1466 23 s.toNatClampNeg r1465) = srt κ1466 := srt_off rfl
    have nd1492 := nd1482.pb (x := r1465)
    have p1494 : TR (s.toInt) (0) 0 0 0 (-1) μ (mA1 κ1466 23 s.toNatClampNeg r1465) := p1479.trS g1488 (Or.inr (Or.inl rfl)) rfl rfl rfl rfl (by omega)
    have k1495 := k1484.tr g1488 (Or.inr rfl) s0
    have cv1496 : CVs (mA1 κ1466 23 s.toNatClampNeg r1465) (s.toInt + 1) (((mA1 κ1466 23 s.toNatClampNeg r1465)).1 19).toInt [r1465] := cv1481.st g1488.rb (Int.le_refl _) (Or.inl (by omega)) rfl
    have b1497 := FK.tr b1487 g1488 (by omega) (by omega)
    refine ⟨TR.mi p1479.ps rfl rfl s0 (by omega), ?_⟩
    generalize mA1 κ1466 23 s.toNatClampNeg r1465 = κ1489 at *
    have lt1498 : s.toInt < (κ1489.1 19).toInt := by omega
    exact ⟨⟨p1494.1, by have := p1494.2; omega⟩, G.mk s0 (Int.le_refl _) lt1498 nd1492 (by decide) (Or.inl rfl) (k1495) True.intro True.intro True.intro, nd1492.2.2.2.2.2.2, (CO.fin' (by omega) cv1496 s0 ⟨fun h => Par.fb nd1492 (by decide) h, True.intro⟩ lt1498), (fun K9 hK9 => by obtain rfl : K9 = K := (by omega); exact ⟨0 + 0 + 0 + 0 + 0 + 0, by omega, PK.mk (c0 := A1194) (v0 := 0) (v1 := 0) (v2 := 0) (v3 := 0) (v4 := 0) nd1492 s0 (by omega) (by omega) (by omega) (by decide) (by have e : ow (42 : Int32) = 0 := (by decide); omega) (FK.no (Int.le_refl _)) ((FK.up (by omega) b1497)) (FK.fr (Int.le_refl _)) (FK.fr (Int.le_refl _)) (FK.fr (Int.le_refl _))⟩)⟩
theorem st_statement (hE : XC X W P 332 [] 1 20 12 0 0 d) (hSt : SL X W P 321 [] 3 19 11 d) (hA : ArC X W P d) (hFor : FiC X W P 324 0 0 d) (hTry : FiC X W P 325 0 0 d) (hTc : FiC X W P 327 0 0 d) (hBy : FiC X W P 329 1 1 d) : SC X W P 322 3 22 14 (d + 1) := fun μ T h9 hS hd hh hn hT hb => by
  have hp := px0 hS
  have h0 := hS.2.2.2.2.1
  have at0 := hS.at
  have hb0 := hS.2.2.2.2.2.1.1
  obtain ⟨h, rfl⟩ : ∃ h, h9 = h + 1 := ⟨h9 - 1, by omega⟩
  obtain ⟨K, hK⟩ : ∃ K : Nat, (K : Int) + (μ.1 40).toInt = 20 := ⟨(20 - (μ.1 40).toInt).toNat, by have := hS.2.2.2.2.2.2.2.2; omega⟩
  refine me_meth (by omega) rfl (v_statement_0 (MC.mono (t_node (by omega) hS (by omega)) (fun s ν h1 => ?_) (fun _ h => h)))
  obtain ⟨q1, ⟨q2, s0⟩, q3, q4, q5, q6⟩ := h1
  have hcs := @ic s
  have s9 : s.toInt < 15990 := by omega
  have atν := q1.ps.at
  have hs3 : ¬ srt ν = 203 := by rw [q5]; exact bgS_e hb
  have xν := q1.px
  refine ⟨MI.of (q1.ps.1.g rfl rfl : _ = 6002) atν.1 atν.2, fun _ => ?_, fun _ => MC.mono (hBy ν T h s q1.ps (by omega) (by omega) (by omega) (fun _ h => hT _ (q1.1.1.tr h)) s0 (by omega) q6) (fun r κ hk => ?_) (fun _ h => h)⟩
  · generalize ν.2.1 9 (ν.1 32).toNatClampNeg = w
    refine MC.mono (t_next (by omega) q1.ps hs3 (fun _ h => hT _ (q1.1.1.tr h))) (fun _ κ hk => ?_) (fun _ h => h)
    obtain ⟨m1, m2, m3⟩ := hk
    have p0 : TR (-1) 0 0 0 0 (-1) μ κ := q1.tr m1 (Or.inl (by decide)) rfl rfl rfl rfl (by omega)
    have nd0 := q6.tr m1 (by omega) (by omega)
    have lt0 : s.toInt < (κ.1 19).toInt := by omega
    have xκ := p0.px
    have cv0 : CVs κ (s.toInt + 1) (κ.1 19).toInt [] := CVs.nil (by omega)
    have fill : ∀ k, FiC X W P k 0 0 d → MC X W true d k [.ref P.1, .int s] P κ (fun _ κ1 => ME X W true d 322 553 [(0, .ref P.1), (1, .int s), (2, .int w)] [] P κ1 (fun r μ1 => XN 0 3 (h + 1) μ r μ1 ∧ BdN (h + 1) (μ.1 19).toInt μ r μ1) T) T := fun k hk => MC.mono (hk κ T h s p0.ps (by omega) (by omega) (by omega) (fun _ h => hT _ (p0.1.1.tr h)) s0 (by omega) nd0) (fun r κ1 h1 => by
      obtain ⟨z1, z2, z3, z4, z5⟩ := h1
      have l1 := z1.l32
      have y40 := p0.1.2.2.2.2.2.2.2.2.1
      exact v_statement_553 _ _ ⟨⟨p0.tr z1 (Or.inr (by omega)) rfl rfl rfl rfl (by omega), by omega, z2.up (Nat.le_refl _) (by omega) (Int.le_refl _), z3, by rw [← q2]; exact z4⟩, fun K9 hK9 => by
        obtain ⟨w9, w91, w92⟩ := z5 K9 (by omega)
        exact ⟨w9, by omega, PK.wd (Int.le_refl _) (by omega) (Nat.le_refl _) (PK.up (Nat.le_succ _) (Nat.le_refl _) w92)⟩⟩) (fun _ h => h)
    refine ⟨fun _ => ?_, fun _ => fill 324 hFor, fun _ => ?_, fun _ => ?_, fun _ => ?_, fun _ => ?_, fun _ => ?_, fun _ => fill 325 hTry, fun _ => fill 327 hTc, fun _ => ?_, fun _ => ?_, fun _ => ⟨fun _ => ⟨fun _ => ⟨fun _ => ?_, fun _ => ?_⟩, fun _ => ?_⟩, fun _ => ?_⟩⟩
    · skip
      obtain ⟨A1499, hA1500⟩ : ∃ A : Int, A = (κ.1 19).toInt := ⟨_, rfl⟩
      exact v_statement_553 _ _ ⟨⟨⟨p0.1, by have := p0.2; omega⟩, by omega, (G.mk (lo := s.toInt) s0 (Int.le_refl _) lt0 nd0 (by decide) True.intro True.intro True.intro True.intro True.intro : G κ (h + 1) (bt s.toInt (κ.1 19).toInt) 3 s).up (Nat.le_refl _) (by omega) (Int.le_refl _), nd0.2.2.2.2.2.2, (CO.fin' (by omega) cv0 s0 True.intro lt0)⟩, (fun K9 hK9 => by obtain rfl : K9 = K := (by omega); exact ⟨0 + 0 + 0 + 0 + 0 + 0, by omega, PK.mk (c0 := A1499) (v0 := 0) (v1 := 0) (v2 := 0) (v3 := 0) (v4 := 0) nd0 s0 (by omega) (by omega) (by omega) (by decide) (by have e : ow (43 : Int32) = 0 := (by decide); omega) (FK.fr (Int.le_refl _)) (FK.fr (Int.le_refl _)) (FK.fr (Int.le_refl _)) (FK.fr (Int.le_refl _)) (FK.fr (Int.le_refl _))⟩)⟩
    · skip
      obtain ⟨A1501, hA1502⟩ : ∃ A : Int, A = (κ.1 19).toInt := ⟨_, rfl⟩
      have g1503 : TR s.toInt 0 0 0 0 0 κ (mA1 κ 20 s.toNatClampNeg 44) := TR.put p0.ps s0 rfl rfl
      have e1505 : ((mA1 κ 20 s.toNatClampNeg 44).1 19).toInt = (κ.1 19).toInt := rfl
      have e1506 : ((mA1 κ 20 s.toNatClampNeg 44).1 32).toInt = (κ.1 32).toInt := rfl
      have sr1508 : srt (mA1 κ 20 s.toNatClampNeg 44) = srt κ := srt_off rfl
      have nd1507 := nd0.pk (x := 44)
      have p1509 : TR (-1) (0) 0 0 0 (-1) μ (mA1 κ 20 s.toNatClampNeg 44) := p0.trS g1503 (Or.inr (Or.inr (by omega))) rfl rfl rfl rfl (by omega)
      have cv1510 : CVs (mA1 κ 20 s.toNatClampNeg 44) (s.toInt + 1) (((mA1 κ 20 s.toNatClampNeg 44)).1 19).toInt [] := cv0.st g1503.rb (Int.le_refl _) (Or.inl (by omega)) rfl
      refine ⟨TR.mi p0.ps rfl rfl s0 (by omega), ?_⟩
      generalize mA1 κ 20 s.toNatClampNeg 44 = κ1504 at *
      have lt1511 : s.toInt < (κ1504.1 19).toInt := by omega
      have x1512 := p1509.px
      have u1513 := p1509.2
      have y1514 := tT p1509
      have z1515 := px0 p1509.ps
      refine MC.mono (hA κ1504 T h p1509.ps (by omega) (by omega) (by omega) (fun _ h => hT _ (p1509.1.1.tr h))) (fun r4 κ4 h4 => ?_) (fun _ h => h)
      obtain ⟨qA, neA, gA, cA, bA0⟩ := h4
      obtain ⟨vA, hvA, bA⟩ := bA0 K (by have y40 := p1509.1.2.2.2.2.2.2.2.2.1; omega)
      have lA := qA.l19
      have lA2 := qA.l32
      have p1516 : TR (-1) (0) 0 0 0 (-1) μ κ4 := p1509.trS qA (Or.inl (by decide)) rfl rfl rfl rfl (by omega)
      have cv1517 : CVs κ4 (s.toInt + 1) ((κ4).1 19).toInt [r4] := cv1510.add qA.rb (Int.le_refl _) (Or.inl (by omega)) (by omega) lA cA
      have nd1518 := nd1507.tr qA (by have := @ic s; omega) (by omega)
      have lt1519 : s.toInt < (κ4.1 19).toInt := by omega
      have kA : KL κ4 h s.toInt s 13 r4 := KL.of gA (by omega) (Int.le_refl _) s0 (Or.inl (by omega))
      obtain ⟨A1520, hA1521⟩ : ∃ A : Int, A = (κ4.1 19).toInt := ⟨_, rfl⟩
      have b1522 : FK κ4 (h) K 1 (3, 13) A1501 A1520 vA r4 := FK.at (by omega) (by omega) bA
      have g1523 : TR s.toInt 0 0 0 0 0 κ4 (mA1 κ4 22 s.toNatClampNeg r4) := TR.put p1516.ps s0 rfl rfl
      have e1525 : ((mA1 κ4 22 s.toNatClampNeg r4).1 19).toInt = (κ4.1 19).toInt := rfl
      have e1526 : ((mA1 κ4 22 s.toNatClampNeg r4).1 32).toInt = (κ4.1 32).toInt := rfl
      have sr1528 : srt (mA1 κ4 22 s.toNatClampNeg r4) = srt κ4 := srt_off rfl
      have nd1527 := nd1518.pa (x := r4)
      have p1529 : TR (-1) (0) 0 0 0 (-1) μ (mA1 κ4 22 s.toNatClampNeg r4) := p1516.trS g1523 (Or.inr (Or.inr (by omega))) rfl rfl rfl rfl (by omega)
      have k1530 := kA.tr g1523 (Or.inr rfl) s0
      have cv1531 : CVs (mA1 κ4 22 s.toNatClampNeg r4) (s.toInt + 1) (((mA1 κ4 22 s.toNatClampNeg r4)).1 19).toInt [r4] := cv1517.st g1523.rb (Int.le_refl _) (Or.inl (by omega)) rfl
      have b1532 := FK.tr b1522 g1523 (by omega) (by omega)
      refine ⟨TR.mi p1516.ps rfl rfl s0 (by omega), ?_⟩
      generalize mA1 κ4 22 s.toNatClampNeg r4 = κ1524 at *
      have lt1533 : s.toInt < (κ1524.1 19).toInt := by omega
      exact v_statement_553 _ _ ⟨⟨⟨p1529.1, by have := p1529.2; omega⟩, by omega, (G.mk (lo := s.toInt) s0 (Int.le_refl _) lt1533 nd1527 (by decide) (⟨neA, k1530⟩) True.intro True.intro True.intro True.intro : G κ1524 (h + 1) (bt s.toInt (κ1524.1 19).toInt) 3 s).up (Nat.le_refl _) (by omega) (Int.le_refl _), nd1527.2.2.2.2.2.2, (CO.fin' (by omega) cv1531 s0 ⟨fun h => Par.fa nd1527 (by decide) h, True.intro⟩ lt1533)⟩, (fun K9 hK9 => by obtain rfl : K9 = K := (by omega); exact ⟨vA + 0 + 0 + 0 + 0 + 0, by omega, PK.mk (c0 := A1501) (v0 := vA) (v1 := 0) (v2 := 0) (v3 := 0) (v4 := 0) nd1527 s0 (by omega) (by omega) (by omega) (by decide) (by have e : ow (44 : Int32) = 0 := (by decide); omega) (FK.ne neA (FK.up (by omega) b1532)) (FK.fr (Int.le_refl _)) (FK.fr (Int.le_refl _)) (FK.fr (Int.le_refl _)) (FK.fr (Int.le_refl _))⟩)⟩
    · skip
      obtain ⟨A1534, hA1535⟩ : ∃ A : Int, A = (κ.1 19).toInt := ⟨_, rfl⟩
      have g1536 : TR s.toInt 0 0 0 0 0 κ (mA1 κ 20 s.toNatClampNeg 54) := TR.put p0.ps s0 rfl rfl
      have e1538 : ((mA1 κ 20 s.toNatClampNeg 54).1 19).toInt = (κ.1 19).toInt := rfl
      have e1539 : ((mA1 κ 20 s.toNatClampNeg 54).1 32).toInt = (κ.1 32).toInt := rfl
      have sr1541 : srt (mA1 κ 20 s.toNatClampNeg 54) = srt κ := srt_off rfl
      have nd1540 := nd0.pk (x := 54)
      have p1542 : TR (-1) (0) 0 0 0 (-1) μ (mA1 κ 20 s.toNatClampNeg 54) := p0.trS g1536 (Or.inr (Or.inr (by omega))) rfl rfl rfl rfl (by omega)
      have cv1543 : CVs (mA1 κ 20 s.toNatClampNeg 54) (s.toInt + 1) (((mA1 κ 20 s.toNatClampNeg 54)).1 19).toInt [] := cv0.st g1536.rb (Int.le_refl _) (Or.inl (by omega)) rfl
      refine ⟨TR.mi p0.ps rfl rfl s0 (by omega), ?_⟩
      generalize mA1 κ 20 s.toNatClampNeg 54 = κ1537 at *
      have lt1544 : s.toInt < (κ1537.1 19).toInt := by omega
      have x1548 := p1542.px
      have u1549 := p1542.2
      have y1550 := tT p1542
      have z1551 := px0 p1542.ps
      refine MC.mono (hE κ1537 T h p1542.ps (by omega) (by omega) (by omega) (fun _ h => hT _ (p1542.1.1.tr h))) (fun r1545 κ1546 h1547 => ?_) (fun _ h => h)
      obtain ⟨q1552, a1554, g1553, n1555, c1556⟩ := h1547
      have l1557 := q1552.l19
      have l1558 := q1552.l32
      have p1559 : TR (-1) (0) 0 0 0 (-1) μ κ1546 := p1542.trS q1552 (Or.inl (by decide)) rfl rfl rfl rfl (by omega)
      have cv1560 : CVs κ1546 (s.toInt + 1) ((κ1546).1 19).toInt [r1545] := cv1543.add q1552.rb (Int.le_refl _) (Or.inl (by omega)) (by omega) l1557 (LCO.of g1553.in.1 c1556)
      have nd1561 := nd1540.tr q1552 (by have := @ic s; omega) (by omega)
      have lt1562 : s.toInt < (κ1546.1 19).toInt := by omega
      have k1563 : Kd κ1546 h s.toInt s 1 r1545 := Kd.of g1553 (by omega) (Int.le_refl _) s0 (Or.inl (by omega)) n1555
      obtain ⟨A1564, hA1565⟩ : ∃ A : Int, A = (κ1546.1 19).toInt := ⟨_, rfl⟩
      have b1566 : FK κ1546 (h) K 1 (1, 1) A1534 A1564 0 r1545 := FK.one (by omega) (g1553.up (Nat.le_refl _) (by omega) (by omega)) n1555 (by decide) (by decide)
      have g1567 : TR s.toInt 0 0 0 0 0 κ1546 (mA1 κ1546 22 s.toNatClampNeg r1545) := TR.put p1559.ps s0 rfl rfl
      have e1569 : ((mA1 κ1546 22 s.toNatClampNeg r1545).1 19).toInt = (κ1546.1 19).toInt := rfl
      have e1570 : ((mA1 κ1546 22 s.toNatClampNeg r1545).1 32).toInt = (κ1546.1 32).toInt := rfl
      have sr1572 : srt (mA1 κ1546 22 s.toNatClampNeg r1545) = srt κ1546 := srt_off rfl
      have nd1571 := nd1561.pa (x := r1545)
      have p1573 : TR (-1) (0) 0 0 0 (-1) μ (mA1 κ1546 22 s.toNatClampNeg r1545) := p1559.trS g1567 (Or.inr (Or.inr (by omega))) rfl rfl rfl rfl (by omega)
      have k1574 := k1563.tr g1567 (Or.inr rfl) s0
      have cv1575 : CVs (mA1 κ1546 22 s.toNatClampNeg r1545) (s.toInt + 1) (((mA1 κ1546 22 s.toNatClampNeg r1545)).1 19).toInt [r1545] := cv1560.st g1567.rb (Int.le_refl _) (Or.inl (by omega)) rfl
      have b1576 := FK.tr b1566 g1567 (by omega) (by omega)
      refine ⟨TR.mi p1559.ps rfl rfl s0 (by omega), ?_⟩
      generalize mA1 κ1546 22 s.toNatClampNeg r1545 = κ1568 at *
      have lt1577 : s.toInt < (κ1568.1 19).toInt := by omega
      refine MC.mono (t_expect (by omega) p1573.ps (by decide) (fun _ h => hT _ (p1573.1.1.tr h))) (fun v1578 κ1583 h1579 => ?_) (fun _ h => h)
      obtain ⟨q1580, m1581, a1582⟩ := h1579
      have p1584 : TR (-1) (0) 0 0 0 (-3) μ κ1583 := p1573.trS q1580 (Or.inl (by decide)) rfl rfl rfl rfl (by omega)
      have k1585 := k1574.tr q1580 (Or.inl (by decide)) s0
      have cv1586 : CVs κ1583 (s.toInt + 1) ((κ1583).1 19).toInt [r1545] := cv1575.st q1580.rb (Int.le_refl _) (Or.inl (by omega)) m1581
      have b1587 := FK.tr b1576 q1580 (by omega) (by omega)
      have nd1588 := nd1571.tr q1580 (by have := @ic s; omega) (by omega)
      have lt1589 : s.toInt < (κ1583.1 19).toInt := by omega
      have x1593 := p1584.px
      have u1594 := p1584.2
      have y1595 := tT p1584
      have z1596 := px0 p1584.ps
      refine MC.mono (hSt κ1583 T h p1584.ps (by omega) (by omega) (by omega) (fun _ h => hT _ (p1584.1.1.tr h))) (fun r1590 κ1591 h1592 => ?_) (fun _ h => h)
      obtain ⟨q1597, g1598, c1599, hb1600⟩ := h1592
      obtain ⟨v1601, hv1602, b1603⟩ := hb1600 K (by have y40 := p1584.1.2.2.2.2.2.2.2.2.1; omega)
      have l1604 := q1597.l19
      have l1605 := q1597.l32
      have p1606 : TR (-1) (0) 0 0 0 (-3) μ κ1591 := p1584.trS q1597 (Or.inl (by decide)) rfl rfl rfl rfl (by omega)
      have k1607 := k1585.tr q1597 (Or.inl (by decide)) s0
      have cv1608 : CVs κ1591 (s.toInt + 1) ((κ1591).1 19).toInt [r1590, r1545] := cv1586.add q1597.rb (Int.le_refl _) (Or.inl (by omega)) (by omega) l1604 (c1599)
      have b1609 := FK.tr b1587 q1597 (by omega) (by omega)
      have nd1610 := nd1588.tr q1597 (by have := @ic s; omega) (by omega)
      have lt1611 : s.toInt < (κ1591.1 19).toInt := by omega
      have k1612 : KL κ1591 h s.toInt s 3 r1590 := KL.of g1598 (by omega) (Int.le_refl _) s0 (Or.inl (by omega))
      obtain ⟨A1613, hA1614⟩ : ∃ A : Int, A = (κ1591.1 19).toInt := ⟨_, rfl⟩
      have b1615 : FK κ1591 (h) K 1 (3, 3) A1564 A1613 v1601 r1590 := FK.at (by omega) (by omega) b1603.b3
      have g1616 : TR s.toInt 0 0 0 0 0 κ1591 (mA1 κ1591 23 s.toNatClampNeg r1590) := TR.put p1606.ps s0 rfl rfl
      have e1618 : ((mA1 κ1591 23 s.toNatClampNeg r1590).1 19).toInt = (κ1591.1 19).toInt := rfl
      have e1619 : ((mA1 κ1591 23 s.toNatClampNeg r1590).1 32).toInt = (κ1591.1 32).toInt := rfl
      have sr1621 : srt (mA1 κ1591 23 s.toNatClampNeg r1590) = srt κ1591 := srt_off rfl
      have nd1620 := nd1610.pb (x := r1590)
      have p1622 : TR (-1) (0) 0 0 0 (-3) μ (mA1 κ1591 23 s.toNatClampNeg r1590) := p1606.trS g1616 (Or.inr (Or.inr (by omega))) rfl rfl rfl rfl (by omega)
      have k1623 := k1607.tr g1616 (Or.inr rfl) s0
      have k1624 := k1612.tr g1616 (Or.inr rfl) s0
      have cv1625 : CVs (mA1 κ1591 23 s.toNatClampNeg r1590) (s.toInt + 1) (((mA1 κ1591 23 s.toNatClampNeg r1590)).1 19).toInt [r1590, r1545] := cv1608.st g1616.rb (Int.le_refl _) (Or.inl (by omega)) rfl
      have b1626 := FK.tr b1609 g1616 (by omega) (by omega)
      have b1627 := FK.tr b1615 g1616 (by omega) (by omega)
      refine ⟨TR.mi p1606.ps rfl rfl s0 (by omega), ?_⟩
      generalize mA1 κ1591 23 s.toNatClampNeg r1590 = κ1617 at *
      have lt1628 : s.toInt < (κ1617.1 19).toInt := by omega
      refine MC.mono (t_expect (by omega) p1622.ps (by decide) (fun _ h => hT _ (p1622.1.1.tr h))) (fun v1629 κ1634 h1630 => ?_) (fun _ h => h)
      obtain ⟨q1631, m1632, a1633⟩ := h1630
      have p1635 : TR (-1) (0) 0 0 0 (-5) μ κ1634 := p1622.trS q1631 (Or.inl (by decide)) rfl rfl rfl rfl (by omega)
      have k1636 := k1623.tr q1631 (Or.inl (by decide)) s0
      have k1637 := k1624.tr q1631 (Or.inl (by decide)) s0
      have cv1638 : CVs κ1634 (s.toInt + 1) ((κ1634).1 19).toInt [r1590, r1545] := cv1625.st q1631.rb (Int.le_refl _) (Or.inl (by omega)) m1632
      have b1639 := FK.tr b1626 q1631 (by omega) (by omega)
      have b1640 := FK.tr b1627 q1631 (by omega) (by omega)
      have nd1641 := nd1620.tr q1631 (by have := @ic s; omega) (by omega)
      have lt1642 : s.toInt < (κ1634.1 19).toInt := by omega
      exact v_statement_553 _ _ ⟨⟨⟨p1635.1, by have := p1635.2; omega⟩, by omega, (G.mk (lo := s.toInt) s0 (Int.le_refl _) lt1642 nd1641 (by decide) (k1636) (k1637) True.intro True.intro True.intro : G κ1634 (h + 1) (bt s.toInt (κ1634.1 19).toInt) 3 s).up (Nat.le_refl _) (by omega) (Int.le_refl _), nd1641.2.2.2.2.2.2, (CO.fin' (by omega) cv1638 s0 ⟨fun h => Par.fb nd1641 (by decide) h, fun h => Par.fa nd1641 (by decide) h, True.intro⟩ lt1642)⟩, (fun K9 hK9 => by obtain rfl : K9 = K := (by omega); exact ⟨0 + v1601 + 0 + 0 + 0 + 0, by omega, PK.mk (c0 := A1534) (v0 := 0) (v1 := v1601) (v2 := 0) (v3 := 0) (v4 := 0) nd1641 s0 (by omega) (by omega) (by omega) (by decide) (by have e : ow (54 : Int32) = 0 := (by decide); omega) ((FK.up (by omega) b1639)) ((FK.up (by omega) b1640)) (FK.fr (Int.le_refl _)) (FK.fr (Int.le_refl _)) (FK.fr (Int.le_refl _))⟩)⟩
    · skip
      obtain ⟨A1643, hA1644⟩ : ∃ A : Int, A = (κ.1 19).toInt := ⟨_, rfl⟩
      have g1645 : TR s.toInt 0 0 0 0 0 κ (mA1 κ 20 s.toNatClampNeg 47) := TR.put p0.ps s0 rfl rfl
      have e1647 : ((mA1 κ 20 s.toNatClampNeg 47).1 19).toInt = (κ.1 19).toInt := rfl
      have e1648 : ((mA1 κ 20 s.toNatClampNeg 47).1 32).toInt = (κ.1 32).toInt := rfl
      have sr1650 : srt (mA1 κ 20 s.toNatClampNeg 47) = srt κ := srt_off rfl
      have nd1649 := nd0.pk (x := 47)
      have p1651 : TR (-1) (0) 0 0 0 (-1) μ (mA1 κ 20 s.toNatClampNeg 47) := p0.trS g1645 (Or.inr (Or.inr (by omega))) rfl rfl rfl rfl (by omega)
      have cv1652 : CVs (mA1 κ 20 s.toNatClampNeg 47) (s.toInt + 1) (((mA1 κ 20 s.toNatClampNeg 47)).1 19).toInt [] := cv0.st g1645.rb (Int.le_refl _) (Or.inl (by omega)) rfl
      refine ⟨TR.mi p0.ps rfl rfl s0 (by omega), ?_⟩
      generalize mA1 κ 20 s.toNatClampNeg 47 = κ1646 at *
      have lt1653 : s.toInt < (κ1646.1 19).toInt := by omega
      have x1657 := p1651.px
      have u1658 := p1651.2
      have y1659 := tT p1651
      have z1660 := px0 p1651.ps
      refine MC.mono (hSt κ1646 T h p1651.ps (by omega) (by omega) (by omega) (fun _ h => hT _ (p1651.1.1.tr h))) (fun r1654 κ1655 h1656 => ?_) (fun _ h => h)
      obtain ⟨q1661, g1662, c1663, hb1664⟩ := h1656
      obtain ⟨v1665, hv1666, b1667⟩ := hb1664 K (by have y40 := p1651.1.2.2.2.2.2.2.2.2.1; omega)
      have l1668 := q1661.l19
      have l1669 := q1661.l32
      have p1670 : TR (-1) (0) 0 0 0 (-1) μ κ1655 := p1651.trS q1661 (Or.inl (by decide)) rfl rfl rfl rfl (by omega)
      have cv1671 : CVs κ1655 (s.toInt + 1) ((κ1655).1 19).toInt [r1654] := cv1652.add q1661.rb (Int.le_refl _) (Or.inl (by omega)) (by omega) l1668 (c1663)
      have nd1672 := nd1649.tr q1661 (by have := @ic s; omega) (by omega)
      have lt1673 : s.toInt < (κ1655.1 19).toInt := by omega
      have k1674 : KL κ1655 h s.toInt s 3 r1654 := KL.of g1662 (by omega) (Int.le_refl _) s0 (Or.inl (by omega))
      obtain ⟨A1675, hA1676⟩ : ∃ A : Int, A = (κ1655.1 19).toInt := ⟨_, rfl⟩
      have b1677 : FK κ1655 (h) K 1 (3, 3) A1643 A1675 v1665 r1654 := FK.at (by omega) (by omega) b1667.b3
      have g1678 : TR s.toInt 0 0 0 0 0 κ1655 (mA1 κ1655 23 s.toNatClampNeg r1654) := TR.put p1670.ps s0 rfl rfl
      have e1680 : ((mA1 κ1655 23 s.toNatClampNeg r1654).1 19).toInt = (κ1655.1 19).toInt := rfl
      have e1681 : ((mA1 κ1655 23 s.toNatClampNeg r1654).1 32).toInt = (κ1655.1 32).toInt := rfl
      have sr1683 : srt (mA1 κ1655 23 s.toNatClampNeg r1654) = srt κ1655 := srt_off rfl
      have nd1682 := nd1672.pb (x := r1654)
      have p1684 : TR (-1) (0) 0 0 0 (-1) μ (mA1 κ1655 23 s.toNatClampNeg r1654) := p1670.trS g1678 (Or.inr (Or.inr (by omega))) rfl rfl rfl rfl (by omega)
      have k1685 := k1674.tr g1678 (Or.inr rfl) s0
      have cv1686 : CVs (mA1 κ1655 23 s.toNatClampNeg r1654) (s.toInt + 1) (((mA1 κ1655 23 s.toNatClampNeg r1654)).1 19).toInt [r1654] := cv1671.st g1678.rb (Int.le_refl _) (Or.inl (by omega)) rfl
      have b1687 := FK.tr b1677 g1678 (by omega) (by omega)
      refine ⟨TR.mi p1670.ps rfl rfl s0 (by omega), ?_⟩
      generalize mA1 κ1655 23 s.toNatClampNeg r1654 = κ1679 at *
      have lt1688 : s.toInt < (κ1679.1 19).toInt := by omega
      refine MC.mono (t_expect (by omega) p1684.ps (by decide) (fun _ h => hT _ (p1684.1.1.tr h))) (fun v1689 κ1694 h1690 => ?_) (fun _ h => h)
      obtain ⟨q1691, m1692, a1693⟩ := h1690
      have p1695 : TR (-1) (0) 0 0 0 (-3) μ κ1694 := p1684.trS q1691 (Or.inl (by decide)) rfl rfl rfl rfl (by omega)
      have k1696 := k1685.tr q1691 (Or.inl (by decide)) s0
      have cv1697 : CVs κ1694 (s.toInt + 1) ((κ1694).1 19).toInt [r1654] := cv1686.st q1691.rb (Int.le_refl _) (Or.inl (by omega)) m1692
      have b1698 := FK.tr b1687 q1691 (by omega) (by omega)
      have nd1699 := nd1682.tr q1691 (by have := @ic s; omega) (by omega)
      have lt1700 : s.toInt < (κ1694.1 19).toInt := by omega
      exact v_statement_553 _ _ ⟨⟨⟨p1695.1, by have := p1695.2; omega⟩, by omega, (G.mk (lo := s.toInt) s0 (Int.le_refl _) lt1700 nd1699 (by decide) True.intro (k1696) True.intro True.intro True.intro : G κ1694 (h + 1) (bt s.toInt (κ1694.1 19).toInt) 3 s).up (Nat.le_refl _) (by omega) (Int.le_refl _), nd1699.2.2.2.2.2.2, (CO.fin' (by omega) cv1697 s0 ⟨fun h => Par.fb nd1699 (by decide) h, True.intro⟩ lt1700)⟩, (fun K9 hK9 => by obtain rfl : K9 = K := (by omega); exact ⟨0 + v1665 + 0 + 0 + 0 + 0, by omega, PK.mk (c0 := A1643) (v0 := 0) (v1 := v1665) (v2 := 0) (v3 := 0) (v4 := 0) nd1699 s0 (by omega) (by omega) (by omega) (by decide) (by have e : ow (47 : Int32) = 0 := (by decide); omega) (FK.fr (Int.le_refl _)) ((FK.up (by omega) b1698)) (FK.fr (Int.le_refl _)) (FK.fr (Int.le_refl _)) (FK.fr (Int.le_refl _))⟩)⟩
    · skip
      obtain ⟨A1701, hA1702⟩ : ∃ A : Int, A = (κ.1 19).toInt := ⟨_, rfl⟩
      have g1703 : TR s.toInt 0 0 0 0 0 κ (mA1 κ 20 s.toNatClampNeg 50) := TR.put p0.ps s0 rfl rfl
      have e1705 : ((mA1 κ 20 s.toNatClampNeg 50).1 19).toInt = (κ.1 19).toInt := rfl
      have e1706 : ((mA1 κ 20 s.toNatClampNeg 50).1 32).toInt = (κ.1 32).toInt := rfl
      have sr1708 : srt (mA1 κ 20 s.toNatClampNeg 50) = srt κ := srt_off rfl
      have nd1707 := nd0.pk (x := 50)
      have p1709 : TR (-1) (0) 0 0 0 (-1) μ (mA1 κ 20 s.toNatClampNeg 50) := p0.trS g1703 (Or.inr (Or.inr (by omega))) rfl rfl rfl rfl (by omega)
      have cv1710 : CVs (mA1 κ 20 s.toNatClampNeg 50) (s.toInt + 1) (((mA1 κ 20 s.toNatClampNeg 50)).1 19).toInt [] := cv0.st g1703.rb (Int.le_refl _) (Or.inl (by omega)) rfl
      refine ⟨TR.mi p0.ps rfl rfl s0 (by omega), ?_⟩
      generalize mA1 κ 20 s.toNatClampNeg 50 = κ1704 at *
      have lt1711 : s.toInt < (κ1704.1 19).toInt := by omega
      have x1715 := p1709.px
      have u1716 := p1709.2
      have y1717 := tT p1709
      have z1718 := px0 p1709.ps
      refine MC.mono (c_qname (by omega) p1709.ps (by omega) (fun _ h => hT _ (p1709.1.1.tr h))) (fun r1712 κ1713 h1714 => ?_) (fun _ h => h)
      obtain ⟨⟨z1721, z1722, z1723, z1724, z1725⟩, z1726, z1727⟩ := h1714
      have q1719 : TR (-1) 0 0 0 0 0 κ1704 κ1713 := ⟨z1721, by omega⟩
      have g1720 := z1724.up (h' := h) (by omega) (Int.le_refl _) (Int.le_refl _)
      have l1728 := q1719.l19
      have l1729 := q1719.l32
      have p1730 : TR (-1) (0) 0 0 0 (-1) μ κ1713 := p1709.trS q1719 (Or.inl (by decide)) rfl rfl rfl rfl (by omega)
      have cv1731 : CVs κ1713 (s.toInt + 1) ((κ1713).1 19).toInt [] := cv1710.ns q1719.rb (Int.le_refl _) (Or.inl (by omega)) l1728 z1727
      have nd1732 := nd1707.tr q1719 (by have := @ic s; omega) (by omega)
      have lt1733 : s.toInt < (κ1713.1 19).toInt := by omega
      have k1734 : Kd κ1713 h s.toInt s 7 r1712 := Kd.of g1720 (by omega) (Int.le_refl _) s0 (Or.inl (by omega)) z1725
      obtain ⟨A1735, hA1736⟩ : ∃ A : Int, A = (κ1713.1 19).toInt := ⟨_, rfl⟩
      have b1737 : FK κ1713 (h) K 1 (1, 7) A1701 A1735 0 r1712 := FK.one (by omega) (g1720.up (Nat.le_refl _) (by omega) (by omega)) z1725 (by decide) (by decide)
      have g1738 : TR s.toInt 0 0 0 0 0 κ1713 (mA1 κ1713 22 s.toNatClampNeg r1712) := TR.put p1730.ps s0 rfl rfl
      have e1740 : ((mA1 κ1713 22 s.toNatClampNeg r1712).1 19).toInt = (κ1713.1 19).toInt := rfl
      have e1741 : ((mA1 κ1713 22 s.toNatClampNeg r1712).1 32).toInt = (κ1713.1 32).toInt := rfl
      have sr1743 : srt (mA1 κ1713 22 s.toNatClampNeg r1712) = srt κ1713 := srt_off rfl
      have nd1742 := nd1732.pa (x := r1712)
      have p1744 : TR (-1) (0) 0 0 0 (-1) μ (mA1 κ1713 22 s.toNatClampNeg r1712) := p1730.trS g1738 (Or.inr (Or.inr (by omega))) rfl rfl rfl rfl (by omega)
      have k1745 := k1734.tr g1738 (Or.inr rfl) s0
      have cv1746 : CVs (mA1 κ1713 22 s.toNatClampNeg r1712) (s.toInt + 1) (((mA1 κ1713 22 s.toNatClampNeg r1712)).1 19).toInt [] := cv1731.st g1738.rb (Int.le_refl _) (Or.inl (by omega)) rfl
      have b1747 := FK.tr b1737 g1738 (by omega) (by omega)
      refine ⟨TR.mi p1730.ps rfl rfl s0 (by omega), ?_⟩
      generalize mA1 κ1713 22 s.toNatClampNeg r1712 = κ1739 at *
      have lt1748 : s.toInt < (κ1739.1 19).toInt := by omega
      refine MC.mono (t_open (by omega) p1744.ps (by decide) (fun _ h => hT _ (p1744.1.1.tr h))) (fun v1749 κ1754 h1750 => ?_) (fun _ h => h)
      obtain ⟨q1751, m1752, a1753⟩ := h1750
      have p1755 : TR (-1) (1) 0 0 0 (-3) μ κ1754 := p1744.trS q1751 (Or.inl (by decide)) rfl rfl rfl rfl (by omega)
      have k1756 := k1745.tr q1751 (Or.inl (by decide)) s0
      have cv1757 : CVs κ1754 (s.toInt + 1) ((κ1754).1 19).toInt [] := cv1746.st q1751.rb (Int.le_refl _) (Or.inl (by omega)) m1752
      have b1758 := FK.tr b1747 q1751 (by omega) (by omega)
      have nd1759 := nd1742.tr q1751 (by have := @ic s; omega) (by omega)
      have lt1760 : s.toInt < (κ1754.1 19).toInt := by omega
      have x1764 := p1755.px
      have u1765 := p1755.2
      have y1766 := tT p1755
      have z1767 := px0 p1755.ps
      refine MC.mono (hE κ1754 T h p1755.ps (by omega) (by omega) (by omega) (fun _ h => hT _ (p1755.1.1.tr h))) (fun r1761 κ1762 h1763 => ?_) (fun _ h => h)
      obtain ⟨q1768, a1770, g1769, n1771, c1772⟩ := h1763
      have l1773 := q1768.l19
      have l1774 := q1768.l32
      have p1775 : TR (-1) (1) 0 0 0 (-3) μ κ1762 := p1755.trS q1768 (Or.inl (by decide)) rfl rfl rfl rfl (by omega)
      have k1776 := k1756.tr q1768 (Or.inl (by decide)) s0
      have cv1777 : CVs κ1762 (s.toInt + 1) ((κ1762).1 19).toInt [r1761] := cv1757.add q1768.rb (Int.le_refl _) (Or.inl (by omega)) (by omega) l1773 (LCO.of g1769.in.1 c1772)
      have b1778 := FK.tr b1758 q1768 (by omega) (by omega)
      have nd1779 := nd1759.tr q1768 (by have := @ic s; omega) (by omega)
      have lt1780 : s.toInt < (κ1762.1 19).toInt := by omega
      have k1781 : Kd κ1762 h s.toInt s 1 r1761 := Kd.of g1769 (by omega) (Int.le_refl _) s0 (Or.inl (by omega)) n1771
      obtain ⟨A1782, hA1783⟩ : ∃ A : Int, A = (κ1762.1 19).toInt := ⟨_, rfl⟩
      have b1784 : FK κ1762 (h) K 1 (1, 1) A1735 A1782 0 r1761 := FK.one (by omega) (g1769.up (Nat.le_refl _) (by omega) (by omega)) n1771 (by decide) (by decide)
      have g1785 : TR s.toInt 0 0 0 0 0 κ1762 (mA1 κ1762 23 s.toNatClampNeg r1761) := TR.put p1775.ps s0 rfl rfl
      have e1787 : ((mA1 κ1762 23 s.toNatClampNeg r1761).1 19).toInt = (κ1762.1 19).toInt := rfl
      have e1788 : ((mA1 κ1762 23 s.toNatClampNeg r1761).1 32).toInt = (κ1762.1 32).toInt := rfl
      have sr1790 : srt (mA1 κ1762 23 s.toNatClampNeg r1761) = srt κ1762 := srt_off rfl
      have nd1789 := nd1779.pb (x := r1761)
      have p1791 : TR (-1) (1) 0 0 0 (-3) μ (mA1 κ1762 23 s.toNatClampNeg r1761) := p1775.trS g1785 (Or.inr (Or.inr (by omega))) rfl rfl rfl rfl (by omega)
      have k1792 := k1776.tr g1785 (Or.inr rfl) s0
      have k1793 := k1781.tr g1785 (Or.inr rfl) s0
      have cv1794 : CVs (mA1 κ1762 23 s.toNatClampNeg r1761) (s.toInt + 1) (((mA1 κ1762 23 s.toNatClampNeg r1761)).1 19).toInt [r1761] := cv1777.st g1785.rb (Int.le_refl _) (Or.inl (by omega)) rfl
      have b1795 := FK.tr b1778 g1785 (by omega) (by omega)
      have b1796 := FK.tr b1784 g1785 (by omega) (by omega)
      refine ⟨TR.mi p1775.ps rfl rfl s0 (by omega), ?_⟩
      generalize mA1 κ1762 23 s.toNatClampNeg r1761 = κ1786 at *
      have lt1797 : s.toInt < (κ1786.1 19).toInt := by omega
      have hb1798 := p1791.b37
      refine MC.mono (t_close (by omega) p1791.ps (by decide) (by omega) (fun _ h => hT _ (p1791.1.1.tr h))) (fun v1799 κ1804 h1800 => ?_) (fun _ h => h)
      obtain ⟨q1801, m1802, a1803⟩ := h1800
      have p1805 : TR (-1) (0) 0 0 0 (-5) μ κ1804 := p1791.trS q1801 (Or.inl (by decide)) rfl rfl rfl rfl (by omega)
      have k1806 := k1792.tr q1801 (Or.inl (by decide)) s0
      have k1807 := k1793.tr q1801 (Or.inl (by decide)) s0
      have cv1808 : CVs κ1804 (s.toInt + 1) ((κ1804).1 19).toInt [r1761] := cv1794.st q1801.rb (Int.le_refl _) (Or.inl (by omega)) m1802
      have b1809 := FK.tr b1795 q1801 (by omega) (by omega)
      have b1810 := FK.tr b1796 q1801 (by omega) (by omega)
      have nd1811 := nd1789.tr q1801 (by have := @ic s; omega) (by omega)
      have lt1812 : s.toInt < (κ1804.1 19).toInt := by omega
      exact v_statement_553 _ _ ⟨⟨⟨p1805.1, by have := p1805.2; omega⟩, by omega, (G.mk (lo := s.toInt) s0 (Int.le_refl _) lt1812 nd1811 (by decide) (k1806) (k1807) True.intro True.intro True.intro : G κ1804 (h + 1) (bt s.toInt (κ1804.1 19).toInt) 3 s).up (Nat.le_refl _) (by omega) (Int.le_refl _), nd1811.2.2.2.2.2.2, (CO.fin' (by omega) cv1808 s0 ⟨fun h => Par.fb nd1811 (by decide) h, True.intro⟩ lt1812)⟩, (fun K9 hK9 => by obtain rfl : K9 = K := (by omega); exact ⟨0 + 0 + 0 + 0 + 0 + 0, by omega, PK.mk (c0 := A1701) (v0 := 0) (v1 := 0) (v2 := 0) (v3 := 0) (v4 := 0) nd1811 s0 (by omega) (by omega) (by omega) (by decide) (by have e : ow (50 : Int32) = 0 := (by decide); omega) ((FK.up (by omega) b1809)) ((FK.up (by omega) b1810)) (FK.fr (Int.le_refl _)) (FK.fr (Int.le_refl _)) (FK.fr (Int.le_refl _))⟩)⟩
    · skip
      obtain ⟨A1813, hA1814⟩ : ∃ A : Int, A = (κ.1 19).toInt := ⟨_, rfl⟩
      have g1815 : TR s.toInt 0 0 0 0 0 κ (mA1 κ 20 s.toNatClampNeg 49) := TR.put p0.ps s0 rfl rfl
      have e1817 : ((mA1 κ 20 s.toNatClampNeg 49).1 19).toInt = (κ.1 19).toInt := rfl
      have e1818 : ((mA1 κ 20 s.toNatClampNeg 49).1 32).toInt = (κ.1 32).toInt := rfl
      have sr1820 : srt (mA1 κ 20 s.toNatClampNeg 49) = srt κ := srt_off rfl
      have nd1819 := nd0.pk (x := 49)
      have p1821 : TR (-1) (0) 0 0 0 (-1) μ (mA1 κ 20 s.toNatClampNeg 49) := p0.trS g1815 (Or.inr (Or.inr (by omega))) rfl rfl rfl rfl (by omega)
      have cv1822 : CVs (mA1 κ 20 s.toNatClampNeg 49) (s.toInt + 1) (((mA1 κ 20 s.toNatClampNeg 49)).1 19).toInt [] := cv0.st g1815.rb (Int.le_refl _) (Or.inl (by omega)) rfl
      refine ⟨TR.mi p0.ps rfl rfl s0 (by omega), ?_⟩
      generalize mA1 κ 20 s.toNatClampNeg 49 = κ1816 at *
      have lt1823 : s.toInt < (κ1816.1 19).toInt := by omega
      refine MC.mono (c_is (by omega) p1821.ps) (fun r1824 κ1825 h1826 => ?_) (fun _ h => h)
      obtain ⟨rfl, rfl⟩ := h1826
      refine ⟨fun _ => ?_, fun _ => ?_⟩
      · skip
        exact v_statement_553 _ _ ⟨⟨⟨p1821.1, by have := p1821.2; omega⟩, by omega, (G.mk (lo := s.toInt) s0 (Int.le_refl _) lt1823 nd1819 (by decide) (Or.inl rfl) True.intro True.intro True.intro True.intro : G κ1825 (h + 1) (bt s.toInt (κ1825.1 19).toInt) 3 s).up (Nat.le_refl _) (by omega) (Int.le_refl _), nd1819.2.2.2.2.2.2, (CO.fin' (by omega) cv1822 s0 True.intro lt1823)⟩, (fun K9 hK9 => by obtain rfl : K9 = K := (by omega); exact ⟨0 + 0 + 0 + 0 + 0 + 0, by omega, PK.mk (c0 := A1813) (v0 := 0) (v1 := 0) (v2 := 0) (v3 := 0) (v4 := 0) nd1819 s0 (by omega) (by omega) (by omega) (by decide) (by have e : ow (49 : Int32) = 0 := (by decide); omega) (FK.no (Int.le_refl _)) (FK.fr (Int.le_refl _)) (FK.fr (Int.le_refl _)) (FK.fr (Int.le_refl _)) (FK.fr (Int.le_refl _))⟩)⟩
      · skip
        have x1830 := p1821.px
        have u1831 := p1821.2
        have y1832 := tT p1821
        have z1833 := px0 p1821.ps
        refine MC.mono (hE κ1825 T h p1821.ps (by omega) (by omega) (by omega) (fun _ h => hT _ (p1821.1.1.tr h))) (fun r1827 κ1828 h1829 => ?_) (fun _ h => h)
        obtain ⟨q1834, a1836, g1835, n1837, c1838⟩ := h1829
        have l1839 := q1834.l19
        have l1840 := q1834.l32
        have p1841 : TR (-1) (0) 0 0 0 (-1) μ κ1828 := p1821.trS q1834 (Or.inl (by decide)) rfl rfl rfl rfl (by omega)
        have cv1842 : CVs κ1828 (s.toInt + 1) ((κ1828).1 19).toInt [r1827] := cv1822.add q1834.rb (Int.le_refl _) (Or.inl (by omega)) (by omega) l1839 (LCO.of g1835.in.1 c1838)
        have nd1843 := nd1819.tr q1834 (by have := @ic s; omega) (by omega)
        have lt1844 : s.toInt < (κ1828.1 19).toInt := by omega
        have k1845 : Kd κ1828 h s.toInt s 1 r1827 := Kd.of g1835 (by omega) (Int.le_refl _) s0 (Or.inl (by omega)) n1837
        obtain ⟨A1846, hA1847⟩ : ∃ A : Int, A = (κ1828.1 19).toInt := ⟨_, rfl⟩
        have b1848 : FK κ1828 (h) K 1 (1, 1) A1813 A1846 0 r1827 := FK.one (by omega) (g1835.up (Nat.le_refl _) (by omega) (by omega)) n1837 (by decide) (by decide)
        have g1849 : TR s.toInt 0 0 0 0 0 κ1828 (mA1 κ1828 22 s.toNatClampNeg r1827) := TR.put p1841.ps s0 rfl rfl
        have e1851 : ((mA1 κ1828 22 s.toNatClampNeg r1827).1 19).toInt = (κ1828.1 19).toInt := rfl
        have e1852 : ((mA1 κ1828 22 s.toNatClampNeg r1827).1 32).toInt = (κ1828.1 32).toInt := rfl
        have sr1854 : srt (mA1 κ1828 22 s.toNatClampNeg r1827) = srt κ1828 := srt_off rfl
        have nd1853 := nd1843.pa (x := r1827)
        have p1855 : TR (-1) (0) 0 0 0 (-1) μ (mA1 κ1828 22 s.toNatClampNeg r1827) := p1841.trS g1849 (Or.inr (Or.inr (by omega))) rfl rfl rfl rfl (by omega)
        have k1856 := k1845.tr g1849 (Or.inr rfl) s0
        have cv1857 : CVs (mA1 κ1828 22 s.toNatClampNeg r1827) (s.toInt + 1) (((mA1 κ1828 22 s.toNatClampNeg r1827)).1 19).toInt [r1827] := cv1842.st g1849.rb (Int.le_refl _) (Or.inl (by omega)) rfl
        have b1858 := FK.tr b1848 g1849 (by omega) (by omega)
        refine ⟨TR.mi p1841.ps rfl rfl s0 (by omega), ?_⟩
        generalize mA1 κ1828 22 s.toNatClampNeg r1827 = κ1850 at *
        have lt1859 : s.toInt < (κ1850.1 19).toInt := by omega
        exact v_statement_553 _ _ ⟨⟨⟨p1855.1, by have := p1855.2; omega⟩, by omega, (G.mk (lo := s.toInt) s0 (Int.le_refl _) lt1859 nd1853 (by decide) (Or.inr k1856) True.intro True.intro True.intro True.intro : G κ1850 (h + 1) (bt s.toInt (κ1850.1 19).toInt) 3 s).up (Nat.le_refl _) (by omega) (Int.le_refl _), nd1853.2.2.2.2.2.2, (CO.fin' (by omega) cv1857 s0 ⟨fun h => Par.fa nd1853 (by decide) h, True.intro⟩ lt1859)⟩, (fun K9 hK9 => by obtain rfl : K9 = K := (by omega); exact ⟨0 + 0 + 0 + 0 + 0 + 0, by omega, PK.mk (c0 := A1813) (v0 := 0) (v1 := 0) (v2 := 0) (v3 := 0) (v4 := 0) nd1853 s0 (by omega) (by omega) (by omega) (by decide) (by have e : ow (49 : Int32) = 0 := (by decide); omega) (FK.opt (FK.up (by omega) b1858)) (FK.fr (Int.le_refl _)) (FK.fr (Int.le_refl _)) (FK.fr (Int.le_refl _)) (FK.fr (Int.le_refl _))⟩)⟩
    · skip
      obtain ⟨A1860, hA1861⟩ : ∃ A : Int, A = (κ.1 19).toInt := ⟨_, rfl⟩
      have g1862 : TR s.toInt 0 0 0 0 0 κ (mA1 κ 20 s.toNatClampNeg 55) := TR.put p0.ps s0 rfl rfl
      have e1864 : ((mA1 κ 20 s.toNatClampNeg 55).1 19).toInt = (κ.1 19).toInt := rfl
      have e1865 : ((mA1 κ 20 s.toNatClampNeg 55).1 32).toInt = (κ.1 32).toInt := rfl
      have sr1867 : srt (mA1 κ 20 s.toNatClampNeg 55) = srt κ := srt_off rfl
      have nd1866 := nd0.pk (x := 55)
      have p1868 : TR (-1) (0) 0 0 0 (-1) μ (mA1 κ 20 s.toNatClampNeg 55) := p0.trS g1862 (Or.inr (Or.inr (by omega))) rfl rfl rfl rfl (by omega)
      have cv1869 : CVs (mA1 κ 20 s.toNatClampNeg 55) (s.toInt + 1) (((mA1 κ 20 s.toNatClampNeg 55)).1 19).toInt [] := cv0.st g1862.rb (Int.le_refl _) (Or.inl (by omega)) rfl
      refine ⟨TR.mi p0.ps rfl rfl s0 (by omega), ?_⟩
      generalize mA1 κ 20 s.toNatClampNeg 55 = κ1863 at *
      have lt1870 : s.toInt < (κ1863.1 19).toInt := by omega
      have x1874 := p1868.px
      have u1875 := p1868.2
      have y1876 := tT p1868
      have z1877 := px0 p1868.ps
      refine MC.mono (hE κ1863 T h p1868.ps (by omega) (by omega) (by omega) (fun _ h => hT _ (p1868.1.1.tr h))) (fun r1871 κ1872 h1873 => ?_) (fun _ h => h)
      obtain ⟨q1878, a1880, g1879, n1881, c1882⟩ := h1873
      have l1883 := q1878.l19
      have l1884 := q1878.l32
      have p1885 : TR (-1) (0) 0 0 0 (-1) μ κ1872 := p1868.trS q1878 (Or.inl (by decide)) rfl rfl rfl rfl (by omega)
      have cv1886 : CVs κ1872 (s.toInt + 1) ((κ1872).1 19).toInt [r1871] := cv1869.add q1878.rb (Int.le_refl _) (Or.inl (by omega)) (by omega) l1883 (LCO.of g1879.in.1 c1882)
      have nd1887 := nd1866.tr q1878 (by have := @ic s; omega) (by omega)
      have lt1888 : s.toInt < (κ1872.1 19).toInt := by omega
      have k1889 : Kd κ1872 h s.toInt s 1 r1871 := Kd.of g1879 (by omega) (Int.le_refl _) s0 (Or.inl (by omega)) n1881
      obtain ⟨A1890, hA1891⟩ : ∃ A : Int, A = (κ1872.1 19).toInt := ⟨_, rfl⟩
      have b1892 : FK κ1872 (h) K 1 (1, 1) A1860 A1890 0 r1871 := FK.one (by omega) (g1879.up (Nat.le_refl _) (by omega) (by omega)) n1881 (by decide) (by decide)
      have g1893 : TR s.toInt 0 0 0 0 0 κ1872 (mA1 κ1872 22 s.toNatClampNeg r1871) := TR.put p1885.ps s0 rfl rfl
      have e1895 : ((mA1 κ1872 22 s.toNatClampNeg r1871).1 19).toInt = (κ1872.1 19).toInt := rfl
      have e1896 : ((mA1 κ1872 22 s.toNatClampNeg r1871).1 32).toInt = (κ1872.1 32).toInt := rfl
      have sr1898 : srt (mA1 κ1872 22 s.toNatClampNeg r1871) = srt κ1872 := srt_off rfl
      have nd1897 := nd1887.pa (x := r1871)
      have p1899 : TR (-1) (0) 0 0 0 (-1) μ (mA1 κ1872 22 s.toNatClampNeg r1871) := p1885.trS g1893 (Or.inr (Or.inr (by omega))) rfl rfl rfl rfl (by omega)
      have k1900 := k1889.tr g1893 (Or.inr rfl) s0
      have cv1901 : CVs (mA1 κ1872 22 s.toNatClampNeg r1871) (s.toInt + 1) (((mA1 κ1872 22 s.toNatClampNeg r1871)).1 19).toInt [r1871] := cv1886.st g1893.rb (Int.le_refl _) (Or.inl (by omega)) rfl
      have b1902 := FK.tr b1892 g1893 (by omega) (by omega)
      refine ⟨TR.mi p1885.ps rfl rfl s0 (by omega), ?_⟩
      generalize mA1 κ1872 22 s.toNatClampNeg r1871 = κ1894 at *
      have lt1903 : s.toInt < (κ1894.1 19).toInt := by omega
      refine MC.mono (t_expect (by omega) p1899.ps (by decide) (fun _ h => hT _ (p1899.1.1.tr h))) (fun v1904 κ1909 h1905 => ?_) (fun _ h => h)
      obtain ⟨q1906, m1907, a1908⟩ := h1905
      have p1910 : TR (-1) (0) 0 0 0 (-3) μ κ1909 := p1899.trS q1906 (Or.inl (by decide)) rfl rfl rfl rfl (by omega)
      have k1911 := k1900.tr q1906 (Or.inl (by decide)) s0
      have cv1912 : CVs κ1909 (s.toInt + 1) ((κ1909).1 19).toInt [r1871] := cv1901.st q1906.rb (Int.le_refl _) (Or.inl (by omega)) m1907
      have b1913 := FK.tr b1902 q1906 (by omega) (by omega)
      have nd1914 := nd1897.tr q1906 (by have := @ic s; omega) (by omega)
      have lt1915 : s.toInt < (κ1909.1 19).toInt := by omega
      have x1919 := p1910.px
      have u1920 := p1910.2
      have y1921 := tT p1910
      have z1922 := px0 p1910.ps
      refine MC.mono (hE κ1909 T h p1910.ps (by omega) (by omega) (by omega) (fun _ h => hT _ (p1910.1.1.tr h))) (fun r1916 κ1917 h1918 => ?_) (fun _ h => h)
      obtain ⟨q1923, a1925, g1924, n1926, c1927⟩ := h1918
      have l1928 := q1923.l19
      have l1929 := q1923.l32
      have p1930 : TR (-1) (0) 0 0 0 (-3) μ κ1917 := p1910.trS q1923 (Or.inl (by decide)) rfl rfl rfl rfl (by omega)
      have k1931 := k1911.tr q1923 (Or.inl (by decide)) s0
      have cv1932 : CVs κ1917 (s.toInt + 1) ((κ1917).1 19).toInt [r1916, r1871] := cv1912.add q1923.rb (Int.le_refl _) (Or.inl (by omega)) (by omega) l1928 (LCO.of g1924.in.1 c1927)
      have b1933 := FK.tr b1913 q1923 (by omega) (by omega)
      have nd1934 := nd1914.tr q1923 (by have := @ic s; omega) (by omega)
      have lt1935 : s.toInt < (κ1917.1 19).toInt := by omega
      have k1936 : Kd κ1917 h s.toInt s 1 r1916 := Kd.of g1924 (by omega) (Int.le_refl _) s0 (Or.inl (by omega)) n1926
      obtain ⟨A1937, hA1938⟩ : ∃ A : Int, A = (κ1917.1 19).toInt := ⟨_, rfl⟩
      have b1939 : FK κ1917 (h) K 1 (1, 1) A1890 A1937 0 r1916 := FK.one (by omega) (g1924.up (Nat.le_refl _) (by omega) (by omega)) n1926 (by decide) (by decide)
      have g1940 : TR s.toInt 0 0 0 0 0 κ1917 (mA1 κ1917 23 s.toNatClampNeg r1916) := TR.put p1930.ps s0 rfl rfl
      have e1942 : ((mA1 κ1917 23 s.toNatClampNeg r1916).1 19).toInt = (κ1917.1 19).toInt := rfl
      have e1943 : ((mA1 κ1917 23 s.toNatClampNeg r1916).1 32).toInt = (κ1917.1 32).toInt := rfl
      have sr1945 : srt (mA1 κ1917 23 s.toNatClampNeg r1916) = srt κ1917 := srt_off rfl
      have nd1944 := nd1934.pb (x := r1916)
      have p1946 : TR (-1) (0) 0 0 0 (-3) μ (mA1 κ1917 23 s.toNatClampNeg r1916) := p1930.trS g1940 (Or.inr (Or.inr (by omega))) rfl rfl rfl rfl (by omega)
      have k1947 := k1931.tr g1940 (Or.inr rfl) s0
      have k1948 := k1936.tr g1940 (Or.inr rfl) s0
      have cv1949 : CVs (mA1 κ1917 23 s.toNatClampNeg r1916) (s.toInt + 1) (((mA1 κ1917 23 s.toNatClampNeg r1916)).1 19).toInt [r1916, r1871] := cv1932.st g1940.rb (Int.le_refl _) (Or.inl (by omega)) rfl
      have b1950 := FK.tr b1933 g1940 (by omega) (by omega)
      have b1951 := FK.tr b1939 g1940 (by omega) (by omega)
      refine ⟨TR.mi p1930.ps rfl rfl s0 (by omega), ?_⟩
      generalize mA1 κ1917 23 s.toNatClampNeg r1916 = κ1941 at *
      have lt1952 : s.toInt < (κ1941.1 19).toInt := by omega
      exact v_statement_553 _ _ ⟨⟨⟨p1946.1, by have := p1946.2; omega⟩, by omega, (G.mk (lo := s.toInt) s0 (Int.le_refl _) lt1952 nd1944 (by decide) (k1947) (k1948) True.intro True.intro True.intro : G κ1941 (h + 1) (bt s.toInt (κ1941.1 19).toInt) 3 s).up (Nat.le_refl _) (by omega) (Int.le_refl _), nd1944.2.2.2.2.2.2, (CO.fin' (by omega) cv1949 s0 ⟨fun h => Par.fb nd1944 (by decide) h, fun h => Par.fa nd1944 (by decide) h, True.intro⟩ lt1952)⟩, (fun K9 hK9 => by obtain rfl : K9 = K := (by omega); exact ⟨0 + 0 + 0 + 0 + 0 + 0, by omega, PK.mk (c0 := A1860) (v0 := 0) (v1 := 0) (v2 := 0) (v3 := 0) (v4 := 0) nd1944 s0 (by omega) (by omega) (by omega) (by decide) (by have e : ow (55 : Int32) = 0 := (by decide); omega) ((FK.up (by omega) b1950)) ((FK.up (by omega) b1951)) (FK.fr (Int.le_refl _)) (FK.fr (Int.le_refl _)) (FK.fr (Int.le_refl _))⟩)⟩
    · skip
      obtain ⟨A1953, hA1954⟩ : ∃ A : Int, A = (κ.1 19).toInt := ⟨_, rfl⟩
      have g1955 : TR s.toInt 0 0 0 0 0 κ (mA1 κ 20 s.toNatClampNeg 46) := TR.put p0.ps s0 rfl rfl
      have e1957 : ((mA1 κ 20 s.toNatClampNeg 46).1 19).toInt = (κ.1 19).toInt := rfl
      have e1958 : ((mA1 κ 20 s.toNatClampNeg 46).1 32).toInt = (κ.1 32).toInt := rfl
      have sr1960 : srt (mA1 κ 20 s.toNatClampNeg 46) = srt κ := srt_off rfl
      have nd1959 := nd0.pk (x := 46)
      have p1961 : TR (-1) (0) 0 0 0 (-1) μ (mA1 κ 20 s.toNatClampNeg 46) := p0.trS g1955 (Or.inr (Or.inr (by omega))) rfl rfl rfl rfl (by omega)
      have cv1962 : CVs (mA1 κ 20 s.toNatClampNeg 46) (s.toInt + 1) (((mA1 κ 20 s.toNatClampNeg 46)).1 19).toInt [] := cv0.st g1955.rb (Int.le_refl _) (Or.inl (by omega)) rfl
      refine ⟨TR.mi p0.ps rfl rfl s0 (by omega), ?_⟩
      generalize mA1 κ 20 s.toNatClampNeg 46 = κ1956 at *
      have lt1963 : s.toInt < (κ1956.1 19).toInt := by omega
      have x1967 := p1961.px
      have u1968 := p1961.2
      have y1969 := tT p1961
      have z1970 := px0 p1961.ps
      refine MC.mono (hE κ1956 T h p1961.ps (by omega) (by omega) (by omega) (fun _ h => hT _ (p1961.1.1.tr h))) (fun r1964 κ1965 h1966 => ?_) (fun _ h => h)
      obtain ⟨q1971, a1973, g1972, n1974, c1975⟩ := h1966
      have l1976 := q1971.l19
      have l1977 := q1971.l32
      have p1978 : TR (-1) (0) 0 0 0 (-1) μ κ1965 := p1961.trS q1971 (Or.inl (by decide)) rfl rfl rfl rfl (by omega)
      have cv1979 : CVs κ1965 (s.toInt + 1) ((κ1965).1 19).toInt [r1964] := cv1962.add q1971.rb (Int.le_refl _) (Or.inl (by omega)) (by omega) l1976 (LCO.of g1972.in.1 c1975)
      have nd1980 := nd1959.tr q1971 (by have := @ic s; omega) (by omega)
      have lt1981 : s.toInt < (κ1965.1 19).toInt := by omega
      have k1982 : Kd κ1965 h s.toInt s 1 r1964 := Kd.of g1972 (by omega) (Int.le_refl _) s0 (Or.inl (by omega)) n1974
      obtain ⟨A1983, hA1984⟩ : ∃ A : Int, A = (κ1965.1 19).toInt := ⟨_, rfl⟩
      have b1985 : FK κ1965 (h) K 1 (1, 1) A1953 A1983 0 r1964 := FK.one (by omega) (g1972.up (Nat.le_refl _) (by omega) (by omega)) n1974 (by decide) (by decide)
      have g1986 : TR s.toInt 0 0 0 0 0 κ1965 (mA1 κ1965 22 s.toNatClampNeg r1964) := TR.put p1978.ps s0 rfl rfl
      have e1988 : ((mA1 κ1965 22 s.toNatClampNeg r1964).1 19).toInt = (κ1965.1 19).toInt := rfl
      have e1989 : ((mA1 κ1965 22 s.toNatClampNeg r1964).1 32).toInt = (κ1965.1 32).toInt := rfl
      have sr1991 : srt (mA1 κ1965 22 s.toNatClampNeg r1964) = srt κ1965 := srt_off rfl
      have nd1990 := nd1980.pa (x := r1964)
      have p1992 : TR (-1) (0) 0 0 0 (-1) μ (mA1 κ1965 22 s.toNatClampNeg r1964) := p1978.trS g1986 (Or.inr (Or.inr (by omega))) rfl rfl rfl rfl (by omega)
      have k1993 := k1982.tr g1986 (Or.inr rfl) s0
      have cv1994 : CVs (mA1 κ1965 22 s.toNatClampNeg r1964) (s.toInt + 1) (((mA1 κ1965 22 s.toNatClampNeg r1964)).1 19).toInt [r1964] := cv1979.st g1986.rb (Int.le_refl _) (Or.inl (by omega)) rfl
      have b1995 := FK.tr b1985 g1986 (by omega) (by omega)
      refine ⟨TR.mi p1978.ps rfl rfl s0 (by omega), ?_⟩
      generalize mA1 κ1965 22 s.toNatClampNeg r1964 = κ1987 at *
      have lt1996 : s.toInt < (κ1987.1 19).toInt := by omega
      refine MC.mono (t_expect (by omega) p1992.ps (by decide) (fun _ h => hT _ (p1992.1.1.tr h))) (fun v1997 κ2002 h1998 => ?_) (fun _ h => h)
      obtain ⟨q1999, m2000, a2001⟩ := h1998
      have p2003 : TR (-1) (0) 0 0 0 (-3) μ κ2002 := p1992.trS q1999 (Or.inl (by decide)) rfl rfl rfl rfl (by omega)
      have k2004 := k1993.tr q1999 (Or.inl (by decide)) s0
      have cv2005 : CVs κ2002 (s.toInt + 1) ((κ2002).1 19).toInt [r1964] := cv1994.st q1999.rb (Int.le_refl _) (Or.inl (by omega)) m2000
      have b2006 := FK.tr b1995 q1999 (by omega) (by omega)
      have nd2007 := nd1990.tr q1999 (by have := @ic s; omega) (by omega)
      have lt2008 : s.toInt < (κ2002.1 19).toInt := by omega
      have x2012 := p2003.px
      have u2013 := p2003.2
      have y2014 := tT p2003
      have z2015 := px0 p2003.ps
      refine MC.mono (hSt κ2002 T h p2003.ps (by omega) (by omega) (by omega) (fun _ h => hT _ (p2003.1.1.tr h))) (fun r2009 κ2010 h2011 => ?_) (fun _ h => h)
      obtain ⟨q2016, g2017, c2018, hb2019⟩ := h2011
      obtain ⟨v2020, hv2021, b2022⟩ := hb2019 K (by have y40 := p2003.1.2.2.2.2.2.2.2.2.1; omega)
      have l2023 := q2016.l19
      have l2024 := q2016.l32
      have p2025 : TR (-1) (0) 0 0 0 (-3) μ κ2010 := p2003.trS q2016 (Or.inl (by decide)) rfl rfl rfl rfl (by omega)
      have k2026 := k2004.tr q2016 (Or.inl (by decide)) s0
      have cv2027 : CVs κ2010 (s.toInt + 1) ((κ2010).1 19).toInt [r2009, r1964] := cv2005.add q2016.rb (Int.le_refl _) (Or.inl (by omega)) (by omega) l2023 (c2018)
      have b2028 := FK.tr b2006 q2016 (by omega) (by omega)
      have nd2029 := nd2007.tr q2016 (by have := @ic s; omega) (by omega)
      have lt2030 : s.toInt < (κ2010.1 19).toInt := by omega
      have k2031 : KL κ2010 h s.toInt s 3 r2009 := KL.of g2017 (by omega) (Int.le_refl _) s0 (Or.inl (by omega))
      obtain ⟨A2032, hA2033⟩ : ∃ A : Int, A = (κ2010.1 19).toInt := ⟨_, rfl⟩
      have b2034 : FK κ2010 (h) K 1 (3, 3) A1983 A2032 v2020 r2009 := FK.at (by omega) (by omega) b2022.b3
      have g2035 : TR s.toInt 0 0 0 0 0 κ2010 (mA1 κ2010 23 s.toNatClampNeg r2009) := TR.put p2025.ps s0 rfl rfl
      have e2037 : ((mA1 κ2010 23 s.toNatClampNeg r2009).1 19).toInt = (κ2010.1 19).toInt := rfl
      have e2038 : ((mA1 κ2010 23 s.toNatClampNeg r2009).1 32).toInt = (κ2010.1 32).toInt := rfl
      have sr2040 : srt (mA1 κ2010 23 s.toNatClampNeg r2009) = srt κ2010 := srt_off rfl
      have nd2039 := nd2029.pb (x := r2009)
      have p2041 : TR (-1) (0) 0 0 0 (-3) μ (mA1 κ2010 23 s.toNatClampNeg r2009) := p2025.trS g2035 (Or.inr (Or.inr (by omega))) rfl rfl rfl rfl (by omega)
      have k2042 := k2026.tr g2035 (Or.inr rfl) s0
      have k2043 := k2031.tr g2035 (Or.inr rfl) s0
      have cv2044 : CVs (mA1 κ2010 23 s.toNatClampNeg r2009) (s.toInt + 1) (((mA1 κ2010 23 s.toNatClampNeg r2009)).1 19).toInt [r2009, r1964] := cv2027.st g2035.rb (Int.le_refl _) (Or.inl (by omega)) rfl
      have b2045 := FK.tr b2028 g2035 (by omega) (by omega)
      have b2046 := FK.tr b2034 g2035 (by omega) (by omega)
      refine ⟨TR.mi p2025.ps rfl rfl s0 (by omega), ?_⟩
      generalize mA1 κ2010 23 s.toNatClampNeg r2009 = κ2036 at *
      have lt2047 : s.toInt < (κ2036.1 19).toInt := by omega
      refine MC.mono (t_expect (by omega) p2041.ps (by decide) (fun _ h => hT _ (p2041.1.1.tr h))) (fun v2048 κ2053 h2049 => ?_) (fun _ h => h)
      obtain ⟨q2050, m2051, a2052⟩ := h2049
      have p2054 : TR (-1) (0) 0 0 0 (-5) μ κ2053 := p2041.trS q2050 (Or.inl (by decide)) rfl rfl rfl rfl (by omega)
      have k2055 := k2042.tr q2050 (Or.inl (by decide)) s0
      have k2056 := k2043.tr q2050 (Or.inl (by decide)) s0
      have cv2057 : CVs κ2053 (s.toInt + 1) ((κ2053).1 19).toInt [r2009, r1964] := cv2044.st q2050.rb (Int.le_refl _) (Or.inl (by omega)) m2051
      have b2058 := FK.tr b2045 q2050 (by omega) (by omega)
      have b2059 := FK.tr b2046 q2050 (by omega) (by omega)
      have nd2060 := nd2039.tr q2050 (by have := @ic s; omega) (by omega)
      have lt2061 : s.toInt < (κ2053.1 19).toInt := by omega
      exact v_statement_553 _ _ ⟨⟨⟨p2054.1, by have := p2054.2; omega⟩, by omega, (G.mk (lo := s.toInt) s0 (Int.le_refl _) lt2061 nd2060 (by decide) (k2055) (k2056) True.intro True.intro True.intro : G κ2053 (h + 1) (bt s.toInt (κ2053.1 19).toInt) 3 s).up (Nat.le_refl _) (by omega) (Int.le_refl _), nd2060.2.2.2.2.2.2, (CO.fin' (by omega) cv2057 s0 ⟨fun h => Par.fb nd2060 (by decide) h, fun h => Par.fa nd2060 (by decide) h, True.intro⟩ lt2061)⟩, (fun K9 hK9 => by obtain rfl : K9 = K := (by omega); exact ⟨0 + v2020 + 0 + 0 + 0 + 0, by omega, PK.mk (c0 := A1953) (v0 := 0) (v1 := v2020) (v2 := 0) (v3 := 0) (v4 := 0) nd2060 s0 (by omega) (by omega) (by omega) (by decide) (by have e : ow (46 : Int32) = 0 := (by decide); omega) ((FK.up (by omega) b2058)) ((FK.up (by omega) b2059)) (FK.fr (Int.le_refl _)) (FK.fr (Int.le_refl _)) (FK.fr (Int.le_refl _))⟩)⟩
    · skip
      obtain ⟨A2062, hA2063⟩ : ∃ A : Int, A = (κ.1 19).toInt := ⟨_, rfl⟩
      have g2064 : TR s.toInt 0 0 0 0 0 κ (mA1 κ 20 s.toNatClampNeg 59) := TR.put p0.ps s0 rfl rfl
      have e2066 : ((mA1 κ 20 s.toNatClampNeg 59).1 19).toInt = (κ.1 19).toInt := rfl
      have e2067 : ((mA1 κ 20 s.toNatClampNeg 59).1 32).toInt = (κ.1 32).toInt := rfl
      have sr2069 : srt (mA1 κ 20 s.toNatClampNeg 59) = srt κ := srt_off rfl
      have nd2068 := nd0.pk (x := 59)
      have p2070 : TR (-1) (0) 0 0 0 (-1) μ (mA1 κ 20 s.toNatClampNeg 59) := p0.trS g2064 (Or.inr (Or.inr (by omega))) rfl rfl rfl rfl (by omega)
      have cv2071 : CVs (mA1 κ 20 s.toNatClampNeg 59) (s.toInt + 1) (((mA1 κ 20 s.toNatClampNeg 59)).1 19).toInt [] := cv0.st g2064.rb (Int.le_refl _) (Or.inl (by omega)) rfl
      refine ⟨TR.mi p0.ps rfl rfl s0 (by omega), ?_⟩
      generalize mA1 κ 20 s.toNatClampNeg 59 = κ2065 at *
      have lt2072 : s.toInt < (κ2065.1 19).toInt := by omega
      have x2076 := p2070.px
      have u2077 := p2070.2
      have y2078 := tT p2070
      have z2079 := px0 p2070.ps
      refine MC.mono (hE κ2065 T h p2070.ps (by omega) (by omega) (by omega) (fun _ h => hT _ (p2070.1.1.tr h))) (fun r2073 κ2074 h2075 => ?_) (fun _ h => h)
      obtain ⟨q2080, a2082, g2081, n2083, c2084⟩ := h2075
      have l2085 := q2080.l19
      have l2086 := q2080.l32
      have p2087 : TR (-1) (0) 0 0 0 (-1) μ κ2074 := p2070.trS q2080 (Or.inl (by decide)) rfl rfl rfl rfl (by omega)
      have cv2088 : CVs κ2074 (s.toInt + 1) ((κ2074).1 19).toInt [r2073] := cv2071.add q2080.rb (Int.le_refl _) (Or.inl (by omega)) (by omega) l2085 (LCO.of g2081.in.1 c2084)
      have nd2089 := nd2068.tr q2080 (by have := @ic s; omega) (by omega)
      have lt2090 : s.toInt < (κ2074.1 19).toInt := by omega
      have k2091 : Kd κ2074 h s.toInt s 1 r2073 := Kd.of g2081 (by omega) (Int.le_refl _) s0 (Or.inl (by omega)) n2083
      obtain ⟨A2092, hA2093⟩ : ∃ A : Int, A = (κ2074.1 19).toInt := ⟨_, rfl⟩
      have b2094 : FK κ2074 (h) K 1 (1, 1) A2062 A2092 0 r2073 := FK.one (by omega) (g2081.up (Nat.le_refl _) (by omega) (by omega)) n2083 (by decide) (by decide)
      have g2095 : TR s.toInt 0 0 0 0 0 κ2074 (mA1 κ2074 22 s.toNatClampNeg r2073) := TR.put p2087.ps s0 rfl rfl
      have e2097 : ((mA1 κ2074 22 s.toNatClampNeg r2073).1 19).toInt = (κ2074.1 19).toInt := rfl
      have e2098 : ((mA1 κ2074 22 s.toNatClampNeg r2073).1 32).toInt = (κ2074.1 32).toInt := rfl
      have sr2100 : srt (mA1 κ2074 22 s.toNatClampNeg r2073) = srt κ2074 := srt_off rfl
      have nd2099 := nd2089.pa (x := r2073)
      have p2101 : TR (-1) (0) 0 0 0 (-1) μ (mA1 κ2074 22 s.toNatClampNeg r2073) := p2087.trS g2095 (Or.inr (Or.inr (by omega))) rfl rfl rfl rfl (by omega)
      have k2102 := k2091.tr g2095 (Or.inr rfl) s0
      have cv2103 : CVs (mA1 κ2074 22 s.toNatClampNeg r2073) (s.toInt + 1) (((mA1 κ2074 22 s.toNatClampNeg r2073)).1 19).toInt [r2073] := cv2088.st g2095.rb (Int.le_refl _) (Or.inl (by omega)) rfl
      have b2104 := FK.tr b2094 g2095 (by omega) (by omega)
      refine ⟨TR.mi p2087.ps rfl rfl s0 (by omega), ?_⟩
      generalize mA1 κ2074 22 s.toNatClampNeg r2073 = κ2096 at *
      have lt2105 : s.toInt < (κ2096.1 19).toInt := by omega
      exact v_statement_553 _ _ ⟨⟨⟨p2101.1, by have := p2101.2; omega⟩, by omega, (G.mk (lo := s.toInt) s0 (Int.le_refl _) lt2105 nd2099 (by decide) (k2102) True.intro True.intro True.intro True.intro : G κ2096 (h + 1) (bt s.toInt (κ2096.1 19).toInt) 3 s).up (Nat.le_refl _) (by omega) (Int.le_refl _), nd2099.2.2.2.2.2.2, (CO.fin' (by omega) cv2103 s0 ⟨fun h => Par.fa nd2099 (by decide) h, True.intro⟩ lt2105)⟩, (fun K9 hK9 => by obtain rfl : K9 = K := (by omega); exact ⟨0 + 0 + 0 + 0 + 0 + 0, by omega, PK.mk (c0 := A2062) (v0 := 0) (v1 := 0) (v2 := 0) (v3 := 0) (v4 := 0) nd2099 s0 (by omega) (by omega) (by omega) (by decide) (by have e : ow (59 : Int32) = 0 := (by decide); omega) ((FK.up (by omega) b2104)) (FK.fr (Int.le_refl _)) (FK.fr (Int.le_refl _)) (FK.fr (Int.le_refl _)) (FK.fr (Int.le_refl _))⟩)⟩
    · skip
      obtain ⟨A2106, hA2107⟩ : ∃ A : Int, A = (κ.1 19).toInt := ⟨_, rfl⟩
      have g2108 : TR s.toInt 0 0 0 0 0 κ (mA1 κ 20 s.toNatClampNeg 58) := TR.put p0.ps s0 rfl rfl
      have e2110 : ((mA1 κ 20 s.toNatClampNeg 58).1 19).toInt = (κ.1 19).toInt := rfl
      have e2111 : ((mA1 κ 20 s.toNatClampNeg 58).1 32).toInt = (κ.1 32).toInt := rfl
      have sr2113 : srt (mA1 κ 20 s.toNatClampNeg 58) = srt κ := srt_off rfl
      have nd2112 := nd0.pk (x := 58)
      have p2114 : TR (-1) (0) 0 0 0 (-1) μ (mA1 κ 20 s.toNatClampNeg 58) := p0.trS g2108 (Or.inr (Or.inr (by omega))) rfl rfl rfl rfl (by omega)
      have cv2115 : CVs (mA1 κ 20 s.toNatClampNeg 58) (s.toInt + 1) (((mA1 κ 20 s.toNatClampNeg 58)).1 19).toInt [] := cv0.st g2108.rb (Int.le_refl _) (Or.inl (by omega)) rfl
      refine ⟨TR.mi p0.ps rfl rfl s0 (by omega), ?_⟩
      generalize mA1 κ 20 s.toNatClampNeg 58 = κ2109 at *
      have lt2116 : s.toInt < (κ2109.1 19).toInt := by omega
      have x2120 := p2114.px
      have u2121 := p2114.2
      have y2122 := tT p2114
      have z2123 := px0 p2114.ps
      refine MC.mono (hE κ2109 T h p2114.ps (by omega) (by omega) (by omega) (fun _ h => hT _ (p2114.1.1.tr h))) (fun r2117 κ2118 h2119 => ?_) (fun _ h => h)
      obtain ⟨q2124, a2126, g2125, n2127, c2128⟩ := h2119
      have l2129 := q2124.l19
      have l2130 := q2124.l32
      have p2131 : TR (-1) (0) 0 0 0 (-1) μ κ2118 := p2114.trS q2124 (Or.inl (by decide)) rfl rfl rfl rfl (by omega)
      have cv2132 : CVs κ2118 (s.toInt + 1) ((κ2118).1 19).toInt [r2117] := cv2115.add q2124.rb (Int.le_refl _) (Or.inl (by omega)) (by omega) l2129 (LCO.of g2125.in.1 c2128)
      have nd2133 := nd2112.tr q2124 (by have := @ic s; omega) (by omega)
      have lt2134 : s.toInt < (κ2118.1 19).toInt := by omega
      have k2135 : Kd κ2118 h s.toInt s 1 r2117 := Kd.of g2125 (by omega) (Int.le_refl _) s0 (Or.inl (by omega)) n2127
      obtain ⟨A2136, hA2137⟩ : ∃ A : Int, A = (κ2118.1 19).toInt := ⟨_, rfl⟩
      have b2138 : FK κ2118 (h) K 1 (1, 1) A2106 A2136 0 r2117 := FK.one (by omega) (g2125.up (Nat.le_refl _) (by omega) (by omega)) n2127 (by decide) (by decide)
      have g2139 : TR s.toInt 0 0 0 0 0 κ2118 (mA1 κ2118 22 s.toNatClampNeg r2117) := TR.put p2131.ps s0 rfl rfl
      have e2141 : ((mA1 κ2118 22 s.toNatClampNeg r2117).1 19).toInt = (κ2118.1 19).toInt := rfl
      have e2142 : ((mA1 κ2118 22 s.toNatClampNeg r2117).1 32).toInt = (κ2118.1 32).toInt := rfl
      have sr2144 : srt (mA1 κ2118 22 s.toNatClampNeg r2117) = srt κ2118 := srt_off rfl
      have nd2143 := nd2133.pa (x := r2117)
      have p2145 : TR (-1) (0) 0 0 0 (-1) μ (mA1 κ2118 22 s.toNatClampNeg r2117) := p2131.trS g2139 (Or.inr (Or.inr (by omega))) rfl rfl rfl rfl (by omega)
      have k2146 := k2135.tr g2139 (Or.inr rfl) s0
      have cv2147 : CVs (mA1 κ2118 22 s.toNatClampNeg r2117) (s.toInt + 1) (((mA1 κ2118 22 s.toNatClampNeg r2117)).1 19).toInt [r2117] := cv2132.st g2139.rb (Int.le_refl _) (Or.inl (by omega)) rfl
      have b2148 := FK.tr b2138 g2139 (by omega) (by omega)
      refine ⟨TR.mi p2131.ps rfl rfl s0 (by omega), ?_⟩
      generalize mA1 κ2118 22 s.toNatClampNeg r2117 = κ2140 at *
      have lt2149 : s.toInt < (κ2140.1 19).toInt := by omega
      exact v_statement_553 _ _ ⟨⟨⟨p2145.1, by have := p2145.2; omega⟩, by omega, (G.mk (lo := s.toInt) s0 (Int.le_refl _) lt2149 nd2143 (by decide) (k2146) True.intro True.intro True.intro True.intro : G κ2140 (h + 1) (bt s.toInt (κ2140.1 19).toInt) 3 s).up (Nat.le_refl _) (by omega) (Int.le_refl _), nd2143.2.2.2.2.2.2, (CO.fin' (by omega) cv2147 s0 ⟨fun h => Par.fa nd2143 (by decide) h, True.intro⟩ lt2149)⟩, (fun K9 hK9 => by obtain rfl : K9 = K := (by omega); exact ⟨0 + 0 + 0 + 0 + 0 + 0, by omega, PK.mk (c0 := A2106) (v0 := 0) (v1 := 0) (v2 := 0) (v3 := 0) (v4 := 0) nd2143 s0 (by omega) (by omega) (by omega) (by decide) (by have e : ow (58 : Int32) = 0 := (by decide); omega) ((FK.up (by omega) b2148)) (FK.fr (Int.le_refl _)) (FK.fr (Int.le_refl _)) (FK.fr (Int.le_refl _)) (FK.fr (Int.le_refl _))⟩)⟩
    · skip
      obtain ⟨A2150, hA2151⟩ : ∃ A : Int, A = (κ.1 19).toInt := ⟨_, rfl⟩
      have g2152 : TR s.toInt 0 0 0 0 0 κ (mA1 κ 20 s.toNatClampNeg 57) := TR.put p0.ps s0 rfl rfl
      have e2154 : ((mA1 κ 20 s.toNatClampNeg 57).1 19).toInt = (κ.1 19).toInt := rfl
      have e2155 : ((mA1 κ 20 s.toNatClampNeg 57).1 32).toInt = (κ.1 32).toInt := rfl
      have sr2157 : srt (mA1 κ 20 s.toNatClampNeg 57) = srt κ := srt_off rfl
      have nd2156 := nd0.pk (x := 57)
      have p2158 : TR (-1) (0) 0 0 0 (-1) μ (mA1 κ 20 s.toNatClampNeg 57) := p0.trS g2152 (Or.inr (Or.inr (by omega))) rfl rfl rfl rfl (by omega)
      have cv2159 : CVs (mA1 κ 20 s.toNatClampNeg 57) (s.toInt + 1) (((mA1 κ 20 s.toNatClampNeg 57)).1 19).toInt [] := cv0.st g2152.rb (Int.le_refl _) (Or.inl (by omega)) rfl
      refine ⟨TR.mi p0.ps rfl rfl s0 (by omega), ?_⟩
      generalize mA1 κ 20 s.toNatClampNeg 57 = κ2153 at *
      have lt2160 : s.toInt < (κ2153.1 19).toInt := by omega
      have x2164 := p2158.px
      have u2165 := p2158.2
      have y2166 := tT p2158
      have z2167 := px0 p2158.ps
      refine MC.mono (hE κ2153 T h p2158.ps (by omega) (by omega) (by omega) (fun _ h => hT _ (p2158.1.1.tr h))) (fun r2161 κ2162 h2163 => ?_) (fun _ h => h)
      obtain ⟨q2168, a2170, g2169, n2171, c2172⟩ := h2163
      have l2173 := q2168.l19
      have l2174 := q2168.l32
      have p2175 : TR (-1) (0) 0 0 0 (-1) μ κ2162 := p2158.trS q2168 (Or.inl (by decide)) rfl rfl rfl rfl (by omega)
      have cv2176 : CVs κ2162 (s.toInt + 1) ((κ2162).1 19).toInt [r2161] := cv2159.add q2168.rb (Int.le_refl _) (Or.inl (by omega)) (by omega) l2173 (LCO.of g2169.in.1 c2172)
      have nd2177 := nd2156.tr q2168 (by have := @ic s; omega) (by omega)
      have lt2178 : s.toInt < (κ2162.1 19).toInt := by omega
      have k2179 : Kd κ2162 h s.toInt s 1 r2161 := Kd.of g2169 (by omega) (Int.le_refl _) s0 (Or.inl (by omega)) n2171
      obtain ⟨A2180, hA2181⟩ : ∃ A : Int, A = (κ2162.1 19).toInt := ⟨_, rfl⟩
      have b2182 : FK κ2162 (h) K 1 (1, 1) A2150 A2180 0 r2161 := FK.one (by omega) (g2169.up (Nat.le_refl _) (by omega) (by omega)) n2171 (by decide) (by decide)
      have g2183 : TR s.toInt 0 0 0 0 0 κ2162 (mA1 κ2162 22 s.toNatClampNeg r2161) := TR.put p2175.ps s0 rfl rfl
      have e2185 : ((mA1 κ2162 22 s.toNatClampNeg r2161).1 19).toInt = (κ2162.1 19).toInt := rfl
      have e2186 : ((mA1 κ2162 22 s.toNatClampNeg r2161).1 32).toInt = (κ2162.1 32).toInt := rfl
      have sr2188 : srt (mA1 κ2162 22 s.toNatClampNeg r2161) = srt κ2162 := srt_off rfl
      have nd2187 := nd2177.pa (x := r2161)
      have p2189 : TR (-1) (0) 0 0 0 (-1) μ (mA1 κ2162 22 s.toNatClampNeg r2161) := p2175.trS g2183 (Or.inr (Or.inr (by omega))) rfl rfl rfl rfl (by omega)
      have k2190 := k2179.tr g2183 (Or.inr rfl) s0
      have cv2191 : CVs (mA1 κ2162 22 s.toNatClampNeg r2161) (s.toInt + 1) (((mA1 κ2162 22 s.toNatClampNeg r2161)).1 19).toInt [r2161] := cv2176.st g2183.rb (Int.le_refl _) (Or.inl (by omega)) rfl
      have b2192 := FK.tr b2182 g2183 (by omega) (by omega)
      refine ⟨TR.mi p2175.ps rfl rfl s0 (by omega), ?_⟩
      generalize mA1 κ2162 22 s.toNatClampNeg r2161 = κ2184 at *
      have lt2193 : s.toInt < (κ2184.1 19).toInt := by omega
      exact v_statement_553 _ _ ⟨⟨⟨p2189.1, by have := p2189.2; omega⟩, by omega, (G.mk (lo := s.toInt) s0 (Int.le_refl _) lt2193 nd2187 (by decide) (k2190) True.intro True.intro True.intro True.intro : G κ2184 (h + 1) (bt s.toInt (κ2184.1 19).toInt) 3 s).up (Nat.le_refl _) (by omega) (Int.le_refl _), nd2187.2.2.2.2.2.2, (CO.fin' (by omega) cv2191 s0 ⟨fun h => Par.fa nd2187 (by decide) h, True.intro⟩ lt2193)⟩, (fun K9 hK9 => by obtain rfl : K9 = K := (by omega); exact ⟨0 + 0 + 0 + 0 + 0 + 0, by omega, PK.mk (c0 := A2150) (v0 := 0) (v1 := 0) (v2 := 0) (v3 := 0) (v4 := 0) nd2187 s0 (by omega) (by omega) (by omega) (by decide) (by have e : ow (57 : Int32) = 0 := (by decide); omega) ((FK.up (by omega) b2192)) (FK.fr (Int.le_refl _)) (FK.fr (Int.le_refl _)) (FK.fr (Int.le_refl _)) (FK.fr (Int.le_refl _))⟩)⟩
    · skip
      obtain ⟨A2194, hA2195⟩ : ∃ A : Int, A = (κ.1 19).toInt := ⟨_, rfl⟩
      have g2196 : TR s.toInt 0 0 0 0 0 κ (mA1 κ 20 s.toNatClampNeg 56) := TR.put p0.ps s0 rfl rfl
      have e2198 : ((mA1 κ 20 s.toNatClampNeg 56).1 19).toInt = (κ.1 19).toInt := rfl
      have e2199 : ((mA1 κ 20 s.toNatClampNeg 56).1 32).toInt = (κ.1 32).toInt := rfl
      have sr2201 : srt (mA1 κ 20 s.toNatClampNeg 56) = srt κ := srt_off rfl
      have nd2200 := nd0.pk (x := 56)
      have p2202 : TR (-1) (0) 0 0 0 (-1) μ (mA1 κ 20 s.toNatClampNeg 56) := p0.trS g2196 (Or.inr (Or.inr (by omega))) rfl rfl rfl rfl (by omega)
      have cv2203 : CVs (mA1 κ 20 s.toNatClampNeg 56) (s.toInt + 1) (((mA1 κ 20 s.toNatClampNeg 56)).1 19).toInt [] := cv0.st g2196.rb (Int.le_refl _) (Or.inl (by omega)) rfl
      refine ⟨TR.mi p0.ps rfl rfl s0 (by omega), ?_⟩
      generalize mA1 κ 20 s.toNatClampNeg 56 = κ2197 at *
      have lt2204 : s.toInt < (κ2197.1 19).toInt := by omega
      have x2208 := p2202.px
      have u2209 := p2202.2
      have y2210 := tT p2202
      have z2211 := px0 p2202.ps
      refine MC.mono (hE κ2197 T h p2202.ps (by omega) (by omega) (by omega) (fun _ h => hT _ (p2202.1.1.tr h))) (fun r2205 κ2206 h2207 => ?_) (fun _ h => h)
      obtain ⟨q2212, a2214, g2213, n2215, c2216⟩ := h2207
      have l2217 := q2212.l19
      have l2218 := q2212.l32
      have p2219 : TR (-1) (0) 0 0 0 (-1) μ κ2206 := p2202.trS q2212 (Or.inl (by decide)) rfl rfl rfl rfl (by omega)
      have cv2220 : CVs κ2206 (s.toInt + 1) ((κ2206).1 19).toInt [r2205] := cv2203.add q2212.rb (Int.le_refl _) (Or.inl (by omega)) (by omega) l2217 (LCO.of g2213.in.1 c2216)
      have nd2221 := nd2200.tr q2212 (by have := @ic s; omega) (by omega)
      have lt2222 : s.toInt < (κ2206.1 19).toInt := by omega
      have k2223 : Kd κ2206 h s.toInt s 1 r2205 := Kd.of g2213 (by omega) (Int.le_refl _) s0 (Or.inl (by omega)) n2215
      obtain ⟨A2224, hA2225⟩ : ∃ A : Int, A = (κ2206.1 19).toInt := ⟨_, rfl⟩
      have b2226 : FK κ2206 (h) K 1 (1, 1) A2194 A2224 0 r2205 := FK.one (by omega) (g2213.up (Nat.le_refl _) (by omega) (by omega)) n2215 (by decide) (by decide)
      have g2227 : TR s.toInt 0 0 0 0 0 κ2206 (mA1 κ2206 22 s.toNatClampNeg r2205) := TR.put p2219.ps s0 rfl rfl
      have e2229 : ((mA1 κ2206 22 s.toNatClampNeg r2205).1 19).toInt = (κ2206.1 19).toInt := rfl
      have e2230 : ((mA1 κ2206 22 s.toNatClampNeg r2205).1 32).toInt = (κ2206.1 32).toInt := rfl
      have sr2232 : srt (mA1 κ2206 22 s.toNatClampNeg r2205) = srt κ2206 := srt_off rfl
      have nd2231 := nd2221.pa (x := r2205)
      have p2233 : TR (-1) (0) 0 0 0 (-1) μ (mA1 κ2206 22 s.toNatClampNeg r2205) := p2219.trS g2227 (Or.inr (Or.inr (by omega))) rfl rfl rfl rfl (by omega)
      have k2234 := k2223.tr g2227 (Or.inr rfl) s0
      have cv2235 : CVs (mA1 κ2206 22 s.toNatClampNeg r2205) (s.toInt + 1) (((mA1 κ2206 22 s.toNatClampNeg r2205)).1 19).toInt [r2205] := cv2220.st g2227.rb (Int.le_refl _) (Or.inl (by omega)) rfl
      have b2236 := FK.tr b2226 g2227 (by omega) (by omega)
      refine ⟨TR.mi p2219.ps rfl rfl s0 (by omega), ?_⟩
      generalize mA1 κ2206 22 s.toNatClampNeg r2205 = κ2228 at *
      have lt2237 : s.toInt < (κ2228.1 19).toInt := by omega
      exact v_statement_553 _ _ ⟨⟨⟨p2233.1, by have := p2233.2; omega⟩, by omega, (G.mk (lo := s.toInt) s0 (Int.le_refl _) lt2237 nd2231 (by decide) (k2234) True.intro True.intro True.intro True.intro : G κ2228 (h + 1) (bt s.toInt (κ2228.1 19).toInt) 3 s).up (Nat.le_refl _) (by omega) (Int.le_refl _), nd2231.2.2.2.2.2.2, (CO.fin' (by omega) cv2235 s0 ⟨fun h => Par.fa nd2231 (by decide) h, True.intro⟩ lt2237)⟩, (fun K9 hK9 => by obtain rfl : K9 = K := (by omega); exact ⟨0 + 0 + 0 + 0 + 0 + 0, by omega, PK.mk (c0 := A2194) (v0 := 0) (v1 := 0) (v2 := 0) (v3 := 0) (v4 := 0) nd2231 s0 (by omega) (by omega) (by omega) (by decide) (by have e : ow (56 : Int32) = 0 := (by decide); omega) ((FK.up (by omega) b2236)) (FK.fr (Int.le_refl _)) (FK.fr (Int.le_refl _)) (FK.fr (Int.le_refl _)) (FK.fr (Int.le_refl _))⟩)⟩
  · obtain ⟨z1, z2, z3, z4, z5⟩ := hk
    have l1 := z1.l32
    have l2 := z1.l19
    have u1 := z1.2
    have y40 := q1.1.2.2.2.2.2.2.2.2.1
    exact ⟨⟨q1.tr z1 (Or.inr (by omega)) rfl rfl rfl rfl (by omega), by omega, z2.up (Nat.le_refl _) (by omega) (Int.le_refl _), z3, by rw [← q2]; exact z4⟩, fun K9 hK9 => by
      obtain ⟨w9, w91, w92⟩ := z5 K9 (by omega)
      exact ⟨w9, by omega, PK.wd (Int.le_refl _) (by omega) (Nat.le_refl _) (PK.up (Nat.le_succ _) (Nat.le_refl _) w92)⟩⟩
end PSJ
section PSK
variable {X : ev_X} {W : Nat → Prop} {P : MP}
def StA (X : ev_X) (W : Nat → Prop) (P : MP) (d : Nat) : Prop := (SL X W P 321 [] 3 19 11 d ∧ SC X W P 322 3 22 14 d ∧ ArC X W P d) ∧ (FiC X W P 324 0 0 d ∧ FiC X W P 325 0 0 d ∧ FiC X W P 327 0 0 d ∧ FiC X W P 329 1 1 d) ∧ OtC X W P d ∧ SL X W P 328 [.int 52] 14 20 12 d ∧ SL X W P 328 [.int 61] 15 20 12 d
theorem SL.z {k : Nat} {as : List Value} {s : Nat} {rd rh : Int} (h : 0 < rd) : SL X W P k as s rd rh 0 := fun μ T h hS hd => by have := px0 hS; omega
theorem FiC.z {k : Nat} {up dn : Int} : FiC X W P k up dn 0 := fun μ T h s hS hd => by have := px0 hS; omega
theorem stm_all : ∀ d : Nat, StA X W P d
  | 0 => ⟨⟨SL.z (by decide), fun μ T h hS hd => by have := px0 hS; omega, fun μ T h hS hd => by have := px0 hS; omega⟩, ⟨FiC.z, FiC.z, FiC.z, FiC.z⟩, fun μ T h s k a b hS hd => by have := px0 hS; omega, SL.z (by decide), SL.z (by decide)⟩
  | d + 1 => by
    obtain ⟨⟨a1, a2, a3⟩, ⟨b1, b2, b3, b4⟩, c1, c2, c3⟩ := stm_all d
    obtain ⟨⟨e1, -⟩, -, -, e2, e3⟩ := (ex_all d : ExA X W P d)
    exact ⟨⟨st_statements a2, st_statement e1 a1 a3 b1 b2 b3 b4, st_arms e1 a1⟩, ⟨st_for e1 a1, st_try a1 c2 c1, st_typecase e1 c3 c1, st_byPlace e2 e3 e1⟩, st_otherwise a1, st_cases52 a1, st_cases61 (ty_all d).1 a1⟩
end PSK
