set_option maxRecDepth 100000 in
theorem ckb_228_48 : (List.range 48).all (fun i => chkE (mt 228) (48 + i)) = true := by decide +kernel
set_option maxRecDepth 100000 in
theorem ckb_228_96 : (List.range 48).all (fun i => chkE (mt 228) (96 + i)) = true := by decide +kernel
set_option maxRecDepth 100000 in
theorem ckb_228_144 : (List.range 48).all (fun i => chkE (mt 228) (144 + i)) = true := by decide +kernel
set_option maxRecDepth 100000 in
theorem ckb_228_192 : (List.range 48).all (fun i => chkE (mt 228) (192 + i)) = true := by decide +kernel
set_option maxRecDepth 100000 in
theorem ckb_228_240 : (List.range 48).all (fun i => chkE (mt 228) (240 + i)) = true := by decide +kernel
set_option maxRecDepth 100000 in
theorem ckb_228_288 : (List.range 48).all (fun i => chkE (mt 228) (288 + i)) = true := by decide +kernel
theorem ckm_228 : chkM (mt 228) = true := chkM_of (n := 336) (by decide +kernel) (by decide +kernel) (al_ext (a := 288) (al_ext (a := 240) (al_ext (a := 192) (al_ext (a := 144) (al_ext (a := 96) (al_ext (a := 48) (al_ext (a := 0) al_0 ckb_228_0) ckb_228_48) ckb_228_96) ckb_228_144) ckb_228_192) ckb_228_240) ckb_228_288)
theorem ckg_228 : (List.range 1).all (fun i => ckI (228 + i)) = true := by simp [ckI, ckm_228]
set_option maxRecDepth 100000 in
theorem ckg_229 : (List.range 3).all (fun i => ckI (229 + i)) = true := by decide +kernel
set_option maxRecDepth 100000 in
theorem ckg_232 : (List.range 2).all (fun i => ckI (232 + i)) = true := by decide +kernel
set_option maxRecDepth 100000 in
theorem ckg_234 : (List.range 1).all (fun i => ckI (234 + i)) = true := by decide +kernel
set_option maxRecDepth 100000 in
theorem ckb_235_0 : (List.range 96).all (fun i => chkE (mt 235) (0 + i)) = true := by decide +kernel
set_option maxRecDepth 100000 in
theorem ckb_235_96 : (List.range 32).all (fun i => chkE (mt 235) (96 + i)) = true := by decide +kernel
theorem ckm_235 : chkM (mt 235) = true := chkM_of (n := 128) (by decide +kernel) (by decide +kernel) (al_ext (a := 96) (al_ext (a := 0) al_0 ckb_235_0) ckb_235_96)
theorem ckg_235 : (List.range 1).all (fun i => ckI (235 + i)) = true := by simp [ckI, ckm_235]
set_option maxRecDepth 100000 in
theorem ckg_236 : (List.range 3).all (fun i => ckI (236 + i)) = true := by decide +kernel
set_option maxRecDepth 100000 in
theorem ckb_239_0 : (List.range 96).all (fun i => chkE (mt 239) (0 + i)) = true := by decide +kernel
set_option maxRecDepth 100000 in
theorem ckb_239_96 : (List.range 48).all (fun i => chkE (mt 239) (96 + i)) = true := by decide +kernel
theorem ckm_239 : chkM (mt 239) = true := chkM_of (n := 144) (by decide +kernel) (by decide +kernel) (al_ext (a := 96) (al_ext (a := 0) al_0 ckb_239_0) ckb_239_96)
theorem ckg_239 : (List.range 1).all (fun i => ckI (239 + i)) = true := by simp [ckI, ckm_239]
set_option maxRecDepth 100000 in
theorem ckg_240 : (List.range 3).all (fun i => ckI (240 + i)) = true := by decide +kernel
set_option maxRecDepth 100000 in
theorem ckb_243_0 : (List.range 96).all (fun i => chkE (mt 243) (0 + i)) = true := by decide +kernel
set_option maxRecDepth 100000 in
theorem ckb_243_96 : (List.range 48).all (fun i => chkE (mt 243) (96 + i)) = true := by decide +kernel
theorem ckm_243 : chkM (mt 243) = true := chkM_of (n := 144) (by decide +kernel) (by decide +kernel) (al_ext (a := 96) (al_ext (a := 0) al_0 ckb_243_0) ckb_243_96)
theorem ckg_243 : (List.range 1).all (fun i => ckI (243 + i)) = true := by simp [ckI, ckm_243]
set_option maxRecDepth 100000 in
theorem ckg_244 : (List.range 3).all (fun i => ckI (244 + i)) = true := by decide +kernel
set_option maxRecDepth 100000 in
theorem ckg_247 : (List.range 2).all (fun i => ckI (247 + i)) = true := by decide +kernel
set_option maxRecDepth 100000 in
theorem ckg_249 : (List.range 1).all (fun i => ckI (249 + i)) = true := by decide +kernel
