set_option maxRecDepth 100000 in
theorem ckg_200 : (List.range 2).all (fun i => ckI (200 + i)) = true := by decide +kernel
set_option maxRecDepth 100000 in
theorem ckg_202 : (List.range 3).all (fun i => ckI (202 + i)) = true := by decide +kernel
set_option maxRecDepth 100000 in
theorem ckg_205 : (List.range 1).all (fun i => ckI (205 + i)) = true := by decide +kernel
set_option maxRecDepth 100000 in
theorem ckg_206 : (List.range 1).all (fun i => ckI (206 + i)) = true := by decide +kernel
set_option maxRecDepth 100000 in
theorem ckg_207 : (List.range 1).all (fun i => ckI (207 + i)) = true := by decide +kernel
set_option maxRecDepth 100000 in
theorem ckg_208 : (List.range 2).all (fun i => ckI (208 + i)) = true := by decide +kernel
set_option maxRecDepth 100000 in
theorem ckb_210_0 : (List.range 96).all (fun i => chkE (mt 210) (0 + i)) = true := by decide +kernel
set_option maxRecDepth 100000 in
theorem ckb_210_96 : (List.range 96).all (fun i => chkE (mt 210) (96 + i)) = true := by decide +kernel
set_option maxRecDepth 100000 in
theorem ckb_210_192 : (List.range 80).all (fun i => chkE (mt 210) (192 + i)) = true := by decide +kernel
theorem ckm_210 : chkM (mt 210) = true := chkM_of (n := 272) (by decide +kernel) (by decide +kernel) (al_ext (a := 192) (al_ext (a := 96) (al_ext (a := 0) al_0 ckb_210_0) ckb_210_96) ckb_210_192)
theorem ckg_210 : (List.range 1).all (fun i => ckI (210 + i)) = true := by simp [ckI, ckm_210]
set_option maxRecDepth 100000 in
theorem ckg_211 : (List.range 4).all (fun i => ckI (211 + i)) = true := by decide +kernel
set_option maxRecDepth 100000 in
theorem ckg_215 : (List.range 2).all (fun i => ckI (215 + i)) = true := by decide +kernel
set_option maxRecDepth 100000 in
theorem ckb_217_0 : (List.range 96).all (fun i => chkE (mt 217) (0 + i)) = true := by decide +kernel
set_option maxRecDepth 100000 in
theorem ckb_217_96 : (List.range 16).all (fun i => chkE (mt 217) (96 + i)) = true := by decide +kernel
theorem ckm_217 : chkM (mt 217) = true := chkM_of (n := 112) (by decide +kernel) (by decide +kernel) (al_ext (a := 96) (al_ext (a := 0) al_0 ckb_217_0) ckb_217_96)
theorem ckg_217 : (List.range 1).all (fun i => ckI (217 + i)) = true := by simp [ckI, ckm_217]
set_option maxRecDepth 100000 in
theorem ckg_218 : (List.range 4).all (fun i => ckI (218 + i)) = true := by decide +kernel
set_option maxRecDepth 100000 in
theorem ckg_222 : (List.range 3).all (fun i => ckI (222 + i)) = true := by decide +kernel
set_option maxRecDepth 100000 in
theorem ckg_225 : (List.range 2).all (fun i => ckI (225 + i)) = true := by decide +kernel
set_option maxRecDepth 100000 in
theorem ckb_227_0 : (List.range 96).all (fun i => chkE (mt 227) (0 + i)) = true := by decide +kernel
set_option maxRecDepth 100000 in
theorem ckb_227_96 : (List.range 64).all (fun i => chkE (mt 227) (96 + i)) = true := by decide +kernel
theorem ckm_227 : chkM (mt 227) = true := chkM_of (n := 160) (by decide +kernel) (by decide +kernel) (al_ext (a := 96) (al_ext (a := 0) al_0 ckb_227_0) ckb_227_96)
theorem ckg_227 : (List.range 1).all (fun i => ckI (227 + i)) = true := by simp [ckI, ckm_227]
set_option maxRecDepth 100000 in
theorem ckb_228_0 : (List.range 48).all (fun i => chkE (mt 228) (0 + i)) = true := by decide +kernel
