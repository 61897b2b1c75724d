set_option maxRecDepth 100000 in
theorem ckb_181_96 : (List.range 48).all (fun i => chkE (mt 181) (96 + i)) = true := by decide +kernel
set_option maxRecDepth 100000 in
theorem ckb_181_144 : (List.range 48).all (fun i => chkE (mt 181) (144 + i)) = true := by decide +kernel
set_option maxRecDepth 100000 in
theorem ckb_181_192 : (List.range 48).all (fun i => chkE (mt 181) (192 + i)) = true := by decide +kernel
set_option maxRecDepth 100000 in
theorem ckb_181_240 : (List.range 48).all (fun i => chkE (mt 181) (240 + i)) = true := by decide +kernel
set_option maxRecDepth 100000 in
theorem ckb_181_288 : (List.range 48).all (fun i => chkE (mt 181) (288 + i)) = true := by decide +kernel
set_option maxRecDepth 100000 in
theorem ckb_181_336 : (List.range 48).all (fun i => chkE (mt 181) (336 + i)) = true := by decide +kernel
set_option maxRecDepth 100000 in
theorem ckb_181_384 : (List.range 32).all (fun i => chkE (mt 181) (384 + i)) = true := by decide +kernel
theorem ckm_181 : chkM (mt 181) = true := chkM_of (n := 416) (by decide +kernel) (by decide +kernel) (al_ext (a := 384) (al_ext (a := 336) (al_ext (a := 288) (al_ext (a := 240) (al_ext (a := 192) (al_ext (a := 144) (al_ext (a := 96) (al_ext (a := 48) (al_ext (a := 0) al_0 ckb_181_0) ckb_181_48) ckb_181_96) ckb_181_144) ckb_181_192) ckb_181_240) ckb_181_288) ckb_181_336) ckb_181_384)
theorem ckg_181 : (List.range 1).all (fun i => ckI (181 + i)) = true := by simp [ckI, ckm_181]
set_option maxRecDepth 100000 in
theorem ckg_182 : (List.range 4).all (fun i => ckI (182 + i)) = true := by decide +kernel
set_option maxRecDepth 100000 in
theorem ckg_186 : (List.range 1).all (fun i => ckI (186 + i)) = true := by decide +kernel
set_option maxRecDepth 100000 in
theorem ckb_187_0 : (List.range 96).all (fun i => chkE (mt 187) (0 + i)) = true := by decide +kernel
set_option maxRecDepth 100000 in
theorem ckb_187_96 : (List.range 32).all (fun i => chkE (mt 187) (96 + i)) = true := by decide +kernel
theorem ckm_187 : chkM (mt 187) = true := chkM_of (n := 128) (by decide +kernel) (by decide +kernel) (al_ext (a := 96) (al_ext (a := 0) al_0 ckb_187_0) ckb_187_96)
theorem ckg_187 : (List.range 1).all (fun i => ckI (187 + i)) = true := by simp [ckI, ckm_187]
set_option maxRecDepth 100000 in
theorem ckg_188 : (List.range 3).all (fun i => ckI (188 + i)) = true := by decide +kernel
set_option maxRecDepth 100000 in
theorem ckg_191 : (List.range 3).all (fun i => ckI (191 + i)) = true := by decide +kernel
set_option maxRecDepth 100000 in
theorem ckb_194_0 : (List.range 96).all (fun i => chkE (mt 194) (0 + i)) = true := by decide +kernel
set_option maxRecDepth 100000 in
theorem ckb_194_96 : (List.range 32).all (fun i => chkE (mt 194) (96 + i)) = true := by decide +kernel
theorem ckm_194 : chkM (mt 194) = true := chkM_of (n := 128) (by decide +kernel) (by decide +kernel) (al_ext (a := 96) (al_ext (a := 0) al_0 ckb_194_0) ckb_194_96)
theorem ckg_194 : (List.range 1).all (fun i => ckI (194 + i)) = true := by simp [ckI, ckm_194]
set_option maxRecDepth 100000 in
theorem ckg_195 : (List.range 1).all (fun i => ckI (195 + i)) = true := by decide +kernel
set_option maxRecDepth 100000 in
theorem ckg_196 : (List.range 1).all (fun i => ckI (196 + i)) = true := by decide +kernel
set_option maxRecDepth 100000 in
theorem ckb_197_0 : (List.range 96).all (fun i => chkE (mt 197) (0 + i)) = true := by decide +kernel
set_option maxRecDepth 100000 in
theorem ckb_197_96 : (List.range 32).all (fun i => chkE (mt 197) (96 + i)) = true := by decide +kernel
theorem ckm_197 : chkM (mt 197) = true := chkM_of (n := 128) (by decide +kernel) (by decide +kernel) (al_ext (a := 96) (al_ext (a := 0) al_0 ckb_197_0) ckb_197_96)
theorem ckg_197 : (List.range 1).all (fun i => ckI (197 + i)) = true := by simp [ckI, ckm_197]
set_option maxRecDepth 100000 in
theorem ckg_198 : (List.range 2).all (fun i => ckI (198 + i)) = true := by decide +kernel
