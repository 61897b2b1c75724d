set_option maxRecDepth 100000 in
theorem ckg_250 : (List.range 1).all (fun i => ckI (250 + i)) = true := by decide +kernel
set_option maxRecDepth 100000 in
theorem ckg_251 : (List.range 3).all (fun i => ckI (251 + i)) = true := by decide +kernel
set_option maxRecDepth 100000 in
theorem ckg_254 : (List.range 3).all (fun i => ckI (254 + i)) = true := by decide +kernel
set_option maxRecDepth 100000 in
theorem ckg_257 : (List.range 3).all (fun i => ckI (257 + i)) = true := by decide +kernel
set_option maxRecDepth 100000 in
theorem ckg_260 : (List.range 2).all (fun i => ckI (260 + i)) = true := by decide +kernel
set_option maxRecDepth 100000 in
theorem ckg_262 : (List.range 2).all (fun i => ckI (262 + i)) = true := by decide +kernel
set_option maxRecDepth 100000 in
theorem ckb_264_0 : (List.range 48).all (fun i => chkE (mt 264) (0 + i)) = true := by decide +kernel
set_option maxRecDepth 100000 in
theorem ckb_264_48 : (List.range 48).all (fun i => chkE (mt 264) (48 + i)) = true := by decide +kernel
set_option maxRecDepth 100000 in
theorem ckb_264_96 : (List.range 48).all (fun i => chkE (mt 264) (96 + i)) = true := by decide +kernel
set_option maxRecDepth 100000 in
theorem ckb_264_144 : (List.range 48).all (fun i => chkE (mt 264) (144 + i)) = true := by decide +kernel
set_option maxRecDepth 100000 in
theorem ckb_264_192 : (List.range 48).all (fun i => chkE (mt 264) (192 + i)) = true := by decide +kernel
set_option maxRecDepth 100000 in
theorem ckb_264_240 : (List.range 48).all (fun i => chkE (mt 264) (240 + i)) = true := by decide +kernel
set_option maxRecDepth 100000 in
theorem ckb_264_288 : (List.range 48).all (fun i => chkE (mt 264) (288 + i)) = true := by decide +kernel
set_option maxRecDepth 100000 in
theorem ckb_264_336 : (List.range 48).all (fun i => chkE (mt 264) (336 + i)) = true := by decide +kernel
set_option maxRecDepth 100000 in
theorem ckb_264_384 : (List.range 48).all (fun i => chkE (mt 264) (384 + i)) = true := by decide +kernel
set_option maxRecDepth 100000 in
theorem ckb_264_432 : (List.range 48).all (fun i => chkE (mt 264) (432 + i)) = true := by decide +kernel
set_option maxRecDepth 100000 in
theorem ckb_264_480 : (List.range 48).all (fun i => chkE (mt 264) (480 + i)) = true := by decide +kernel
set_option maxRecDepth 100000 in
theorem ckb_264_528 : (List.range 48).all (fun i => chkE (mt 264) (528 + i)) = true := by decide +kernel
