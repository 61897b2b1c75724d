set_option maxRecDepth 100000 in
theorem ckb_264_576 : (List.range 48).all (fun i => chkE (mt 264) (576 + i)) = true := by decide +kernel
set_option maxRecDepth 100000 in
theorem ckb_264_624 : (List.range 48).all (fun i => chkE (mt 264) (624 + i)) = true := by decide +kernel
set_option maxRecDepth 100000 in
theorem ckb_264_672 : (List.range 48).all (fun i => chkE (mt 264) (672 + i)) = true := by decide +kernel
set_option maxRecDepth 100000 in
theorem ckb_264_720 : (List.range 48).all (fun i => chkE (mt 264) (720 + i)) = true := by decide +kernel
set_option maxRecDepth 100000 in
theorem ckb_264_768 : (List.range 48).all (fun i => chkE (mt 264) (768 + i)) = true := by decide +kernel
set_option maxRecDepth 100000 in
theorem ckb_264_816 : (List.range 48).all (fun i => chkE (mt 264) (816 + i)) = true := by decide +kernel
set_option maxRecDepth 100000 in
theorem ckb_264_864 : (List.range 48).all (fun i => chkE (mt 264) (864 + i)) = true := by decide +kernel
set_option maxRecDepth 100000 in
theorem ckb_264_912 : (List.range 48).all (fun i => chkE (mt 264) (912 + i)) = true := by decide +kernel
set_option maxRecDepth 100000 in
theorem ckb_264_960 : (List.range 48).all (fun i => chkE (mt 264) (960 + i)) = true := by decide +kernel
set_option maxRecDepth 100000 in
theorem ckb_264_1008 : (List.range 48).all (fun i => chkE (mt 264) (1008 + i)) = true := by decide +kernel
