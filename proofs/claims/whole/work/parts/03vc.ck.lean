set_option maxRecDepth 100000 in
theorem ckg_109 : (List.range 5).all (fun i => ckI (109 + i)) = true := by decide +kernel
set_option maxRecDepth 100000 in
theorem ckg_114 : (List.range 3).all (fun i => ckI (114 + i)) = true := by decide +kernel
set_option maxRecDepth 100000 in
theorem ckg_117 : (List.range 1).all (fun i => ckI (117 + i)) = true := by decide +kernel
set_option maxRecDepth 100000 in
theorem ckg_118 : (List.range 3).all (fun i => ckI (118 + i)) = true := by decide +kernel
set_option maxRecDepth 100000 in
theorem ckg_121 : (List.range 3).all (fun i => ckI (121 + i)) = true := by decide +kernel
set_option maxRecDepth 100000 in
theorem ckg_124 : (List.range 13).all (fun i => ckI (124 + i)) = true := by decide +kernel
set_option maxRecDepth 100000 in
theorem ckg_137 : (List.range 4).all (fun i => ckI (137 + i)) = true := by decide +kernel
set_option maxRecDepth 100000 in
theorem ckg_141 : (List.range 3).all (fun i => ckI (141 + i)) = true := by decide +kernel
set_option maxRecDepth 100000 in
theorem ckg_144 : (List.range 4).all (fun i => ckI (144 + i)) = true := by decide +kernel
set_option maxRecDepth 100000 in
theorem ckg_148 : (List.range 4).all (fun i => ckI (148 + i)) = true := by decide +kernel
set_option maxRecDepth 100000 in
theorem ckg_152 : (List.range 2).all (fun i => ckI (152 + i)) = true := by decide +kernel
set_option maxRecDepth 100000 in
theorem ckg_154 : (List.range 3).all (fun i => ckI (154 + i)) = true := by decide +kernel
set_option maxRecDepth 100000 in
theorem ckg_157 : (List.range 3).all (fun i => ckI (157 + i)) = true := by decide +kernel
set_option maxRecDepth 100000 in
theorem ckg_160 : (List.range 4).all (fun i => ckI (160 + i)) = true := by decide +kernel
set_option maxRecDepth 100000 in
theorem ckg_164 : (List.range 8).all (fun i => ckI (164 + i)) = true := by decide +kernel
set_option maxRecDepth 100000 in
theorem ckg_172 : (List.range 5).all (fun i => ckI (172 + i)) = true := by decide +kernel
set_option maxRecDepth 100000 in
theorem ckg_177 : (List.range 4).all (fun i => ckI (177 + i)) = true := by decide +kernel
set_option maxRecDepth 100000 in
theorem ckb_181_0 : (List.range 48).all (fun i => chkE (mt 181) (0 + i)) = true := by decide +kernel
set_option maxRecDepth 100000 in
theorem ckb_181_48 : (List.range 48).all (fun i => chkE (mt 181) (48 + i)) = true := by decide +kernel
