set_option maxRecDepth 100000 in
theorem ckg_54 : (List.range 5).all (fun i => ckI (54 + i)) = true := by decide +kernel
set_option maxRecDepth 100000 in
theorem ckg_59 : (List.range 5).all (fun i => ckI (59 + i)) = true := by decide +kernel
set_option maxRecDepth 100000 in
theorem ckg_64 : (List.range 3).all (fun i => ckI (64 + i)) = true := by decide +kernel
set_option maxRecDepth 100000 in
theorem ckg_67 : (List.range 1).all (fun i => ckI (67 + i)) = true := by decide +kernel
set_option maxRecDepth 100000 in
theorem ckg_68 : (List.range 2).all (fun i => ckI (68 + i)) = true := by decide +kernel
set_option maxRecDepth 100000 in
theorem ckg_70 : (List.range 1).all (fun i => ckI (70 + i)) = true := by decide +kernel
set_option maxRecDepth 100000 in
theorem ckg_71 : (List.range 6).all (fun i => ckI (71 + i)) = true := by decide +kernel
set_option maxRecDepth 100000 in
theorem ckg_77 : (List.range 3).all (fun i => ckI (77 + i)) = true := by decide +kernel
set_option maxRecDepth 100000 in
theorem ckg_80 : (List.range 4).all (fun i => ckI (80 + i)) = true := by decide +kernel
set_option maxRecDepth 100000 in
theorem ckg_84 : (List.range 2).all (fun i => ckI (84 + i)) = true := by decide +kernel
set_option maxRecDepth 100000 in
theorem ckg_86 : (List.range 4).all (fun i => ckI (86 + i)) = true := by decide +kernel
set_option maxRecDepth 100000 in
theorem ckg_90 : (List.range 4).all (fun i => ckI (90 + i)) = true := by decide +kernel
set_option maxRecDepth 100000 in
theorem ckg_94 : (List.range 3).all (fun i => ckI (94 + i)) = true := by decide +kernel
set_option maxRecDepth 100000 in
theorem ckg_97 : (List.range 2).all (fun i => ckI (97 + i)) = true := by decide +kernel
set_option maxRecDepth 100000 in
theorem ckg_99 : (List.range 1).all (fun i => ckI (99 + i)) = true := by decide +kernel
set_option maxRecDepth 100000 in
theorem ckg_100 : (List.range 3).all (fun i => ckI (100 + i)) = true := by decide +kernel
set_option maxRecDepth 100000 in
theorem ckg_103 : (List.range 1).all (fun i => ckI (103 + i)) = true := by decide +kernel
set_option maxRecDepth 100000 in
theorem ckg_104 : (List.range 2).all (fun i => ckI (104 + i)) = true := by decide +kernel
set_option maxRecDepth 100000 in
theorem ckg_106 : (List.range 3).all (fun i => ckI (106 + i)) = true := by decide +kernel
