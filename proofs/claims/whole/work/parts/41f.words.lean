/-! the law's calls: their words lie in the tables -/
set_option maxRecDepth 20000 in
theorem gT_X11_undo : GoodIn lw_tbl (wsV RL 125 RX11 yX11_undo wsX11_undo) := goodIn_r _ [879, 880, 881, 62, 882, 252, 250, 251, 872, 63, 30, 873, 100, 102, 103, 106, 107, 109, 111, 113, 115, 117, 119, 123, 125, 121, 874, 875, 876, 877, 325, 68, 326, 878, 501, 500, 77, 256, 258, 260, 262, 264, 266, 127, 129, 131, 133, 135, 137, 139, 141, 143, 145, 147, 149, 151, 153] (by decide +kernel) (by decide +kernel)
set_option maxRecDepth 20000 in
theorem gT_X12_undo : GoodIn lw_tbl (wsV RL 128 RX12 yX12_undo wsX12_undo) := goodIn_r _ [1212, 1213, 1214, 67, 1215, 895, 893, 894, 914, 916, 918, 920, 922, 924, 926, 928, 930, 932, 934, 936, 938, 940, 942, 944, 946, 948, 950, 952, 954, 956] (by decide +kernel) (by decide +kernel)
set_option maxRecDepth 20000 in
theorem gT_X11_count : GoodIn lw_tbl (wsV RL 129 RX11 yX11_count wsX11_count) := goodIn_r _ [883, 884, 885, 62, 886, 250, 255, 256, 258, 260, 262, 264, 266, 127, 129, 131, 133, 135, 137, 139, 141, 143, 145, 147, 149, 151, 153, 245, 247] (by decide +kernel) (by decide +kernel)
set_option maxRecDepth 20000 in
theorem gT_X12_count : GoodIn lw_tbl (wsV RL 132 RX12 yX12_count wsX12_count) := goodIn_r _ [1216, 1217, 1218, 67, 1219, 893, 910, 914, 916, 918, 920, 922, 924, 926, 928, 930, 932, 934, 936, 938, 940, 942, 944, 946, 948, 950, 952, 954, 956] (by decide +kernel) (by decide +kernel)
