/-! the law's calls: their words lie in the tables -/
set_option maxRecDepth 20000 in
theorem gT_X11_undo : GoodIn lw_tbl (wsV RL 125 RX11 yX11_undo wsX11_undo) := goodIn_r _ [878, 879, 880, 62, 881, 252, 250, 251, 871, 63, 30, 872, 100, 102, 103, 106, 107, 109, 111, 113, 115, 117, 119, 124, 125, 121, 873, 874, 875, 876, 325, 68, 326, 877, 501, 500, 77, 256, 258, 260, 262, 264, 266, 127, 129, 131, 133, 135, 137, 139, 141, 143, 145, 147, 149, 151, 153] (by decide +kernel) (by decide +kernel)
set_option maxRecDepth 20000 in
theorem gT_X12_undo : GoodIn lw_tbl (wsV RL 128 RX12 yX12_undo wsX12_undo) := goodIn_r _ [1211, 1212, 1213, 67, 1214, 894, 892, 893, 913, 915, 917, 919, 921, 923, 925, 927, 929, 931, 933, 935, 937, 939, 941, 943, 945, 947, 949, 951, 953, 955] (by decide +kernel) (by decide +kernel)
set_option maxRecDepth 20000 in
theorem gT_X11_count : GoodIn lw_tbl (wsV RL 129 RX11 yX11_count wsX11_count) := goodIn_r _ [882, 883, 884, 62, 885, 250, 255, 256, 258, 260, 262, 264, 266, 127, 129, 131, 133, 135, 137, 139, 141, 143, 145, 147, 149, 151, 153, 245, 247] (by decide +kernel) (by decide +kernel)
set_option maxRecDepth 20000 in
theorem gT_X12_count : GoodIn lw_tbl (wsV RL 132 RX12 yX12_count wsX12_count) := goodIn_r _ [1215, 1216, 1217, 67, 1218, 892, 909, 913, 915, 917, 919, 921, 923, 925, 927, 929, 931, 933, 935, 937, 939, 941, 943, 945, 947, 949, 951, 953, 955] (by decide +kernel) (by decide +kernel)
