set_option maxRecDepth 20000 in
theorem hg_X7_fresh : GoodIn lw_tbl wsX7_fresh := gl_cc (goodIn_rx _ [3168] rfl (by decide +kernel))
theorem hG_X7_fresh : GoodIn lw_tbl (wsV RL 82 RX7 yX7_fresh wsX7_fresh) := goodIn_app (goodIn_rx _ [3165, 3166, 3167, 1001] rfl (by decide +kernel)) hg_X7_fresh
set_option maxRecDepth 20000 in
theorem hg_X8_fresh : GoodIn lw_tbl wsX8_fresh := gl_cc (goodIn_rx _ [6114] rfl (by decide +kernel))
theorem hG_X8_fresh : GoodIn lw_tbl (wsV RL 86 RX8 yX8_fresh wsX8_fresh) := goodIn_app (goodIn_rx _ [6111, 6112, 6113, 1010] rfl (by decide +kernel)) hg_X8_fresh
set_option maxRecDepth 20000 in
theorem hg_X7_steps : GoodIn lw_tbl wsX7_steps := gl_cc (goodIn_rx _ [3173] rfl (by decide +kernel))
theorem hG_X7_steps : GoodIn lw_tbl (wsV RL 87 RX7 yX7_steps wsX7_steps) := goodIn_app (goodIn_rx _ [3170, 3171, 3172, 1001] rfl (by decide +kernel)) hg_X7_steps
set_option maxRecDepth 20000 in
theorem hg_X8_steps : GoodIn lw_tbl wsX8_steps := gl_cc (goodIn_rx _ [6118] rfl (by decide +kernel))
theorem hG_X8_steps : GoodIn lw_tbl (wsV RL 90 RX8 yX8_steps wsX8_steps) := goodIn_app (goodIn_rx _ [6115, 6116, 6117, 1010] rfl (by decide +kernel)) hg_X8_steps
set_option maxRecDepth 20000 in
theorem hg_X7_falls : GoodIn lw_tbl wsX7_falls := gl_cc (goodIn_rx _ [3189] rfl (by decide +kernel))
theorem hG_X7_falls : GoodIn lw_tbl (wsV RL 91 RX7 yX7_falls wsX7_falls) := goodIn_app (goodIn_rx _ [3186, 3187, 3188, 1001] rfl (by decide +kernel)) hg_X7_falls
set_option maxRecDepth 20000 in
theorem hg_X8_falls : GoodIn lw_tbl wsX8_falls := gl_cc (goodIn_rx _ [6146] rfl (by decide +kernel))
theorem hG_X8_falls : GoodIn lw_tbl (wsV RL 94 RX8 yX8_falls wsX8_falls) := goodIn_app (goodIn_rx _ [6143, 6144, 6145, 1010] rfl (by decide +kernel)) hg_X8_falls
set_option maxRecDepth 20000 in
theorem hg_X7_most : GoodIn lw_tbl wsX7_most := gl_cc (goodIn_rx _ [3193] rfl (by decide +kernel))
theorem hG_X7_most : GoodIn lw_tbl (wsV RL 95 RX7 yX7_most wsX7_most) := goodIn_app (goodIn_rx _ [3190, 3191, 3192, 1001] rfl (by decide +kernel)) hg_X7_most
set_option maxRecDepth 20000 in
theorem hg_X8_most : GoodIn lw_tbl wsX8_most := gl_cc (goodIn_rx _ [6150] rfl (by decide +kernel))
theorem hG_X8_most : GoodIn lw_tbl (wsV RL 98 RX8 yX8_most wsX8_most) := goodIn_app (goodIn_rx _ [6147, 6148, 6149, 1010] rfl (by decide +kernel)) hg_X8_most
set_option maxRecDepth 20000 in
theorem hg_X7_never : GoodIn lw_tbl wsX7_never := gl_cc (goodIn_rx _ [3226] rfl (by decide +kernel))
theorem hG_X7_never : GoodIn lw_tbl (wsV RL 99 RX7 yX7_never wsX7_never) := goodIn_app (goodIn_rx _ [3223, 3224, 3225, 1001] rfl (by decide +kernel)) hg_X7_never
set_option maxRecDepth 20000 in
theorem hg_X8_never : GoodIn lw_tbl wsX8_never := gl_cc (goodIn_rx _ [6158] rfl (by decide +kernel))
theorem hG_X8_never : GoodIn lw_tbl (wsV RL 102 RX8 yX8_never wsX8_never) := goodIn_app (goodIn_rx _ [6155, 6156, 6157, 1010] rfl (by decide +kernel)) hg_X8_never
set_option maxRecDepth 20000 in
theorem hg_X7_first : GoodIn lw_tbl wsX7_first := gl_cc (goodIn_rx _ [3230] rfl (by decide +kernel))
theorem hG_X7_first : GoodIn lw_tbl (wsV RL 103 RX7 yX7_first wsX7_first) := goodIn_app (goodIn_rx _ [3227, 3228, 3229, 1001] rfl (by decide +kernel)) hg_X7_first
set_option maxRecDepth 20000 in
theorem hg_X8_first : GoodIn lw_tbl wsX8_first := gl_cc (goodIn_rx _ [6162] rfl (by decide +kernel))
theorem hG_X8_first : GoodIn lw_tbl (wsV RL 106 RX8 yX8_first wsX8_first) := goodIn_app (goodIn_rx _ [6159, 6160, 6161, 1010] rfl (by decide +kernel)) hg_X8_first
set_option maxRecDepth 20000 in
theorem hg_X7_apart : GoodIn lw_tbl wsX7_apart := gl_cc (goodIn_rx _ [3238] rfl (by decide +kernel))
theorem hG_X7_apart : GoodIn lw_tbl (wsV RL 107 RX7 yX7_apart wsX7_apart) := goodIn_app (goodIn_rx _ [3235, 3236, 3237, 1001] rfl (by decide +kernel)) hg_X7_apart
set_option maxRecDepth 20000 in
theorem hg_X8_apart : GoodIn lw_tbl wsX8_apart := gl_cc (goodIn_rx _ [6166] rfl (by decide +kernel))
theorem hG_X8_apart : GoodIn lw_tbl (wsV RL 110 RX8 yX8_apart wsX8_apart) := goodIn_app (goodIn_rx _ [6163, 6164, 6165, 1010] rfl (by decide +kernel)) hg_X8_apart
set_option maxRecDepth 20000 in
theorem hg_X7_rounds : GoodIn lw_tbl wsX7_rounds := gl_cc (goodIn_rx _ [4006] rfl (by decide +kernel))
theorem hG_X7_rounds : GoodIn lw_tbl (wsV RL 111 RX7 yX7_rounds wsX7_rounds) := goodIn_app (goodIn_rx _ [4003, 4004, 4005, 1001] rfl (by decide +kernel)) hg_X7_rounds
set_option maxRecDepth 20000 in
theorem hg_X8_rounds : GoodIn lw_tbl wsX8_rounds := gl_cc (goodIn_rx _ [6174] rfl (by decide +kernel))
theorem hG_X8_rounds : GoodIn lw_tbl (wsV RL 114 RX8 yX8_rounds wsX8_rounds) := goodIn_app (goodIn_rx _ [6171, 6172, 6173, 1010] rfl (by decide +kernel)) hg_X8_rounds
set_option maxRecDepth 20000 in
theorem hg_X7_lasting : GoodIn lw_tbl wsX7_lasting := gl_cc (goodIn_rx _ [4010] rfl (by decide +kernel))
theorem hG_X7_lasting : GoodIn lw_tbl (wsV RL 115 RX7 yX7_lasting wsX7_lasting) := goodIn_app (goodIn_rx _ [4007, 4008, 4009, 1001] rfl (by decide +kernel)) hg_X7_lasting
set_option maxRecDepth 20000 in
theorem hg_X8_lasting : GoodIn lw_tbl wsX8_lasting := gl_cc (goodIn_rx _ [6178] rfl (by decide +kernel))
theorem hG_X8_lasting : GoodIn lw_tbl (wsV RL 118 RX8 yX8_lasting wsX8_lasting) := goodIn_app (goodIn_rx _ [6175, 6176, 6177, 1010] rfl (by decide +kernel)) hg_X8_lasting
set_option maxRecDepth 20000 in
theorem hg_X7_lasts : GoodIn lw_tbl wsX7_lasts := gl_cc (goodIn_rx _ [4022] rfl (by decide +kernel))
theorem hG_X7_lasts : GoodIn lw_tbl (wsV RL 119 RX7 yX7_lasts wsX7_lasts) := goodIn_app (goodIn_rx _ [4019, 4020, 4021, 1001] rfl (by decide +kernel)) hg_X7_lasts
set_option maxRecDepth 20000 in
theorem hg_X8_lasts : GoodIn lw_tbl wsX8_lasts := gl_cc (goodIn_rx _ [6194] rfl (by decide +kernel))
theorem hG_X8_lasts : GoodIn lw_tbl (wsV RL 123 RX8 yX8_lasts wsX8_lasts) := goodIn_app (goodIn_rx _ [6191, 6192, 6193, 1010] rfl (by decide +kernel)) hg_X8_lasts
set_option maxRecDepth 20000 in
theorem hg_X7_better : GoodIn lw_tbl wsX7_better := gl_cc (goodIn_rx _ [4030] rfl (by decide +kernel))
theorem hG_X7_better : GoodIn lw_tbl (wsV RL 124 RX7 yX7_better wsX7_better) := goodIn_app (goodIn_rx _ [4027, 4028, 4029, 1001] rfl (by decide +kernel)) hg_X7_better
set_option maxRecDepth 20000 in
theorem hg_X8_better : GoodIn lw_tbl wsX8_better := gl_cc (goodIn_rx _ [6198] rfl (by decide +kernel))
theorem hG_X8_better : GoodIn lw_tbl (wsV RL 127 RX8 yX8_better wsX8_better) := goodIn_app (goodIn_rx _ [6195, 6196, 6197, 1010] rfl (by decide +kernel)) hg_X8_better
set_option maxRecDepth 20000 in
theorem hg_X7_same : GoodIn lw_tbl wsX7_same := gl_cc (goodIn_rx _ [4043] rfl (by decide +kernel))
theorem hG_X7_same : GoodIn lw_tbl (wsV RL 128 RX7 yX7_same wsX7_same) := goodIn_app (goodIn_rx _ [4040, 4041, 4042, 1001] rfl (by decide +kernel)) hg_X7_same
set_option maxRecDepth 20000 in
theorem hg_X8_same : GoodIn lw_tbl wsX8_same := gl_cc (goodIn_rx _ [6202] rfl (by decide +kernel))
theorem hG_X8_same : GoodIn lw_tbl (wsV RL 131 RX8 yX8_same wsX8_same) := goodIn_app (goodIn_rx _ [6199, 6200, 6201, 1010] rfl (by decide +kernel)) hg_X8_same
set_option maxRecDepth 20000 in
theorem hg_X7_mark : GoodIn lw_tbl wsX7_mark := gl_cc (goodIn_rx _ [4051] rfl (by decide +kernel))
theorem hG_X7_mark : GoodIn lw_tbl (wsV RL 132 RX7 yX7_mark wsX7_mark) := goodIn_app (goodIn_rx _ [4048, 4049, 4050, 1001] rfl (by decide +kernel)) hg_X7_mark
set_option maxRecDepth 20000 in
theorem hg_X8_mark : GoodIn lw_tbl wsX8_mark := gl_cc (goodIn_rx _ [6206] rfl (by decide +kernel))
theorem hG_X8_mark : GoodIn lw_tbl (wsV RL 136 RX8 yX8_mark wsX8_mark) := goodIn_app (goodIn_rx _ [6203, 6204, 6205, 1010] rfl (by decide +kernel)) hg_X8_mark
set_option maxRecDepth 20000 in
theorem hg_X7_count : GoodIn lw_tbl wsX7_count := gl_cc (goodIn_rx _ [4055] rfl (by decide +kernel))
theorem hG_X7_count : GoodIn lw_tbl (wsV RL 137 RX7 yX7_count wsX7_count) := goodIn_app (goodIn_rx _ [4052, 4053, 4054, 1001] rfl (by decide +kernel)) hg_X7_count
set_option maxRecDepth 20000 in
theorem hg_X8_count : GoodIn lw_tbl wsX8_count := gl_cc (goodIn_rx _ [6218] rfl (by decide +kernel))
theorem hG_X8_count : GoodIn lw_tbl (wsV RL 140 RX8 yX8_count wsX8_count) := goodIn_app (goodIn_rx _ [6215, 6216, 6217, 1010] rfl (by decide +kernel)) hg_X8_count
