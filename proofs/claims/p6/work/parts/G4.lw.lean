set_option maxRecDepth 20000 in
theorem hg_X7_init : GoodIn lw_tbl wsX7_init := gl_cc (goodIn_rx _ [1022] rfl (by decide +kernel))
set_option maxRecDepth 20000 in
theorem hg_X8_init : GoodIn lw_tbl wsX8_init := gl_cc (goodIn_rx _ [4142] rfl (by decide +kernel))
set_option maxRecDepth 20000 in
theorem hg_X7_feed : GoodIn lw_tbl wsX7_feed := gl_cc (goodIn_rx _ [2109] rfl (by decide +kernel))
theorem hG_X7_feed : GoodIn lw_tbl (wsV RL 24 RX7 yX7_feed wsX7_feed) := goodIn_app (goodIn_rx _ [2106, 2107, 2108, 1001] rfl (by decide +kernel)) hg_X7_feed
set_option maxRecDepth 20000 in
theorem hg_X8_feed : GoodIn lw_tbl wsX8_feed := gl_cc (goodIn_rx _ [5115] rfl (by decide +kernel))
theorem hG_X8_feed : GoodIn lw_tbl (wsV RL 28 RX8 yX8_feed wsX8_feed) := goodIn_app (goodIn_rx _ [5112, 5113, 5114, 1010] rfl (by decide +kernel)) hg_X8_feed
set_option maxRecDepth 20000 in
theorem hg_X7_programme : GoodIn lw_tbl wsX7_programme := gl_cc (goodIn_rx _ [2117] rfl (by decide +kernel))
theorem hG_X7_programme : GoodIn lw_tbl (wsV RL 29 RX7 yX7_programme wsX7_programme) := goodIn_app (goodIn_rx _ [2114, 2115, 2116, 1001] rfl (by decide +kernel)) hg_X7_programme
set_option maxRecDepth 20000 in
theorem hg_X8_programme : GoodIn lw_tbl wsX8_programme := gl_cc (goodIn_rx _ [5120] rfl (by decide +kernel))
theorem hG_X8_programme : GoodIn lw_tbl (wsV RL 33 RX8 yX8_programme wsX8_programme) := goodIn_app (goodIn_rx _ [5117, 5118, 5119, 1010] rfl (by decide +kernel)) hg_X8_programme
set_option maxRecDepth 20000 in
theorem hg_X7_stuff : GoodIn lw_tbl wsX7_stuff := gl_cc (goodIn_rx _ [3070] rfl (by decide +kernel))
theorem hG_X7_stuff : GoodIn lw_tbl (wsV RL 34 RX7 yX7_stuff wsX7_stuff) := goodIn_app (goodIn_rx _ [3067, 3068, 3069, 1001] rfl (by decide +kernel)) hg_X7_stuff
set_option maxRecDepth 20000 in
theorem hg_X8_stuff : GoodIn lw_tbl wsX8_stuff := gl_cc (goodIn_rx _ [6003] rfl (by decide +kernel))
theorem hG_X8_stuff : GoodIn lw_tbl (wsV RL 38 RX8 yX8_stuff wsX8_stuff) := goodIn_app (goodIn_rx _ [6000, 6001, 6002, 1010] rfl (by decide +kernel)) hg_X8_stuff
set_option maxRecDepth 20000 in
theorem hg_X7_line : GoodIn lw_tbl wsX7_line := gl_cc (goodIn_rx _ [3077] rfl (by decide +kernel))
theorem hG_X7_line : GoodIn lw_tbl (wsV RL 39 RX7 yX7_line wsX7_line) := goodIn_app (goodIn_rx _ [3074, 3075, 3076, 1001] rfl (by decide +kernel)) hg_X7_line
set_option maxRecDepth 20000 in
theorem hg_X8_line : GoodIn lw_tbl wsX8_line := gl_cc (goodIn_rx _ [6011] rfl (by decide +kernel))
theorem hG_X8_line : GoodIn lw_tbl (wsV RL 42 RX8 yX8_line wsX8_line) := goodIn_app (goodIn_rx _ [6008, 6009, 6010, 1010] rfl (by decide +kernel)) hg_X8_line
set_option maxRecDepth 20000 in
theorem hg_X7_lay : GoodIn lw_tbl wsX7_lay := gl_cc (goodIn_rx _ [3085] rfl (by decide +kernel))
theorem hG_X7_lay : GoodIn lw_tbl (wsV RL 43 RX7 yX7_lay wsX7_lay) := goodIn_app (goodIn_rx _ [3082, 3083, 3084, 1001] rfl (by decide +kernel)) hg_X7_lay
set_option maxRecDepth 20000 in
theorem hg_X8_lay : GoodIn lw_tbl wsX8_lay := gl_cc (goodIn_rx _ [6023] rfl (by decide +kernel))
theorem hG_X8_lay : GoodIn lw_tbl (wsV RL 47 RX8 yX8_lay wsX8_lay) := goodIn_app (goodIn_rx _ [6020, 6021, 6022, 1010] rfl (by decide +kernel)) hg_X8_lay
set_option maxRecDepth 20000 in
theorem hg_X7_cost : GoodIn lw_tbl wsX7_cost := gl_cc (goodIn_rx _ [3089] rfl (by decide +kernel))
theorem hG_X7_cost : GoodIn lw_tbl (wsV RL 48 RX7 yX7_cost wsX7_cost) := goodIn_app (goodIn_rx _ [3086, 3087, 3088, 1001] rfl (by decide +kernel)) hg_X7_cost
set_option maxRecDepth 20000 in
theorem hg_X8_cost : GoodIn lw_tbl wsX8_cost := gl_cc (goodIn_rx _ [6027] rfl (by decide +kernel))
theorem hG_X8_cost : GoodIn lw_tbl (wsV RL 51 RX8 yX8_cost wsX8_cost) := goodIn_app (goodIn_rx _ [6024, 6025, 6026, 1010] rfl (by decide +kernel)) hg_X8_cost
set_option maxRecDepth 20000 in
theorem hg_X7_inputs : GoodIn lw_tbl wsX7_inputs := gl_cc (goodIn_rx _ [3093] rfl (by decide +kernel))
theorem hG_X7_inputs : GoodIn lw_tbl (wsV RL 52 RX7 yX7_inputs wsX7_inputs) := goodIn_app (goodIn_rx _ [3090, 3091, 3092, 1001] rfl (by decide +kernel)) hg_X7_inputs
set_option maxRecDepth 20000 in
theorem hg_X8_inputs : GoodIn lw_tbl wsX8_inputs := gl_cc (goodIn_rx _ [6031] rfl (by decide +kernel))
theorem hG_X8_inputs : GoodIn lw_tbl (wsV RL 55 RX8 yX8_inputs wsX8_inputs) := goodIn_app (goodIn_rx _ [6028, 6029, 6030, 1010] rfl (by decide +kernel)) hg_X8_inputs
set_option maxRecDepth 20000 in
theorem hg_X7_input : GoodIn lw_tbl wsX7_input := gl_cc (goodIn_rx _ [3098] rfl (by decide +kernel))
theorem hG_X7_input : GoodIn lw_tbl (wsV RL 56 RX7 yX7_input wsX7_input) := goodIn_app (goodIn_rx _ [3095, 3096, 3097, 1001] rfl (by decide +kernel)) hg_X7_input
set_option maxRecDepth 20000 in
theorem hg_X8_input : GoodIn lw_tbl wsX8_input := gl_cc (goodIn_rx _ [6043] rfl (by decide +kernel))
theorem hG_X8_input : GoodIn lw_tbl (wsV RL 59 RX8 yX8_input wsX8_input) := goodIn_app (goodIn_rx _ [6040, 6041, 6042, 1010] rfl (by decide +kernel)) hg_X8_input
set_option maxRecDepth 20000 in
theorem hg_X7_begin : GoodIn lw_tbl wsX7_begin := gl_cc (goodIn_rx _ [3106] rfl (by decide +kernel))
theorem hG_X7_begin : GoodIn lw_tbl (wsV RL 60 RX7 yX7_begin wsX7_begin) := goodIn_app (goodIn_rx _ [3103, 3104, 3105, 1001] rfl (by decide +kernel)) hg_X7_begin
set_option maxRecDepth 20000 in
theorem hg_X8_begin : GoodIn lw_tbl wsX8_begin := gl_cc (goodIn_rx _ [6055] rfl (by decide +kernel))
theorem hG_X8_begin : GoodIn lw_tbl (wsV RL 64 RX8 yX8_begin wsX8_begin) := goodIn_app (goodIn_rx _ [6052, 6053, 6054, 1010] rfl (by decide +kernel)) hg_X8_begin
set_option maxRecDepth 20000 in
theorem hg_X7_run : GoodIn lw_tbl wsX7_run := gl_cc (goodIn_rx _ [3119] rfl (by decide +kernel))
theorem hG_X7_run : GoodIn lw_tbl (wsV RL 65 RX7 yX7_run wsX7_run) := goodIn_app (goodIn_rx _ [3116, 3117, 3118, 1001] rfl (by decide +kernel)) hg_X7_run
set_option maxRecDepth 20000 in
theorem hg_X8_run : GoodIn lw_tbl wsX8_run := gl_cc (goodIn_rx _ [6059] rfl (by decide +kernel))
theorem hG_X8_run : GoodIn lw_tbl (wsV RL 68 RX8 yX8_run wsX8_run) := goodIn_app (goodIn_rx _ [6056, 6057, 6058, 1010] rfl (by decide +kernel)) hg_X8_run
set_option maxRecDepth 20000 in
theorem hg_X7_state : GoodIn lw_tbl wsX7_state := gl_cc (goodIn_rx _ [3164] rfl (by decide +kernel))
theorem hG_X7_state : GoodIn lw_tbl (wsV RL 69 RX7 yX7_state wsX7_state) := goodIn_app (goodIn_rx _ [3161, 3162, 3163, 1001] rfl (by decide +kernel)) hg_X7_state
set_option maxRecDepth 20000 in
theorem hg_X8_state : GoodIn lw_tbl wsX8_state := gl_cc (goodIn_rx _ [6101] rfl (by decide +kernel))
theorem hG_X8_state : GoodIn lw_tbl (wsV RL 72 RX8 yX8_state wsX8_state) := goodIn_app (goodIn_rx _ [6098, 6099, 6100, 1010] rfl (by decide +kernel)) hg_X8_state
set_option maxRecDepth 20000 in
theorem hg_L_cell : GoodIn lw_tbl xwL_cell := goodIn_ca (goodIn_rx _ [4058, 4059, 4060, 4061, 4062, 1001, 1061] rfl (by decide +kernel)) (goodIn_ca (goodIn_ca (goodIn_ca (goodIn_ca (goodIn_rx _ [4063, 4064, 1017, 2078, 1224, 1207, 1082, 1216, 3071, 3072, 1001, 3073] rfl (by decide +kernel)) gw_X7) gw_X1) gw_X2) gw_xat)
theorem hG_L_cell : GoodIn lw_tbl (va_wsS RL 73 yL_cell xwL_cell) := goodIn_app (goodIn_rx _ [4056, 4057, 1000] rfl (by decide +kernel)) hg_L_cell
set_option maxRecDepth 20000 in
theorem hg_X8_cell : GoodIn lw_tbl wsX8_cell := gl_cc (goodIn_rx _ [6105] rfl (by decide +kernel))
theorem hG_X8_cell : GoodIn lw_tbl (wsV RL 78 RX8 yX8_cell wsX8_cell) := goodIn_app (goodIn_rx _ [6102, 6103, 6104, 1010] rfl (by decide +kernel)) hg_X8_cell
set_option maxRecDepth 20000 in
theorem hg_L_wrote : GoodIn lw_tbl xwL_wrote := goodIn_ca (goodIn_rx _ [4132, 4059, 4133, 4134, 4135, 1001, 1061] rfl (by decide +kernel)) (goodIn_ca (goodIn_ca (goodIn_ca (goodIn_ca (goodIn_rx _ [4136, 4064, 1017, 2078, 1231, 3121, 3054, 1011, 3055, 1218, 3071, 3072, 1001, 3073] rfl (by decide +kernel)) gw_X7) gw_X1) gw_X2) gw_xat)
theorem hG_L_wrote : GoodIn lw_tbl (va_wsS RL 79 yL_wrote xwL_wrote) := goodIn_app (goodIn_rx _ [4130, 4131, 1000] rfl (by decide +kernel)) hg_L_wrote
set_option maxRecDepth 20000 in
theorem hg_X8_wrote : GoodIn lw_tbl wsX8_wrote := gl_cc (goodIn_rx _ [6109] rfl (by decide +kernel))
theorem hG_X8_wrote : GoodIn lw_tbl (wsV RL 81 RX8 yX8_wrote wsX8_wrote) := goodIn_app (goodIn_rx _ [6106, 6107, 6108, 1010] rfl (by decide +kernel)) hg_X8_wrote
