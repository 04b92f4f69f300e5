set_option maxRecDepth 100000 in
theorem gp_wsX11_init_r1 : GoodIn lw_tbl wsX11_init_r1 := (good_pick _ [(1, 27), (1, 28), (1, 29), (1, 30), (1, 31), (1, 2), (2, 89), (1, 60), (1, 61), (1, 3), (2, 90), (2, 91), (1, 83), (1, 84), (1, 4), (2, 92), (1, 146), (2, 93), (1, 148), (1, 5), (1, 196), (1, 197), (1, 7), (2, 94)] (by decide +kernel) (by decide +kernel))
set_option maxRecDepth 100000 in
theorem gp_wsX11_init_r2 : GoodIn lw_tbl wsX11_init_r2 := (good_pick _ [(1, 215), (1, 216), (1, 8), (2, 95), (1, 237), (1, 238), (1, 9), (2, 96), (2, 28), (2, 29), (1, 11), (2, 97), (2, 55), (2, 56), (1, 12), (2, 98), (2, 100), (2, 101), (1, 33), (1, 34), (1, 35), (1, 59), (1, 36), (1, 37)] (by decide +kernel) (by decide +kernel))
set_option maxRecDepth 100000 in
theorem gp_wsX11_init_r3 : GoodIn lw_tbl wsX11_init_r3 := (good_pick _ [(1, 38), (1, 39), (1, 40), (1, 41), (1, 63), (1, 64), (1, 65), (1, 66), (1, 67), (1, 86), (1, 87), (1, 88), (1, 89), (1, 90), (1, 92), (1, 100), (1, 150), (1, 151), (1, 152), (1, 182), (1, 183), (1, 153), (1, 154), (1, 6)] (by decide +kernel) (by decide +kernel))
set_option maxRecDepth 100000 in
theorem gp_wsX11_init_r4 : GoodIn lw_tbl wsX11_init_r4 := (good_pick _ [(1, 184), (1, 156), (1, 157), (1, 158), (1, 159), (1, 160), (1, 199), (1, 200), (1, 201), (1, 204), (1, 202), (1, 205), (1, 218), (1, 219), (1, 220), (1, 221), (1, 222), (1, 223), (1, 239), (2, 0), (2, 1), (2, 2), (2, 6), (2, 7)] (by decide +kernel) (by decide +kernel))
set_option maxRecDepth 100000 in
theorem gp_wsX11_init_r5 : GoodIn lw_tbl wsX11_init_r5 := (good_pick _ [(2, 8), (2, 9), (2, 10), (2, 11), (2, 3), (2, 4), (1, 10), (2, 5), (2, 31), (2, 32), (2, 33), (2, 34), (2, 58), (2, 59), (2, 60), (2, 61), (2, 62), (2, 63), (2, 64), (2, 65), (2, 66), (2, 67), (2, 68)] (by decide +kernel) (by decide +kernel))
set_option maxRecDepth 100000 in
theorem gw_X11_init : GoodIn lw_tbl wsX11_init := goodIn_c (good_pick [Cond.code yX11_init cX11_init 2 none] [(1, 26)] (by decide +kernel) (by decide +kernel)) (goodIn_app (goodIn_app (goodIn_app (goodIn_app (goodIn_app (goodIn_app (goodIn_app (goodIn_app (goodIn_app (goodIn_app (goodIn_app (goodIn_app gp_wsX11_init_r1 (goodIn_app gp_wsX11_init_r2 (goodIn_app gp_wsX11_init_r3 (goodIn_app gp_wsX11_init_r4 gp_wsX11_init_r5)))) ltbX3) ltbX11) ltbX7) ltbX5) ltbX6) ltbX1) ltbX10) ltbX4) ltbX2) ltbX0) ltbX9)
theorem ltb_X11_init : GoodIn lw_tbl wsX11_init := gw_X11_init
set_option maxRecDepth 100000 in
theorem gp_wsX12_init_r1 : GoodIn lw_tbl wsX12_init_r1 := (good_pick _ [(5, 58), (1, 28), (1, 29), (1, 59), (5, 63), (5, 64), (5, 65), (5, 66), (5, 67), (5, 68), (5, 69), (5, 70), (5, 217), (5, 71), (5, 75), (5, 76), (5, 77), (5, 83), (5, 84), (5, 85), (5, 86), (5, 89), (5, 94), (5, 95)] (by decide +kernel) (by decide +kernel))
set_option maxRecDepth 100000 in
theorem gp_wsX12_init_r2 : GoodIn lw_tbl wsX12_init_r2 := (good_pick _ [(5, 96), (5, 59), (5, 97), (5, 98), (5, 99), (5, 101), (5, 102), (5, 103), (5, 104), (5, 105), (5, 106), (5, 107), (5, 108), (5, 109), (5, 110), (5, 111)] (by decide +kernel) (by decide +kernel))
set_option maxRecDepth 100000 in
theorem gw_X12_init : GoodIn lw_tbl wsX12_init := goodIn_c (good_pick [Cond.code yX12_init cX12_init 1 none] [(5, 57)] (by decide +kernel) (by decide +kernel)) (goodIn_app (goodIn_app gp_wsX12_init_r1 gp_wsX12_init_r2) ltbX12)
theorem ltb_X12_init : GoodIn lw_tbl wsX12_init := gw_X12_init
set_option maxRecDepth 100000 in
theorem gw_X11_member : GoodIn lw_tbl wsX11_member := goodIn_c (good_pick [Cond.code yX11_member cX11_member 1 (some .int)] [(2, 132)] (by decide +kernel) (by decide +kernel)) (goodIn_app (good_pick _ [(2, 99)] (by decide +kernel) (by decide +kernel)) ltbX11)
set_option maxRecDepth 100000 in
theorem ltb_X11_member : GoodIn lw_tbl (wsV RL 13 RX11 yX11_member wsX11_member) := goodIn_app (good_pick _ [(2, 129), (2, 130), (2, 131), (1, 1)] (by decide +kernel) (by decide +kernel)) gw_X11_member
set_option maxRecDepth 100000 in
theorem gw_X12_member : GoodIn lw_tbl wsX12_member := goodIn_c (good_pick [Cond.code yX12_member cX12_member 1 (some .int)] [(5, 221)] (by decide +kernel) (by decide +kernel)) (goodIn_app (good_pick _ [(5, 60), (5, 61)] (by decide +kernel) (by decide +kernel)) ltbX12)
set_option maxRecDepth 100000 in
theorem ltb_X12_member : GoodIn lw_tbl (wsV RL 17 RX12 yX12_member wsX12_member) := goodIn_app (good_pick _ [(5, 218), (5, 219), (5, 220), (1, 13)] (by decide +kernel) (by decide +kernel)) gw_X12_member
set_option maxRecDepth 100000 in
theorem gp_wsX11_shift_r1 : GoodIn lw_tbl wsX11_shift_r1 := (good_pick _ [(2, 99), (2, 89), (2, 137), (2, 138), (1, 1), (2, 139), (2, 140), (2, 141), (2, 142), (1, 2), (2, 143), (1, 42), (1, 40), (2, 145), (2, 146), (2, 147), (2, 148), (1, 36), (1, 37), (1, 38), (1, 39), (2, 149), (2, 151), (8, 0)] (by decide +kernel) (by decide +kernel))
set_option maxRecDepth 100000 in
theorem gp_wsX11_shift_r2 : GoodIn lw_tbl wsX11_shift_r2 := (good_pick _ [(2, 152), (2, 90), (2, 100), (2, 101), (2, 93), (2, 153), (2, 154), (2, 155), (2, 156), (1, 41), (2, 157), (2, 4), (1, 10), (2, 5), (2, 158), (2, 160), (8, 1), (2, 161), (2, 162), (2, 163), (2, 164), (1, 3), (2, 165), (1, 66)] (by decide +kernel) (by decide +kernel))
set_option maxRecDepth 100000 in
theorem gp_wsX11_shift_r3 : GoodIn lw_tbl wsX11_shift_r3 := (good_pick _ [(1, 67), (1, 68), (1, 72), (2, 166), (2, 167), (2, 168), (2, 169), (2, 170)] (by decide +kernel) (by decide +kernel))
set_option maxRecDepth 100000 in
theorem gw_X11_shift : GoodIn lw_tbl wsX11_shift := goodIn_c (good_pick [Cond.code yX11_shift cX11_shift 7 (some .boolean)] [(2, 136)] (by decide +kernel) (by decide +kernel)) (goodIn_app (goodIn_app (goodIn_app (goodIn_app (goodIn_app (goodIn_app gp_wsX11_shift_r1 (goodIn_app gp_wsX11_shift_r2 gp_wsX11_shift_r3)) ltbX11) ltbX3) ltbX6) ltbX9) ltbX7)
set_option maxRecDepth 100000 in
theorem ltb_X11_shift : GoodIn lw_tbl (wsV RL 18 RX11 yX11_shift wsX11_shift) := goodIn_app (good_pick _ [(2, 133), (2, 134), (2, 135), (1, 1)] (by decide +kernel) (by decide +kernel)) gw_X11_shift
set_option maxRecDepth 100000 in
theorem gw_X12_shift : GoodIn lw_tbl wsX12_shift := goodIn_c (good_pick [Cond.code yX12_shift cX12_shift 6 (some .boolean)] [(5, 225)] (by decide +kernel) (by decide +kernel)) (goodIn_app (good_pick _ [(5, 60), (5, 62), (5, 67), (5, 63), (5, 64), (5, 65), (5, 66), (5, 226), (5, 228), (10, 13), (1, 13), (5, 229), (5, 61), (5, 230), (5, 232), (10, 14), (5, 233), (5, 234), (5, 236), (10, 15), (5, 237)] (by decide +kernel) (by decide +kernel)) ltbX12)
set_option maxRecDepth 100000 in
theorem ltb_X12_shift : GoodIn lw_tbl (wsV RL 22 RX12 yX12_shift wsX12_shift) := goodIn_app (good_pick _ [(5, 222), (5, 223), (5, 224), (1, 13)] (by decide +kernel) (by decide +kernel)) gw_X12_shift
set_option maxRecDepth 100000 in
theorem gp_wsX11_view_r1 : GoodIn lw_tbl wsX11_view_r1 := (good_pick _ [(2, 100), (2, 101), (2, 137), (2, 138), (1, 1), (2, 139), (2, 149), (2, 151), (8, 0), (2, 152), (2, 89), (2, 90), (2, 93), (2, 153), (2, 154), (2, 155), (1, 2), (2, 156), (1, 41), (1, 42), (1, 40), (1, 37), (1, 38), (1, 39)] (by decide +kernel) (by decide +kernel))
set_option maxRecDepth 100000 in
theorem gp_wsX11_view_r2 : GoodIn lw_tbl wsX11_view_r2 := (good_pick _ [(2, 157), (2, 4), (1, 10), (2, 5), (2, 158), (2, 160), (8, 1), (2, 161), (1, 36), (2, 162), (2, 163), (2, 164), (1, 3), (2, 165), (1, 66), (1, 67), (1, 68), (1, 72), (2, 166), (2, 167), (2, 168), (2, 169), (2, 170)] (by decide +kernel) (by decide +kernel))
set_option maxRecDepth 100000 in
theorem gw_X11_view : GoodIn lw_tbl wsX11_view := goodIn_c (good_pick [Cond.code yX11_view cX11_view 3 (some .boolean)] [(2, 175)] (by decide +kernel) (by decide +kernel)) (goodIn_app (goodIn_app (goodIn_app (goodIn_app (goodIn_app (goodIn_app gp_wsX11_view_r1 gp_wsX11_view_r2) ltbX11) ltbX6) ltbX9) ltbX3) ltbX7)
set_option maxRecDepth 100000 in
theorem ltb_X11_view : GoodIn lw_tbl (wsV RL 23 RX11 yX11_view wsX11_view) := goodIn_app (good_pick _ [(2, 172), (2, 173), (2, 174), (1, 1)] (by decide +kernel) (by decide +kernel)) gw_X11_view
set_option maxRecDepth 100000 in
theorem gw_X12_view : GoodIn lw_tbl wsX12_view := goodIn_c (good_pick [Cond.code yX12_view cX12_view 3 (some .boolean)] [(6, 1)] (by decide +kernel) (by decide +kernel)) (goodIn_app (good_pick _ [(5, 60), (5, 68), (5, 69), (5, 230), (5, 232), (10, 14), (1, 13), (5, 233), (5, 234), (5, 236), (10, 15), (5, 237)] (by decide +kernel) (by decide +kernel)) ltbX12)
set_option maxRecDepth 100000 in
theorem ltb_X12_view : GoodIn lw_tbl (wsV RL 27 RX12 yX12_view wsX12_view) := goodIn_app (good_pick _ [(5, 238), (5, 239), (6, 0), (1, 13)] (by decide +kernel) (by decide +kernel)) gw_X12_view
set_option maxRecDepth 100000 in
theorem gp_wsX11_of_r1 : GoodIn lw_tbl wsX11_of_r1 := (good_pick _ [(2, 99), (2, 96), (2, 90), (2, 137), (2, 138), (1, 1), (2, 139), (2, 180), (2, 181), (2, 182), (1, 9), (2, 183), (2, 6), (2, 185), (2, 186), (2, 187), (2, 188), (2, 189), (2, 190), (1, 3), (2, 191), (1, 66), (2, 192), (2, 193)] (by decide +kernel) (by decide +kernel))
set_option maxRecDepth 100000 in
theorem gp_wsX11_of_r2 : GoodIn lw_tbl wsX11_of_r2 := (good_pick _ [(2, 194), (2, 195), (1, 67)] (by decide +kernel) (by decide +kernel))
set_option maxRecDepth 100000 in
theorem gw_X11_of : GoodIn lw_tbl wsX11_of := goodIn_c (good_pick [Cond.code yX11_of cX11_of 3 (some .int)] [(2, 179)] (by decide +kernel) (by decide +kernel)) (goodIn_app (goodIn_app (goodIn_app (goodIn_app gp_wsX11_of_r1 gp_wsX11_of_r2) ltbX11) ltbX7) ltbX4)
set_option maxRecDepth 100000 in
theorem ltb_X11_of : GoodIn lw_tbl (wsV RL 28 RX11 yX11_of wsX11_of) := goodIn_app (good_pick _ [(2, 176), (2, 177), (2, 178), (1, 1)] (by decide +kernel) (by decide +kernel)) gw_X11_of
set_option maxRecDepth 100000 in
theorem gp_wsX12_of_r1 : GoodIn lw_tbl wsX12_of_r1 := (good_pick _ [(5, 60), (5, 71), (5, 70), (5, 72), (5, 75), (5, 76), (5, 226), (5, 228), (10, 13), (1, 13), (5, 229), (5, 61), (5, 234), (5, 236), (10, 15), (5, 237), (6, 6), (6, 8), (11, 0), (6, 9), (5, 68), (5, 69), (6, 10), (6, 12)] (by decide +kernel) (by decide +kernel))
set_option maxRecDepth 100000 in
theorem gp_wsX12_of_r2 : GoodIn lw_tbl wsX12_of_r2 := (good_pick _ [(11, 1), (6, 13), (5, 73), (5, 74), (5, 62), (5, 63), (5, 67), (5, 64), (5, 66), (5, 65), (6, 14), (6, 16), (11, 2), (6, 17)] (by decide +kernel) (by decide +kernel))
set_option maxRecDepth 100000 in
theorem gw_X12_of : GoodIn lw_tbl wsX12_of := goodIn_c (good_pick [Cond.code yX12_of cX12_of 3 (some .int)] [(6, 5)] (by decide +kernel) (by decide +kernel)) (goodIn_app (goodIn_app gp_wsX12_of_r1 gp_wsX12_of_r2) ltbX12)
set_option maxRecDepth 100000 in
theorem ltb_X12_of : GoodIn lw_tbl (wsV RL 32 RX12 yX12_of wsX12_of) := goodIn_app (good_pick _ [(6, 2), (6, 3), (6, 4), (1, 13)] (by decide +kernel) (by decide +kernel)) gw_X12_of
set_option maxRecDepth 100000 in
theorem gw_X11_look : GoodIn lw_tbl wsX11_look := goodIn_c (good_pick [Cond.code yX11_look cX11_look 2 (some .int)] [(2, 200)] (by decide +kernel) (by decide +kernel)) (goodIn_app (goodIn_app (goodIn_app (good_pick _ [(2, 99), (2, 90), (2, 89), (2, 100), (2, 101), (2, 201), (2, 202), (2, 203), (1, 3), (2, 204), (1, 67)] (by decide +kernel) (by decide +kernel)) ltbX11) ltbX7) ltbX3)
set_option maxRecDepth 100000 in
theorem ltb_X11_look : GoodIn lw_tbl (wsV RL 33 RX11 yX11_look wsX11_look) := goodIn_app (good_pick _ [(2, 197), (2, 198), (2, 199), (1, 1)] (by decide +kernel) (by decide +kernel)) gw_X11_look
set_option maxRecDepth 100000 in
theorem gp_wsX12_look_r1 : GoodIn lw_tbl wsX12_look_r1 := (good_pick _ [(5, 60), (5, 61), (5, 72), (5, 62), (5, 68), (5, 69), (6, 6), (6, 8), (11, 0), (1, 13), (6, 9), (6, 10), (6, 12), (11, 1), (6, 13), (5, 73), (5, 74), (5, 63), (5, 67), (5, 64), (5, 76), (5, 66), (5, 75), (5, 65)] (by decide +kernel) (by decide +kernel))
set_option maxRecDepth 100000 in
theorem gp_wsX12_look_r2 : GoodIn lw_tbl wsX12_look_r2 := (good_pick _ [(6, 22), (6, 24), (11, 3), (6, 25), (6, 14), (6, 16), (11, 2), (6, 17)] (by decide +kernel) (by decide +kernel))
set_option maxRecDepth 100000 in
theorem gw_X12_look : GoodIn lw_tbl wsX12_look := goodIn_c (good_pick [Cond.code yX12_look cX12_look 2 (some .int)] [(6, 21)] (by decide +kernel) (by decide +kernel)) (goodIn_app (goodIn_app gp_wsX12_look_r1 gp_wsX12_look_r2) ltbX12)
set_option maxRecDepth 100000 in
theorem ltb_X12_look : GoodIn lw_tbl (wsV RL 37 RX12 yX12_look wsX12_look) := goodIn_app (good_pick _ [(6, 18), (6, 19), (6, 20), (1, 13)] (by decide +kernel) (by decide +kernel)) gw_X12_look
set_option maxRecDepth 100000 in
theorem gw_X11_feed : GoodIn lw_tbl wsX11_feed := goodIn_c (good_pick [Cond.code yX11_feed cX11_feed 6 (some .int)] [(2, 208)] (by decide +kernel) (by decide +kernel)) (goodIn_app (goodIn_app (good_pick _ [(2, 92), (2, 209), (2, 210), (2, 211), (1, 4), (2, 212), (1, 93), (1, 89)] (by decide +kernel) (by decide +kernel)) ltbX11) ltbX5)
set_option maxRecDepth 100000 in
theorem ltb_X11_feed : GoodIn lw_tbl (wsV RL 38 RX11 yX11_feed wsX11_feed) := goodIn_app (good_pick _ [(2, 205), (2, 206), (2, 207), (1, 1)] (by decide +kernel) (by decide +kernel)) gw_X11_feed
set_option maxRecDepth 100000 in
theorem gw_X12_feed : GoodIn lw_tbl wsX12_feed := goodIn_c (good_pick [Cond.code yX12_feed cX12_feed 6 (some .int)] [(6, 29)] (by decide +kernel) (by decide +kernel)) (goodIn_app (good_pick _ [(5, 60), (5, 78), (6, 30), (6, 32), (11, 4), (1, 13), (6, 33), (5, 77)] (by decide +kernel) (by decide +kernel)) ltbX12)
set_option maxRecDepth 100000 in
theorem ltb_X12_feed : GoodIn lw_tbl (wsV RL 42 RX12 yX12_feed wsX12_feed) := goodIn_app (good_pick _ [(6, 26), (6, 27), (6, 28), (1, 13)] (by decide +kernel) (by decide +kernel)) gw_X12_feed
set_option maxRecDepth 100000 in
theorem gw_X11_end : GoodIn lw_tbl wsX11_end := goodIn_c (good_pick [Cond.code yX11_end cX11_end 2 (some .boolean)] [(2, 216)] (by decide +kernel) (by decide +kernel)) (goodIn_app (goodIn_app (good_pick _ [(2, 92)] (by decide +kernel) (by decide +kernel)) ltbX11) ltbX5)
set_option maxRecDepth 100000 in
theorem ltb_X11_end : GoodIn lw_tbl (wsV RL 43 RX11 yX11_end wsX11_end) := goodIn_app (good_pick _ [(2, 213), (2, 214), (2, 215), (1, 1)] (by decide +kernel) (by decide +kernel)) gw_X11_end
set_option maxRecDepth 100000 in
theorem gw_X12_end : GoodIn lw_tbl wsX12_end := goodIn_c (good_pick [Cond.code yX12_end cX12_end 2 (some .boolean)] [(6, 37)] (by decide +kernel) (by decide +kernel)) (goodIn_app (good_pick _ [(5, 60), (5, 78), (5, 234), (5, 236), (10, 15), (1, 13), (5, 237)] (by decide +kernel) (by decide +kernel)) ltbX12)
set_option maxRecDepth 100000 in
theorem ltb_X12_end : GoodIn lw_tbl (wsV RL 47 RX12 yX12_end wsX12_end) := goodIn_app (good_pick _ [(6, 34), (6, 35), (6, 36), (1, 13)] (by decide +kernel) (by decide +kernel)) gw_X12_end
set_option maxRecDepth 100000 in
theorem gp_wsX11_rule_r1 : GoodIn lw_tbl wsX11_rule_r1 := (good_pick _ [(2, 92), (2, 93), (2, 137), (2, 138), (1, 1), (2, 139), (2, 221), (2, 222), (2, 223), (1, 4), (2, 224), (1, 96), (1, 97), (1, 98), (1, 100), (1, 102), (1, 108), (1, 109), (1, 110), (1, 106), (2, 225), (2, 227), (8, 2), (2, 228)] (by decide +kernel) (by decide +kernel))
set_option maxRecDepth 100000 in
theorem gp_wsX11_rule_r2 : GoodIn lw_tbl wsX11_rule_r2 := (good_pick _ [(1, 93), (1, 89), (1, 103), (1, 104), (2, 229), (2, 230), (2, 231), (2, 232), (2, 234), (8, 3), (2, 235), (2, 237), (2, 239), (8, 4), (3, 0), (3, 1), (3, 2), (3, 3), (1, 14), (3, 4), (7, 76), (3, 5), (3, 6), (3, 7)] (by decide +kernel) (by decide +kernel))
set_option maxRecDepth 100000 in
theorem gp_wsX11_rule_r3 : GoodIn lw_tbl wsX11_rule_r3 := (good_pick _ [(3, 8), (3, 9), (7, 77), (3, 11), (3, 12), (3, 13), (3, 14), (3, 15), (3, 16), (3, 17), (3, 18), (3, 19), (3, 20), (1, 15), (3, 21), (3, 22), (3, 23), (3, 24), (3, 25), (3, 27), (3, 28), (1, 16), (3, 29), (3, 30)] (by decide +kernel) (by decide +kernel))
set_option maxRecDepth 100000 in
theorem gp_wsX11_rule_r4 : GoodIn lw_tbl wsX11_rule_r4 := (good_pick _ [(3, 31), (1, 17), (3, 32), (3, 33), (3, 34), (3, 35), (3, 36), (3, 37), (3, 38), (3, 39), (3, 40), (3, 41), (3, 42), (3, 43), (3, 45), (3, 47), (3, 57), (3, 58), (3, 59), (3, 60), (3, 62), (8, 5), (3, 63), (1, 105)] (by decide +kernel) (by decide +kernel))
set_option maxRecDepth 100000 in
theorem gp_wsX11_rule_r5 : GoodIn lw_tbl wsX11_rule_r5 := (good_pick _ [(3, 64), (3, 65), (1, 18), (3, 66), (3, 67), (3, 69), (8, 6), (3, 70), (1, 107), (3, 71), (3, 73), (8, 7), (3, 74), (1, 90), (3, 76), (3, 77), (3, 78), (3, 79), (3, 81), (8, 8), (3, 82), (3, 83), (3, 85), (8, 9)] (by decide +kernel) (by decide +kernel))
set_option maxRecDepth 100000 in
theorem gp_wsX11_rule_r6 : GoodIn lw_tbl wsX11_rule_r6 := (good_pick _ [(3, 86), (3, 87), (3, 89), (8, 10), (3, 90), (3, 91), (3, 93), (8, 11), (3, 94), (1, 92), (3, 95), (3, 97), (8, 12), (3, 98), (3, 99), (3, 101), (8, 13), (3, 102), (3, 103), (3, 105), (8, 14), (3, 106), (3, 107), (3, 108)] (by decide +kernel) (by decide +kernel))
set_option maxRecDepth 100000 in
theorem gp_wsX11_rule_r7 : GoodIn lw_tbl wsX11_rule_r7 := (good_pick _ [(3, 109), (3, 110), (3, 112), (8, 15), (3, 113), (3, 114), (3, 115), (3, 116), (3, 117), (3, 119), (9, 0), (3, 120), (3, 121), (3, 123), (9, 1), (3, 124), (3, 125), (3, 126), (3, 127), (1, 5), (3, 128), (1, 186), (1, 182), (3, 129)] (by decide +kernel) (by decide +kernel))
set_option maxRecDepth 100000 in
theorem gp_wsX11_rule_r8 : GoodIn lw_tbl wsX11_rule_r8 := (good_pick _ [(3, 131), (3, 130), (1, 19), (1, 184)] (by decide +kernel) (by decide +kernel))
set_option maxRecDepth 100000 in
theorem gw_X11_rule : GoodIn lw_tbl wsX11_rule := goodIn_c (good_pick [Cond.code yX11_rule cX11_rule 2 (some .boolean)] [(2, 220)] (by decide +kernel) (by decide +kernel)) (goodIn_app (goodIn_app (goodIn_app (goodIn_app (goodIn_app gp_wsX11_rule_r1 (goodIn_app gp_wsX11_rule_r2 (goodIn_app gp_wsX11_rule_r3 (goodIn_app gp_wsX11_rule_r4 (goodIn_app gp_wsX11_rule_r5 (goodIn_app gp_wsX11_rule_r6 (goodIn_app gp_wsX11_rule_r7 gp_wsX11_rule_r8))))))) ltbX11) ltbX5) ltbX6) ltbX9)
set_option maxRecDepth 100000 in
theorem ltb_X11_rule : GoodIn lw_tbl (wsV RL 48 RX11 yX11_rule wsX11_rule) := goodIn_app (good_pick _ [(2, 217), (2, 218), (2, 219), (1, 1)] (by decide +kernel) (by decide +kernel)) gw_X11_rule
set_option maxRecDepth 100000 in
theorem gp_wsX12_rule_r1 : GoodIn lw_tbl wsX12_rule_r1 := (good_pick _ [(5, 60), (5, 78), (5, 91), (5, 93), (5, 92), (5, 94), (5, 84), (5, 87), (5, 85), (5, 86), (6, 42), (6, 44), (11, 5), (1, 13), (6, 45), (5, 234), (5, 236), (10, 15), (5, 237), (6, 46), (6, 48), (11, 6), (6, 49), (5, 79)] (by decide +kernel) (by decide +kernel))
set_option maxRecDepth 100000 in
theorem gp_wsX12_rule_r2 : GoodIn lw_tbl wsX12_rule_r2 := (good_pick _ [(5, 88), (5, 81), (6, 50), (6, 52), (11, 7), (6, 53), (5, 80), (5, 82), (6, 54), (6, 56), (11, 8), (6, 57), (5, 77), (6, 58), (6, 60), (11, 9), (6, 61), (6, 62), (6, 64), (11, 10), (6, 65), (5, 83), (6, 66), (6, 68)] (by decide +kernel) (by decide +kernel))
set_option maxRecDepth 100000 in
theorem gp_wsX12_rule_r3 : GoodIn lw_tbl wsX12_rule_r3 := (good_pick _ [(11, 11), (6, 69), (6, 70), (6, 72), (11, 12), (6, 73), (6, 74), (6, 76), (11, 13), (6, 77), (5, 90), (6, 78), (6, 80), (11, 14), (6, 81), (6, 82), (6, 84), (11, 15), (6, 85), (6, 86), (6, 88), (12, 0), (6, 89), (6, 90)] (by decide +kernel) (by decide +kernel))
set_option maxRecDepth 100000 in
theorem gp_wsX12_rule_r4 : GoodIn lw_tbl wsX12_rule_r4 := (good_pick _ [(6, 92), (12, 1), (6, 93), (5, 89), (6, 94), (6, 96), (12, 2), (6, 97), (6, 98), (6, 100), (12, 3), (6, 101), (6, 102), (6, 104), (12, 4), (6, 105), (6, 106), (6, 108), (12, 5), (6, 109), (6, 110), (6, 112), (12, 6), (6, 113)] (by decide +kernel) (by decide +kernel))
set_option maxRecDepth 100000 in
theorem gp_wsX12_rule_r5 : GoodIn lw_tbl wsX12_rule_r5 := (good_pick _ [(6, 114), (6, 116), (12, 7), (6, 117), (6, 118), (6, 120), (12, 8), (6, 121)] (by decide +kernel) (by decide +kernel))
set_option maxRecDepth 100000 in
theorem gw_X12_rule : GoodIn lw_tbl wsX12_rule := goodIn_c (good_pick [Cond.code yX12_rule cX12_rule 4 (some .boolean)] [(6, 41)] (by decide +kernel) (by decide +kernel)) (goodIn_app (goodIn_app gp_wsX12_rule_r1 (goodIn_app gp_wsX12_rule_r2 (goodIn_app gp_wsX12_rule_r3 (goodIn_app gp_wsX12_rule_r4 gp_wsX12_rule_r5)))) ltbX12)
set_option maxRecDepth 100000 in
theorem ltb_X12_rule : GoodIn lw_tbl (wsV RL 51 RX12 yX12_rule wsX12_rule) := goodIn_app (good_pick _ [(6, 38), (6, 39), (6, 40), (1, 13)] (by decide +kernel) (by decide +kernel)) gw_X12_rule
