set_option maxRecDepth 100000 in
theorem gw_X11_wish : GoodIn lw_tbl wsX11_wish := goodIn_c (good_pick [Cond.code yX11_wish cX11_wish 3 (some .boolean)] [(4, 94)] (by decide +kernel) (by decide +kernel)) (goodIn_app (goodIn_app (good_pick _ [(2, 99), (2, 96), (2, 137), (2, 138), (1, 1), (2, 139), (4, 95), (4, 96), (4, 97), (1, 9), (4, 98), (2, 6), (4, 99), (4, 100), (4, 101), (4, 102), (2, 8), (2, 7), (4, 104), (3, 131), (3, 130), (1, 19), (2, 186), (2, 187)] (by decide +kernel) (by decide +kernel)) ltbX11) ltbX4)
set_option maxRecDepth 100000 in
theorem ltb_X11_wish : GoodIn lw_tbl (wsV RL 90 RX11 yX11_wish wsX11_wish) := goodIn_app (good_pick _ [(4, 91), (4, 92), (4, 93), (1, 1)] (by decide +kernel) (by decide +kernel)) gw_X11_wish
set_option maxRecDepth 100000 in
theorem gw_X12_wish : GoodIn lw_tbl wsX12_wish := goodIn_c (good_pick [Cond.code yX12_wish cX12_wish 6 (some .boolean)] [(6, 226)] (by decide +kernel) (by decide +kernel)) (goodIn_app (good_pick _ [(5, 60), (6, 227), (5, 71), (5, 70), (5, 226), (5, 228), (10, 13), (1, 13), (5, 229), (5, 61), (5, 234), (5, 236), (10, 15), (5, 237)] (by decide +kernel) (by decide +kernel)) ltbX12)
set_option maxRecDepth 100000 in
theorem ltb_X12_wish : GoodIn lw_tbl (wsV RL 93 RX12 yX12_wish wsX12_wish) := goodIn_app (good_pick _ [(6, 223), (6, 224), (6, 225), (1, 13)] (by decide +kernel) (by decide +kernel)) gw_X12_wish
set_option maxRecDepth 100000 in
theorem gw_X11_support : GoodIn lw_tbl wsX11_support := goodIn_c (good_pick [Cond.code yX11_support cX11_support 3 (some .int)] [(4, 108)] (by decide +kernel) (by decide +kernel)) (goodIn_app (goodIn_app (goodIn_app (good_pick _ [(2, 96), (2, 90), (2, 137), (2, 138), (1, 1), (2, 139), (4, 109), (4, 110), (4, 111), (1, 9), (4, 112), (2, 6), (2, 7)] (by decide +kernel) (by decide +kernel)) ltbX11) ltbX7) ltbX4)
set_option maxRecDepth 100000 in
theorem ltb_X11_support : GoodIn lw_tbl (wsV RL 94 RX11 yX11_support wsX11_support) := goodIn_app (good_pick _ [(4, 105), (4, 106), (4, 107), (1, 1)] (by decide +kernel) (by decide +kernel)) gw_X11_support
set_option maxRecDepth 100000 in
theorem gp_wsX12_support_r1 : GoodIn lw_tbl wsX12_support_r1 := (good_pick _ [(5, 60), (6, 232), (6, 234), (13, 9), (1, 13), (6, 235), (5, 234), (5, 236), (10, 15), (5, 237), (6, 6), (6, 8), (11, 0), (6, 9), (5, 68), (5, 69), (6, 10), (6, 12), (11, 1), (6, 13), (5, 72), (5, 73), (5, 74), (5, 61)] (by decide +kernel) (by decide +kernel))
set_option maxRecDepth 100000 in
theorem gp_wsX12_support_r2 : GoodIn lw_tbl wsX12_support_r2 := (good_pick _ [(5, 62), (5, 63), (5, 67), (5, 64), (5, 76), (5, 66), (5, 75), (5, 65), (6, 236), (6, 238), (13, 10), (6, 239), (5, 71), (6, 14), (6, 16), (11, 2), (6, 17), (7, 0), (7, 2), (13, 11), (7, 3), (5, 70)] (by decide +kernel) (by decide +kernel))
set_option maxRecDepth 100000 in
theorem gw_X12_support : GoodIn lw_tbl wsX12_support := goodIn_c (good_pick [Cond.code yX12_support cX12_support 3 (some .int)] [(6, 231)] (by decide +kernel) (by decide +kernel)) (goodIn_app (goodIn_app gp_wsX12_support_r1 gp_wsX12_support_r2) ltbX12)
set_option maxRecDepth 100000 in
theorem ltb_X12_support : GoodIn lw_tbl (wsV RL 97 RX12 yX12_support wsX12_support) := goodIn_app (good_pick _ [(6, 228), (6, 229), (6, 230), (1, 13)] (by decide +kernel) (by decide +kernel)) gw_X12_support
set_option maxRecDepth 100000 in
theorem gp_wsX11_agenda_r1 : GoodIn lw_tbl wsX11_agenda_r1 := (good_pick _ [(2, 96), (2, 93), (2, 90), (2, 137), (2, 138), (1, 1), (2, 139), (4, 117), (4, 118), (4, 119), (1, 9), (4, 120), (2, 12), (2, 11), (2, 186), (2, 187), (4, 121), (4, 122), (4, 123), (4, 124), (2, 9), (4, 125), (4, 110), (4, 111)] (by decide +kernel) (by decide +kernel))
set_option maxRecDepth 100000 in
theorem gp_wsX11_agenda_r2 : GoodIn lw_tbl wsX11_agenda_r2 := (good_pick _ [(4, 112), (2, 6), (2, 7), (4, 126), (3, 145), (3, 146), (1, 5), (3, 147), (1, 184), (3, 148), (3, 149), (3, 150), (1, 6), (3, 151), (1, 159), (3, 154), (3, 155), (3, 156), (3, 157), (1, 186), (1, 182), (1, 183), (3, 159), (3, 160)] (by decide +kernel) (by decide +kernel))
set_option maxRecDepth 100000 in
theorem gp_wsX11_agenda_r3 : GoodIn lw_tbl wsX11_agenda_r3 := (good_pick _ [(3, 161), (3, 162), (3, 163), (1, 20), (3, 164), (3, 165), (3, 166), (3, 167), (3, 168), (2, 189), (2, 190), (1, 3), (2, 191), (1, 66), (3, 169), (3, 170), (3, 171), (3, 172), (1, 67), (3, 173), (3, 174), (3, 175), (4, 127), (4, 128)] (by decide +kernel) (by decide +kernel))
set_option maxRecDepth 100000 in
theorem gp_wsX11_agenda_r4 : GoodIn lw_tbl wsX11_agenda_r4 := (good_pick _ [(4, 129), (4, 130), (4, 131), (4, 133), (9, 11), (4, 134), (2, 10), (4, 135), (4, 137), (9, 12), (4, 138), (4, 139), (4, 141), (9, 13), (4, 142), (4, 143), (4, 145), (9, 14), (4, 146)] (by decide +kernel) (by decide +kernel))
set_option maxRecDepth 100000 in
theorem gw_X11_agenda : GoodIn lw_tbl wsX11_agenda := goodIn_c (good_pick [Cond.code yX11_agenda cX11_agenda 4 (some .int)] [(4, 116)] (by decide +kernel) (by decide +kernel)) (goodIn_app (goodIn_app (goodIn_app (goodIn_app (goodIn_app (goodIn_app gp_wsX11_agenda_r1 (goodIn_app gp_wsX11_agenda_r2 (goodIn_app gp_wsX11_agenda_r3 gp_wsX11_agenda_r4))) ltbX11) ltbX4) ltbX7) ltbX6) ltbX9)
set_option maxRecDepth 100000 in
theorem ltb_X11_agenda : GoodIn lw_tbl (wsV RL 98 RX11 yX11_agenda wsX11_agenda) := goodIn_app (good_pick _ [(4, 113), (4, 114), (4, 115), (1, 1)] (by decide +kernel) (by decide +kernel)) gw_X11_agenda
set_option maxRecDepth 100000 in
theorem gp_wsX12_agenda_r1 : GoodIn lw_tbl wsX12_agenda_r1 := (good_pick _ [(5, 60), (6, 42), (6, 44), (11, 5), (1, 13), (6, 45), (5, 234), (5, 236), (10, 15), (5, 237), (7, 8), (7, 10), (13, 12), (7, 11), (5, 100), (5, 101), (7, 12), (7, 14), (13, 13), (7, 15), (5, 99), (6, 6), (6, 8), (11, 0)] (by decide +kernel) (by decide +kernel))
set_option maxRecDepth 100000 in
theorem gp_wsX12_agenda_r2 : GoodIn lw_tbl wsX12_agenda_r2 := (good_pick _ [(6, 9), (5, 68), (5, 69), (6, 10), (6, 12), (11, 1), (6, 13), (5, 72), (5, 73), (5, 74), (5, 61), (5, 62), (5, 63), (5, 67), (5, 64), (5, 76), (5, 66), (5, 75), (5, 65), (6, 236), (6, 238), (13, 10), (6, 239), (5, 71)] (by decide +kernel) (by decide +kernel))
set_option maxRecDepth 100000 in
theorem gp_wsX12_agenda_r3 : GoodIn lw_tbl wsX12_agenda_r3 := (good_pick _ [(6, 14), (6, 16), (11, 2), (6, 17), (7, 0), (7, 2), (13, 11), (7, 3), (5, 70), (6, 134), (6, 136), (12, 10), (6, 137), (5, 84), (5, 85), (5, 95), (6, 138), (6, 140), (12, 11), (6, 141), (5, 86), (6, 142), (6, 144), (12, 12)] (by decide +kernel) (by decide +kernel))
set_option maxRecDepth 100000 in
theorem gp_wsX12_agenda_r4 : GoodIn lw_tbl wsX12_agenda_r4 := (good_pick _ [(6, 145), (6, 146), (6, 148), (12, 13), (6, 149), (6, 150), (6, 152), (12, 14), (6, 153), (6, 154), (6, 156), (12, 15), (6, 157), (7, 16), (7, 18), (13, 14), (7, 19), (5, 102)] (by decide +kernel) (by decide +kernel))
set_option maxRecDepth 100000 in
theorem gw_X12_agenda : GoodIn lw_tbl wsX12_agenda := goodIn_c (good_pick [Cond.code yX12_agenda cX12_agenda 4 (some .int)] [(7, 7)] (by decide +kernel) (by decide +kernel)) (goodIn_app (goodIn_app gp_wsX12_agenda_r1 (goodIn_app gp_wsX12_agenda_r2 (goodIn_app gp_wsX12_agenda_r3 gp_wsX12_agenda_r4))) ltbX12)
set_option maxRecDepth 100000 in
theorem ltb_X12_agenda : GoodIn lw_tbl (wsV RL 102 RX12 yX12_agenda wsX12_agenda) := goodIn_app (good_pick _ [(7, 4), (7, 5), (7, 6), (1, 13)] (by decide +kernel) (by decide +kernel)) gw_X12_agenda
set_option maxRecDepth 100000 in
theorem gp_wsX11_through_r1 : GoodIn lw_tbl wsX11_through_r1 := (good_pick _ [(2, 96), (2, 93), (2, 90), (2, 137), (2, 138), (1, 1), (2, 139), (2, 185), (2, 186), (2, 187), (4, 121), (4, 122), (4, 123), (1, 9), (4, 124), (2, 9), (4, 125), (4, 110), (4, 111), (4, 112), (2, 6), (2, 7), (4, 126), (3, 145)] (by decide +kernel) (by decide +kernel))
set_option maxRecDepth 100000 in
theorem gp_wsX11_through_r2 : GoodIn lw_tbl wsX11_through_r2 := (good_pick _ [(3, 146), (1, 5), (3, 147), (1, 184), (3, 148), (3, 149), (3, 150), (1, 6), (3, 151), (1, 159), (3, 154), (3, 155), (3, 156), (3, 157), (1, 186), (1, 182), (1, 183), (3, 159), (3, 160), (3, 161), (3, 162), (3, 163), (1, 20), (3, 164)] (by decide +kernel) (by decide +kernel))
set_option maxRecDepth 100000 in
theorem gp_wsX11_through_r3 : GoodIn lw_tbl wsX11_through_r3 := (good_pick _ [(3, 165), (3, 166), (3, 167), (3, 168), (2, 189), (2, 190), (1, 3), (2, 191), (1, 66), (3, 169), (3, 170), (3, 171), (3, 172), (1, 67), (3, 173), (3, 174), (3, 175), (4, 151), (4, 152), (4, 153), (4, 154), (4, 155), (4, 157), (9, 15)] (by decide +kernel) (by decide +kernel))
set_option maxRecDepth 100000 in
theorem gp_wsX11_through_r4 : GoodIn lw_tbl wsX11_through_r4 := (good_pick _ [(4, 158), (2, 12), (2, 11), (4, 159), (4, 128), (4, 129), (4, 130), (4, 131), (4, 133), (9, 11), (4, 134), (2, 10), (4, 135), (4, 137), (9, 12), (4, 138), (4, 139), (4, 141), (9, 13), (4, 142), (4, 143), (4, 145), (9, 14), (4, 146)] (by decide +kernel) (by decide +kernel))
set_option maxRecDepth 100000 in
theorem gp_wsX11_through_r5 : GoodIn lw_tbl wsX11_through_r5 := (good_pick _ [(4, 160), (4, 162), (10, 0), (4, 163), (4, 164), (4, 166), (10, 1), (4, 167), (4, 168), (4, 169), (4, 170), (4, 171), (4, 172), (4, 174), (10, 2), (4, 175)] (by decide +kernel) (by decide +kernel))
set_option maxRecDepth 100000 in
theorem gw_X11_through : GoodIn lw_tbl wsX11_through := goodIn_c (good_pick [Cond.code yX11_through cX11_through 6 (some .int)] [(4, 150)] (by decide +kernel) (by decide +kernel)) (goodIn_app (goodIn_app (goodIn_app (goodIn_app (goodIn_app (goodIn_app gp_wsX11_through_r1 (goodIn_app gp_wsX11_through_r2 (goodIn_app gp_wsX11_through_r3 (goodIn_app gp_wsX11_through_r4 gp_wsX11_through_r5)))) ltbX11) ltbX4) ltbX7) ltbX6) ltbX9)
set_option maxRecDepth 100000 in
theorem ltb_X11_through : GoodIn lw_tbl (wsV RL 103 RX11 yX11_through wsX11_through) := goodIn_app (good_pick _ [(4, 147), (4, 148), (4, 149), (1, 1)] (by decide +kernel) (by decide +kernel)) gw_X11_through
set_option maxRecDepth 100000 in
theorem gp_wsX12_through_r1 : GoodIn lw_tbl wsX12_through_r1 := (good_pick _ [(5, 60), (5, 100), (5, 101), (6, 42), (6, 44), (11, 5), (1, 13), (6, 45), (5, 234), (5, 236), (10, 15), (5, 237), (6, 232), (6, 234), (13, 9), (6, 235), (6, 14), (6, 16), (11, 2), (6, 17), (7, 12), (7, 14), (13, 13), (7, 15)] (by decide +kernel) (by decide +kernel))
set_option maxRecDepth 100000 in
theorem gp_wsX12_through_r2 : GoodIn lw_tbl wsX12_through_r2 := (good_pick _ [(5, 99), (6, 6), (6, 8), (11, 0), (6, 9), (5, 68), (5, 69), (6, 10), (6, 12), (11, 1), (6, 13), (5, 72), (5, 73), (5, 74), (5, 61), (5, 62), (5, 63), (5, 67), (5, 64), (5, 76), (5, 66), (5, 75), (5, 65), (6, 236)] (by decide +kernel) (by decide +kernel))
set_option maxRecDepth 100000 in
theorem gp_wsX12_through_r3 : GoodIn lw_tbl wsX12_through_r3 := (good_pick _ [(6, 238), (13, 10), (6, 239), (5, 71), (7, 0), (7, 2), (13, 11), (7, 3), (5, 70), (6, 134), (6, 136), (12, 10), (6, 137), (5, 84), (5, 85), (5, 95), (6, 138), (6, 140), (12, 11), (6, 141), (5, 86), (6, 142), (6, 144), (12, 12)] (by decide +kernel) (by decide +kernel))
set_option maxRecDepth 100000 in
theorem gp_wsX12_through_r4 : GoodIn lw_tbl wsX12_through_r4 := (good_pick _ [(6, 145), (6, 146), (6, 148), (12, 13), (6, 149), (6, 150), (6, 152), (12, 14), (6, 153), (6, 154), (6, 156), (12, 15), (6, 157), (7, 16), (7, 18), (13, 14), (7, 19), (5, 102), (7, 24), (7, 26), (13, 15), (7, 27), (7, 28), (7, 30)] (by decide +kernel) (by decide +kernel))
set_option maxRecDepth 100000 in
theorem gp_wsX12_through_r5 : GoodIn lw_tbl wsX12_through_r5 := (good_pick _ [(14, 0), (7, 31)] (by decide +kernel) (by decide +kernel))
set_option maxRecDepth 100000 in
theorem gw_X12_through : GoodIn lw_tbl wsX12_through := goodIn_c (good_pick [Cond.code yX12_through cX12_through 9 (some .int)] [(7, 23)] (by decide +kernel) (by decide +kernel)) (goodIn_app (goodIn_app gp_wsX12_through_r1 (goodIn_app gp_wsX12_through_r2 (goodIn_app gp_wsX12_through_r3 (goodIn_app gp_wsX12_through_r4 gp_wsX12_through_r5)))) ltbX12)
set_option maxRecDepth 100000 in
theorem ltb_X12_through : GoodIn lw_tbl (wsV RL 107 RX12 yX12_through wsX12_through) := goodIn_app (good_pick _ [(7, 20), (7, 21), (7, 22), (1, 13)] (by decide +kernel) (by decide +kernel)) gw_X12_through
set_option maxRecDepth 100000 in
theorem gp_wsX11_best_r1 : GoodIn lw_tbl wsX11_best_r1 := (good_pick _ [(2, 96), (2, 93), (2, 90), (2, 137), (2, 138), (1, 1), (2, 139), (4, 121), (4, 122), (4, 123), (1, 9), (4, 124), (2, 9), (4, 125), (4, 110), (4, 111), (4, 112), (2, 6), (2, 7), (4, 126), (3, 145), (3, 146), (1, 5), (3, 147)] (by decide +kernel) (by decide +kernel))
set_option maxRecDepth 100000 in
theorem gp_wsX11_best_r2 : GoodIn lw_tbl wsX11_best_r2 := (good_pick _ [(1, 184), (3, 148), (3, 149), (3, 150), (1, 6), (3, 151), (1, 159), (2, 186), (2, 187), (3, 154), (3, 155), (3, 156), (3, 157), (1, 186), (1, 182), (1, 183), (3, 159), (3, 160), (3, 161), (3, 162), (3, 163), (1, 20), (3, 164), (3, 165)] (by decide +kernel) (by decide +kernel))
set_option maxRecDepth 100000 in
theorem gp_wsX11_best_r3 : GoodIn lw_tbl wsX11_best_r3 := (good_pick _ [(3, 166), (3, 167), (3, 168), (2, 189), (2, 190), (1, 3), (2, 191), (1, 66), (3, 169), (3, 170), (3, 171), (3, 172), (1, 67), (3, 173), (3, 174), (3, 175), (4, 180), (4, 181), (4, 182), (4, 183), (3, 142), (3, 143)] (by decide +kernel) (by decide +kernel))
set_option maxRecDepth 100000 in
theorem gw_X11_best : GoodIn lw_tbl wsX11_best := goodIn_c (good_pick [Cond.code yX11_best cX11_best 3 (some .int)] [(4, 179)] (by decide +kernel) (by decide +kernel)) (goodIn_app (goodIn_app (goodIn_app (goodIn_app (goodIn_app (goodIn_app gp_wsX11_best_r1 (goodIn_app gp_wsX11_best_r2 gp_wsX11_best_r3)) ltbX11) ltbX4) ltbX7) ltbX6) ltbX9)
set_option maxRecDepth 100000 in
theorem ltb_X11_best : GoodIn lw_tbl (wsV RL 108 RX11 yX11_best wsX11_best) := goodIn_app (good_pick _ [(4, 176), (4, 177), (4, 178), (1, 1)] (by decide +kernel) (by decide +kernel)) gw_X11_best
set_option maxRecDepth 100000 in
theorem gp_wsX12_best_r1 : GoodIn lw_tbl wsX12_best_r1 := (good_pick _ [(5, 60), (5, 99), (6, 42), (6, 44), (11, 5), (1, 13), (6, 45), (5, 234), (5, 236), (10, 15), (5, 237), (7, 12), (7, 14), (13, 13), (7, 15), (6, 6), (6, 8), (11, 0), (6, 9), (5, 68), (5, 69), (6, 10), (6, 12), (11, 1)] (by decide +kernel) (by decide +kernel))
set_option maxRecDepth 100000 in
theorem gp_wsX12_best_r2 : GoodIn lw_tbl wsX12_best_r2 := (good_pick _ [(6, 13), (5, 72), (5, 73), (5, 74), (5, 61), (5, 62), (5, 63), (5, 67), (5, 64), (5, 76), (5, 66), (5, 75), (5, 65), (6, 236), (6, 238), (13, 10), (6, 239), (5, 71), (6, 14), (6, 16), (11, 2), (6, 17), (7, 0), (7, 2)] (by decide +kernel) (by decide +kernel))
set_option maxRecDepth 100000 in
theorem gp_wsX12_best_r3 : GoodIn lw_tbl wsX12_best_r3 := (good_pick _ [(13, 11), (7, 3), (5, 70), (6, 134), (6, 136), (12, 10), (6, 137), (5, 84), (5, 85), (5, 95), (6, 138), (6, 140), (12, 11), (6, 141), (5, 86), (6, 142), (6, 144), (12, 12), (6, 145), (6, 146), (6, 148), (12, 13), (6, 149), (6, 150)] (by decide +kernel) (by decide +kernel))
set_option maxRecDepth 100000 in
theorem gp_wsX12_best_r4 : GoodIn lw_tbl wsX12_best_r4 := (good_pick _ [(6, 152), (12, 14), (6, 153), (6, 154), (6, 156), (12, 15), (6, 157)] (by decide +kernel) (by decide +kernel))
set_option maxRecDepth 100000 in
theorem gw_X12_best : GoodIn lw_tbl wsX12_best := goodIn_c (good_pick [Cond.code yX12_best cX12_best 6 (some .int)] [(7, 35)] (by decide +kernel) (by decide +kernel)) (goodIn_app (goodIn_app gp_wsX12_best_r1 (goodIn_app gp_wsX12_best_r2 (goodIn_app gp_wsX12_best_r3 gp_wsX12_best_r4))) ltbX12)
set_option maxRecDepth 100000 in
theorem ltb_X12_best : GoodIn lw_tbl (wsV RL 111 RX12 yX12_best wsX12_best) := goodIn_app (good_pick _ [(7, 32), (7, 33), (7, 34), (1, 13)] (by decide +kernel) (by decide +kernel)) gw_X12_best
set_option maxRecDepth 100000 in
theorem gw_X11_line : GoodIn lw_tbl wsX11_line := goodIn_c (good_pick [Cond.code yX11_line cX11_line 3 (some .boolean)] [(4, 188)] (by decide +kernel) (by decide +kernel)) (goodIn_app (goodIn_app (good_pick _ [(2, 97), (2, 137), (2, 138), (1, 1), (2, 139)] (by decide +kernel) (by decide +kernel)) ltbX11) ltbX2)
set_option maxRecDepth 100000 in
theorem ltb_X11_line : GoodIn lw_tbl (wsV RL 112 RX11 yX11_line wsX11_line) := goodIn_app (good_pick _ [(4, 185), (4, 186), (4, 187), (1, 1)] (by decide +kernel) (by decide +kernel)) gw_X11_line
set_option maxRecDepth 100000 in
theorem gw_X12_line : GoodIn lw_tbl wsX12_line := goodIn_c (good_pick [Cond.code yX12_line cX12_line 3 (some .boolean)] [(7, 39)] (by decide +kernel) (by decide +kernel)) (goodIn_app (good_pick _ [(5, 60), (5, 103), (5, 234), (5, 236), (10, 15), (1, 13), (5, 237)] (by decide +kernel) (by decide +kernel)) ltbX12)
set_option maxRecDepth 100000 in
theorem ltb_X12_line : GoodIn lw_tbl (wsV RL 115 RX12 yX12_line wsX12_line) := goodIn_app (good_pick _ [(7, 36), (7, 37), (7, 38), (1, 13)] (by decide +kernel) (by decide +kernel)) gw_X12_line
set_option maxRecDepth 100000 in
theorem gp_wsX11_coalition_r1 : GoodIn lw_tbl wsX11_coalition_r1 := (good_pick _ [(2, 97), (2, 93), (2, 90), (2, 137), (2, 138), (1, 1), (2, 139), (4, 193), (4, 194), (4, 195), (1, 11), (4, 196), (2, 36), (2, 38), (2, 40), (2, 42), (4, 197), (2, 202), (2, 203), (1, 3), (2, 204), (1, 67), (3, 142), (3, 143)] (by decide +kernel) (by decide +kernel))
set_option maxRecDepth 100000 in
theorem gp_wsX11_coalition_r2 : GoodIn lw_tbl wsX11_coalition_r2 := (good_pick _ [(4, 199), (4, 201), (10, 3), (4, 202), (2, 34), (4, 203), (4, 205), (10, 4), (4, 206), (4, 208), (4, 88), (1, 21), (4, 89), (2, 186), (2, 187), (4, 209), (4, 211), (10, 5), (4, 212), (4, 213), (4, 9), (4, 10), (4, 214), (4, 215)] (by decide +kernel) (by decide +kernel))
set_option maxRecDepth 100000 in
theorem gp_wsX11_coalition_r3 : GoodIn lw_tbl wsX11_coalition_r3 := (good_pick _ [(4, 216), (4, 217), (4, 218), (3, 145), (3, 146), (1, 5), (3, 147), (1, 184), (3, 148), (3, 149), (3, 150), (1, 6), (3, 151), (1, 159), (3, 154), (3, 155), (3, 156), (3, 157), (1, 186), (1, 182), (1, 183), (3, 159), (3, 160), (3, 161)] (by decide +kernel) (by decide +kernel))
set_option maxRecDepth 100000 in
theorem gp_wsX11_coalition_r4 : GoodIn lw_tbl wsX11_coalition_r4 := (good_pick _ [(3, 162), (3, 163), (1, 20), (3, 164), (3, 165), (3, 166), (3, 167), (3, 168), (2, 189), (2, 190), (2, 191), (1, 66), (3, 169), (3, 170), (3, 171), (3, 172), (3, 173), (3, 174), (3, 175), (4, 219), (4, 220), (4, 222), (10, 6), (4, 223)] (by decide +kernel) (by decide +kernel))
set_option maxRecDepth 100000 in
theorem gw_X11_coalition : GoodIn lw_tbl wsX11_coalition := goodIn_c (good_pick [Cond.code yX11_coalition cX11_coalition 3 (some .int)] [(4, 192)] (by decide +kernel) (by decide +kernel)) (goodIn_app (goodIn_app (goodIn_app (goodIn_app (goodIn_app (goodIn_app gp_wsX11_coalition_r1 (goodIn_app gp_wsX11_coalition_r2 (goodIn_app gp_wsX11_coalition_r3 gp_wsX11_coalition_r4))) ltbX11) ltbX2) ltbX7) ltbX6) ltbX9)
set_option maxRecDepth 100000 in
theorem ltb_X11_coalition : GoodIn lw_tbl (wsV RL 116 RX11 yX11_coalition wsX11_coalition) := goodIn_app (good_pick _ [(4, 189), (4, 190), (4, 191), (1, 1)] (by decide +kernel) (by decide +kernel)) gw_X11_coalition
set_option maxRecDepth 100000 in
theorem gp_wsX12_coalition_r1 : GoodIn lw_tbl wsX12_coalition_r1 := (good_pick _ [(5, 60), (6, 42), (6, 44), (11, 5), (1, 13), (6, 45), (5, 234), (5, 236), (10, 15), (5, 237), (6, 6), (6, 8), (11, 0), (6, 9), (5, 68), (5, 69), (6, 10), (6, 12), (11, 1), (6, 13), (5, 72), (5, 73), (5, 74), (5, 61)] (by decide +kernel) (by decide +kernel))
set_option maxRecDepth 100000 in
theorem gp_wsX12_coalition_r2 : GoodIn lw_tbl wsX12_coalition_r2 := (good_pick _ [(5, 62), (5, 63), (5, 67), (5, 64), (5, 76), (5, 66), (5, 75), (5, 65), (6, 22), (6, 24), (11, 3), (6, 25), (6, 14), (6, 16), (11, 2), (6, 17), (7, 44), (7, 46), (14, 1), (7, 47), (5, 103), (7, 48), (7, 50), (14, 2)] (by decide +kernel) (by decide +kernel))
set_option maxRecDepth 100000 in
theorem gp_wsX12_coalition_r3 : GoodIn lw_tbl wsX12_coalition_r3 := (good_pick _ [(7, 51), (6, 134), (6, 136), (12, 10), (6, 137), (5, 84), (5, 85), (5, 95), (6, 138), (6, 140), (12, 11), (6, 141), (5, 86), (6, 142), (6, 144), (12, 12), (6, 145), (6, 146), (6, 148), (12, 13), (6, 149), (6, 150), (6, 152), (12, 14)] (by decide +kernel) (by decide +kernel))
set_option maxRecDepth 100000 in
theorem gp_wsX12_coalition_r4 : GoodIn lw_tbl wsX12_coalition_r4 := (good_pick _ [(6, 153), (6, 154), (6, 156), (12, 15), (6, 157), (7, 52), (7, 54), (14, 3), (7, 55)] (by decide +kernel) (by decide +kernel))
set_option maxRecDepth 100000 in
theorem gw_X12_coalition : GoodIn lw_tbl wsX12_coalition := goodIn_c (good_pick [Cond.code yX12_coalition cX12_coalition 7 (some .int)] [(7, 43)] (by decide +kernel) (by decide +kernel)) (goodIn_app (goodIn_app gp_wsX12_coalition_r1 (goodIn_app gp_wsX12_coalition_r2 (goodIn_app gp_wsX12_coalition_r3 gp_wsX12_coalition_r4))) ltbX12)
set_option maxRecDepth 100000 in
theorem ltb_X12_coalition : GoodIn lw_tbl (wsV RL 119 RX12 yX12_coalition wsX12_coalition) := goodIn_app (good_pick _ [(7, 40), (7, 41), (7, 42), (1, 13)] (by decide +kernel) (by decide +kernel)) gw_X12_coalition
set_option maxRecDepth 100000 in
theorem gw_X11_value : GoodIn lw_tbl wsX11_value := goodIn_c (good_pick [Cond.code yX11_value cX11_value 4 (some .boolean)] [(4, 227)] (by decide +kernel) (by decide +kernel)) (goodIn_app (goodIn_app (good_pick _ [(2, 98), (2, 137), (2, 138), (1, 1), (2, 139), (4, 228), (4, 229), (4, 230), (1, 12), (4, 231), (2, 61)] (by decide +kernel) (by decide +kernel)) ltbX11) ltbX0)
set_option maxRecDepth 100000 in
theorem ltb_X11_value : GoodIn lw_tbl (wsV RL 120 RX11 yX11_value wsX11_value) := goodIn_app (good_pick _ [(4, 224), (4, 225), (4, 226), (1, 1)] (by decide +kernel) (by decide +kernel)) gw_X11_value
set_option maxRecDepth 100000 in
theorem gw_X12_value : GoodIn lw_tbl wsX12_value := goodIn_c (good_pick [Cond.code yX12_value cX12_value 4 (some .boolean)] [(7, 59)] (by decide +kernel) (by decide +kernel)) (goodIn_app (good_pick _ [(5, 60), (5, 105), (5, 234), (5, 236), (10, 15), (1, 13), (5, 237)] (by decide +kernel) (by decide +kernel)) ltbX12)
set_option maxRecDepth 100000 in
theorem ltb_X12_value : GoodIn lw_tbl (wsV RL 124 RX12 yX12_value wsX12_value) := goodIn_app (good_pick _ [(7, 56), (7, 57), (7, 58), (1, 13)] (by decide +kernel) (by decide +kernel)) gw_X12_value
set_option maxRecDepth 100000 in
theorem gp_wsX11_deal_r1 : GoodIn lw_tbl wsX11_deal_r1 := (good_pick _ [(2, 98), (2, 90), (2, 137), (2, 138), (1, 1), (2, 139), (4, 237), (4, 238), (4, 239), (1, 12), (5, 0), (2, 62), (2, 186), (2, 187), (5, 2), (3, 170), (3, 171), (1, 3), (3, 172), (1, 67), (5, 3), (2, 189), (2, 190), (2, 191)] (by decide +kernel) (by decide +kernel))
set_option maxRecDepth 100000 in
theorem gp_wsX11_deal_r2 : GoodIn lw_tbl wsX11_deal_r2 := (good_pick _ [(1, 66), (5, 4), (3, 163), (1, 20), (3, 164), (3, 165), (3, 166), (3, 167), (5, 5), (5, 6), (5, 7), (5, 8), (2, 63), (5, 10), (4, 88), (1, 21), (4, 89), (2, 69), (2, 64), (5, 9), (2, 4), (1, 10), (2, 5), (5, 11)] (by decide +kernel) (by decide +kernel))
set_option maxRecDepth 100000 in
theorem gp_wsX11_deal_r3 : GoodIn lw_tbl wsX11_deal_r3 := (good_pick _ [(5, 13), (10, 7), (5, 14), (5, 15), (5, 16), (5, 17), (5, 18), (2, 65), (2, 66), (2, 67), (5, 19), (5, 21), (10, 8), (5, 22), (5, 23), (3, 142), (3, 143), (5, 25), (5, 27), (10, 9), (5, 28), (2, 68), (5, 29), (5, 31)] (by decide +kernel) (by decide +kernel))
set_option maxRecDepth 100000 in
theorem gp_wsX11_deal_r4 : GoodIn lw_tbl wsX11_deal_r4 := (good_pick _ [(10, 10), (5, 32), (2, 61), (5, 33), (5, 35), (10, 11), (5, 36), (5, 37), (5, 39), (10, 12), (5, 40), (5, 41), (5, 42), (5, 43), (5, 44), (5, 45), (5, 46), (5, 47), (5, 48), (5, 49), (5, 50), (5, 51), (5, 52)] (by decide +kernel) (by decide +kernel))
set_option maxRecDepth 100000 in
theorem gw_X11_deal : GoodIn lw_tbl wsX11_deal := goodIn_c (good_pick [Cond.code yX11_deal cX11_deal 6 (some .int)] [(4, 236)] (by decide +kernel) (by decide +kernel)) (goodIn_app (goodIn_app (goodIn_app (goodIn_app gp_wsX11_deal_r1 (goodIn_app gp_wsX11_deal_r2 (goodIn_app gp_wsX11_deal_r3 gp_wsX11_deal_r4))) ltbX11) ltbX0) ltbX7)
set_option maxRecDepth 100000 in
theorem ltb_X11_deal : GoodIn lw_tbl (wsV RL 125 RX11 yX11_deal wsX11_deal) := goodIn_app (good_pick _ [(4, 233), (4, 234), (4, 235), (1, 1)] (by decide +kernel) (by decide +kernel)) gw_X11_deal
set_option maxRecDepth 100000 in
theorem gp_wsX12_deal_r1 : GoodIn lw_tbl wsX12_deal_r1 := (good_pick _ [(5, 60), (5, 104), (5, 111), (5, 110), (5, 106), (5, 109), (5, 105), (5, 234), (5, 236), (10, 15), (1, 13), (5, 237), (6, 6), (6, 8), (11, 0), (6, 9), (5, 68), (5, 69), (6, 10), (6, 12), (11, 1), (6, 13), (5, 72), (5, 73)] (by decide +kernel) (by decide +kernel))
set_option maxRecDepth 100000 in
theorem gp_wsX12_deal_r2 : GoodIn lw_tbl wsX12_deal_r2 := (good_pick _ [(5, 74), (5, 61), (5, 62), (5, 63), (5, 67), (5, 64), (5, 76), (5, 66), (5, 75), (5, 65), (6, 183), (6, 185), (13, 3), (6, 186), (7, 64), (7, 66), (14, 4), (7, 67), (5, 107), (7, 48), (7, 50), (14, 2), (7, 51), (6, 14)] (by decide +kernel) (by decide +kernel))
set_option maxRecDepth 100000 in
theorem gp_wsX12_deal_r3 : GoodIn lw_tbl wsX12_deal_r3 := (good_pick _ [(6, 16), (11, 2), (6, 17), (6, 150), (6, 152), (12, 14), (6, 153), (7, 68), (7, 70), (14, 5), (7, 71), (5, 108), (7, 72), (7, 74), (14, 6), (7, 75)] (by decide +kernel) (by decide +kernel))
set_option maxRecDepth 100000 in
theorem gw_X12_deal : GoodIn lw_tbl wsX12_deal := goodIn_c (good_pick [Cond.code yX12_deal cX12_deal 11 (some .int)] [(7, 63)] (by decide +kernel) (by decide +kernel)) (goodIn_app (goodIn_app gp_wsX12_deal_r1 (goodIn_app gp_wsX12_deal_r2 gp_wsX12_deal_r3)) ltbX12)
set_option maxRecDepth 100000 in
theorem ltb_X12_deal : GoodIn lw_tbl (wsV RL 128 RX12 yX12_deal wsX12_deal) := goodIn_app (good_pick _ [(7, 60), (7, 61), (7, 62), (1, 13)] (by decide +kernel) (by decide +kernel)) gw_X12_deal
