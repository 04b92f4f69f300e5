set_option maxRecDepth 100000 in
theorem gw_X11_wish : GoodIn lw_tbl wsX11_wish := goodIn_c (good_pick [Cond.code yX11_wish cX11_wish 3 (some .boolean)] [(4, 98)] (by decide +kernel) (by decide +kernel)) (goodIn_app (goodIn_app (good_pick _ [(2, 99), (2, 96), (2, 137), (2, 138), (1, 1), (2, 139), (4, 99), (4, 100), (4, 101), (1, 9), (4, 102), (2, 6), (4, 103), (4, 104), (4, 105), (4, 106), (2, 8), (2, 7), (4, 108), (3, 135), (3, 134), (1, 19), (2, 186), (2, 187)] (by decide +kernel) (by decide +kernel)) ltbX11) ltbX4)
set_option maxRecDepth 100000 in
theorem ltb_X11_wish : GoodIn lw_tbl (wsV RL 90 RX11 yX11_wish wsX11_wish) := goodIn_app (good_pick _ [(4, 95), (4, 96), (4, 97), (1, 1)] (by decide +kernel) (by decide +kernel)) gw_X11_wish
set_option maxRecDepth 100000 in
theorem gw_X12_wish : GoodIn lw_tbl wsX12_wish := goodIn_c (good_pick [Cond.code yX12_wish cX12_wish 6 (some .boolean)] [(6, 230)] (by decide +kernel) (by decide +kernel)) (goodIn_app (good_pick _ [(5, 64), (6, 231), (5, 75), (5, 74), (5, 230), (5, 232), (10, 14), (1, 13), (5, 233), (5, 65), (5, 238), (6, 0), (11, 0), (6, 1)] (by decide +kernel) (by decide +kernel)) ltbX12)
set_option maxRecDepth 100000 in
theorem ltb_X12_wish : GoodIn lw_tbl (wsV RL 93 RX12 yX12_wish wsX12_wish) := goodIn_app (good_pick _ [(6, 227), (6, 228), (6, 229), (1, 13)] (by decide +kernel) (by decide +kernel)) gw_X12_wish
set_option maxRecDepth 100000 in
theorem gw_X11_support : GoodIn lw_tbl wsX11_support := goodIn_c (good_pick [Cond.code yX11_support cX11_support 3 (some .int)] [(4, 112)] (by decide +kernel) (by decide +kernel)) (goodIn_app (goodIn_app (goodIn_app (good_pick _ [(2, 96), (2, 90), (2, 137), (2, 138), (1, 1), (2, 139), (4, 113), (4, 114), (4, 115), (1, 9), (4, 116), (2, 6), (2, 7)] (by decide +kernel) (by decide +kernel)) ltbX11) ltbX7) ltbX4)
set_option maxRecDepth 100000 in
theorem ltb_X11_support : GoodIn lw_tbl (wsV RL 94 RX11 yX11_support wsX11_support) := goodIn_app (good_pick _ [(4, 109), (4, 110), (4, 111), (1, 1)] (by decide +kernel) (by decide +kernel)) gw_X11_support
set_option maxRecDepth 100000 in
theorem gp_wsX12_support_r1 : GoodIn lw_tbl wsX12_support_r1 := (good_pick _ [(5, 64), (6, 236), (6, 238), (13, 10), (1, 13), (6, 239), (5, 238), (6, 0), (11, 0), (6, 1), (6, 10), (6, 12), (11, 1), (6, 13), (5, 72), (5, 73), (6, 14), (6, 16), (11, 2), (6, 17), (5, 76), (5, 77), (5, 78), (5, 65)] (by decide +kernel) (by decide +kernel))
set_option maxRecDepth 100000 in
theorem gp_wsX12_support_r2 : GoodIn lw_tbl wsX12_support_r2 := (good_pick _ [(5, 66), (5, 67), (5, 71), (5, 68), (5, 80), (5, 70), (5, 79), (5, 69), (7, 0), (7, 2), (13, 11), (7, 3), (5, 75), (6, 18), (6, 20), (11, 3), (6, 21), (7, 4), (7, 6), (13, 12), (7, 7), (5, 74)] (by decide +kernel) (by decide +kernel))
set_option maxRecDepth 100000 in
theorem gw_X12_support : GoodIn lw_tbl wsX12_support := goodIn_c (good_pick [Cond.code yX12_support cX12_support 3 (some .int)] [(6, 235)] (by decide +kernel) (by decide +kernel)) (goodIn_app (goodIn_app gp_wsX12_support_r1 gp_wsX12_support_r2) ltbX12)
set_option maxRecDepth 100000 in
theorem ltb_X12_support : GoodIn lw_tbl (wsV RL 97 RX12 yX12_support wsX12_support) := goodIn_app (good_pick _ [(6, 232), (6, 233), (6, 234), (1, 13)] (by decide +kernel) (by decide +kernel)) gw_X12_support
set_option maxRecDepth 100000 in
theorem gp_wsX11_agenda_r1 : GoodIn lw_tbl wsX11_agenda_r1 := (good_pick _ [(2, 96), (2, 93), (2, 90), (2, 137), (2, 138), (1, 1), (2, 139), (4, 121), (4, 122), (4, 123), (1, 9), (4, 124), (2, 12), (2, 11), (2, 186), (2, 187), (4, 125), (4, 126), (4, 127), (4, 128), (2, 9), (4, 129), (4, 114), (4, 115)] (by decide +kernel) (by decide +kernel))
set_option maxRecDepth 100000 in
theorem gp_wsX11_agenda_r2 : GoodIn lw_tbl wsX11_agenda_r2 := (good_pick _ [(4, 116), (2, 6), (2, 7), (4, 130), (3, 149), (3, 150), (1, 5), (3, 151), (1, 184), (3, 152), (3, 153), (3, 154), (1, 6), (3, 155), (1, 159), (3, 158), (3, 159), (3, 160), (3, 161), (1, 186), (1, 182), (1, 183), (3, 163), (3, 164)] (by decide +kernel) (by decide +kernel))
set_option maxRecDepth 100000 in
theorem gp_wsX11_agenda_r3 : GoodIn lw_tbl wsX11_agenda_r3 := (good_pick _ [(3, 165), (3, 166), (3, 167), (1, 20), (3, 168), (3, 169), (3, 170), (3, 171), (3, 172), (2, 189), (2, 190), (1, 3), (2, 191), (1, 66), (3, 173), (3, 174), (3, 175), (3, 176), (1, 67), (3, 177), (3, 178), (3, 179), (4, 131), (4, 132)] (by decide +kernel) (by decide +kernel))
set_option maxRecDepth 100000 in
theorem gp_wsX11_agenda_r4 : GoodIn lw_tbl wsX11_agenda_r4 := (good_pick _ [(4, 133), (4, 134), (4, 135), (4, 137), (9, 12), (4, 138), (2, 10), (4, 139), (4, 141), (9, 13), (4, 142), (4, 143), (4, 145), (9, 14), (4, 146), (4, 147), (4, 149), (9, 15), (4, 150)] (by decide +kernel) (by decide +kernel))
set_option maxRecDepth 100000 in
theorem gw_X11_agenda : GoodIn lw_tbl wsX11_agenda := goodIn_c (good_pick [Cond.code yX11_agenda cX11_agenda 4 (some .int)] [(4, 120)] (by decide +kernel) (by decide +kernel)) (goodIn_app (goodIn_app (goodIn_app (goodIn_app (goodIn_app (goodIn_app gp_wsX11_agenda_r1 (goodIn_app gp_wsX11_agenda_r2 (goodIn_app gp_wsX11_agenda_r3 gp_wsX11_agenda_r4))) ltbX11) ltbX4) ltbX7) ltbX6) ltbX9)
set_option maxRecDepth 100000 in
theorem ltb_X11_agenda : GoodIn lw_tbl (wsV RL 98 RX11 yX11_agenda wsX11_agenda) := goodIn_app (good_pick _ [(4, 117), (4, 118), (4, 119), (1, 1)] (by decide +kernel) (by decide +kernel)) gw_X11_agenda
set_option maxRecDepth 100000 in
theorem gp_wsX12_agenda_r1 : GoodIn lw_tbl wsX12_agenda_r1 := (good_pick _ [(5, 64), (6, 46), (6, 48), (11, 6), (1, 13), (6, 49), (5, 238), (6, 0), (11, 0), (6, 1), (7, 12), (7, 14), (13, 13), (7, 15), (5, 104), (5, 105), (7, 16), (7, 18), (13, 14), (7, 19), (5, 103), (6, 10), (6, 12), (11, 1)] (by decide +kernel) (by decide +kernel))
set_option maxRecDepth 100000 in
theorem gp_wsX12_agenda_r2 : GoodIn lw_tbl wsX12_agenda_r2 := (good_pick _ [(6, 13), (5, 72), (5, 73), (6, 14), (6, 16), (11, 2), (6, 17), (5, 76), (5, 77), (5, 78), (5, 65), (5, 66), (5, 67), (5, 71), (5, 68), (5, 80), (5, 70), (5, 79), (5, 69), (7, 0), (7, 2), (13, 11), (7, 3), (5, 75)] (by decide +kernel) (by decide +kernel))
set_option maxRecDepth 100000 in
theorem gp_wsX12_agenda_r3 : GoodIn lw_tbl wsX12_agenda_r3 := (good_pick _ [(6, 18), (6, 20), (11, 3), (6, 21), (7, 4), (7, 6), (13, 12), (7, 7), (5, 74), (6, 138), (6, 140), (12, 11), (6, 141), (5, 88), (5, 89), (5, 99), (6, 142), (6, 144), (12, 12), (6, 145), (5, 90), (6, 146), (6, 148), (12, 13)] (by decide +kernel) (by decide +kernel))
set_option maxRecDepth 100000 in
theorem gp_wsX12_agenda_r4 : GoodIn lw_tbl wsX12_agenda_r4 := (good_pick _ [(6, 149), (6, 150), (6, 152), (12, 14), (6, 153), (6, 154), (6, 156), (12, 15), (6, 157), (6, 158), (6, 160), (13, 0), (6, 161), (7, 20), (7, 22), (13, 15), (7, 23), (5, 106)] (by decide +kernel) (by decide +kernel))
set_option maxRecDepth 100000 in
theorem gw_X12_agenda : GoodIn lw_tbl wsX12_agenda := goodIn_c (good_pick [Cond.code yX12_agenda cX12_agenda 4 (some .int)] [(7, 11)] (by decide +kernel) (by decide +kernel)) (goodIn_app (goodIn_app gp_wsX12_agenda_r1 (goodIn_app gp_wsX12_agenda_r2 (goodIn_app gp_wsX12_agenda_r3 gp_wsX12_agenda_r4))) ltbX12)
set_option maxRecDepth 100000 in
theorem ltb_X12_agenda : GoodIn lw_tbl (wsV RL 102 RX12 yX12_agenda wsX12_agenda) := goodIn_app (good_pick _ [(7, 8), (7, 9), (7, 10), (1, 13)] (by decide +kernel) (by decide +kernel)) gw_X12_agenda
set_option maxRecDepth 100000 in
theorem gp_wsX11_through_r1 : GoodIn lw_tbl wsX11_through_r1 := (good_pick _ [(2, 96), (2, 93), (2, 90), (2, 137), (2, 138), (1, 1), (2, 139), (2, 185), (2, 186), (2, 187), (4, 125), (4, 126), (4, 127), (1, 9), (4, 128), (2, 9), (4, 129), (4, 114), (4, 115), (4, 116), (2, 6), (2, 7), (4, 130), (3, 149)] (by decide +kernel) (by decide +kernel))
set_option maxRecDepth 100000 in
theorem gp_wsX11_through_r2 : GoodIn lw_tbl wsX11_through_r2 := (good_pick _ [(3, 150), (1, 5), (3, 151), (1, 184), (3, 152), (3, 153), (3, 154), (1, 6), (3, 155), (1, 159), (3, 158), (3, 159), (3, 160), (3, 161), (1, 186), (1, 182), (1, 183), (3, 163), (3, 164), (3, 165), (3, 166), (3, 167), (1, 20), (3, 168)] (by decide +kernel) (by decide +kernel))
set_option maxRecDepth 100000 in
theorem gp_wsX11_through_r3 : GoodIn lw_tbl wsX11_through_r3 := (good_pick _ [(3, 169), (3, 170), (3, 171), (3, 172), (2, 189), (2, 190), (1, 3), (2, 191), (1, 66), (3, 173), (3, 174), (3, 175), (3, 176), (1, 67), (3, 177), (3, 178), (3, 179), (4, 155), (4, 156), (4, 157), (4, 158), (4, 159), (4, 161), (10, 0)] (by decide +kernel) (by decide +kernel))
set_option maxRecDepth 100000 in
theorem gp_wsX11_through_r4 : GoodIn lw_tbl wsX11_through_r4 := (good_pick _ [(4, 162), (2, 12), (2, 11), (4, 163), (4, 132), (4, 133), (4, 134), (4, 135), (4, 137), (9, 12), (4, 138), (2, 10), (4, 139), (4, 141), (9, 13), (4, 142), (4, 143), (4, 145), (9, 14), (4, 146), (4, 147), (4, 149), (9, 15), (4, 150)] (by decide +kernel) (by decide +kernel))
set_option maxRecDepth 100000 in
theorem gp_wsX11_through_r5 : GoodIn lw_tbl wsX11_through_r5 := (good_pick _ [(4, 164), (4, 166), (10, 1), (4, 167), (4, 168), (4, 170), (10, 2), (4, 171), (4, 172), (4, 173), (4, 174), (4, 175), (4, 176), (4, 178), (10, 3), (4, 179)] (by decide +kernel) (by decide +kernel))
set_option maxRecDepth 100000 in
theorem gw_X11_through : GoodIn lw_tbl wsX11_through := goodIn_c (good_pick [Cond.code yX11_through cX11_through 6 (some .int)] [(4, 154)] (by decide +kernel) (by decide +kernel)) (goodIn_app (goodIn_app (goodIn_app (goodIn_app (goodIn_app (goodIn_app gp_wsX11_through_r1 (goodIn_app gp_wsX11_through_r2 (goodIn_app gp_wsX11_through_r3 (goodIn_app gp_wsX11_through_r4 gp_wsX11_through_r5)))) ltbX11) ltbX4) ltbX7) ltbX6) ltbX9)
set_option maxRecDepth 100000 in
theorem ltb_X11_through : GoodIn lw_tbl (wsV RL 103 RX11 yX11_through wsX11_through) := goodIn_app (good_pick _ [(4, 151), (4, 152), (4, 153), (1, 1)] (by decide +kernel) (by decide +kernel)) gw_X11_through
set_option maxRecDepth 100000 in
theorem gp_wsX12_through_r1 : GoodIn lw_tbl wsX12_through_r1 := (good_pick _ [(5, 64), (5, 104), (5, 105), (6, 46), (6, 48), (11, 6), (1, 13), (6, 49), (5, 238), (6, 0), (11, 0), (6, 1), (6, 236), (6, 238), (13, 10), (6, 239), (6, 18), (6, 20), (11, 3), (6, 21), (7, 16), (7, 18), (13, 14), (7, 19)] (by decide +kernel) (by decide +kernel))
set_option maxRecDepth 100000 in
theorem gp_wsX12_through_r2 : GoodIn lw_tbl wsX12_through_r2 := (good_pick _ [(5, 103), (6, 10), (6, 12), (11, 1), (6, 13), (5, 72), (5, 73), (6, 14), (6, 16), (11, 2), (6, 17), (5, 76), (5, 77), (5, 78), (5, 65), (5, 66), (5, 67), (5, 71), (5, 68), (5, 80), (5, 70), (5, 79), (5, 69), (7, 0)] (by decide +kernel) (by decide +kernel))
set_option maxRecDepth 100000 in
theorem gp_wsX12_through_r3 : GoodIn lw_tbl wsX12_through_r3 := (good_pick _ [(7, 2), (13, 11), (7, 3), (5, 75), (7, 4), (7, 6), (13, 12), (7, 7), (5, 74), (6, 138), (6, 140), (12, 11), (6, 141), (5, 88), (5, 89), (5, 99), (6, 142), (6, 144), (12, 12), (6, 145), (5, 90), (6, 146), (6, 148), (12, 13)] (by decide +kernel) (by decide +kernel))
set_option maxRecDepth 100000 in
theorem gp_wsX12_through_r4 : GoodIn lw_tbl wsX12_through_r4 := (good_pick _ [(6, 149), (6, 150), (6, 152), (12, 14), (6, 153), (6, 154), (6, 156), (12, 15), (6, 157), (6, 158), (6, 160), (13, 0), (6, 161), (7, 20), (7, 22), (13, 15), (7, 23), (5, 106), (7, 28), (7, 30), (14, 0), (7, 31), (7, 32), (7, 34)] (by decide +kernel) (by decide +kernel))
set_option maxRecDepth 100000 in
theorem gp_wsX12_through_r5 : GoodIn lw_tbl wsX12_through_r5 := (good_pick _ [(14, 1), (7, 35)] (by decide +kernel) (by decide +kernel))
set_option maxRecDepth 100000 in
theorem gw_X12_through : GoodIn lw_tbl wsX12_through := goodIn_c (good_pick [Cond.code yX12_through cX12_through 9 (some .int)] [(7, 27)] (by decide +kernel) (by decide +kernel)) (goodIn_app (goodIn_app gp_wsX12_through_r1 (goodIn_app gp_wsX12_through_r2 (goodIn_app gp_wsX12_through_r3 (goodIn_app gp_wsX12_through_r4 gp_wsX12_through_r5)))) ltbX12)
set_option maxRecDepth 100000 in
theorem ltb_X12_through : GoodIn lw_tbl (wsV RL 107 RX12 yX12_through wsX12_through) := goodIn_app (good_pick _ [(7, 24), (7, 25), (7, 26), (1, 13)] (by decide +kernel) (by decide +kernel)) gw_X12_through
set_option maxRecDepth 100000 in
theorem gp_wsX11_best_r1 : GoodIn lw_tbl wsX11_best_r1 := (good_pick _ [(2, 96), (2, 93), (2, 90), (2, 137), (2, 138), (1, 1), (2, 139), (4, 125), (4, 126), (4, 127), (1, 9), (4, 128), (2, 9), (4, 129), (4, 114), (4, 115), (4, 116), (2, 6), (2, 7), (4, 130), (3, 149), (3, 150), (1, 5), (3, 151)] (by decide +kernel) (by decide +kernel))
set_option maxRecDepth 100000 in
theorem gp_wsX11_best_r2 : GoodIn lw_tbl wsX11_best_r2 := (good_pick _ [(1, 184), (3, 152), (3, 153), (3, 154), (1, 6), (3, 155), (1, 159), (2, 186), (2, 187), (3, 158), (3, 159), (3, 160), (3, 161), (1, 186), (1, 182), (1, 183), (3, 163), (3, 164), (3, 165), (3, 166), (3, 167), (1, 20), (3, 168), (3, 169)] (by decide +kernel) (by decide +kernel))
set_option maxRecDepth 100000 in
theorem gp_wsX11_best_r3 : GoodIn lw_tbl wsX11_best_r3 := (good_pick _ [(3, 170), (3, 171), (3, 172), (2, 189), (2, 190), (1, 3), (2, 191), (1, 66), (3, 173), (3, 174), (3, 175), (3, 176), (1, 67), (3, 177), (3, 178), (3, 179), (4, 184), (4, 185), (4, 186), (4, 187), (3, 146), (3, 147)] (by decide +kernel) (by decide +kernel))
set_option maxRecDepth 100000 in
theorem gw_X11_best : GoodIn lw_tbl wsX11_best := goodIn_c (good_pick [Cond.code yX11_best cX11_best 3 (some .int)] [(4, 183)] (by decide +kernel) (by decide +kernel)) (goodIn_app (goodIn_app (goodIn_app (goodIn_app (goodIn_app (goodIn_app gp_wsX11_best_r1 (goodIn_app gp_wsX11_best_r2 gp_wsX11_best_r3)) ltbX11) ltbX4) ltbX7) ltbX6) ltbX9)
set_option maxRecDepth 100000 in
theorem ltb_X11_best : GoodIn lw_tbl (wsV RL 108 RX11 yX11_best wsX11_best) := goodIn_app (good_pick _ [(4, 180), (4, 181), (4, 182), (1, 1)] (by decide +kernel) (by decide +kernel)) gw_X11_best
set_option maxRecDepth 100000 in
theorem gp_wsX12_best_r1 : GoodIn lw_tbl wsX12_best_r1 := (good_pick _ [(5, 64), (5, 103), (6, 46), (6, 48), (11, 6), (1, 13), (6, 49), (5, 238), (6, 0), (11, 0), (6, 1), (7, 16), (7, 18), (13, 14), (7, 19), (6, 10), (6, 12), (11, 1), (6, 13), (5, 72), (5, 73), (6, 14), (6, 16), (11, 2)] (by decide +kernel) (by decide +kernel))
set_option maxRecDepth 100000 in
theorem gp_wsX12_best_r2 : GoodIn lw_tbl wsX12_best_r2 := (good_pick _ [(6, 17), (5, 76), (5, 77), (5, 78), (5, 65), (5, 66), (5, 67), (5, 71), (5, 68), (5, 80), (5, 70), (5, 79), (5, 69), (7, 0), (7, 2), (13, 11), (7, 3), (5, 75), (6, 18), (6, 20), (11, 3), (6, 21), (7, 4), (7, 6)] (by decide +kernel) (by decide +kernel))
set_option maxRecDepth 100000 in
theorem gp_wsX12_best_r3 : GoodIn lw_tbl wsX12_best_r3 := (good_pick _ [(13, 12), (7, 7), (5, 74), (6, 138), (6, 140), (12, 11), (6, 141), (5, 88), (5, 89), (5, 99), (6, 142), (6, 144), (12, 12), (6, 145), (5, 90), (6, 146), (6, 148), (12, 13), (6, 149), (6, 150), (6, 152), (12, 14), (6, 153), (6, 154)] (by decide +kernel) (by decide +kernel))
set_option maxRecDepth 100000 in
theorem gp_wsX12_best_r4 : GoodIn lw_tbl wsX12_best_r4 := (good_pick _ [(6, 156), (12, 15), (6, 157), (6, 158), (6, 160), (13, 0), (6, 161)] (by decide +kernel) (by decide +kernel))
set_option maxRecDepth 100000 in
theorem gw_X12_best : GoodIn lw_tbl wsX12_best := goodIn_c (good_pick [Cond.code yX12_best cX12_best 6 (some .int)] [(7, 39)] (by decide +kernel) (by decide +kernel)) (goodIn_app (goodIn_app gp_wsX12_best_r1 (goodIn_app gp_wsX12_best_r2 (goodIn_app gp_wsX12_best_r3 gp_wsX12_best_r4))) ltbX12)
set_option maxRecDepth 100000 in
theorem ltb_X12_best : GoodIn lw_tbl (wsV RL 111 RX12 yX12_best wsX12_best) := goodIn_app (good_pick _ [(7, 36), (7, 37), (7, 38), (1, 13)] (by decide +kernel) (by decide +kernel)) gw_X12_best
set_option maxRecDepth 100000 in
theorem gw_X11_line : GoodIn lw_tbl wsX11_line := goodIn_c (good_pick [Cond.code yX11_line cX11_line 3 (some .boolean)] [(4, 192)] (by decide +kernel) (by decide +kernel)) (goodIn_app (goodIn_app (good_pick _ [(2, 97), (2, 137), (2, 138), (1, 1), (2, 139)] (by decide +kernel) (by decide +kernel)) ltbX11) ltbX2)
set_option maxRecDepth 100000 in
theorem ltb_X11_line : GoodIn lw_tbl (wsV RL 112 RX11 yX11_line wsX11_line) := goodIn_app (good_pick _ [(4, 189), (4, 190), (4, 191), (1, 1)] (by decide +kernel) (by decide +kernel)) gw_X11_line
set_option maxRecDepth 100000 in
theorem gw_X12_line : GoodIn lw_tbl wsX12_line := goodIn_c (good_pick [Cond.code yX12_line cX12_line 3 (some .boolean)] [(7, 43)] (by decide +kernel) (by decide +kernel)) (goodIn_app (good_pick _ [(5, 64), (5, 107), (5, 238), (6, 0), (11, 0), (1, 13), (6, 1)] (by decide +kernel) (by decide +kernel)) ltbX12)
set_option maxRecDepth 100000 in
theorem ltb_X12_line : GoodIn lw_tbl (wsV RL 115 RX12 yX12_line wsX12_line) := goodIn_app (good_pick _ [(7, 40), (7, 41), (7, 42), (1, 13)] (by decide +kernel) (by decide +kernel)) gw_X12_line
set_option maxRecDepth 100000 in
theorem gp_wsX11_coalition_r1 : GoodIn lw_tbl wsX11_coalition_r1 := (good_pick _ [(2, 97), (2, 93), (2, 90), (2, 137), (2, 138), (1, 1), (2, 139), (4, 197), (4, 198), (4, 199), (1, 11), (4, 200), (2, 36), (2, 38), (2, 40), (2, 42), (4, 201), (2, 202), (2, 203), (1, 3), (2, 204), (1, 67), (3, 146), (3, 147)] (by decide +kernel) (by decide +kernel))
set_option maxRecDepth 100000 in
theorem gp_wsX11_coalition_r2 : GoodIn lw_tbl wsX11_coalition_r2 := (good_pick _ [(4, 203), (4, 205), (10, 4), (4, 206), (2, 34), (4, 207), (4, 209), (10, 5), (4, 210), (4, 212), (4, 92), (1, 21), (4, 93), (2, 186), (2, 187), (4, 213), (4, 215), (10, 6), (4, 216), (4, 217), (4, 13), (4, 14), (4, 218), (4, 219)] (by decide +kernel) (by decide +kernel))
set_option maxRecDepth 100000 in
theorem gp_wsX11_coalition_r3 : GoodIn lw_tbl wsX11_coalition_r3 := (good_pick _ [(4, 220), (4, 221), (4, 222), (3, 149), (3, 150), (1, 5), (3, 151), (1, 184), (3, 152), (3, 153), (3, 154), (1, 6), (3, 155), (1, 159), (3, 158), (3, 159), (3, 160), (3, 161), (1, 186), (1, 182), (1, 183), (3, 163), (3, 164), (3, 165)] (by decide +kernel) (by decide +kernel))
set_option maxRecDepth 100000 in
theorem gp_wsX11_coalition_r4 : GoodIn lw_tbl wsX11_coalition_r4 := (good_pick _ [(3, 166), (3, 167), (1, 20), (3, 168), (3, 169), (3, 170), (3, 171), (3, 172), (2, 189), (2, 190), (2, 191), (1, 66), (3, 173), (3, 174), (3, 175), (3, 176), (3, 177), (3, 178), (3, 179), (4, 223), (4, 224), (4, 226), (10, 7), (4, 227)] (by decide +kernel) (by decide +kernel))
set_option maxRecDepth 100000 in
theorem gw_X11_coalition : GoodIn lw_tbl wsX11_coalition := goodIn_c (good_pick [Cond.code yX11_coalition cX11_coalition 3 (some .int)] [(4, 196)] (by decide +kernel) (by decide +kernel)) (goodIn_app (goodIn_app (goodIn_app (goodIn_app (goodIn_app (goodIn_app gp_wsX11_coalition_r1 (goodIn_app gp_wsX11_coalition_r2 (goodIn_app gp_wsX11_coalition_r3 gp_wsX11_coalition_r4))) ltbX11) ltbX2) ltbX7) ltbX6) ltbX9)
set_option maxRecDepth 100000 in
theorem ltb_X11_coalition : GoodIn lw_tbl (wsV RL 116 RX11 yX11_coalition wsX11_coalition) := goodIn_app (good_pick _ [(4, 193), (4, 194), (4, 195), (1, 1)] (by decide +kernel) (by decide +kernel)) gw_X11_coalition
set_option maxRecDepth 100000 in
theorem gp_wsX12_coalition_r1 : GoodIn lw_tbl wsX12_coalition_r1 := (good_pick _ [(5, 64), (6, 46), (6, 48), (11, 6), (1, 13), (6, 49), (5, 238), (6, 0), (11, 0), (6, 1), (6, 10), (6, 12), (11, 1), (6, 13), (5, 72), (5, 73), (6, 14), (6, 16), (11, 2), (6, 17), (5, 76), (5, 77), (5, 78), (5, 65)] (by decide +kernel) (by decide +kernel))
set_option maxRecDepth 100000 in
theorem gp_wsX12_coalition_r2 : GoodIn lw_tbl wsX12_coalition_r2 := (good_pick _ [(5, 66), (5, 67), (5, 71), (5, 68), (5, 80), (5, 70), (5, 79), (5, 69), (6, 26), (6, 28), (11, 4), (6, 29), (6, 18), (6, 20), (11, 3), (6, 21), (7, 48), (7, 50), (14, 2), (7, 51), (5, 107), (7, 52), (7, 54), (14, 3)] (by decide +kernel) (by decide +kernel))
set_option maxRecDepth 100000 in
theorem gp_wsX12_coalition_r3 : GoodIn lw_tbl wsX12_coalition_r3 := (good_pick _ [(7, 55), (6, 138), (6, 140), (12, 11), (6, 141), (5, 88), (5, 89), (5, 99), (6, 142), (6, 144), (12, 12), (6, 145), (5, 90), (6, 146), (6, 148), (12, 13), (6, 149), (6, 150), (6, 152), (12, 14), (6, 153), (6, 154), (6, 156), (12, 15)] (by decide +kernel) (by decide +kernel))
set_option maxRecDepth 100000 in
theorem gp_wsX12_coalition_r4 : GoodIn lw_tbl wsX12_coalition_r4 := (good_pick _ [(6, 157), (6, 158), (6, 160), (13, 0), (6, 161), (7, 56), (7, 58), (14, 4), (7, 59)] (by decide +kernel) (by decide +kernel))
set_option maxRecDepth 100000 in
theorem gw_X12_coalition : GoodIn lw_tbl wsX12_coalition := goodIn_c (good_pick [Cond.code yX12_coalition cX12_coalition 7 (some .int)] [(7, 47)] (by decide +kernel) (by decide +kernel)) (goodIn_app (goodIn_app gp_wsX12_coalition_r1 (goodIn_app gp_wsX12_coalition_r2 (goodIn_app gp_wsX12_coalition_r3 gp_wsX12_coalition_r4))) ltbX12)
set_option maxRecDepth 100000 in
theorem ltb_X12_coalition : GoodIn lw_tbl (wsV RL 119 RX12 yX12_coalition wsX12_coalition) := goodIn_app (good_pick _ [(7, 44), (7, 45), (7, 46), (1, 13)] (by decide +kernel) (by decide +kernel)) gw_X12_coalition
set_option maxRecDepth 100000 in
theorem gw_X11_value : GoodIn lw_tbl wsX11_value := goodIn_c (good_pick [Cond.code yX11_value cX11_value 4 (some .boolean)] [(4, 231)] (by decide +kernel) (by decide +kernel)) (goodIn_app (goodIn_app (good_pick _ [(2, 98), (2, 137), (2, 138), (1, 1), (2, 139), (4, 232), (4, 233), (4, 234), (1, 12), (4, 235), (2, 61)] (by decide +kernel) (by decide +kernel)) ltbX11) ltbX0)
set_option maxRecDepth 100000 in
theorem ltb_X11_value : GoodIn lw_tbl (wsV RL 120 RX11 yX11_value wsX11_value) := goodIn_app (good_pick _ [(4, 228), (4, 229), (4, 230), (1, 1)] (by decide +kernel) (by decide +kernel)) gw_X11_value
set_option maxRecDepth 100000 in
theorem gw_X12_value : GoodIn lw_tbl wsX12_value := goodIn_c (good_pick [Cond.code yX12_value cX12_value 4 (some .boolean)] [(7, 63)] (by decide +kernel) (by decide +kernel)) (goodIn_app (good_pick _ [(5, 64), (5, 109), (5, 238), (6, 0), (11, 0), (1, 13), (6, 1)] (by decide +kernel) (by decide +kernel)) ltbX12)
set_option maxRecDepth 100000 in
theorem ltb_X12_value : GoodIn lw_tbl (wsV RL 124 RX12 yX12_value wsX12_value) := goodIn_app (good_pick _ [(7, 60), (7, 61), (7, 62), (1, 13)] (by decide +kernel) (by decide +kernel)) gw_X12_value
set_option maxRecDepth 100000 in
theorem gp_wsX11_deal_r1 : GoodIn lw_tbl wsX11_deal_r1 := (good_pick _ [(2, 98), (2, 90), (2, 137), (2, 138), (1, 1), (2, 139), (5, 1), (5, 2), (5, 3), (1, 12), (5, 4), (2, 62), (2, 186), (2, 187), (5, 6), (3, 174), (3, 175), (1, 3), (3, 176), (1, 67), (5, 7), (2, 189), (2, 190), (2, 191)] (by decide +kernel) (by decide +kernel))
set_option maxRecDepth 100000 in
theorem gp_wsX11_deal_r2 : GoodIn lw_tbl wsX11_deal_r2 := (good_pick _ [(1, 66), (5, 8), (3, 167), (1, 20), (3, 168), (3, 169), (3, 170), (3, 171), (5, 9), (5, 10), (5, 11), (5, 12), (2, 63), (5, 14), (4, 92), (1, 21), (4, 93), (2, 69), (2, 64), (5, 13), (2, 4), (1, 10), (2, 5), (5, 15)] (by decide +kernel) (by decide +kernel))
set_option maxRecDepth 100000 in
theorem gp_wsX11_deal_r3 : GoodIn lw_tbl wsX11_deal_r3 := (good_pick _ [(5, 17), (10, 8), (5, 18), (5, 19), (5, 20), (5, 21), (5, 22), (2, 65), (2, 66), (2, 67), (5, 23), (5, 25), (10, 9), (5, 26), (5, 27), (3, 146), (3, 147), (5, 29), (5, 31), (10, 10), (5, 32), (2, 68), (5, 33), (5, 35)] (by decide +kernel) (by decide +kernel))
set_option maxRecDepth 100000 in
theorem gp_wsX11_deal_r4 : GoodIn lw_tbl wsX11_deal_r4 := (good_pick _ [(10, 11), (5, 36), (2, 61), (5, 37), (5, 39), (10, 12), (5, 40), (5, 41), (5, 43), (10, 13), (5, 44), (5, 45), (5, 46), (5, 47), (5, 48), (5, 49), (5, 50), (5, 51), (5, 52), (5, 53), (5, 54), (5, 55), (5, 56)] (by decide +kernel) (by decide +kernel))
set_option maxRecDepth 100000 in
theorem gw_X11_deal : GoodIn lw_tbl wsX11_deal := goodIn_c (good_pick [Cond.code yX11_deal cX11_deal 6 (some .int)] [(5, 0)] (by decide +kernel) (by decide +kernel)) (goodIn_app (goodIn_app (goodIn_app (goodIn_app gp_wsX11_deal_r1 (goodIn_app gp_wsX11_deal_r2 (goodIn_app gp_wsX11_deal_r3 gp_wsX11_deal_r4))) ltbX11) ltbX0) ltbX7)
set_option maxRecDepth 100000 in
theorem ltb_X11_deal : GoodIn lw_tbl (wsV RL 125 RX11 yX11_deal wsX11_deal) := goodIn_app (good_pick _ [(4, 237), (4, 238), (4, 239), (1, 1)] (by decide +kernel) (by decide +kernel)) gw_X11_deal
set_option maxRecDepth 100000 in
theorem gp_wsX12_deal_r1 : GoodIn lw_tbl wsX12_deal_r1 := (good_pick _ [(5, 64), (5, 108), (5, 115), (5, 114), (5, 110), (5, 113), (5, 109), (5, 238), (6, 0), (11, 0), (1, 13), (6, 1), (6, 10), (6, 12), (11, 1), (6, 13), (5, 72), (5, 73), (6, 14), (6, 16), (11, 2), (6, 17), (5, 76), (5, 77)] (by decide +kernel) (by decide +kernel))
set_option maxRecDepth 100000 in
theorem gp_wsX12_deal_r2 : GoodIn lw_tbl wsX12_deal_r2 := (good_pick _ [(5, 78), (5, 65), (5, 66), (5, 67), (5, 71), (5, 68), (5, 80), (5, 70), (5, 79), (5, 69), (6, 187), (6, 189), (13, 4), (6, 190), (7, 68), (7, 70), (14, 5), (7, 71), (5, 111), (7, 52), (7, 54), (14, 3), (7, 55), (6, 18)] (by decide +kernel) (by decide +kernel))
set_option maxRecDepth 100000 in
theorem gp_wsX12_deal_r3 : GoodIn lw_tbl wsX12_deal_r3 := (good_pick _ [(6, 20), (11, 3), (6, 21), (6, 154), (6, 156), (12, 15), (6, 157), (7, 72), (7, 74), (14, 6), (7, 75), (5, 112), (7, 76), (7, 78), (14, 7), (7, 79)] (by decide +kernel) (by decide +kernel))
set_option maxRecDepth 100000 in
theorem gw_X12_deal : GoodIn lw_tbl wsX12_deal := goodIn_c (good_pick [Cond.code yX12_deal cX12_deal 11 (some .int)] [(7, 67)] (by decide +kernel) (by decide +kernel)) (goodIn_app (goodIn_app gp_wsX12_deal_r1 (goodIn_app gp_wsX12_deal_r2 gp_wsX12_deal_r3)) ltbX12)
set_option maxRecDepth 100000 in
theorem ltb_X12_deal : GoodIn lw_tbl (wsV RL 128 RX12 yX12_deal wsX12_deal) := goodIn_app (good_pick _ [(7, 64), (7, 65), (7, 66), (1, 13)] (by decide +kernel) (by decide +kernel)) gw_X12_deal
