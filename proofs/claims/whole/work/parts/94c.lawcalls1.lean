set_option maxRecDepth 100000 in
theorem gw_X11_fault : GoodIn lw_tbl wsX11_fault := goodIn_c (good_pick [Cond.code yX11_fault cX11_fault 2 (some .int)] [(3, 136)] (by decide +kernel) (by decide +kernel)) (goodIn_app (goodIn_app (good_pick _ [(2, 92)] (by decide +kernel) (by decide +kernel)) ltbX11) ltbX5)
set_option maxRecDepth 100000 in
theorem ltb_X11_fault : GoodIn lw_tbl (wsV RL 52 RX11 yX11_fault wsX11_fault) := goodIn_app (good_pick _ [(3, 133), (3, 134), (3, 135), (1, 1)] (by decide +kernel) (by decide +kernel)) gw_X11_fault
set_option maxRecDepth 100000 in
theorem gw_X12_fault : GoodIn lw_tbl wsX12_fault := goodIn_c (good_pick [Cond.code yX12_fault cX12_fault 2 (some .int)] [(6, 125)] (by decide +kernel) (by decide +kernel)) (goodIn_app (good_pick _ [(5, 60), (5, 93), (5, 94)] (by decide +kernel) (by decide +kernel)) ltbX12)
set_option maxRecDepth 100000 in
theorem ltb_X12_fault : GoodIn lw_tbl (wsV RL 55 RX12 yX12_fault wsX12_fault) := goodIn_app (good_pick _ [(6, 122), (6, 123), (6, 124), (1, 13)] (by decide +kernel) (by decide +kernel)) gw_X12_fault
set_option maxRecDepth 100000 in
theorem gp_wsX11_carries_r1 : GoodIn lw_tbl wsX11_carries_r1 := (good_pick _ [(2, 90), (2, 93), (2, 137), (2, 138), (1, 1), (2, 139), (3, 141), (3, 142), (3, 143), (3, 144), (3, 145), (3, 146), (1, 5), (3, 147), (1, 184), (3, 148), (3, 149), (3, 150), (1, 6), (3, 151), (1, 159), (2, 186), (2, 187), (3, 154)] (by decide +kernel) (by decide +kernel))
set_option maxRecDepth 100000 in
theorem gp_wsX11_carries_r2 : GoodIn lw_tbl wsX11_carries_r2 := (good_pick _ [(3, 155), (3, 156), (3, 157), (1, 186), (1, 182), (1, 183), (3, 159), (3, 160), (3, 161), (3, 162), (3, 163), (1, 20), (3, 164), (3, 165), (3, 166), (3, 167), (3, 168), (2, 189), (2, 190), (1, 3), (2, 191), (1, 66), (3, 169), (3, 170)] (by decide +kernel) (by decide +kernel))
set_option maxRecDepth 100000 in
theorem gp_wsX11_carries_r3 : GoodIn lw_tbl wsX11_carries_r3 := (good_pick _ [(3, 171), (3, 172), (1, 67), (3, 173), (3, 174), (3, 175)] (by decide +kernel) (by decide +kernel))
set_option maxRecDepth 100000 in
theorem gw_X11_carries : GoodIn lw_tbl wsX11_carries := goodIn_c (good_pick [Cond.code yX11_carries cX11_carries 3 (some .int)] [(3, 140)] (by decide +kernel) (by decide +kernel)) (goodIn_app (goodIn_app (goodIn_app (goodIn_app (goodIn_app gp_wsX11_carries_r1 (goodIn_app gp_wsX11_carries_r2 gp_wsX11_carries_r3)) ltbX11) ltbX7) ltbX6) ltbX9)
set_option maxRecDepth 100000 in
theorem ltb_X11_carries : GoodIn lw_tbl (wsV RL 56 RX11 yX11_carries wsX11_carries) := goodIn_app (good_pick _ [(3, 137), (3, 138), (3, 139), (1, 1)] (by decide +kernel) (by decide +kernel)) gw_X11_carries
set_option maxRecDepth 100000 in
theorem gp_wsX12_carries_r1 : GoodIn lw_tbl wsX12_carries_r1 := (good_pick _ [(5, 60), (6, 6), (6, 8), (11, 0), (1, 13), (6, 9), (5, 68), (5, 69), (6, 10), (6, 12), (11, 1), (6, 13), (5, 72), (5, 73), (5, 74), (5, 61), (5, 62), (5, 63), (5, 67), (5, 64), (5, 76), (5, 66), (5, 75), (5, 65)] (by decide +kernel) (by decide +kernel))
set_option maxRecDepth 100000 in
theorem gp_wsX12_carries_r2 : GoodIn lw_tbl wsX12_carries_r2 := (good_pick _ [(6, 42), (6, 44), (11, 5), (6, 45), (5, 234), (5, 236), (10, 15), (5, 237), (6, 130), (6, 132), (12, 9), (6, 133), (6, 134), (6, 136), (12, 10), (6, 137), (5, 84), (5, 85), (5, 95), (6, 138), (6, 140), (12, 11), (6, 141), (5, 86)] (by decide +kernel) (by decide +kernel))
set_option maxRecDepth 100000 in
theorem gp_wsX12_carries_r3 : GoodIn lw_tbl wsX12_carries_r3 := (good_pick _ [(6, 142), (6, 144), (12, 12), (6, 145), (6, 146), (6, 148), (12, 13), (6, 149), (6, 14), (6, 16), (11, 2), (6, 17), (6, 150), (6, 152), (12, 14), (6, 153), (6, 154), (6, 156), (12, 15), (6, 157)] (by decide +kernel) (by decide +kernel))
set_option maxRecDepth 100000 in
theorem gw_X12_carries : GoodIn lw_tbl wsX12_carries := goodIn_c (good_pick [Cond.code yX12_carries cX12_carries 3 (some .int)] [(6, 129)] (by decide +kernel) (by decide +kernel)) (goodIn_app (goodIn_app gp_wsX12_carries_r1 (goodIn_app gp_wsX12_carries_r2 gp_wsX12_carries_r3)) ltbX12)
set_option maxRecDepth 100000 in
theorem ltb_X12_carries : GoodIn lw_tbl (wsV RL 59 RX12 yX12_carries wsX12_carries) := goodIn_app (good_pick _ [(6, 126), (6, 127), (6, 128), (1, 13)] (by decide +kernel) (by decide +kernel)) gw_X12_carries
set_option maxRecDepth 100000 in
theorem gp_wsX11_leasts_r1 : GoodIn lw_tbl wsX11_leasts_r1 := (good_pick _ [(2, 94), (3, 180), (3, 182), (9, 2), (1, 1), (3, 183), (3, 184), (3, 186), (9, 3), (3, 187), (2, 93), (2, 90), (2, 137), (2, 138), (2, 139), (3, 188), (3, 189), (3, 190), (1, 5), (3, 191), (1, 184), (3, 192), (3, 193), (3, 194)] (by decide +kernel) (by decide +kernel))
set_option maxRecDepth 100000 in
theorem gp_wsX11_leasts_r2 : GoodIn lw_tbl wsX11_leasts_r2 := (good_pick _ [(1, 6), (3, 195), (1, 159), (1, 163), (1, 169), (3, 196), (2, 4), (1, 10), (2, 5), (3, 142), (3, 143), (3, 154), (3, 155), (3, 156), (3, 157), (1, 186), (1, 182), (1, 183), (3, 159), (3, 160), (3, 161), (3, 162), (3, 163), (1, 20)] (by decide +kernel) (by decide +kernel))
set_option maxRecDepth 100000 in
theorem gp_wsX11_leasts_r3 : GoodIn lw_tbl wsX11_leasts_r3 := (good_pick _ [(3, 164), (3, 165), (3, 166), (3, 167), (3, 168), (2, 189), (2, 190), (1, 3), (2, 191), (1, 66), (3, 169), (3, 170), (3, 171), (3, 172), (1, 67), (3, 173), (3, 174), (3, 175), (3, 198), (3, 199), (3, 200), (3, 201), (3, 202), (3, 203)] (by decide +kernel) (by decide +kernel))
set_option maxRecDepth 100000 in
theorem gp_wsX11_leasts_r4 : GoodIn lw_tbl wsX11_leasts_r4 := (good_pick _ [(3, 204), (1, 7), (3, 205), (1, 206), (1, 205), (3, 206), (3, 208), (3, 149), (3, 150), (3, 151), (2, 186), (2, 187), (3, 209), (3, 211), (9, 4), (3, 212), (1, 204), (3, 213), (3, 215), (9, 5), (3, 216), (3, 219)] (by decide +kernel) (by decide +kernel))
set_option maxRecDepth 100000 in
theorem gw_X11_leasts : GoodIn lw_tbl wsX11_leasts := goodIn_c (good_pick [Cond.code yX11_leasts cX11_leasts 3 (some .int)] [(3, 179)] (by decide +kernel) (by decide +kernel)) (goodIn_app (goodIn_app (goodIn_app (goodIn_app (goodIn_app (goodIn_app gp_wsX11_leasts_r1 (goodIn_app gp_wsX11_leasts_r2 (goodIn_app gp_wsX11_leasts_r3 gp_wsX11_leasts_r4))) ltbX11) ltbX1) ltbX6) ltbX9) ltbX7)
set_option maxRecDepth 100000 in
theorem ltb_X11_leasts : GoodIn lw_tbl (wsV RL 60 RX11 yX11_leasts wsX11_leasts) := goodIn_app (good_pick _ [(3, 176), (3, 177), (3, 178), (1, 1)] (by decide +kernel) (by decide +kernel)) gw_X11_leasts
set_option maxRecDepth 100000 in
theorem gp_wsX12_leasts_r1 : GoodIn lw_tbl wsX12_leasts_r1 := (good_pick _ [(5, 60), (6, 42), (6, 44), (11, 5), (1, 13), (6, 45), (5, 234), (5, 236), (10, 15), (5, 237), (6, 162), (6, 164), (13, 0), (6, 165), (5, 96), (5, 72), (6, 6), (6, 8), (11, 0), (6, 9), (5, 68), (5, 69), (6, 10), (6, 12)] (by decide +kernel) (by decide +kernel))
set_option maxRecDepth 100000 in
theorem gp_wsX12_leasts_r2 : GoodIn lw_tbl wsX12_leasts_r2 := (good_pick _ [(11, 1), (6, 13), (5, 73), (5, 74), (5, 61), (5, 62), (5, 63), (5, 67), (5, 64), (5, 76), (5, 66), (5, 75), (5, 65), (6, 134), (6, 136), (12, 10), (6, 137), (5, 84), (5, 85), (5, 95), (6, 138), (6, 140), (12, 11), (6, 141)] (by decide +kernel) (by decide +kernel))
set_option maxRecDepth 100000 in
theorem gp_wsX12_leasts_r3 : GoodIn lw_tbl wsX12_leasts_r3 := (good_pick _ [(5, 86), (6, 142), (6, 144), (12, 12), (6, 145), (6, 146), (6, 148), (12, 13), (6, 149), (6, 14), (6, 16), (11, 2), (6, 17), (6, 150), (6, 152), (12, 14), (6, 153), (6, 154), (6, 156), (12, 15), (6, 157), (6, 130), (6, 132), (12, 9)] (by decide +kernel) (by decide +kernel))
set_option maxRecDepth 100000 in
theorem gp_wsX12_leasts_r4 : GoodIn lw_tbl wsX12_leasts_r4 := (good_pick _ [(6, 133), (6, 166), (6, 168), (13, 1), (6, 169), (6, 170), (6, 172), (13, 2), (6, 173)] (by decide +kernel) (by decide +kernel))
set_option maxRecDepth 100000 in
theorem gw_X12_leasts : GoodIn lw_tbl wsX12_leasts := goodIn_c (good_pick [Cond.code yX12_leasts cX12_leasts 5 (some .int)] [(6, 161)] (by decide +kernel) (by decide +kernel)) (goodIn_app (goodIn_app gp_wsX12_leasts_r1 (goodIn_app gp_wsX12_leasts_r2 (goodIn_app gp_wsX12_leasts_r3 gp_wsX12_leasts_r4))) ltbX12)
set_option maxRecDepth 100000 in
theorem ltb_X12_leasts : GoodIn lw_tbl (wsV RL 63 RX12 yX12_leasts wsX12_leasts) := goodIn_app (good_pick _ [(6, 158), (6, 159), (6, 160), (1, 13)] (by decide +kernel) (by decide +kernel)) gw_X12_leasts
set_option maxRecDepth 100000 in
theorem gp_wsX11_least_r1 : GoodIn lw_tbl wsX11_least_r1 := (good_pick _ [(2, 94), (3, 180), (3, 182), (9, 2), (1, 1), (3, 183), (3, 184), (3, 186), (9, 3), (3, 187), (2, 93), (2, 90), (2, 137), (2, 138), (2, 139), (3, 188), (3, 189), (3, 190), (1, 5), (3, 191), (1, 184), (3, 192), (3, 193), (3, 194)] (by decide +kernel) (by decide +kernel))
set_option maxRecDepth 100000 in
theorem gp_wsX11_least_r2 : GoodIn lw_tbl wsX11_least_r2 := (good_pick _ [(1, 6), (3, 195), (1, 159), (1, 163), (1, 169), (3, 196), (2, 4), (1, 10), (2, 5), (3, 142), (3, 143), (3, 154), (3, 155), (3, 156), (3, 157), (1, 186), (1, 182), (1, 183), (3, 159), (3, 160), (3, 161), (3, 162), (3, 163), (1, 20)] (by decide +kernel) (by decide +kernel))
set_option maxRecDepth 100000 in
theorem gp_wsX11_least_r3 : GoodIn lw_tbl wsX11_least_r3 := (good_pick _ [(3, 164), (3, 165), (3, 166), (3, 167), (3, 168), (2, 189), (2, 190), (1, 3), (2, 191), (1, 66), (3, 169), (3, 170), (3, 171), (3, 172), (1, 67), (3, 173), (3, 174), (3, 175), (3, 198), (3, 199), (3, 200), (3, 201), (3, 202), (3, 203)] (by decide +kernel) (by decide +kernel))
set_option maxRecDepth 100000 in
theorem gp_wsX11_least_r4 : GoodIn lw_tbl wsX11_least_r4 := (good_pick _ [(3, 204), (1, 7), (3, 205), (1, 206), (1, 205), (3, 206), (3, 208), (3, 149), (3, 150), (3, 151), (2, 186), (2, 187), (3, 209), (3, 211), (9, 4), (3, 212), (1, 204), (3, 213), (3, 215), (9, 5), (3, 216), (3, 219), (3, 224), (3, 225)] (by decide +kernel) (by decide +kernel))
set_option maxRecDepth 100000 in
theorem gp_wsX11_least_r5 : GoodIn lw_tbl wsX11_least_r5 := (good_pick _ [(3, 226), (3, 227)] (by decide +kernel) (by decide +kernel))
set_option maxRecDepth 100000 in
theorem gw_X11_least : GoodIn lw_tbl wsX11_least := goodIn_c (good_pick [Cond.code yX11_least cX11_least 4 (some .int)] [(3, 223)] (by decide +kernel) (by decide +kernel)) (goodIn_app (goodIn_app (goodIn_app (goodIn_app (goodIn_app (goodIn_app gp_wsX11_least_r1 (goodIn_app gp_wsX11_least_r2 (goodIn_app gp_wsX11_least_r3 (goodIn_app gp_wsX11_least_r4 gp_wsX11_least_r5)))) ltbX11) ltbX6) ltbX9) ltbX7) ltbX1)
set_option maxRecDepth 100000 in
theorem ltb_X11_least : GoodIn lw_tbl (wsV RL 64 RX11 yX11_least wsX11_least) := goodIn_app (good_pick _ [(3, 220), (3, 221), (3, 222), (1, 1)] (by decide +kernel) (by decide +kernel)) gw_X11_least
set_option maxRecDepth 100000 in
theorem gp_wsX12_least_r1 : GoodIn lw_tbl wsX12_least_r1 := (good_pick _ [(5, 60), (6, 42), (6, 44), (11, 5), (1, 13), (6, 45), (5, 234), (5, 236), (10, 15), (5, 237), (6, 162), (6, 164), (13, 0), (6, 165), (5, 96), (5, 72), (6, 6), (6, 8), (11, 0), (6, 9), (5, 68), (5, 69), (6, 10), (6, 12)] (by decide +kernel) (by decide +kernel))
set_option maxRecDepth 100000 in
theorem gp_wsX12_least_r2 : GoodIn lw_tbl wsX12_least_r2 := (good_pick _ [(11, 1), (6, 13), (5, 73), (5, 74), (5, 61), (5, 62), (5, 63), (5, 67), (5, 64), (5, 76), (5, 66), (5, 75), (5, 65), (6, 134), (6, 136), (12, 10), (6, 137), (5, 84), (5, 85), (5, 95), (6, 138), (6, 140), (12, 11), (6, 141)] (by decide +kernel) (by decide +kernel))
set_option maxRecDepth 100000 in
theorem gp_wsX12_least_r3 : GoodIn lw_tbl wsX12_least_r3 := (good_pick _ [(5, 86), (6, 142), (6, 144), (12, 12), (6, 145), (6, 146), (6, 148), (12, 13), (6, 149), (6, 14), (6, 16), (11, 2), (6, 17), (6, 150), (6, 152), (12, 14), (6, 153), (6, 154), (6, 156), (12, 15), (6, 157), (6, 130), (6, 132), (12, 9)] (by decide +kernel) (by decide +kernel))
set_option maxRecDepth 100000 in
theorem gp_wsX12_least_r4 : GoodIn lw_tbl wsX12_least_r4 := (good_pick _ [(6, 133), (6, 166), (6, 168), (13, 1), (6, 169), (6, 170), (6, 172), (13, 2), (6, 173)] (by decide +kernel) (by decide +kernel))
set_option maxRecDepth 100000 in
theorem gw_X12_least : GoodIn lw_tbl wsX12_least := goodIn_c (good_pick [Cond.code yX12_least cX12_least 6 (some .int)] [(6, 177)] (by decide +kernel) (by decide +kernel)) (goodIn_app (goodIn_app gp_wsX12_least_r1 (goodIn_app gp_wsX12_least_r2 (goodIn_app gp_wsX12_least_r3 gp_wsX12_least_r4))) ltbX12)
set_option maxRecDepth 100000 in
theorem ltb_X12_least : GoodIn lw_tbl (wsV RL 68 RX12 yX12_least wsX12_least) := goodIn_app (good_pick _ [(6, 174), (6, 175), (6, 176), (1, 13)] (by decide +kernel) (by decide +kernel)) gw_X12_least
set_option maxRecDepth 100000 in
theorem gp_wsX11_power_r1 : GoodIn lw_tbl wsX11_power_r1 := (good_pick _ [(2, 99), (2, 90), (3, 232), (3, 184), (3, 186), (9, 3), (1, 1), (3, 187), (2, 93), (2, 137), (2, 138), (2, 139), (3, 188), (3, 189), (3, 190), (1, 5), (3, 191), (1, 184), (3, 192), (3, 193), (3, 194), (1, 6), (3, 195), (1, 159)] (by decide +kernel) (by decide +kernel))
set_option maxRecDepth 100000 in
theorem gp_wsX11_power_r2 : GoodIn lw_tbl wsX11_power_r2 := (good_pick _ [(1, 163), (1, 169), (3, 196), (2, 4), (1, 10), (2, 5), (3, 142), (3, 143), (3, 154), (3, 155), (3, 156), (3, 157), (1, 186), (1, 182), (1, 183), (3, 159), (3, 160), (3, 161), (3, 162), (3, 163), (1, 20), (3, 164), (3, 165), (3, 166)] (by decide +kernel) (by decide +kernel))
set_option maxRecDepth 100000 in
theorem gp_wsX11_power_r3 : GoodIn lw_tbl wsX11_power_r3 := (good_pick _ [(3, 167), (3, 168), (2, 189), (2, 190), (1, 3), (2, 191), (1, 66), (3, 169), (3, 170), (3, 171), (3, 172), (1, 67), (3, 173), (3, 174), (3, 175), (3, 198), (3, 199), (3, 200), (3, 201), (2, 185), (2, 186), (2, 187), (3, 233), (3, 234)] (by decide +kernel) (by decide +kernel))
set_option maxRecDepth 100000 in
theorem gp_wsX11_power_r4 : GoodIn lw_tbl wsX11_power_r4 := (good_pick _ [(3, 235), (3, 236), (3, 237), (3, 239), (9, 6), (4, 0), (4, 2), (3, 149), (3, 150), (3, 151), (4, 3), (4, 4), (4, 5), (4, 6), (4, 8), (4, 9), (1, 21), (4, 10), (4, 7), (4, 11), (4, 12), (4, 13), (4, 14), (4, 15)] (by decide +kernel) (by decide +kernel))
set_option maxRecDepth 100000 in
theorem gp_wsX11_power_r5 : GoodIn lw_tbl wsX11_power_r5 := (good_pick _ [(4, 16), (4, 17), (4, 18), (4, 19), (4, 20), (4, 21), (4, 22), (4, 23), (4, 24)] (by decide +kernel) (by decide +kernel))
set_option maxRecDepth 100000 in
theorem gw_X11_power : GoodIn lw_tbl wsX11_power := goodIn_c (good_pick [Cond.code yX11_power cX11_power 5 (some .long)] [(3, 231)] (by decide +kernel) (by decide +kernel)) (goodIn_app (goodIn_app (goodIn_app (goodIn_app (goodIn_app gp_wsX11_power_r1 (goodIn_app gp_wsX11_power_r2 (goodIn_app gp_wsX11_power_r3 (goodIn_app gp_wsX11_power_r4 gp_wsX11_power_r5)))) ltbX11) ltbX7) ltbX6) ltbX9)
set_option maxRecDepth 100000 in
theorem ltb_X11_power : GoodIn lw_tbl (wsV RL 69 RX11 yX11_power wsX11_power) := goodIn_app (good_pick _ [(3, 228), (3, 229), (3, 230), (1, 1)] (by decide +kernel) (by decide +kernel)) gw_X11_power
set_option maxRecDepth 100000 in
theorem gp_wsX12_power_r1 : GoodIn lw_tbl wsX12_power_r1 := (good_pick _ [(5, 60), (6, 182), (5, 72), (5, 96), (5, 73), (6, 42), (6, 44), (11, 5), (1, 13), (6, 45), (5, 234), (5, 236), (10, 15), (5, 237), (5, 226), (5, 228), (10, 13), (5, 229), (5, 61), (6, 162), (6, 164), (13, 0), (6, 165), (6, 6)] (by decide +kernel) (by decide +kernel))
set_option maxRecDepth 100000 in
theorem gp_wsX12_power_r2 : GoodIn lw_tbl wsX12_power_r2 := (good_pick _ [(6, 8), (11, 0), (6, 9), (5, 68), (5, 69), (6, 10), (6, 12), (11, 1), (6, 13), (5, 74), (5, 62), (5, 63), (5, 67), (5, 64), (5, 76), (5, 66), (5, 75), (5, 65), (6, 134), (6, 136), (12, 10), (6, 137), (5, 84), (5, 85)] (by decide +kernel) (by decide +kernel))
set_option maxRecDepth 100000 in
theorem gp_wsX12_power_r3 : GoodIn lw_tbl wsX12_power_r3 := (good_pick _ [(5, 95), (6, 138), (6, 140), (12, 11), (6, 141), (5, 86), (6, 142), (6, 144), (12, 12), (6, 145), (6, 146), (6, 148), (12, 13), (6, 149), (6, 14), (6, 16), (11, 2), (6, 17), (6, 150), (6, 152), (12, 14), (6, 153), (6, 154), (6, 156)] (by decide +kernel) (by decide +kernel))
set_option maxRecDepth 100000 in
theorem gp_wsX12_power_r4 : GoodIn lw_tbl wsX12_power_r4 := (good_pick _ [(12, 15), (6, 157), (6, 130), (6, 132), (12, 9), (6, 133), (6, 183), (6, 185), (13, 3), (6, 186), (6, 187), (6, 189), (13, 4), (6, 190), (6, 191), (6, 193), (13, 5), (6, 194)] (by decide +kernel) (by decide +kernel))
set_option maxRecDepth 100000 in
theorem gw_X12_power : GoodIn lw_tbl wsX12_power := goodIn_c (good_pick [Cond.code yX12_power cX12_power 12 (some .long)] [(6, 181)] (by decide +kernel) (by decide +kernel)) (goodIn_app (goodIn_app gp_wsX12_power_r1 (goodIn_app gp_wsX12_power_r2 (goodIn_app gp_wsX12_power_r3 gp_wsX12_power_r4))) ltbX12)
set_option maxRecDepth 100000 in
theorem ltb_X12_power : GoodIn lw_tbl (wsV RL 73 RX12 yX12_power wsX12_power) := goodIn_app (good_pick _ [(6, 178), (6, 179), (6, 180), (1, 13)] (by decide +kernel) (by decide +kernel)) gw_X12_power
set_option maxRecDepth 100000 in
theorem gp_wsX11_odd_r1 : GoodIn lw_tbl wsX11_odd_r1 := (good_pick _ [(3, 184), (3, 186), (9, 3), (1, 1), (3, 187), (2, 93), (2, 90), (2, 137), (2, 138), (2, 139), (3, 188), (3, 189), (3, 190), (1, 5), (3, 191), (1, 184), (3, 192), (3, 193), (3, 194), (1, 6), (3, 195), (1, 159), (1, 163), (1, 169)] (by decide +kernel) (by decide +kernel))
set_option maxRecDepth 100000 in
theorem gp_wsX11_odd_r2 : GoodIn lw_tbl wsX11_odd_r2 := (good_pick _ [(3, 196), (2, 4), (1, 10), (2, 5), (3, 142), (3, 143), (3, 154), (3, 155), (3, 156), (3, 157), (1, 186), (1, 182), (1, 183), (3, 159), (3, 160), (3, 161), (3, 162), (3, 163), (1, 20), (3, 164), (3, 165), (3, 166), (3, 167), (3, 168)] (by decide +kernel) (by decide +kernel))
set_option maxRecDepth 100000 in
theorem gp_wsX11_odd_r3 : GoodIn lw_tbl wsX11_odd_r3 := (good_pick _ [(2, 189), (2, 190), (1, 3), (2, 191), (1, 66), (3, 169), (3, 170), (3, 171), (3, 172), (1, 67), (3, 173), (3, 174), (3, 175), (3, 198), (3, 199), (3, 200), (3, 201), (4, 29), (4, 30), (4, 31), (4, 32), (4, 2), (3, 149), (3, 150)] (by decide +kernel) (by decide +kernel))
set_option maxRecDepth 100000 in
theorem gp_wsX11_odd_r4 : GoodIn lw_tbl wsX11_odd_r4 := (good_pick _ [(3, 151), (2, 186), (2, 187), (4, 33), (4, 34), (4, 35), (4, 36), (4, 37)] (by decide +kernel) (by decide +kernel))
set_option maxRecDepth 100000 in
theorem gw_X11_odd : GoodIn lw_tbl wsX11_odd := goodIn_c (good_pick [Cond.code yX11_odd cX11_odd 5 (some .int)] [(4, 28)] (by decide +kernel) (by decide +kernel)) (goodIn_app (goodIn_app (goodIn_app (goodIn_app (goodIn_app gp_wsX11_odd_r1 (goodIn_app gp_wsX11_odd_r2 (goodIn_app gp_wsX11_odd_r3 gp_wsX11_odd_r4))) ltbX11) ltbX6) ltbX9) ltbX7)
set_option maxRecDepth 100000 in
theorem ltb_X11_odd : GoodIn lw_tbl (wsV RL 74 RX11 yX11_odd wsX11_odd) := goodIn_app (good_pick _ [(4, 25), (4, 26), (4, 27), (1, 1)] (by decide +kernel) (by decide +kernel)) gw_X11_odd
set_option maxRecDepth 100000 in
theorem gp_wsX12_odd_r1 : GoodIn lw_tbl wsX12_odd_r1 := (good_pick _ [(5, 60), (5, 61), (5, 96), (5, 72), (6, 42), (6, 44), (11, 5), (1, 13), (6, 45), (5, 234), (5, 236), (10, 15), (5, 237), (6, 162), (6, 164), (13, 0), (6, 165), (6, 6), (6, 8), (11, 0), (6, 9), (5, 68), (5, 69), (6, 10)] (by decide +kernel) (by decide +kernel))
set_option maxRecDepth 100000 in
theorem gp_wsX12_odd_r2 : GoodIn lw_tbl wsX12_odd_r2 := (good_pick _ [(6, 12), (11, 1), (6, 13), (5, 73), (5, 74), (5, 62), (5, 63), (5, 67), (5, 64), (5, 76), (5, 66), (5, 75), (5, 65), (6, 134), (6, 136), (12, 10), (6, 137), (5, 84), (5, 85), (5, 95), (6, 138), (6, 140), (12, 11), (6, 141)] (by decide +kernel) (by decide +kernel))
set_option maxRecDepth 100000 in
theorem gp_wsX12_odd_r3 : GoodIn lw_tbl wsX12_odd_r3 := (good_pick _ [(5, 86), (6, 142), (6, 144), (12, 12), (6, 145), (6, 146), (6, 148), (12, 13), (6, 149), (6, 14), (6, 16), (11, 2), (6, 17), (6, 150), (6, 152), (12, 14), (6, 153), (6, 154), (6, 156), (12, 15), (6, 157)] (by decide +kernel) (by decide +kernel))
set_option maxRecDepth 100000 in
theorem gw_X12_odd : GoodIn lw_tbl wsX12_odd := goodIn_c (good_pick [Cond.code yX12_odd cX12_odd 5 (some .int)] [(6, 198)] (by decide +kernel) (by decide +kernel)) (goodIn_app (goodIn_app gp_wsX12_odd_r1 (goodIn_app gp_wsX12_odd_r2 gp_wsX12_odd_r3)) ltbX12)
set_option maxRecDepth 100000 in
theorem ltb_X12_odd : GoodIn lw_tbl (wsV RL 77 RX12 yX12_odd wsX12_odd) := goodIn_app (good_pick _ [(6, 195), (6, 196), (6, 197), (1, 13)] (by decide +kernel) (by decide +kernel)) gw_X12_odd
set_option maxRecDepth 100000 in
theorem gp_wsX11_worth_r1 : GoodIn lw_tbl wsX11_worth_r1 := (good_pick _ [(2, 99), (2, 90), (3, 184), (3, 186), (9, 3), (1, 1), (3, 187), (2, 93), (2, 137), (2, 138), (2, 139), (3, 188), (3, 189), (3, 190), (1, 5), (3, 191), (1, 184), (3, 192), (3, 193), (3, 194), (1, 6), (3, 195), (1, 159), (1, 163)] (by decide +kernel) (by decide +kernel))
set_option maxRecDepth 100000 in
theorem gp_wsX11_worth_r2 : GoodIn lw_tbl wsX11_worth_r2 := (good_pick _ [(1, 169), (3, 196), (2, 4), (1, 10), (2, 5), (3, 142), (3, 143), (3, 154), (3, 155), (3, 156), (3, 157), (1, 186), (1, 182), (1, 183), (3, 159), (3, 160), (3, 161), (3, 162), (3, 163), (1, 20), (3, 164), (3, 165), (3, 166), (3, 167)] (by decide +kernel) (by decide +kernel))
set_option maxRecDepth 100000 in
theorem gp_wsX11_worth_r3 : GoodIn lw_tbl wsX11_worth_r3 := (good_pick _ [(3, 168), (2, 189), (2, 190), (1, 3), (2, 191), (1, 66), (3, 169), (3, 170), (3, 171), (3, 172), (1, 67), (3, 173), (3, 174), (3, 175), (3, 198), (3, 199), (3, 200), (3, 201), (2, 185), (2, 186), (2, 187), (4, 42), (4, 43), (4, 44)] (by decide +kernel) (by decide +kernel))
set_option maxRecDepth 100000 in
theorem gp_wsX11_worth_r4 : GoodIn lw_tbl wsX11_worth_r4 := (good_pick _ [(4, 45), (4, 2), (3, 149), (3, 150), (3, 151)] (by decide +kernel) (by decide +kernel))
set_option maxRecDepth 100000 in
theorem gw_X11_worth : GoodIn lw_tbl wsX11_worth := goodIn_c (good_pick [Cond.code yX11_worth cX11_worth 5 (some .int)] [(4, 41)] (by decide +kernel) (by decide +kernel)) (goodIn_app (goodIn_app (goodIn_app (goodIn_app (goodIn_app gp_wsX11_worth_r1 (goodIn_app gp_wsX11_worth_r2 (goodIn_app gp_wsX11_worth_r3 gp_wsX11_worth_r4))) ltbX11) ltbX7) ltbX6) ltbX9)
set_option maxRecDepth 100000 in
theorem ltb_X11_worth : GoodIn lw_tbl (wsV RL 78 RX11 yX11_worth wsX11_worth) := goodIn_app (good_pick _ [(4, 38), (4, 39), (4, 40), (1, 1)] (by decide +kernel) (by decide +kernel)) gw_X11_worth
set_option maxRecDepth 100000 in
theorem gp_wsX12_worth_r1 : GoodIn lw_tbl wsX12_worth_r1 := (good_pick _ [(5, 60), (5, 72), (6, 42), (6, 44), (11, 5), (1, 13), (6, 45), (5, 234), (5, 236), (10, 15), (5, 237), (5, 226), (5, 228), (10, 13), (5, 229), (5, 61), (6, 162), (6, 164), (13, 0), (6, 165), (5, 96), (6, 6), (6, 8), (11, 0)] (by decide +kernel) (by decide +kernel))
set_option maxRecDepth 100000 in
theorem gp_wsX12_worth_r2 : GoodIn lw_tbl wsX12_worth_r2 := (good_pick _ [(6, 9), (5, 68), (5, 69), (6, 10), (6, 12), (11, 1), (6, 13), (5, 73), (5, 74), (5, 62), (5, 63), (5, 67), (5, 64), (5, 76), (5, 66), (5, 75), (5, 65), (6, 134), (6, 136), (12, 10), (6, 137), (5, 84), (5, 85), (5, 95)] (by decide +kernel) (by decide +kernel))
set_option maxRecDepth 100000 in
theorem gp_wsX12_worth_r3 : GoodIn lw_tbl wsX12_worth_r3 := (good_pick _ [(6, 138), (6, 140), (12, 11), (6, 141), (5, 86), (6, 142), (6, 144), (12, 12), (6, 145), (6, 146), (6, 148), (12, 13), (6, 149), (6, 14), (6, 16), (11, 2), (6, 17), (6, 150), (6, 152), (12, 14), (6, 153), (6, 154), (6, 156), (12, 15)] (by decide +kernel) (by decide +kernel))
set_option maxRecDepth 100000 in
theorem gp_wsX12_worth_r4 : GoodIn lw_tbl wsX12_worth_r4 := (good_pick _ [(6, 157), (6, 203), (6, 205), (13, 6), (6, 206), (6, 130), (6, 132), (12, 9), (6, 133)] (by decide +kernel) (by decide +kernel))
set_option maxRecDepth 100000 in
theorem gw_X12_worth : GoodIn lw_tbl wsX12_worth := goodIn_c (good_pick [Cond.code yX12_worth cX12_worth 4 (some .int)] [(6, 202)] (by decide +kernel) (by decide +kernel)) (goodIn_app (goodIn_app gp_wsX12_worth_r1 (goodIn_app gp_wsX12_worth_r2 (goodIn_app gp_wsX12_worth_r3 gp_wsX12_worth_r4))) ltbX12)
set_option maxRecDepth 100000 in
theorem ltb_X12_worth : GoodIn lw_tbl (wsV RL 81 RX12 yX12_worth wsX12_worth) := goodIn_app (good_pick _ [(6, 199), (6, 200), (6, 201), (1, 13)] (by decide +kernel) (by decide +kernel)) gw_X12_worth
set_option maxRecDepth 100000 in
theorem gp_wsX11_trade_r1 : GoodIn lw_tbl wsX11_trade_r1 := (good_pick _ [(2, 95), (3, 184), (3, 186), (9, 3), (1, 1), (3, 187), (2, 93), (2, 90), (2, 137), (2, 138), (2, 139), (3, 188), (3, 189), (3, 190), (1, 5), (3, 191), (1, 184), (3, 192), (3, 193), (3, 194), (1, 6), (3, 195), (1, 159), (1, 163)] (by decide +kernel) (by decide +kernel))
set_option maxRecDepth 100000 in
theorem gp_wsX11_trade_r2 : GoodIn lw_tbl wsX11_trade_r2 := (good_pick _ [(1, 169), (3, 196), (2, 4), (1, 10), (2, 5), (3, 142), (3, 143), (3, 154), (3, 155), (3, 156), (3, 157), (1, 186), (1, 182), (1, 183), (3, 159), (3, 160), (3, 161), (3, 162), (3, 163), (1, 20), (3, 164), (3, 165), (3, 166), (3, 167)] (by decide +kernel) (by decide +kernel))
set_option maxRecDepth 100000 in
theorem gp_wsX11_trade_r3 : GoodIn lw_tbl wsX11_trade_r3 := (good_pick _ [(3, 168), (2, 189), (2, 190), (1, 3), (2, 191), (1, 66), (3, 169), (3, 170), (3, 171), (3, 172), (1, 67), (3, 173), (3, 174), (3, 175), (3, 198), (3, 199), (3, 200), (3, 201), (4, 50), (4, 51), (4, 52), (1, 8), (4, 53), (1, 225)] (by decide +kernel) (by decide +kernel))
set_option maxRecDepth 100000 in
theorem gp_wsX11_trade_r4 : GoodIn lw_tbl wsX11_trade_r4 := (good_pick _ [(1, 224), (4, 54), (4, 55), (4, 57), (9, 7), (4, 58), (1, 221), (1, 222), (4, 60), (3, 149), (3, 150), (3, 151), (2, 186), (2, 187), (4, 62), (4, 63), (4, 64), (4, 65), (4, 67), (9, 8), (4, 68), (1, 223), (4, 69), (4, 70)] (by decide +kernel) (by decide +kernel))
set_option maxRecDepth 100000 in
theorem gp_wsX11_trade_r5 : GoodIn lw_tbl wsX11_trade_r5 := (good_pick _ [(4, 72), (9, 9), (4, 73), (4, 75), (4, 77), (9, 10), (4, 78)] (by decide +kernel) (by decide +kernel))
set_option maxRecDepth 100000 in
theorem gw_X11_trade : GoodIn lw_tbl wsX11_trade := goodIn_c (good_pick [Cond.code yX11_trade cX11_trade 4 (some .int)] [(4, 49)] (by decide +kernel) (by decide +kernel)) (goodIn_app (goodIn_app (goodIn_app (goodIn_app (goodIn_app (goodIn_app gp_wsX11_trade_r1 (goodIn_app gp_wsX11_trade_r2 (goodIn_app gp_wsX11_trade_r3 (goodIn_app gp_wsX11_trade_r4 gp_wsX11_trade_r5)))) ltbX9) ltbX11) ltbX6) ltbX7) ltbX10)
set_option maxRecDepth 100000 in
theorem ltb_X11_trade : GoodIn lw_tbl (wsV RL 82 RX11 yX11_trade wsX11_trade) := goodIn_app (good_pick _ [(4, 46), (4, 47), (4, 48), (1, 1)] (by decide +kernel) (by decide +kernel)) gw_X11_trade
set_option maxRecDepth 100000 in
theorem gp_wsX12_trade_r1 : GoodIn lw_tbl wsX12_trade_r1 := (good_pick _ [(5, 60), (5, 96), (5, 97), (5, 98), (6, 42), (6, 44), (11, 5), (1, 13), (6, 45), (5, 234), (5, 236), (10, 15), (5, 237), (6, 162), (6, 164), (13, 0), (6, 165), (5, 72), (6, 6), (6, 8), (11, 0), (6, 9), (5, 68), (5, 69)] (by decide +kernel) (by decide +kernel))
set_option maxRecDepth 100000 in
theorem gp_wsX12_trade_r2 : GoodIn lw_tbl wsX12_trade_r2 := (good_pick _ [(6, 10), (6, 12), (11, 1), (6, 13), (5, 73), (5, 74), (5, 61), (5, 62), (5, 63), (5, 67), (5, 64), (5, 76), (5, 66), (5, 75), (5, 65), (6, 134), (6, 136), (12, 10), (6, 137), (5, 84), (5, 85), (5, 95), (6, 138), (6, 140)] (by decide +kernel) (by decide +kernel))
set_option maxRecDepth 100000 in
theorem gp_wsX12_trade_r3 : GoodIn lw_tbl wsX12_trade_r3 := (good_pick _ [(12, 11), (6, 141), (5, 86), (6, 142), (6, 144), (12, 12), (6, 145), (6, 146), (6, 148), (12, 13), (6, 149), (6, 14), (6, 16), (11, 2), (6, 17), (6, 150), (6, 152), (12, 14), (6, 153), (6, 154), (6, 156), (12, 15), (6, 157), (6, 211)] (by decide +kernel) (by decide +kernel))
set_option maxRecDepth 100000 in
theorem gp_wsX12_trade_r4 : GoodIn lw_tbl wsX12_trade_r4 := (good_pick _ [(6, 213), (13, 7), (6, 214), (5, 59), (6, 215), (6, 217), (13, 8), (6, 218), (6, 130), (6, 132), (12, 9), (6, 133)] (by decide +kernel) (by decide +kernel))
set_option maxRecDepth 100000 in
theorem gw_X12_trade : GoodIn lw_tbl wsX12_trade := goodIn_c (good_pick [Cond.code yX12_trade cX12_trade 6 (some .int)] [(6, 210)] (by decide +kernel) (by decide +kernel)) (goodIn_app (goodIn_app gp_wsX12_trade_r1 (goodIn_app gp_wsX12_trade_r2 (goodIn_app gp_wsX12_trade_r3 gp_wsX12_trade_r4))) ltbX12)
set_option maxRecDepth 100000 in
theorem ltb_X12_trade : GoodIn lw_tbl (wsV RL 85 RX12 yX12_trade wsX12_trade) := goodIn_app (good_pick _ [(6, 207), (6, 208), (6, 209), (1, 13)] (by decide +kernel) (by decide +kernel)) gw_X12_trade
set_option maxRecDepth 100000 in
theorem gp_wsX11_days_r1 : GoodIn lw_tbl wsX11_days_r1 := (good_pick _ [(2, 99), (2, 89), (4, 87), (4, 88), (1, 21), (4, 89), (2, 91), (2, 93), (2, 137), (2, 138), (1, 1), (2, 139), (3, 141), (3, 142), (3, 143), (4, 83), (4, 84), (4, 85), (1, 2), (4, 86), (1, 42), (1, 37), (2, 153), (2, 154)] (by decide +kernel) (by decide +kernel))
set_option maxRecDepth 100000 in
theorem gp_wsX11_days_r2 : GoodIn lw_tbl wsX11_days_r2 := (good_pick _ [(2, 155), (2, 156), (1, 41), (1, 40), (1, 38), (1, 39), (2, 157), (2, 4), (1, 10), (2, 5), (2, 158), (2, 160), (8, 1), (2, 161), (1, 36), (2, 162), (2, 163), (2, 164), (1, 3), (2, 165), (1, 66), (1, 67), (1, 68), (1, 72)] (by decide +kernel) (by decide +kernel))
set_option maxRecDepth 100000 in
theorem gp_wsX11_days_r3 : GoodIn lw_tbl wsX11_days_r3 := (good_pick _ [(2, 166), (2, 167), (2, 168), (2, 169), (2, 170), (4, 90), (3, 155), (3, 156), (1, 5), (3, 157), (1, 186), (1, 182), (1, 183), (3, 159), (3, 160), (3, 161), (3, 162), (3, 163), (1, 20), (3, 164), (3, 165), (3, 166), (3, 167), (3, 168)] (by decide +kernel) (by decide +kernel))
set_option maxRecDepth 100000 in
theorem gp_wsX11_days_r4 : GoodIn lw_tbl wsX11_days_r4 := (good_pick _ [(2, 189), (2, 190), (2, 191), (3, 169), (3, 170), (3, 171), (3, 172), (3, 173), (3, 174), (3, 175)] (by decide +kernel) (by decide +kernel))
set_option maxRecDepth 100000 in
theorem gw_X11_days : GoodIn lw_tbl wsX11_days := goodIn_c (good_pick [Cond.code yX11_days cX11_days 10 (some .int)] [(4, 82)] (by decide +kernel) (by decide +kernel)) (goodIn_app (goodIn_app (goodIn_app (goodIn_app (goodIn_app gp_wsX11_days_r1 (goodIn_app gp_wsX11_days_r2 (goodIn_app gp_wsX11_days_r3 gp_wsX11_days_r4))) ltbX11) ltbX7) ltbX3) ltbX6)
set_option maxRecDepth 100000 in
theorem ltb_X11_days : GoodIn lw_tbl (wsV RL 86 RX11 yX11_days wsX11_days) := goodIn_app (good_pick _ [(4, 79), (4, 80), (4, 81), (1, 1)] (by decide +kernel) (by decide +kernel)) gw_X11_days
set_option maxRecDepth 100000 in
theorem gp_wsX12_days_r1 : GoodIn lw_tbl wsX12_days_r1 := (good_pick _ [(5, 60), (5, 61), (5, 72), (6, 42), (6, 44), (11, 5), (1, 13), (6, 45), (5, 234), (5, 236), (10, 15), (5, 237), (5, 230), (5, 232), (10, 14), (5, 233), (6, 10), (6, 12), (11, 1), (6, 13), (5, 73), (5, 74), (5, 62), (5, 63)] (by decide +kernel) (by decide +kernel))
set_option maxRecDepth 100000 in
theorem gp_wsX12_days_r2 : GoodIn lw_tbl wsX12_days_r2 := (good_pick _ [(5, 67), (5, 64), (5, 76), (5, 66), (5, 75), (5, 65), (6, 134), (6, 136), (12, 10), (6, 137), (5, 84), (5, 85), (5, 95), (6, 138), (6, 140), (12, 11), (6, 141), (5, 86), (6, 142), (6, 144), (12, 12), (6, 145), (6, 146), (6, 148)] (by decide +kernel) (by decide +kernel))
set_option maxRecDepth 100000 in
theorem gp_wsX12_days_r3 : GoodIn lw_tbl wsX12_days_r3 := (good_pick _ [(12, 13), (6, 149), (6, 14), (6, 16), (11, 2), (6, 17), (6, 150), (6, 152), (12, 14), (6, 153), (6, 154), (6, 156), (12, 15), (6, 157)] (by decide +kernel) (by decide +kernel))
set_option maxRecDepth 100000 in
theorem gw_X12_days : GoodIn lw_tbl wsX12_days := goodIn_c (good_pick [Cond.code yX12_days cX12_days 8 (some .int)] [(6, 222)] (by decide +kernel) (by decide +kernel)) (goodIn_app (goodIn_app gp_wsX12_days_r1 (goodIn_app gp_wsX12_days_r2 gp_wsX12_days_r3)) ltbX12)
set_option maxRecDepth 100000 in
theorem ltb_X12_days : GoodIn lw_tbl (wsV RL 89 RX12 yX12_days wsX12_days) := goodIn_app (good_pick _ [(6, 219), (6, 220), (6, 221), (1, 13)] (by decide +kernel) (by decide +kernel)) gw_X12_days
