set_option maxRecDepth 100000 in
theorem gw_X11_fault : GoodIn lw_tbl wsX11_fault := goodIn_c (good_pick [Cond.code yX11_fault cX11_fault 2 (some .int)] [(3, 140)] (by decide +kernel) (by decide +kernel)) (goodIn_app (goodIn_app (good_pick _ [(2, 92)] (by decide +kernel) (by decide +kernel)) ltbX11) ltbX5)
set_option maxRecDepth 100000 in
theorem ltb_X11_fault : GoodIn lw_tbl (wsV RL 52 RX11 yX11_fault wsX11_fault) := goodIn_app (good_pick _ [(3, 137), (3, 138), (3, 139), (1, 1)] (by decide +kernel) (by decide +kernel)) gw_X11_fault
set_option maxRecDepth 100000 in
theorem gw_X12_fault : GoodIn lw_tbl wsX12_fault := goodIn_c (good_pick [Cond.code yX12_fault cX12_fault 2 (some .int)] [(6, 129)] (by decide +kernel) (by decide +kernel)) (goodIn_app (good_pick _ [(5, 64), (5, 97), (5, 98)] (by decide +kernel) (by decide +kernel)) ltbX12)
set_option maxRecDepth 100000 in
theorem ltb_X12_fault : GoodIn lw_tbl (wsV RL 55 RX12 yX12_fault wsX12_fault) := goodIn_app (good_pick _ [(6, 126), (6, 127), (6, 128), (1, 13)] (by decide +kernel) (by decide +kernel)) gw_X12_fault
set_option maxRecDepth 100000 in
theorem gp_wsX11_carries_r1 : GoodIn lw_tbl wsX11_carries_r1 := (good_pick _ [(2, 90), (2, 93), (2, 137), (2, 138), (1, 1), (2, 139), (3, 145), (3, 146), (3, 147), (3, 148), (3, 149), (3, 150), (1, 5), (3, 151), (1, 184), (3, 152), (3, 153), (3, 154), (1, 6), (3, 155), (1, 159), (2, 186), (2, 187), (3, 158)] (by decide +kernel) (by decide +kernel))
set_option maxRecDepth 100000 in
theorem gp_wsX11_carries_r2 : GoodIn lw_tbl wsX11_carries_r2 := (good_pick _ [(3, 159), (3, 160), (3, 161), (1, 186), (1, 182), (1, 183), (3, 163), (3, 164), (3, 165), (3, 166), (3, 167), (1, 20), (3, 168), (3, 169), (3, 170), (3, 171), (3, 172), (2, 189), (2, 190), (1, 3), (2, 191), (1, 66), (3, 173), (3, 174)] (by decide +kernel) (by decide +kernel))
set_option maxRecDepth 100000 in
theorem gp_wsX11_carries_r3 : GoodIn lw_tbl wsX11_carries_r3 := (good_pick _ [(3, 175), (3, 176), (1, 67), (3, 177), (3, 178), (3, 179)] (by decide +kernel) (by decide +kernel))
set_option maxRecDepth 100000 in
theorem gw_X11_carries : GoodIn lw_tbl wsX11_carries := goodIn_c (good_pick [Cond.code yX11_carries cX11_carries 3 (some .int)] [(3, 144)] (by decide +kernel) (by decide +kernel)) (goodIn_app (goodIn_app (goodIn_app (goodIn_app (goodIn_app gp_wsX11_carries_r1 (goodIn_app gp_wsX11_carries_r2 gp_wsX11_carries_r3)) ltbX11) ltbX7) ltbX6) ltbX9)
set_option maxRecDepth 100000 in
theorem ltb_X11_carries : GoodIn lw_tbl (wsV RL 56 RX11 yX11_carries wsX11_carries) := goodIn_app (good_pick _ [(3, 141), (3, 142), (3, 143), (1, 1)] (by decide +kernel) (by decide +kernel)) gw_X11_carries
set_option maxRecDepth 100000 in
theorem gp_wsX12_carries_r1 : GoodIn lw_tbl wsX12_carries_r1 := (good_pick _ [(5, 64), (6, 10), (6, 12), (11, 1), (1, 13), (6, 13), (5, 72), (5, 73), (6, 14), (6, 16), (11, 2), (6, 17), (5, 76), (5, 77), (5, 78), (5, 65), (5, 66), (5, 67), (5, 71), (5, 68), (5, 80), (5, 70), (5, 79), (5, 69)] (by decide +kernel) (by decide +kernel))
set_option maxRecDepth 100000 in
theorem gp_wsX12_carries_r2 : GoodIn lw_tbl wsX12_carries_r2 := (good_pick _ [(6, 46), (6, 48), (11, 6), (6, 49), (5, 238), (6, 0), (11, 0), (6, 1), (6, 134), (6, 136), (12, 10), (6, 137), (6, 138), (6, 140), (12, 11), (6, 141), (5, 88), (5, 89), (5, 99), (6, 142), (6, 144), (12, 12), (6, 145), (5, 90)] (by decide +kernel) (by decide +kernel))
set_option maxRecDepth 100000 in
theorem gp_wsX12_carries_r3 : GoodIn lw_tbl wsX12_carries_r3 := (good_pick _ [(6, 146), (6, 148), (12, 13), (6, 149), (6, 150), (6, 152), (12, 14), (6, 153), (6, 18), (6, 20), (11, 3), (6, 21), (6, 154), (6, 156), (12, 15), (6, 157), (6, 158), (6, 160), (13, 0), (6, 161)] (by decide +kernel) (by decide +kernel))
set_option maxRecDepth 100000 in
theorem gw_X12_carries : GoodIn lw_tbl wsX12_carries := goodIn_c (good_pick [Cond.code yX12_carries cX12_carries 3 (some .int)] [(6, 133)] (by decide +kernel) (by decide +kernel)) (goodIn_app (goodIn_app gp_wsX12_carries_r1 (goodIn_app gp_wsX12_carries_r2 gp_wsX12_carries_r3)) ltbX12)
set_option maxRecDepth 100000 in
theorem ltb_X12_carries : GoodIn lw_tbl (wsV RL 59 RX12 yX12_carries wsX12_carries) := goodIn_app (good_pick _ [(6, 130), (6, 131), (6, 132), (1, 13)] (by decide +kernel) (by decide +kernel)) gw_X12_carries
set_option maxRecDepth 100000 in
theorem gp_wsX11_leasts_r1 : GoodIn lw_tbl wsX11_leasts_r1 := (good_pick _ [(2, 94), (3, 184), (3, 186), (9, 3), (1, 1), (3, 187), (3, 188), (3, 190), (9, 4), (3, 191), (2, 93), (2, 90), (2, 137), (2, 138), (2, 139), (3, 192), (3, 193), (3, 194), (1, 5), (3, 195), (1, 184), (3, 196), (3, 197), (3, 198)] (by decide +kernel) (by decide +kernel))
set_option maxRecDepth 100000 in
theorem gp_wsX11_leasts_r2 : GoodIn lw_tbl wsX11_leasts_r2 := (good_pick _ [(1, 6), (3, 199), (1, 159), (1, 163), (1, 169), (3, 200), (2, 4), (1, 10), (2, 5), (3, 146), (3, 147), (3, 158), (3, 159), (3, 160), (3, 161), (1, 186), (1, 182), (1, 183), (3, 163), (3, 164), (3, 165), (3, 166), (3, 167), (1, 20)] (by decide +kernel) (by decide +kernel))
set_option maxRecDepth 100000 in
theorem gp_wsX11_leasts_r3 : GoodIn lw_tbl wsX11_leasts_r3 := (good_pick _ [(3, 168), (3, 169), (3, 170), (3, 171), (3, 172), (2, 189), (2, 190), (1, 3), (2, 191), (1, 66), (3, 173), (3, 174), (3, 175), (3, 176), (1, 67), (3, 177), (3, 178), (3, 179), (3, 202), (3, 203), (3, 204), (3, 205), (3, 206), (3, 207)] (by decide +kernel) (by decide +kernel))
set_option maxRecDepth 100000 in
theorem gp_wsX11_leasts_r4 : GoodIn lw_tbl wsX11_leasts_r4 := (good_pick _ [(3, 208), (1, 7), (3, 209), (1, 206), (1, 205), (3, 210), (3, 212), (3, 153), (3, 154), (3, 155), (2, 186), (2, 187), (3, 213), (3, 215), (9, 5), (3, 216), (1, 204), (3, 217), (3, 219), (9, 6), (3, 220), (3, 223)] (by decide +kernel) (by decide +kernel))
set_option maxRecDepth 100000 in
theorem gw_X11_leasts : GoodIn lw_tbl wsX11_leasts := goodIn_c (good_pick [Cond.code yX11_leasts cX11_leasts 3 (some .int)] [(3, 183)] (by decide +kernel) (by decide +kernel)) (goodIn_app (goodIn_app (goodIn_app (goodIn_app (goodIn_app (goodIn_app gp_wsX11_leasts_r1 (goodIn_app gp_wsX11_leasts_r2 (goodIn_app gp_wsX11_leasts_r3 gp_wsX11_leasts_r4))) ltbX11) ltbX1) ltbX6) ltbX9) ltbX7)
set_option maxRecDepth 100000 in
theorem ltb_X11_leasts : GoodIn lw_tbl (wsV RL 60 RX11 yX11_leasts wsX11_leasts) := goodIn_app (good_pick _ [(3, 180), (3, 181), (3, 182), (1, 1)] (by decide +kernel) (by decide +kernel)) gw_X11_leasts
set_option maxRecDepth 100000 in
theorem gp_wsX12_leasts_r1 : GoodIn lw_tbl wsX12_leasts_r1 := (good_pick _ [(5, 64), (6, 46), (6, 48), (11, 6), (1, 13), (6, 49), (5, 238), (6, 0), (11, 0), (6, 1), (6, 166), (6, 168), (13, 1), (6, 169), (5, 100), (5, 76), (6, 10), (6, 12), (11, 1), (6, 13), (5, 72), (5, 73), (6, 14), (6, 16)] (by decide +kernel) (by decide +kernel))
set_option maxRecDepth 100000 in
theorem gp_wsX12_leasts_r2 : GoodIn lw_tbl wsX12_leasts_r2 := (good_pick _ [(11, 2), (6, 17), (5, 77), (5, 78), (5, 65), (5, 66), (5, 67), (5, 71), (5, 68), (5, 80), (5, 70), (5, 79), (5, 69), (6, 138), (6, 140), (12, 11), (6, 141), (5, 88), (5, 89), (5, 99), (6, 142), (6, 144), (12, 12), (6, 145)] (by decide +kernel) (by decide +kernel))
set_option maxRecDepth 100000 in
theorem gp_wsX12_leasts_r3 : GoodIn lw_tbl wsX12_leasts_r3 := (good_pick _ [(5, 90), (6, 146), (6, 148), (12, 13), (6, 149), (6, 150), (6, 152), (12, 14), (6, 153), (6, 18), (6, 20), (11, 3), (6, 21), (6, 154), (6, 156), (12, 15), (6, 157), (6, 158), (6, 160), (13, 0), (6, 161), (6, 134), (6, 136), (12, 10)] (by decide +kernel) (by decide +kernel))
set_option maxRecDepth 100000 in
theorem gp_wsX12_leasts_r4 : GoodIn lw_tbl wsX12_leasts_r4 := (good_pick _ [(6, 137), (6, 170), (6, 172), (13, 2), (6, 173), (6, 174), (6, 176), (13, 3), (6, 177)] (by decide +kernel) (by decide +kernel))
set_option maxRecDepth 100000 in
theorem gw_X12_leasts : GoodIn lw_tbl wsX12_leasts := goodIn_c (good_pick [Cond.code yX12_leasts cX12_leasts 5 (some .int)] [(6, 165)] (by decide +kernel) (by decide +kernel)) (goodIn_app (goodIn_app gp_wsX12_leasts_r1 (goodIn_app gp_wsX12_leasts_r2 (goodIn_app gp_wsX12_leasts_r3 gp_wsX12_leasts_r4))) ltbX12)
set_option maxRecDepth 100000 in
theorem ltb_X12_leasts : GoodIn lw_tbl (wsV RL 63 RX12 yX12_leasts wsX12_leasts) := goodIn_app (good_pick _ [(6, 162), (6, 163), (6, 164), (1, 13)] (by decide +kernel) (by decide +kernel)) gw_X12_leasts
set_option maxRecDepth 100000 in
theorem gp_wsX11_least_r1 : GoodIn lw_tbl wsX11_least_r1 := (good_pick _ [(2, 94), (3, 184), (3, 186), (9, 3), (1, 1), (3, 187), (3, 188), (3, 190), (9, 4), (3, 191), (2, 93), (2, 90), (2, 137), (2, 138), (2, 139), (3, 192), (3, 193), (3, 194), (1, 5), (3, 195), (1, 184), (3, 196), (3, 197), (3, 198)] (by decide +kernel) (by decide +kernel))
set_option maxRecDepth 100000 in
theorem gp_wsX11_least_r2 : GoodIn lw_tbl wsX11_least_r2 := (good_pick _ [(1, 6), (3, 199), (1, 159), (1, 163), (1, 169), (3, 200), (2, 4), (1, 10), (2, 5), (3, 146), (3, 147), (3, 158), (3, 159), (3, 160), (3, 161), (1, 186), (1, 182), (1, 183), (3, 163), (3, 164), (3, 165), (3, 166), (3, 167), (1, 20)] (by decide +kernel) (by decide +kernel))
set_option maxRecDepth 100000 in
theorem gp_wsX11_least_r3 : GoodIn lw_tbl wsX11_least_r3 := (good_pick _ [(3, 168), (3, 169), (3, 170), (3, 171), (3, 172), (2, 189), (2, 190), (1, 3), (2, 191), (1, 66), (3, 173), (3, 174), (3, 175), (3, 176), (1, 67), (3, 177), (3, 178), (3, 179), (3, 202), (3, 203), (3, 204), (3, 205), (3, 206), (3, 207)] (by decide +kernel) (by decide +kernel))
set_option maxRecDepth 100000 in
theorem gp_wsX11_least_r4 : GoodIn lw_tbl wsX11_least_r4 := (good_pick _ [(3, 208), (1, 7), (3, 209), (1, 206), (1, 205), (3, 210), (3, 212), (3, 153), (3, 154), (3, 155), (2, 186), (2, 187), (3, 213), (3, 215), (9, 5), (3, 216), (1, 204), (3, 217), (3, 219), (9, 6), (3, 220), (3, 223), (3, 228), (3, 229)] (by decide +kernel) (by decide +kernel))
set_option maxRecDepth 100000 in
theorem gp_wsX11_least_r5 : GoodIn lw_tbl wsX11_least_r5 := (good_pick _ [(3, 230), (3, 231)] (by decide +kernel) (by decide +kernel))
set_option maxRecDepth 100000 in
theorem gw_X11_least : GoodIn lw_tbl wsX11_least := goodIn_c (good_pick [Cond.code yX11_least cX11_least 4 (some .int)] [(3, 227)] (by decide +kernel) (by decide +kernel)) (goodIn_app (goodIn_app (goodIn_app (goodIn_app (goodIn_app (goodIn_app gp_wsX11_least_r1 (goodIn_app gp_wsX11_least_r2 (goodIn_app gp_wsX11_least_r3 (goodIn_app gp_wsX11_least_r4 gp_wsX11_least_r5)))) ltbX11) ltbX6) ltbX9) ltbX7) ltbX1)
set_option maxRecDepth 100000 in
theorem ltb_X11_least : GoodIn lw_tbl (wsV RL 64 RX11 yX11_least wsX11_least) := goodIn_app (good_pick _ [(3, 224), (3, 225), (3, 226), (1, 1)] (by decide +kernel) (by decide +kernel)) gw_X11_least
set_option maxRecDepth 100000 in
theorem gp_wsX12_least_r1 : GoodIn lw_tbl wsX12_least_r1 := (good_pick _ [(5, 64), (6, 46), (6, 48), (11, 6), (1, 13), (6, 49), (5, 238), (6, 0), (11, 0), (6, 1), (6, 166), (6, 168), (13, 1), (6, 169), (5, 100), (5, 76), (6, 10), (6, 12), (11, 1), (6, 13), (5, 72), (5, 73), (6, 14), (6, 16)] (by decide +kernel) (by decide +kernel))
set_option maxRecDepth 100000 in
theorem gp_wsX12_least_r2 : GoodIn lw_tbl wsX12_least_r2 := (good_pick _ [(11, 2), (6, 17), (5, 77), (5, 78), (5, 65), (5, 66), (5, 67), (5, 71), (5, 68), (5, 80), (5, 70), (5, 79), (5, 69), (6, 138), (6, 140), (12, 11), (6, 141), (5, 88), (5, 89), (5, 99), (6, 142), (6, 144), (12, 12), (6, 145)] (by decide +kernel) (by decide +kernel))
set_option maxRecDepth 100000 in
theorem gp_wsX12_least_r3 : GoodIn lw_tbl wsX12_least_r3 := (good_pick _ [(5, 90), (6, 146), (6, 148), (12, 13), (6, 149), (6, 150), (6, 152), (12, 14), (6, 153), (6, 18), (6, 20), (11, 3), (6, 21), (6, 154), (6, 156), (12, 15), (6, 157), (6, 158), (6, 160), (13, 0), (6, 161), (6, 134), (6, 136), (12, 10)] (by decide +kernel) (by decide +kernel))
set_option maxRecDepth 100000 in
theorem gp_wsX12_least_r4 : GoodIn lw_tbl wsX12_least_r4 := (good_pick _ [(6, 137), (6, 170), (6, 172), (13, 2), (6, 173), (6, 174), (6, 176), (13, 3), (6, 177)] (by decide +kernel) (by decide +kernel))
set_option maxRecDepth 100000 in
theorem gw_X12_least : GoodIn lw_tbl wsX12_least := goodIn_c (good_pick [Cond.code yX12_least cX12_least 6 (some .int)] [(6, 181)] (by decide +kernel) (by decide +kernel)) (goodIn_app (goodIn_app gp_wsX12_least_r1 (goodIn_app gp_wsX12_least_r2 (goodIn_app gp_wsX12_least_r3 gp_wsX12_least_r4))) ltbX12)
set_option maxRecDepth 100000 in
theorem ltb_X12_least : GoodIn lw_tbl (wsV RL 68 RX12 yX12_least wsX12_least) := goodIn_app (good_pick _ [(6, 178), (6, 179), (6, 180), (1, 13)] (by decide +kernel) (by decide +kernel)) gw_X12_least
set_option maxRecDepth 100000 in
theorem gp_wsX11_power_r1 : GoodIn lw_tbl wsX11_power_r1 := (good_pick _ [(2, 99), (2, 90), (3, 236), (3, 188), (3, 190), (9, 4), (1, 1), (3, 191), (2, 93), (2, 137), (2, 138), (2, 139), (3, 192), (3, 193), (3, 194), (1, 5), (3, 195), (1, 184), (3, 196), (3, 197), (3, 198), (1, 6), (3, 199), (1, 159)] (by decide +kernel) (by decide +kernel))
set_option maxRecDepth 100000 in
theorem gp_wsX11_power_r2 : GoodIn lw_tbl wsX11_power_r2 := (good_pick _ [(1, 163), (1, 169), (3, 200), (2, 4), (1, 10), (2, 5), (3, 146), (3, 147), (3, 158), (3, 159), (3, 160), (3, 161), (1, 186), (1, 182), (1, 183), (3, 163), (3, 164), (3, 165), (3, 166), (3, 167), (1, 20), (3, 168), (3, 169), (3, 170)] (by decide +kernel) (by decide +kernel))
set_option maxRecDepth 100000 in
theorem gp_wsX11_power_r3 : GoodIn lw_tbl wsX11_power_r3 := (good_pick _ [(3, 171), (3, 172), (2, 189), (2, 190), (1, 3), (2, 191), (1, 66), (3, 173), (3, 174), (3, 175), (3, 176), (1, 67), (3, 177), (3, 178), (3, 179), (3, 202), (3, 203), (3, 204), (3, 205), (2, 185), (2, 186), (2, 187), (3, 237), (3, 238)] (by decide +kernel) (by decide +kernel))
set_option maxRecDepth 100000 in
theorem gp_wsX11_power_r4 : GoodIn lw_tbl wsX11_power_r4 := (good_pick _ [(3, 239), (4, 0), (4, 1), (4, 3), (9, 7), (4, 4), (4, 6), (3, 153), (3, 154), (3, 155), (4, 7), (4, 8), (4, 9), (4, 10), (4, 12), (4, 13), (1, 21), (4, 14), (4, 11), (4, 15), (4, 16), (4, 17), (4, 18), (4, 19)] (by decide +kernel) (by decide +kernel))
set_option maxRecDepth 100000 in
theorem gp_wsX11_power_r5 : GoodIn lw_tbl wsX11_power_r5 := (good_pick _ [(4, 20), (4, 21), (4, 22), (4, 23), (4, 24), (4, 25), (4, 26), (4, 27), (4, 28)] (by decide +kernel) (by decide +kernel))
set_option maxRecDepth 100000 in
theorem gw_X11_power : GoodIn lw_tbl wsX11_power := goodIn_c (good_pick [Cond.code yX11_power cX11_power 5 (some .long)] [(3, 235)] (by decide +kernel) (by decide +kernel)) (goodIn_app (goodIn_app (goodIn_app (goodIn_app (goodIn_app gp_wsX11_power_r1 (goodIn_app gp_wsX11_power_r2 (goodIn_app gp_wsX11_power_r3 (goodIn_app gp_wsX11_power_r4 gp_wsX11_power_r5)))) ltbX11) ltbX7) ltbX6) ltbX9)
set_option maxRecDepth 100000 in
theorem ltb_X11_power : GoodIn lw_tbl (wsV RL 69 RX11 yX11_power wsX11_power) := goodIn_app (good_pick _ [(3, 232), (3, 233), (3, 234), (1, 1)] (by decide +kernel) (by decide +kernel)) gw_X11_power
set_option maxRecDepth 100000 in
theorem gp_wsX12_power_r1 : GoodIn lw_tbl wsX12_power_r1 := (good_pick _ [(5, 64), (6, 186), (5, 76), (5, 100), (5, 77), (6, 46), (6, 48), (11, 6), (1, 13), (6, 49), (5, 238), (6, 0), (11, 0), (6, 1), (5, 230), (5, 232), (10, 14), (5, 233), (5, 65), (6, 166), (6, 168), (13, 1), (6, 169), (6, 10)] (by decide +kernel) (by decide +kernel))
set_option maxRecDepth 100000 in
theorem gp_wsX12_power_r2 : GoodIn lw_tbl wsX12_power_r2 := (good_pick _ [(6, 12), (11, 1), (6, 13), (5, 72), (5, 73), (6, 14), (6, 16), (11, 2), (6, 17), (5, 78), (5, 66), (5, 67), (5, 71), (5, 68), (5, 80), (5, 70), (5, 79), (5, 69), (6, 138), (6, 140), (12, 11), (6, 141), (5, 88), (5, 89)] (by decide +kernel) (by decide +kernel))
set_option maxRecDepth 100000 in
theorem gp_wsX12_power_r3 : GoodIn lw_tbl wsX12_power_r3 := (good_pick _ [(5, 99), (6, 142), (6, 144), (12, 12), (6, 145), (5, 90), (6, 146), (6, 148), (12, 13), (6, 149), (6, 150), (6, 152), (12, 14), (6, 153), (6, 18), (6, 20), (11, 3), (6, 21), (6, 154), (6, 156), (12, 15), (6, 157), (6, 158), (6, 160)] (by decide +kernel) (by decide +kernel))
set_option maxRecDepth 100000 in
theorem gp_wsX12_power_r4 : GoodIn lw_tbl wsX12_power_r4 := (good_pick _ [(13, 0), (6, 161), (6, 134), (6, 136), (12, 10), (6, 137), (6, 187), (6, 189), (13, 4), (6, 190), (6, 191), (6, 193), (13, 5), (6, 194), (6, 195), (6, 197), (13, 6), (6, 198)] (by decide +kernel) (by decide +kernel))
set_option maxRecDepth 100000 in
theorem gw_X12_power : GoodIn lw_tbl wsX12_power := goodIn_c (good_pick [Cond.code yX12_power cX12_power 12 (some .long)] [(6, 185)] (by decide +kernel) (by decide +kernel)) (goodIn_app (goodIn_app gp_wsX12_power_r1 (goodIn_app gp_wsX12_power_r2 (goodIn_app gp_wsX12_power_r3 gp_wsX12_power_r4))) ltbX12)
set_option maxRecDepth 100000 in
theorem ltb_X12_power : GoodIn lw_tbl (wsV RL 73 RX12 yX12_power wsX12_power) := goodIn_app (good_pick _ [(6, 182), (6, 183), (6, 184), (1, 13)] (by decide +kernel) (by decide +kernel)) gw_X12_power
set_option maxRecDepth 100000 in
theorem gp_wsX11_odd_r1 : GoodIn lw_tbl wsX11_odd_r1 := (good_pick _ [(3, 188), (3, 190), (9, 4), (1, 1), (3, 191), (2, 93), (2, 90), (2, 137), (2, 138), (2, 139), (3, 192), (3, 193), (3, 194), (1, 5), (3, 195), (1, 184), (3, 196), (3, 197), (3, 198), (1, 6), (3, 199), (1, 159), (1, 163), (1, 169)] (by decide +kernel) (by decide +kernel))
set_option maxRecDepth 100000 in
theorem gp_wsX11_odd_r2 : GoodIn lw_tbl wsX11_odd_r2 := (good_pick _ [(3, 200), (2, 4), (1, 10), (2, 5), (3, 146), (3, 147), (3, 158), (3, 159), (3, 160), (3, 161), (1, 186), (1, 182), (1, 183), (3, 163), (3, 164), (3, 165), (3, 166), (3, 167), (1, 20), (3, 168), (3, 169), (3, 170), (3, 171), (3, 172)] (by decide +kernel) (by decide +kernel))
set_option maxRecDepth 100000 in
theorem gp_wsX11_odd_r3 : GoodIn lw_tbl wsX11_odd_r3 := (good_pick _ [(2, 189), (2, 190), (1, 3), (2, 191), (1, 66), (3, 173), (3, 174), (3, 175), (3, 176), (1, 67), (3, 177), (3, 178), (3, 179), (3, 202), (3, 203), (3, 204), (3, 205), (4, 33), (4, 34), (4, 35), (4, 36), (4, 6), (3, 153), (3, 154)] (by decide +kernel) (by decide +kernel))
set_option maxRecDepth 100000 in
theorem gp_wsX11_odd_r4 : GoodIn lw_tbl wsX11_odd_r4 := (good_pick _ [(3, 155), (2, 186), (2, 187), (4, 37), (4, 38), (4, 39), (4, 40), (4, 41)] (by decide +kernel) (by decide +kernel))
set_option maxRecDepth 100000 in
theorem gw_X11_odd : GoodIn lw_tbl wsX11_odd := goodIn_c (good_pick [Cond.code yX11_odd cX11_odd 5 (some .int)] [(4, 32)] (by decide +kernel) (by decide +kernel)) (goodIn_app (goodIn_app (goodIn_app (goodIn_app (goodIn_app gp_wsX11_odd_r1 (goodIn_app gp_wsX11_odd_r2 (goodIn_app gp_wsX11_odd_r3 gp_wsX11_odd_r4))) ltbX11) ltbX6) ltbX9) ltbX7)
set_option maxRecDepth 100000 in
theorem ltb_X11_odd : GoodIn lw_tbl (wsV RL 74 RX11 yX11_odd wsX11_odd) := goodIn_app (good_pick _ [(4, 29), (4, 30), (4, 31), (1, 1)] (by decide +kernel) (by decide +kernel)) gw_X11_odd
set_option maxRecDepth 100000 in
theorem gp_wsX12_odd_r1 : GoodIn lw_tbl wsX12_odd_r1 := (good_pick _ [(5, 64), (5, 65), (5, 100), (5, 76), (6, 46), (6, 48), (11, 6), (1, 13), (6, 49), (5, 238), (6, 0), (11, 0), (6, 1), (6, 166), (6, 168), (13, 1), (6, 169), (6, 10), (6, 12), (11, 1), (6, 13), (5, 72), (5, 73), (6, 14)] (by decide +kernel) (by decide +kernel))
set_option maxRecDepth 100000 in
theorem gp_wsX12_odd_r2 : GoodIn lw_tbl wsX12_odd_r2 := (good_pick _ [(6, 16), (11, 2), (6, 17), (5, 77), (5, 78), (5, 66), (5, 67), (5, 71), (5, 68), (5, 80), (5, 70), (5, 79), (5, 69), (6, 138), (6, 140), (12, 11), (6, 141), (5, 88), (5, 89), (5, 99), (6, 142), (6, 144), (12, 12), (6, 145)] (by decide +kernel) (by decide +kernel))
set_option maxRecDepth 100000 in
theorem gp_wsX12_odd_r3 : GoodIn lw_tbl wsX12_odd_r3 := (good_pick _ [(5, 90), (6, 146), (6, 148), (12, 13), (6, 149), (6, 150), (6, 152), (12, 14), (6, 153), (6, 18), (6, 20), (11, 3), (6, 21), (6, 154), (6, 156), (12, 15), (6, 157), (6, 158), (6, 160), (13, 0), (6, 161)] (by decide +kernel) (by decide +kernel))
set_option maxRecDepth 100000 in
theorem gw_X12_odd : GoodIn lw_tbl wsX12_odd := goodIn_c (good_pick [Cond.code yX12_odd cX12_odd 5 (some .int)] [(6, 202)] (by decide +kernel) (by decide +kernel)) (goodIn_app (goodIn_app gp_wsX12_odd_r1 (goodIn_app gp_wsX12_odd_r2 gp_wsX12_odd_r3)) ltbX12)
set_option maxRecDepth 100000 in
theorem ltb_X12_odd : GoodIn lw_tbl (wsV RL 77 RX12 yX12_odd wsX12_odd) := goodIn_app (good_pick _ [(6, 199), (6, 200), (6, 201), (1, 13)] (by decide +kernel) (by decide +kernel)) gw_X12_odd
set_option maxRecDepth 100000 in
theorem gp_wsX11_worth_r1 : GoodIn lw_tbl wsX11_worth_r1 := (good_pick _ [(2, 99), (2, 90), (3, 188), (3, 190), (9, 4), (1, 1), (3, 191), (2, 93), (2, 137), (2, 138), (2, 139), (3, 192), (3, 193), (3, 194), (1, 5), (3, 195), (1, 184), (3, 196), (3, 197), (3, 198), (1, 6), (3, 199), (1, 159), (1, 163)] (by decide +kernel) (by decide +kernel))
set_option maxRecDepth 100000 in
theorem gp_wsX11_worth_r2 : GoodIn lw_tbl wsX11_worth_r2 := (good_pick _ [(1, 169), (3, 200), (2, 4), (1, 10), (2, 5), (3, 146), (3, 147), (3, 158), (3, 159), (3, 160), (3, 161), (1, 186), (1, 182), (1, 183), (3, 163), (3, 164), (3, 165), (3, 166), (3, 167), (1, 20), (3, 168), (3, 169), (3, 170), (3, 171)] (by decide +kernel) (by decide +kernel))
set_option maxRecDepth 100000 in
theorem gp_wsX11_worth_r3 : GoodIn lw_tbl wsX11_worth_r3 := (good_pick _ [(3, 172), (2, 189), (2, 190), (1, 3), (2, 191), (1, 66), (3, 173), (3, 174), (3, 175), (3, 176), (1, 67), (3, 177), (3, 178), (3, 179), (3, 202), (3, 203), (3, 204), (3, 205), (2, 185), (2, 186), (2, 187), (4, 46), (4, 47), (4, 48)] (by decide +kernel) (by decide +kernel))
set_option maxRecDepth 100000 in
theorem gp_wsX11_worth_r4 : GoodIn lw_tbl wsX11_worth_r4 := (good_pick _ [(4, 49), (4, 6), (3, 153), (3, 154), (3, 155)] (by decide +kernel) (by decide +kernel))
set_option maxRecDepth 100000 in
theorem gw_X11_worth : GoodIn lw_tbl wsX11_worth := goodIn_c (good_pick [Cond.code yX11_worth cX11_worth 5 (some .int)] [(4, 45)] (by decide +kernel) (by decide +kernel)) (goodIn_app (goodIn_app (goodIn_app (goodIn_app (goodIn_app gp_wsX11_worth_r1 (goodIn_app gp_wsX11_worth_r2 (goodIn_app gp_wsX11_worth_r3 gp_wsX11_worth_r4))) ltbX11) ltbX7) ltbX6) ltbX9)
set_option maxRecDepth 100000 in
theorem ltb_X11_worth : GoodIn lw_tbl (wsV RL 78 RX11 yX11_worth wsX11_worth) := goodIn_app (good_pick _ [(4, 42), (4, 43), (4, 44), (1, 1)] (by decide +kernel) (by decide +kernel)) gw_X11_worth
set_option maxRecDepth 100000 in
theorem gp_wsX12_worth_r1 : GoodIn lw_tbl wsX12_worth_r1 := (good_pick _ [(5, 64), (5, 76), (6, 46), (6, 48), (11, 6), (1, 13), (6, 49), (5, 238), (6, 0), (11, 0), (6, 1), (5, 230), (5, 232), (10, 14), (5, 233), (5, 65), (6, 166), (6, 168), (13, 1), (6, 169), (5, 100), (6, 10), (6, 12), (11, 1)] (by decide +kernel) (by decide +kernel))
set_option maxRecDepth 100000 in
theorem gp_wsX12_worth_r2 : GoodIn lw_tbl wsX12_worth_r2 := (good_pick _ [(6, 13), (5, 72), (5, 73), (6, 14), (6, 16), (11, 2), (6, 17), (5, 77), (5, 78), (5, 66), (5, 67), (5, 71), (5, 68), (5, 80), (5, 70), (5, 79), (5, 69), (6, 138), (6, 140), (12, 11), (6, 141), (5, 88), (5, 89), (5, 99)] (by decide +kernel) (by decide +kernel))
set_option maxRecDepth 100000 in
theorem gp_wsX12_worth_r3 : GoodIn lw_tbl wsX12_worth_r3 := (good_pick _ [(6, 142), (6, 144), (12, 12), (6, 145), (5, 90), (6, 146), (6, 148), (12, 13), (6, 149), (6, 150), (6, 152), (12, 14), (6, 153), (6, 18), (6, 20), (11, 3), (6, 21), (6, 154), (6, 156), (12, 15), (6, 157), (6, 158), (6, 160), (13, 0)] (by decide +kernel) (by decide +kernel))
set_option maxRecDepth 100000 in
theorem gp_wsX12_worth_r4 : GoodIn lw_tbl wsX12_worth_r4 := (good_pick _ [(6, 161), (6, 207), (6, 209), (13, 7), (6, 210), (6, 134), (6, 136), (12, 10), (6, 137)] (by decide +kernel) (by decide +kernel))
set_option maxRecDepth 100000 in
theorem gw_X12_worth : GoodIn lw_tbl wsX12_worth := goodIn_c (good_pick [Cond.code yX12_worth cX12_worth 4 (some .int)] [(6, 206)] (by decide +kernel) (by decide +kernel)) (goodIn_app (goodIn_app gp_wsX12_worth_r1 (goodIn_app gp_wsX12_worth_r2 (goodIn_app gp_wsX12_worth_r3 gp_wsX12_worth_r4))) ltbX12)
set_option maxRecDepth 100000 in
theorem ltb_X12_worth : GoodIn lw_tbl (wsV RL 81 RX12 yX12_worth wsX12_worth) := goodIn_app (good_pick _ [(6, 203), (6, 204), (6, 205), (1, 13)] (by decide +kernel) (by decide +kernel)) gw_X12_worth
set_option maxRecDepth 100000 in
theorem gp_wsX11_trade_r1 : GoodIn lw_tbl wsX11_trade_r1 := (good_pick _ [(2, 95), (3, 188), (3, 190), (9, 4), (1, 1), (3, 191), (2, 93), (2, 90), (2, 137), (2, 138), (2, 139), (3, 192), (3, 193), (3, 194), (1, 5), (3, 195), (1, 184), (3, 196), (3, 197), (3, 198), (1, 6), (3, 199), (1, 159), (1, 163)] (by decide +kernel) (by decide +kernel))
set_option maxRecDepth 100000 in
theorem gp_wsX11_trade_r2 : GoodIn lw_tbl wsX11_trade_r2 := (good_pick _ [(1, 169), (3, 200), (2, 4), (1, 10), (2, 5), (3, 146), (3, 147), (3, 158), (3, 159), (3, 160), (3, 161), (1, 186), (1, 182), (1, 183), (3, 163), (3, 164), (3, 165), (3, 166), (3, 167), (1, 20), (3, 168), (3, 169), (3, 170), (3, 171)] (by decide +kernel) (by decide +kernel))
set_option maxRecDepth 100000 in
theorem gp_wsX11_trade_r3 : GoodIn lw_tbl wsX11_trade_r3 := (good_pick _ [(3, 172), (2, 189), (2, 190), (1, 3), (2, 191), (1, 66), (3, 173), (3, 174), (3, 175), (3, 176), (1, 67), (3, 177), (3, 178), (3, 179), (3, 202), (3, 203), (3, 204), (3, 205), (4, 54), (4, 55), (4, 56), (1, 8), (4, 57), (1, 225)] (by decide +kernel) (by decide +kernel))
set_option maxRecDepth 100000 in
theorem gp_wsX11_trade_r4 : GoodIn lw_tbl wsX11_trade_r4 := (good_pick _ [(1, 224), (4, 58), (4, 59), (4, 61), (9, 8), (4, 62), (1, 221), (1, 222), (4, 64), (3, 153), (3, 154), (3, 155), (2, 186), (2, 187), (4, 66), (4, 67), (4, 68), (4, 69), (4, 71), (9, 9), (4, 72), (1, 223), (4, 73), (4, 74)] (by decide +kernel) (by decide +kernel))
set_option maxRecDepth 100000 in
theorem gp_wsX11_trade_r5 : GoodIn lw_tbl wsX11_trade_r5 := (good_pick _ [(4, 76), (9, 10), (4, 77), (4, 79), (4, 81), (9, 11), (4, 82)] (by decide +kernel) (by decide +kernel))
set_option maxRecDepth 100000 in
theorem gw_X11_trade : GoodIn lw_tbl wsX11_trade := goodIn_c (good_pick [Cond.code yX11_trade cX11_trade 4 (some .int)] [(4, 53)] (by decide +kernel) (by decide +kernel)) (goodIn_app (goodIn_app (goodIn_app (goodIn_app (goodIn_app (goodIn_app gp_wsX11_trade_r1 (goodIn_app gp_wsX11_trade_r2 (goodIn_app gp_wsX11_trade_r3 (goodIn_app gp_wsX11_trade_r4 gp_wsX11_trade_r5)))) ltbX9) ltbX11) ltbX6) ltbX7) ltbX10)
set_option maxRecDepth 100000 in
theorem ltb_X11_trade : GoodIn lw_tbl (wsV RL 82 RX11 yX11_trade wsX11_trade) := goodIn_app (good_pick _ [(4, 50), (4, 51), (4, 52), (1, 1)] (by decide +kernel) (by decide +kernel)) gw_X11_trade
set_option maxRecDepth 100000 in
theorem gp_wsX12_trade_r1 : GoodIn lw_tbl wsX12_trade_r1 := (good_pick _ [(5, 64), (5, 100), (5, 101), (5, 102), (6, 46), (6, 48), (11, 6), (1, 13), (6, 49), (5, 238), (6, 0), (11, 0), (6, 1), (6, 166), (6, 168), (13, 1), (6, 169), (5, 76), (6, 10), (6, 12), (11, 1), (6, 13), (5, 72), (5, 73)] (by decide +kernel) (by decide +kernel))
set_option maxRecDepth 100000 in
theorem gp_wsX12_trade_r2 : GoodIn lw_tbl wsX12_trade_r2 := (good_pick _ [(6, 14), (6, 16), (11, 2), (6, 17), (5, 77), (5, 78), (5, 65), (5, 66), (5, 67), (5, 71), (5, 68), (5, 80), (5, 70), (5, 79), (5, 69), (6, 138), (6, 140), (12, 11), (6, 141), (5, 88), (5, 89), (5, 99), (6, 142), (6, 144)] (by decide +kernel) (by decide +kernel))
set_option maxRecDepth 100000 in
theorem gp_wsX12_trade_r3 : GoodIn lw_tbl wsX12_trade_r3 := (good_pick _ [(12, 12), (6, 145), (5, 90), (6, 146), (6, 148), (12, 13), (6, 149), (6, 150), (6, 152), (12, 14), (6, 153), (6, 18), (6, 20), (11, 3), (6, 21), (6, 154), (6, 156), (12, 15), (6, 157), (6, 158), (6, 160), (13, 0), (6, 161), (6, 215)] (by decide +kernel) (by decide +kernel))
set_option maxRecDepth 100000 in
theorem gp_wsX12_trade_r4 : GoodIn lw_tbl wsX12_trade_r4 := (good_pick _ [(6, 217), (13, 8), (6, 218), (5, 63), (6, 219), (6, 221), (13, 9), (6, 222), (6, 134), (6, 136), (12, 10), (6, 137)] (by decide +kernel) (by decide +kernel))
set_option maxRecDepth 100000 in
theorem gw_X12_trade : GoodIn lw_tbl wsX12_trade := goodIn_c (good_pick [Cond.code yX12_trade cX12_trade 6 (some .int)] [(6, 214)] (by decide +kernel) (by decide +kernel)) (goodIn_app (goodIn_app gp_wsX12_trade_r1 (goodIn_app gp_wsX12_trade_r2 (goodIn_app gp_wsX12_trade_r3 gp_wsX12_trade_r4))) ltbX12)
set_option maxRecDepth 100000 in
theorem ltb_X12_trade : GoodIn lw_tbl (wsV RL 85 RX12 yX12_trade wsX12_trade) := goodIn_app (good_pick _ [(6, 211), (6, 212), (6, 213), (1, 13)] (by decide +kernel) (by decide +kernel)) gw_X12_trade
set_option maxRecDepth 100000 in
theorem gp_wsX11_days_r1 : GoodIn lw_tbl wsX11_days_r1 := (good_pick _ [(2, 99), (2, 89), (4, 91), (4, 92), (1, 21), (4, 93), (2, 91), (2, 93), (2, 137), (2, 138), (1, 1), (2, 139), (3, 145), (3, 146), (3, 147), (4, 87), (4, 88), (4, 89), (1, 2), (4, 90), (1, 42), (1, 37), (2, 153), (2, 154)] (by decide +kernel) (by decide +kernel))
set_option maxRecDepth 100000 in
theorem gp_wsX11_days_r2 : GoodIn lw_tbl wsX11_days_r2 := (good_pick _ [(2, 155), (2, 156), (1, 41), (1, 40), (1, 38), (1, 39), (2, 157), (2, 4), (1, 10), (2, 5), (2, 158), (2, 160), (8, 1), (2, 161), (1, 36), (2, 162), (2, 163), (2, 164), (1, 3), (2, 165), (1, 66), (1, 67), (1, 68), (1, 72)] (by decide +kernel) (by decide +kernel))
set_option maxRecDepth 100000 in
theorem gp_wsX11_days_r3 : GoodIn lw_tbl wsX11_days_r3 := (good_pick _ [(2, 166), (2, 167), (2, 168), (2, 169), (2, 170), (4, 94), (3, 159), (3, 160), (1, 5), (3, 161), (1, 186), (1, 182), (1, 183), (3, 163), (3, 164), (3, 165), (3, 166), (3, 167), (1, 20), (3, 168), (3, 169), (3, 170), (3, 171), (3, 172)] (by decide +kernel) (by decide +kernel))
set_option maxRecDepth 100000 in
theorem gp_wsX11_days_r4 : GoodIn lw_tbl wsX11_days_r4 := (good_pick _ [(2, 189), (2, 190), (2, 191), (3, 173), (3, 174), (3, 175), (3, 176), (3, 177), (3, 178), (3, 179)] (by decide +kernel) (by decide +kernel))
set_option maxRecDepth 100000 in
theorem gw_X11_days : GoodIn lw_tbl wsX11_days := goodIn_c (good_pick [Cond.code yX11_days cX11_days 10 (some .int)] [(4, 86)] (by decide +kernel) (by decide +kernel)) (goodIn_app (goodIn_app (goodIn_app (goodIn_app (goodIn_app gp_wsX11_days_r1 (goodIn_app gp_wsX11_days_r2 (goodIn_app gp_wsX11_days_r3 gp_wsX11_days_r4))) ltbX11) ltbX7) ltbX3) ltbX6)
set_option maxRecDepth 100000 in
theorem ltb_X11_days : GoodIn lw_tbl (wsV RL 86 RX11 yX11_days wsX11_days) := goodIn_app (good_pick _ [(4, 83), (4, 84), (4, 85), (1, 1)] (by decide +kernel) (by decide +kernel)) gw_X11_days
set_option maxRecDepth 100000 in
theorem gp_wsX12_days_r1 : GoodIn lw_tbl wsX12_days_r1 := (good_pick _ [(5, 64), (5, 65), (5, 76), (6, 46), (6, 48), (11, 6), (1, 13), (6, 49), (5, 238), (6, 0), (11, 0), (6, 1), (5, 234), (5, 236), (10, 15), (5, 237), (6, 14), (6, 16), (11, 2), (6, 17), (5, 77), (5, 78), (5, 66), (5, 67)] (by decide +kernel) (by decide +kernel))
set_option maxRecDepth 100000 in
theorem gp_wsX12_days_r2 : GoodIn lw_tbl wsX12_days_r2 := (good_pick _ [(5, 71), (5, 68), (5, 80), (5, 70), (5, 79), (5, 69), (6, 138), (6, 140), (12, 11), (6, 141), (5, 88), (5, 89), (5, 99), (6, 142), (6, 144), (12, 12), (6, 145), (5, 90), (6, 146), (6, 148), (12, 13), (6, 149), (6, 150), (6, 152)] (by decide +kernel) (by decide +kernel))
set_option maxRecDepth 100000 in
theorem gp_wsX12_days_r3 : GoodIn lw_tbl wsX12_days_r3 := (good_pick _ [(12, 14), (6, 153), (6, 18), (6, 20), (11, 3), (6, 21), (6, 154), (6, 156), (12, 15), (6, 157), (6, 158), (6, 160), (13, 0), (6, 161)] (by decide +kernel) (by decide +kernel))
set_option maxRecDepth 100000 in
theorem gw_X12_days : GoodIn lw_tbl wsX12_days := goodIn_c (good_pick [Cond.code yX12_days cX12_days 8 (some .int)] [(6, 226)] (by decide +kernel) (by decide +kernel)) (goodIn_app (goodIn_app gp_wsX12_days_r1 (goodIn_app gp_wsX12_days_r2 gp_wsX12_days_r3)) ltbX12)
set_option maxRecDepth 100000 in
theorem ltb_X12_days : GoodIn lw_tbl (wsV RL 89 RX12 yX12_days wsX12_days) := goodIn_app (good_pick _ [(6, 223), (6, 224), (6, 225), (1, 13)] (by decide +kernel) (by decide +kernel)) gw_X12_days
