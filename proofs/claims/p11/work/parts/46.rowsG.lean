set_option maxRecDepth 20000 in
theorem ggL_leg_X7_leg : GoodIn wsL_leg wsX7_leg := goodIn_ca (goodIn_ca (goodIn_ca (goodIn_r _ [8, 9, 10, 11, 12, 13, 14, 15, 16, 17, 18, 19, 20, 7, 21, 22, 23, 24, 25, 26, 27, 28, 29, 30, 31, 32, 33, 34, 35, 36, 37, 38, 39, 40, 41, 42, 43, 44, 45, 46, 47, 48, 49, 50, 51, 52, 53, 54, 55, 56, 57, 58, 59, 60, 61, 62, 63, 64, 65, 66, 67, 68] rfl (by decide +kernel)) (goodIn_sub (fun _ h => List.mem_cons_of_mem _ (List.mem_append_left _ (List.mem_append_left _ (List.mem_append_right _ h)))) (by decide +kernel))) (goodIn_sub (fun _ h => List.mem_cons_of_mem _ (List.mem_append_left _ (List.mem_append_right _ h))) (by decide +kernel))) (goodIn_sub (fun _ h => List.mem_cons_of_mem _ (List.mem_append_right _ h)) (by decide +kernel))
set_option maxRecDepth 20000 in
theorem gL_leg_X7_leg : GoodIn wsL_leg (wsV RL 7 RX7 yX7_leg wsX7_leg) := goodIn_app (goodIn_of _ (by decide +kernel)) ggL_leg_X7_leg
set_option maxRecDepth 20000 in
theorem ggL_hang_X7_hang : GoodIn wsL_hang wsX7_hang := goodIn_ca (goodIn_r _ [6, 7, 8, 9, 10, 5, 11, 12, 13, 14, 15, 16, 17, 18, 19, 20, 21, 22, 23, 24, 25, 26, 27, 28, 29, 30, 31, 32, 33, 34, 35, 36, 37, 38, 39, 40, 41, 42, 43, 44, 45, 46, 47, 48, 49, 50, 51, 52, 53, 54, 55, 56, 57, 58, 59] rfl (by decide +kernel)) (goodIn_sub (fun _ h => List.mem_cons_of_mem _ (List.mem_append_right _ h)) (by decide +kernel))
set_option maxRecDepth 20000 in
theorem gL_hang_X7_hang : GoodIn wsL_hang (wsV RL 19 RX7 yX7_hang wsX7_hang) := goodIn_app (goodIn_of _ (by decide +kernel)) ggL_hang_X7_hang
set_option maxRecDepth 20000 in
theorem ggL_take_X7_take : GoodIn wsL_take wsX7_take := goodIn_ca (goodIn_r _ [6, 7, 8, 9, 10, 5, 11, 12, 13, 14, 15, 16, 17, 18, 19, 20, 21, 22, 23, 24, 25, 26, 27, 28, 29, 30, 31, 32, 33, 34, 35, 36, 37, 38, 39, 40, 41, 42, 43, 44, 45, 46, 47, 48, 49, 50, 51] rfl (by decide +kernel)) (goodIn_sub (fun _ h => List.mem_cons_of_mem _ (List.mem_append_right _ h)) (by decide +kernel))
set_option maxRecDepth 20000 in
theorem gL_take_X7_take : GoodIn wsL_take (wsV RL 23 RX7 yX7_take wsX7_take) := goodIn_app (goodIn_of _ (by decide +kernel)) ggL_take_X7_take
set_option maxRecDepth 20000 in
theorem ggL_air_X7_air : GoodIn wsL_air wsX7_air := goodIn_ca (goodIn_ca (goodIn_r _ [7, 8, 9, 10, 11, 12, 13, 14, 6, 15, 16, 17, 18, 19, 20, 21, 22, 23, 24, 25, 26, 27, 28, 29, 30, 31, 32, 33, 34, 35] rfl (by decide +kernel)) (goodIn_sub (fun _ h => List.mem_cons_of_mem _ (List.mem_append_left _ (List.mem_append_right _ h))) (by decide +kernel))) (goodIn_sub (fun _ h => List.mem_cons_of_mem _ (List.mem_append_right _ h)) (by decide +kernel))
set_option maxRecDepth 20000 in
theorem gL_air_X7_air : GoodIn wsL_air (wsV RL 27 RX7 yX7_air wsX7_air) := goodIn_app (goodIn_of _ (by decide +kernel)) ggL_air_X7_air
set_option maxRecDepth 20000 in
theorem ggL_open_X7_open : GoodIn wsL_open wsX7_open := goodIn_ca (goodIn_r _ [6, 7, 8, 9, 10, 11, 5, 12, 13, 14, 15, 16, 17, 18, 19, 20, 21, 22, 23, 24, 25, 26, 27, 28, 29, 30, 31] rfl (by decide +kernel)) (goodIn_sub (fun _ h => List.mem_cons_of_mem _ (List.mem_append_right _ h)) (by decide +kernel))
set_option maxRecDepth 20000 in
theorem gL_open_X7_open : GoodIn wsL_open (wsV RL 31 RX7 yX7_open wsX7_open) := goodIn_app (goodIn_of _ (by decide +kernel)) ggL_open_X7_open
set_option maxRecDepth 20000 in
theorem ggL_days_X7_days : GoodIn wsL_days wsX7_days := goodIn_ca (goodIn_r _ [6, 7, 8, 9, 10, 11, 5, 12, 13, 14, 15, 16, 17, 18, 19, 20, 21, 22, 23, 24, 25, 26, 27, 28, 29, 30, 31, 32, 33, 34, 35, 36, 37, 38, 39, 40, 41, 42, 43, 44, 45, 46, 47, 48, 49, 50, 51, 52, 53, 54, 55, 56, 57, 58, 59, 60, 61, 62, 63, 64, 65, 66, 67, 68, 69, 70, 71, 72, 73, 74, 75, 76, 77, 78, 79, 80, 81, 82, 83, 84, 85, 86, 87, 88, 89, 90, 91, 92, 93] rfl (by decide +kernel)) (goodIn_sub (fun _ h => List.mem_cons_of_mem _ (List.mem_append_right _ h)) (by decide +kernel))
set_option maxRecDepth 20000 in
theorem gL_days_X7_days : GoodIn wsL_days (wsV RL 35 RX7 yX7_days wsX7_days) := goodIn_app (goodIn_of _ (by decide +kernel)) ggL_days_X7_days
set_option maxRecDepth 20000 in
theorem ggL_rules_X7_rules : GoodIn wsL_rules wsX7_rules := goodIn_ca (goodIn_r _ [6, 7, 8, 9, 10, 11, 12, 13, 14, 15, 16, 17, 18, 19, 20, 21, 22, 23, 24, 25, 26, 27, 28, 29, 30, 31, 32, 33, 34, 35, 36, 37, 38, 39, 40, 41, 42, 43, 44, 45, 46, 47, 48, 49, 5, 50, 51, 52, 53, 54, 55, 56, 57, 58, 59, 60, 61, 62, 63, 64, 65, 66, 67, 68, 69, 70, 71, 72, 73, 74, 75, 76, 77, 78, 79, 80, 81, 82, 83, 84, 85, 86, 87, 88, 89, 90, 91, 92, 93, 94, 95, 96, 97, 98, 99, 100, 101, 102, 103, 104, 105, 106, 107, 108, 109, 110, 111, 112, 113, 114, 115, 116, 117, 118, 119, 120, 121, 122, 123, 124, 125, 126, 127, 128, 129, 130, 131, 132, 133, 134, 135, 136, 137, 138, 139] rfl (by decide +kernel)) (goodIn_sub (fun _ h => List.mem_cons_of_mem _ (List.mem_append_right _ h)) (by decide +kernel))
set_option maxRecDepth 20000 in
theorem gL_rules_X7_rules : GoodIn wsL_rules (wsV RL 39 RX7 yX7_rules wsX7_rules) := goodIn_app (goodIn_of _ (by decide +kernel)) ggL_rules_X7_rules
set_option maxRecDepth 20000 in
theorem ggL_fed_X7_fed : GoodIn wsL_fed wsX7_fed := goodIn_ca (goodIn_ca (goodIn_r _ [7, 8, 9, 10, 11, 12, 13, 6, 14, 15, 16, 17, 18, 19, 20, 21, 22, 23, 24, 25, 26, 27, 28, 29, 30, 31, 32, 33, 34, 35, 36, 37, 38, 39, 40, 41, 42, 43, 44, 45, 46, 47, 48, 49, 50, 51, 52, 53, 54, 55, 56, 57, 58, 59, 60, 61, 62, 63, 64, 65, 66, 67, 68, 69, 70, 71] rfl (by decide +kernel)) (goodIn_sub (fun _ h => List.mem_cons_of_mem _ (List.mem_append_left _ (List.mem_append_right _ h))) (by decide +kernel))) (goodIn_sub (fun _ h => List.mem_cons_of_mem _ (List.mem_append_right _ h)) (by decide +kernel))
set_option maxRecDepth 20000 in
theorem gL_fed_X7_fed : GoodIn wsL_fed (wsV RL 43 RX7 yX7_fed wsX7_fed) := goodIn_app (goodIn_of _ (by decide +kernel)) ggL_fed_X7_fed
set_option maxRecDepth 20000 in
theorem ggL_known_X7_known : GoodIn wsL_known wsX7_known := goodIn_ca (goodIn_r _ [6, 7, 8, 9, 5, 10, 11, 12, 13, 14, 15, 16, 17, 18, 19, 20, 21, 22, 23, 24, 25, 26, 27, 28, 29, 30, 31, 32, 33, 34, 35, 36, 37, 38, 39, 40] rfl (by decide +kernel)) (goodIn_sub (fun _ h => List.mem_cons_of_mem _ (List.mem_append_right _ h)) (by decide +kernel))
set_option maxRecDepth 20000 in
theorem gL_known_X7_known : GoodIn wsL_known (wsV RL 46 RX7 yX7_known wsX7_known) := goodIn_app (goodIn_of _ (by decide +kernel)) ggL_known_X7_known
set_option maxRecDepth 20000 in
theorem ggL_seal_X7_seal : GoodIn wsL_seal wsX7_seal := goodIn_ca (goodIn_r _ [6, 7, 8, 9, 5, 10, 11, 12, 13, 14, 15, 16, 17, 18, 19, 20, 21, 22, 23, 24, 25, 26, 27, 28, 29, 30, 31, 32, 33, 34, 35, 36, 37, 38, 39, 40, 41, 42, 43, 44, 45, 46, 47, 48, 49, 50, 51, 52, 53, 54, 55, 56, 57, 58, 59, 60, 61, 62, 63, 64, 65, 66, 67, 68, 69, 70, 71, 72, 73, 74] rfl (by decide +kernel)) (goodIn_sub (fun _ h => List.mem_cons_of_mem _ (List.mem_append_right _ h)) (by decide +kernel))
set_option maxRecDepth 20000 in
theorem gL_seal_X7_seal : GoodIn wsL_seal (wsV RL 49 RX7 yX7_seal wsX7_seal) := goodIn_app (goodIn_of _ (by decide +kernel)) ggL_seal_X7_seal
set_option maxRecDepth 20000 in
theorem ggL_look_X7_look : GoodIn wsL_look wsX7_look := goodIn_ca (goodIn_ca (goodIn_r _ [7, 8, 9, 10, 11, 12, 6, 13, 14, 15, 16, 17, 18, 19, 20, 21, 22, 23, 24, 25, 26, 27, 28, 29, 30, 31, 32, 33, 34, 35, 36, 37, 38, 39, 40, 41, 42, 43, 44, 45, 46, 47, 48, 49, 50, 51, 52, 53, 54, 55, 56, 57] rfl (by decide +kernel)) (goodIn_sub (fun _ h => List.mem_cons_of_mem _ (List.mem_append_left _ (List.mem_append_right _ h))) (by decide +kernel))) (goodIn_sub (fun _ h => List.mem_cons_of_mem _ (List.mem_append_right _ h)) (by decide +kernel))
set_option maxRecDepth 20000 in
theorem gL_look_X7_look : GoodIn wsL_look (wsV RL 52 RX7 yX7_look wsX7_look) := goodIn_app (goodIn_of _ (by decide +kernel)) ggL_look_X7_look
set_option maxRecDepth 20000 in
theorem ggL_on_X7_on : GoodIn wsL_on wsX7_on := goodIn_ca (goodIn_r _ [6, 7, 8, 9, 5, 10, 11, 12, 13, 14, 15, 16, 17, 18, 19, 20, 21, 22, 23, 24, 25, 26, 27, 28, 29, 30, 31, 32, 33, 34, 35, 36, 37, 38, 39, 40, 41, 42, 43, 44, 45, 46] rfl (by decide +kernel)) (goodIn_sub (fun _ h => List.mem_cons_of_mem _ (List.mem_append_right _ h)) (by decide +kernel))
set_option maxRecDepth 20000 in
theorem gL_on_X7_on : GoodIn wsL_on (wsV RL 58 RX7 yX7_on wsX7_on) := goodIn_app (goodIn_of _ (by decide +kernel)) ggL_on_X7_on
set_option maxRecDepth 20000 in
theorem ggL_should_X7_should : GoodIn wsL_should wsX7_should := goodIn_ca (goodIn_r _ [6, 7, 8, 9, 5, 10, 11, 12, 13, 14, 15, 16, 17, 18, 19, 20, 21, 22, 23, 24, 25, 26, 27, 28, 29, 30, 31, 32, 33, 34, 35, 36, 37, 38, 39, 40, 41, 42, 43, 44, 45, 46, 47, 48, 49, 50, 51, 52, 53] rfl (by decide +kernel)) (goodIn_sub (fun _ h => List.mem_cons_of_mem _ (List.mem_append_right _ h)) (by decide +kernel))
set_option maxRecDepth 20000 in
theorem gL_should_X7_should : GoodIn wsL_should (wsV RL 61 RX7 yX7_should wsX7_should) := goodIn_app (goodIn_of _ (by decide +kernel)) ggL_should_X7_should
set_option maxRecDepth 20000 in
theorem ggL_order_X7_order : GoodIn wsL_order wsX7_order := goodIn_ca (goodIn_r _ [6, 7, 8, 9, 10, 11, 12, 13, 5, 14, 15, 16, 17, 18, 19, 20, 21, 22, 23, 24, 25, 26, 27, 28, 29, 30, 31, 32, 33, 34, 35, 36, 37, 38, 39, 40, 41, 42, 43, 44, 45, 46, 47, 48, 49, 50, 51, 52, 53, 54, 55, 56, 57, 58, 59, 60, 61, 62, 63, 64, 65, 66, 67, 68, 69, 70, 71, 72, 73, 74, 75, 76, 77, 78, 79, 80, 81, 82, 83, 84, 85, 86, 87, 88, 89, 90, 91, 92, 93, 94] rfl (by decide +kernel)) (goodIn_sub (fun _ h => List.mem_cons_of_mem _ (List.mem_append_right _ h)) (by decide +kernel))
set_option maxRecDepth 20000 in
theorem gL_order_X7_order : GoodIn wsL_order (wsV RL 64 RX7 yX7_order wsX7_order) := goodIn_app (goodIn_of _ (by decide +kernel)) ggL_order_X7_order
set_option maxRecDepth 20000 in
theorem ggL_law_X7_init : GoodIn wsL_law wsX7_init := goodIn_r _ [9, 10, 11, 12, 13, 14, 15, 16, 17, 18, 19, 20, 21, 22, 23, 24, 25, 26, 27, 28, 29, 30, 31, 32, 33, 34, 35, 36, 37, 38, 39, 40, 41, 42, 43, 44, 45, 46, 47, 48, 49, 50, 51, 52, 53, 54, 55, 56, 57, 58, 59, 60, 61, 62, 63, 64, 65, 66, 67, 68, 69, 70, 71, 72, 73, 74, 75, 76, 77, 78, 79, 80, 81, 82, 83, 708, 709, 710, 711, 712, 713, 714, 715, 716, 717, 752, 753, 754, 755, 756, 757, 758, 759, 760, 761, 762, 763, 764, 765, 766, 767, 768, 769, 770, 771, 772] rfl (by decide +kernel)
set_option maxRecDepth 20000 in
theorem gL_law_X7_init : GoodIn wsL_law (wsX7_init) := ggL_law_X7_init
set_option maxRecDepth 20000 in
theorem ggL_law_X8_init : GoodIn wsL_law wsX8_init := goodIn_r _ [86, 87, 11, 12, 31, 88, 89, 90, 91, 92, 93, 94, 52, 95, 96, 97, 98, 99, 100, 101, 102, 103, 104, 105, 106, 107, 108, 109, 61, 110, 111, 112, 113, 718, 719, 720, 721, 722, 723, 724, 725, 726, 727, 728, 729, 730, 731, 732, 733, 734, 735, 736, 737, 738, 739, 740, 741, 742, 743, 744, 745, 746, 747, 748, 749, 750, 751] rfl (by decide +kernel)
set_option maxRecDepth 20000 in
theorem gL_law_X8_init : GoodIn wsL_law (wsX8_init) := ggL_law_X8_init
set_option maxRecDepth 20000 in
theorem ggL_law_X7_feed : GoodIn wsL_law wsX7_feed := goodIn_r _ [117, 26, 118, 119, 120, 25, 121, 122, 62, 123, 124, 125, 126, 127, 128, 129, 130, 708, 709, 710, 711, 712, 713, 714, 715, 716, 717, 756, 757] rfl (by decide +kernel)
set_option maxRecDepth 20000 in
theorem gL_law_X7_feed : GoodIn wsL_law (wsV RL 71 RX7 yX7_feed wsX7_feed) := goodIn_app (goodIn_of _ (by decide +kernel)) ggL_law_X7_feed
set_option maxRecDepth 20000 in
theorem ggL_law_X8_feed : GoodIn wsL_law wsX8_feed := goodIn_r _ [134, 135, 136, 112, 110, 718, 719, 720, 721, 722, 723, 724, 725, 726, 727, 728, 729, 730, 731, 732, 733, 734, 735, 736, 737, 738, 739, 740, 741, 742, 743, 744, 745, 746, 747, 748, 749, 750, 751] rfl (by decide +kernel)
set_option maxRecDepth 20000 in
theorem gL_law_X8_feed : GoodIn wsL_law (wsV RL 75 RX8 yX8_feed wsX8_feed) := goodIn_app (goodIn_of _ (by decide +kernel)) ggL_law_X8_feed
set_option maxRecDepth 20000 in
theorem ggL_law_X7_end : GoodIn wsL_law wsX7_end := goodIn_r _ [140, 26, 141, 142, 143, 25, 144, 122, 708, 709, 710, 711, 712, 713, 714, 715, 716, 717, 756, 757] rfl (by decide +kernel)
set_option maxRecDepth 20000 in
theorem gL_law_X7_end : GoodIn wsL_law (wsV RL 76 RX7 yX7_end wsX7_end) := goodIn_app (goodIn_of _ (by decide +kernel)) ggL_law_X7_end
set_option maxRecDepth 20000 in
theorem ggL_law_X8_end : GoodIn wsL_law wsX8_end := goodIn_r _ [148, 135, 136, 718, 719, 720, 721, 722, 723, 724, 725, 726, 727, 728, 729, 730, 731, 732, 733, 734, 735, 736, 737, 738, 739, 740, 741, 742, 743, 744, 745, 746, 747, 748, 749, 750, 751] rfl (by decide +kernel)
set_option maxRecDepth 20000 in
theorem gL_law_X8_end : GoodIn wsL_law (wsV RL 79 RX8 yX8_end wsX8_end) := goodIn_app (goodIn_of _ (by decide +kernel)) ggL_law_X8_end
set_option maxRecDepth 20000 in
theorem ggL_law_L_leg : GoodIn wsL_law wsL_leg := goodIn_ca (goodIn_ca (goodIn_ca (goodIn_r _ [152, 153, 154, 155, 156, 157, 158, 2, 159, 160, 161, 162, 163, 164, 14, 13, 165, 166, 167, 168, 169, 170, 171, 172, 173, 174, 175, 176, 177, 178, 179, 180, 181, 182, 183, 11, 12, 184, 185, 186, 187, 188, 189, 190, 191, 708, 709, 710, 711, 712, 713, 714, 715, 716, 717, 773, 774, 775, 776, 777, 778, 779, 780, 781, 782, 783, 784, 785, 786] rfl (by decide +kernel)) (goodIn_sub (fun _ h => List.mem_append_left _ (List.mem_append_left _ (List.mem_append_left _ (List.mem_append_right _ h)))) (by decide +kernel))) (goodIn_sub (fun _ h => List.mem_append_left _ (List.mem_append_left _ (List.mem_append_right _ h))) (by decide +kernel))) (goodIn_sub (fun _ h => List.mem_append_left _ (List.mem_append_right _ h)) (by decide +kernel))
set_option maxRecDepth 20000 in
theorem gL_law_L_leg : GoodIn wsL_law (va_wsS RL 80 yL_leg wsL_leg) := goodIn_app (goodIn_of _ (by decide +kernel)) ggL_law_L_leg
set_option maxRecDepth 20000 in
theorem ggL_law_X8_leg : GoodIn wsL_law wsX8_leg := goodIn_r _ [195, 135, 196, 89, 88, 90, 197, 91, 92, 97, 98, 99, 198, 199, 5, 200, 201, 202, 203, 204, 718, 719, 720, 721, 722, 723, 724, 725, 726, 727, 728, 729, 730, 731, 732, 733, 734, 735, 736, 737, 738, 739, 740, 741, 742, 743, 744, 745, 746, 747, 748, 749, 750, 751] rfl (by decide +kernel)
set_option maxRecDepth 20000 in
theorem gL_law_X8_leg : GoodIn wsL_law (wsV RL 85 RX8 yX8_leg wsX8_leg) := goodIn_app (goodIn_of _ (by decide +kernel)) ggL_law_X8_leg
set_option maxRecDepth 20000 in
theorem ggL_law_L_hang : GoodIn wsL_law wsL_hang := goodIn_ca (goodIn_r _ [207, 153, 208, 209, 210, 2, 211, 18, 212, 213, 214, 215, 171, 172, 14, 216, 217, 218, 173, 174, 175, 219, 220, 221, 17, 222, 45, 223, 224, 225, 226, 227, 228, 229, 230, 773, 774, 775, 776, 777, 778, 779, 780, 781, 782, 783, 784, 785, 786, 708, 709, 710, 711, 712, 713, 714, 715, 716, 717, 752] rfl (by decide +kernel)) (goodIn_sub (fun _ h => List.mem_append_left _ (List.mem_append_right _ h)) (by decide +kernel))
set_option maxRecDepth 20000 in
theorem gL_law_L_hang : GoodIn wsL_law (va_wsS RL 86 yL_hang wsL_hang) := goodIn_app (goodIn_of _ (by decide +kernel)) ggL_law_L_hang
set_option maxRecDepth 20000 in
theorem ggL_law_X8_hang : GoodIn wsL_law wsX8_hang := goodIn_r _ [234, 135, 96, 100, 98, 235, 236, 237, 5, 238, 196, 198, 199, 200, 239, 240, 241, 201, 202, 203, 204, 242, 243, 244, 245, 718, 719, 720, 721, 722, 723, 724, 725, 726, 727, 728, 729, 730, 731, 732, 733, 734, 735, 736, 737, 738, 739, 740, 741, 742, 743, 744, 745, 746, 747, 748, 749, 750, 751] rfl (by decide +kernel)
set_option maxRecDepth 20000 in
theorem gL_law_X8_hang : GoodIn wsL_law (wsV RL 88 RX8 yX8_hang wsX8_hang) := goodIn_app (goodIn_of _ (by decide +kernel)) ggL_law_X8_hang
set_option maxRecDepth 20000 in
theorem ggL_law_L_take : GoodIn wsL_law wsL_take := goodIn_ca (goodIn_r _ [248, 153, 249, 250, 251, 2, 252, 18, 212, 213, 214, 215, 171, 172, 14, 253, 254, 255, 166, 256, 184, 223, 224, 225, 17, 226, 45, 708, 709, 710, 711, 712, 713, 714, 715, 716, 717, 773, 774, 775, 776, 777, 778, 779, 780, 781, 782, 783, 784, 785, 786, 752] rfl (by decide +kernel)) (goodIn_sub (fun _ h => List.mem_append_left _ (List.mem_append_right _ h)) (by decide +kernel))
set_option maxRecDepth 20000 in
theorem gL_law_L_take : GoodIn wsL_law (va_wsS RL 89 yL_take wsL_take) := goodIn_app (goodIn_of _ (by decide +kernel)) ggL_law_L_take
set_option maxRecDepth 20000 in
theorem ggL_law_X8_take : GoodIn wsL_law wsX8_take := goodIn_r _ [260, 135, 98, 235, 236, 237, 5, 238, 196, 198, 199, 200, 201, 202, 203, 204, 242, 243, 244, 245, 100, 718, 719, 720, 721, 722, 723, 724, 725, 726, 727, 728, 729, 730, 731, 732, 733, 734, 735, 736, 737, 738, 739, 740, 741, 742, 743, 744, 745, 746, 747, 748, 749, 750, 751] rfl (by decide +kernel)
set_option maxRecDepth 20000 in
theorem gL_law_X8_take : GoodIn wsL_law (wsV RL 92 RX8 yX8_take wsX8_take) := goodIn_app (goodIn_of _ (by decide +kernel)) ggL_law_X8_take
set_option maxRecDepth 20000 in
theorem ggL_law_L_air : GoodIn wsL_law wsL_air := goodIn_ca (goodIn_ca (goodIn_r _ [263, 153, 154, 264, 265, 266, 2, 267, 171, 172, 160, 161, 22, 173, 174, 175, 268, 269, 270, 21, 271, 50, 51, 708, 709, 710, 711, 712, 713, 714, 715, 716, 717, 753, 754, 755] rfl (by decide +kernel)) (goodIn_sub (fun _ h => List.mem_append_left _ (List.mem_append_right _ h)) (by decide +kernel))) (goodIn_sub (fun _ h => List.mem_append_left _ (List.mem_append_left _ (List.mem_append_left _ (List.mem_append_right _ h)))) (by decide +kernel))
set_option maxRecDepth 20000 in
theorem gL_law_L_air : GoodIn wsL_law (va_wsS RL 93 yL_air wsL_air) := goodIn_app (goodIn_of _ (by decide +kernel)) ggL_law_L_air
set_option maxRecDepth 20000 in
theorem ggL_law_X8_air : GoodIn wsL_law wsX8_air := goodIn_r _ [275, 135, 101, 102, 198, 199, 5, 200, 201, 202, 203, 204, 718, 719, 720, 721, 722, 723, 724, 725, 726, 727, 728, 729, 730, 731, 732, 733, 734, 735, 736, 737, 738, 739, 740, 741, 742, 743, 744, 745, 746, 747, 748, 749, 750, 751] rfl (by decide +kernel)
set_option maxRecDepth 20000 in
theorem gL_law_X8_air : GoodIn wsL_law (wsV RL 96 RX8 yX8_air wsX8_air) := goodIn_app (goodIn_of _ (by decide +kernel)) ggL_law_X8_air
set_option maxRecDepth 20000 in
theorem ggL_law_L_open : GoodIn wsL_law wsL_open := goodIn_ca (goodIn_r _ [278, 153, 279, 280, 281, 2, 282, 171, 172, 22, 173, 174, 175, 283, 284, 285, 21, 286, 53, 708, 709, 710, 711, 712, 713, 714, 715, 716, 717, 753, 754, 755] rfl (by decide +kernel)) (goodIn_sub (fun _ h => List.mem_append_left _ (List.mem_append_right _ h)) (by decide +kernel))
set_option maxRecDepth 20000 in
theorem gL_law_L_open : GoodIn wsL_law (va_wsS RL 97 yL_open wsL_open) := goodIn_app (goodIn_of _ (by decide +kernel)) ggL_law_L_open
set_option maxRecDepth 20000 in
theorem ggL_law_X8_open : GoodIn wsL_law wsX8_open := goodIn_r _ [290, 135, 103, 198, 199, 5, 200, 201, 202, 203, 204, 718, 719, 720, 721, 722, 723, 724, 725, 726, 727, 728, 729, 730, 731, 732, 733, 734, 735, 736, 737, 738, 739, 740, 741, 742, 743, 744, 745, 746, 747, 748, 749, 750, 751] rfl (by decide +kernel)
set_option maxRecDepth 20000 in
theorem gL_law_X8_open : GoodIn wsL_law (wsV RL 100 RX8 yX8_open wsX8_open) := goodIn_app (goodIn_of _ (by decide +kernel)) ggL_law_X8_open
set_option maxRecDepth 20000 in
theorem ggL_law_L_days : GoodIn wsL_law wsL_days := goodIn_ca (goodIn_r _ [293, 154, 294, 295, 296, 2, 297, 160, 161, 167, 173, 174, 175, 298, 299, 300, 301, 22, 14, 302, 303, 304, 21, 305, 53, 50, 51, 306, 307, 308, 309, 310, 311, 312, 166, 313, 184, 314, 315, 316, 317, 318, 191, 319, 320, 321, 322, 323, 324, 325, 326, 327, 189, 328, 329, 330, 331, 332, 333, 334, 335, 336, 337, 338, 339, 340, 341, 708, 709, 710, 711, 712, 713, 714, 715, 716, 717, 773, 774, 775, 776, 777, 778, 779, 780, 781, 782, 783, 784, 785, 786, 753, 754, 755] rfl (by decide +kernel)) (goodIn_sub (fun _ h => List.mem_append_left _ (List.mem_append_left _ (List.mem_append_left _ (List.mem_append_right _ h)))) (by decide +kernel))
set_option maxRecDepth 20000 in
theorem gL_law_L_days : GoodIn wsL_law (va_wsS RL 101 yL_days wsL_days) := goodIn_app (goodIn_of _ (by decide +kernel)) ggL_law_L_days
set_option maxRecDepth 20000 in
theorem ggL_law_X8_days : GoodIn wsL_law wsX8_days := goodIn_r _ [345, 135, 197, 103, 101, 102, 196, 96, 198, 199, 5, 200, 201, 202, 203, 204, 346, 347, 348, 349, 98, 93, 92, 350, 325, 326, 327, 351, 94, 91, 95, 718, 719, 720, 721, 722, 723, 724, 725, 726, 727, 728, 729, 730, 731, 732, 733, 734, 735, 736, 737, 738, 739, 740, 741, 742, 743, 744, 745, 746, 747, 748, 749, 750, 751] rfl (by decide +kernel)
set_option maxRecDepth 20000 in
theorem gL_law_X8_days : GoodIn wsL_law (wsV RL 103 RX8 yX8_days wsX8_days) := goodIn_app (goodIn_of _ (by decide +kernel)) ggL_law_X8_days
set_option maxRecDepth 20000 in
theorem ggL_law_L_rules : GoodIn wsL_law wsL_rules := goodIn_ca (goodIn_r _ [354, 154, 355, 356, 357, 2, 358, 160, 161, 30, 26, 32, 359, 360, 361, 29, 362, 363, 364, 68, 67, 69, 365, 55, 56, 57, 366, 367, 368, 369, 370, 371, 372, 373, 374, 128, 129, 25, 130, 122, 375, 376, 377, 378, 62, 379, 380, 381, 382, 174, 175, 383, 384, 385, 386, 387, 388, 389, 390, 391, 392, 393, 394, 395, 396, 397, 398, 399, 400, 401, 402, 403, 404, 405, 406, 407, 408, 409, 410, 411, 412, 413, 414, 415, 416, 417, 418, 419, 420, 421, 422, 423, 424, 425, 426, 427, 428, 429, 430, 431, 432, 433, 434, 435, 436, 437, 438, 439, 440, 441, 442, 443, 444, 445, 446, 447, 448, 449, 450, 451, 452, 453, 454, 708, 709, 710, 711, 712, 713, 714, 715, 716, 717, 758, 759, 760, 761, 762, 756, 757] rfl (by decide +kernel)) (goodIn_sub (fun _ h => List.mem_append_left _ (List.mem_append_left _ (List.mem_append_left _ (List.mem_append_right _ h)))) (by decide +kernel))
set_option maxRecDepth 20000 in
theorem gL_law_L_rules : GoodIn wsL_law (va_wsS RL 104 yL_rules wsL_rules) := goodIn_app (goodIn_of _ (by decide +kernel)) ggL_law_L_rules
set_option maxRecDepth 20000 in
theorem ggL_law_X8_rules : GoodIn wsL_law wsX8_rules := goodIn_r _ [458, 135, 136, 459, 460, 109, 461, 111, 108, 462, 463, 464, 5, 465, 466, 467, 468, 469, 470, 471, 472, 473, 110, 474, 475, 476, 477, 478, 391, 392, 393, 394, 395, 396, 397, 398, 399, 400, 401, 479, 403, 404, 405, 406, 407, 408, 409, 410, 411, 412, 413, 414, 415, 416, 417, 418, 419, 420, 421, 422, 423, 424, 425, 426, 427, 428, 429, 430, 431, 432, 433, 434, 435, 436, 437, 438, 480, 481, 482, 483, 201, 202, 203, 204, 718, 719, 720, 721, 722, 723, 724, 725, 726, 727, 728, 729, 730, 731, 732, 733, 734, 735, 736, 737, 738, 739, 740, 741, 742, 743, 744, 745, 746, 747, 748, 749, 750, 751] rfl (by decide +kernel)
set_option maxRecDepth 20000 in
theorem gL_law_X8_rules : GoodIn wsL_law (wsV RL 107 RX8 yX8_rules wsX8_rules) := goodIn_app (goodIn_of _ (by decide +kernel)) ggL_law_X8_rules
set_option maxRecDepth 20000 in
theorem ggL_law_X7_fault : GoodIn wsL_law wsX7_fault := goodIn_r _ [487, 30, 708, 709, 710, 711, 712, 713, 714, 715, 716, 717, 758, 759, 760, 761, 762] rfl (by decide +kernel)
set_option maxRecDepth 20000 in
theorem gL_law_X7_fault : GoodIn wsL_law (wsV RL 108 RX7 yX7_fault wsX7_fault) := goodIn_app (goodIn_of _ (by decide +kernel)) ggL_law_X7_fault
set_option maxRecDepth 20000 in
theorem ggL_law_X8_fault : GoodIn wsL_law wsX8_fault := goodIn_r _ [491, 135, 111, 718, 719, 720, 721, 722, 723, 724, 725, 726, 727, 728, 729, 730, 731, 732, 733, 734, 735, 736, 737, 738, 739, 740, 741, 742, 743, 744, 745, 746, 747, 748, 749, 750, 751] rfl (by decide +kernel)
set_option maxRecDepth 20000 in
theorem gL_law_X8_fault : GoodIn wsL_law (wsV RL 111 RX8 yX8_fault wsX8_fault) := goodIn_app (goodIn_of _ (by decide +kernel)) ggL_law_X8_fault
set_option maxRecDepth 20000 in
theorem ggL_law_L_fed : GoodIn wsL_law wsL_fed := goodIn_ca (goodIn_ca (goodIn_r _ [494, 153, 154, 495, 496, 497, 2, 498, 160, 161, 36, 167, 168, 169, 170, 171, 172, 173, 174, 175, 499, 500, 501, 35, 502, 503, 73, 74, 75, 76, 504, 505, 506, 507, 14, 508, 509, 510, 511, 512, 513, 514, 515, 708, 709, 710, 711, 712, 713, 714, 715, 716, 717, 763, 764, 765, 766, 767, 773, 774, 775, 776, 777, 778, 779, 780, 781, 782, 783, 784, 785, 786] rfl (by decide +kernel)) (goodIn_sub (fun _ h => List.mem_append_left _ (List.mem_append_left _ (List.mem_append_left _ (List.mem_append_right _ h)))) (by decide +kernel))) (goodIn_sub (fun _ h => List.mem_append_left _ (List.mem_append_right _ h)) (by decide +kernel))
set_option maxRecDepth 20000 in
theorem gL_law_L_fed : GoodIn wsL_law (va_wsS RL 112 yL_fed wsL_fed) := goodIn_app (goodIn_of _ (by decide +kernel)) ggL_law_L_fed
set_option maxRecDepth 20000 in
theorem ggL_law_X8_fed : GoodIn wsL_law wsX8_fed := goodIn_r _ [519, 135, 520, 104, 105, 106, 107, 197, 196, 96, 97, 88, 90, 198, 199, 5, 200, 201, 202, 203, 204, 521, 522, 523, 524, 718, 719, 720, 721, 722, 723, 724, 725, 726, 727, 728, 729, 730, 731, 732, 733, 734, 735, 736, 737, 738, 739, 740, 741, 742, 743, 744, 745, 746, 747, 748, 749, 750, 751] rfl (by decide +kernel)
set_option maxRecDepth 20000 in
theorem gL_law_X8_fed : GoodIn wsL_law (wsV RL 114 RX8 yX8_fed wsX8_fed) := goodIn_app (goodIn_of _ (by decide +kernel)) ggL_law_X8_fed
set_option maxRecDepth 20000 in
theorem ggL_law_L_known : GoodIn wsL_law wsL_known := goodIn_ca (goodIn_r _ [527, 153, 528, 529, 530, 2, 531, 36, 168, 169, 170, 171, 172, 173, 174, 175, 512, 513, 514, 35, 515, 503, 73, 76, 74, 75, 708, 709, 710, 711, 712, 713, 714, 715, 716, 717, 763, 764, 765, 766, 767] rfl (by decide +kernel)) (goodIn_sub (fun _ h => List.mem_append_left _ (List.mem_append_right _ h)) (by decide +kernel))
set_option maxRecDepth 20000 in
theorem gL_law_L_known : GoodIn wsL_law (va_wsS RL 115 yL_known wsL_known) := goodIn_app (goodIn_of _ (by decide +kernel)) ggL_law_L_known
set_option maxRecDepth 20000 in
theorem ggL_law_X8_known : GoodIn wsL_law wsX8_known := goodIn_r _ [535, 135, 198, 199, 5, 200, 201, 202, 203, 204, 521, 522, 523, 524, 520, 104, 107, 105, 106, 718, 719, 720, 721, 722, 723, 724, 725, 726, 727, 728, 729, 730, 731, 732, 733, 734, 735, 736, 737, 738, 739, 740, 741, 742, 743, 744, 745, 746, 747, 748, 749, 750, 751] rfl (by decide +kernel)
set_option maxRecDepth 20000 in
theorem gL_law_X8_known : GoodIn wsL_law (wsV RL 117 RX8 yX8_known wsX8_known) := goodIn_app (goodIn_of _ (by decide +kernel)) ggL_law_X8_known
set_option maxRecDepth 20000 in
theorem ggL_law_L_seal : GoodIn wsL_law wsL_seal := goodIn_ca (goodIn_r _ [538, 153, 539, 540, 541, 2, 542, 212, 213, 214, 215, 171, 172, 14, 543, 544, 545, 546, 167, 547, 548, 549, 550, 32, 551, 552, 553, 166, 554, 189, 191, 508, 509, 510, 511, 36, 512, 513, 514, 35, 515, 503, 73, 76, 74, 75, 773, 774, 775, 776, 777, 778, 779, 780, 781, 782, 783, 784, 785, 786, 708, 709, 710, 711, 712, 713, 714, 715, 716, 717, 763, 764, 765, 766, 767] rfl (by decide +kernel)) (goodIn_sub (fun _ h => List.mem_append_left _ (List.mem_append_right _ h)) (by decide +kernel))
set_option maxRecDepth 20000 in
theorem gL_law_L_seal : GoodIn wsL_law (va_wsS RL 118 yL_seal wsL_seal) := goodIn_app (goodIn_of _ (by decide +kernel)) ggL_law_L_seal
set_option maxRecDepth 20000 in
theorem ggL_law_X8_seal : GoodIn wsL_law wsX8_seal := goodIn_r _ [558, 135, 97, 108, 235, 236, 237, 5, 238, 196, 198, 199, 200, 201, 202, 203, 204, 559, 560, 561, 562, 96, 95, 197, 90, 91, 92, 93, 88, 521, 522, 523, 524, 520, 104, 107, 105, 106, 718, 719, 720, 721, 722, 723, 724, 725, 726, 727, 728, 729, 730, 731, 732, 733, 734, 735, 736, 737, 738, 739, 740, 741, 742, 743, 744, 745, 746, 747, 748, 749, 750, 751] rfl (by decide +kernel)
set_option maxRecDepth 20000 in
theorem gL_law_X8_seal : GoodIn wsL_law (wsV RL 120 RX8 yX8_seal wsX8_seal) := goodIn_app (goodIn_of _ (by decide +kernel)) ggL_law_X8_seal
set_option maxRecDepth 20000 in
theorem ggL_law_L_look : GoodIn wsL_law wsL_look := goodIn_ca (goodIn_ca (goodIn_r _ [565, 153, 566, 567, 568, 569, 2, 570, 571, 572, 212, 213, 214, 215, 171, 172, 14, 253, 254, 255, 166, 256, 184, 573, 574, 575, 310, 311, 312, 313, 576, 577, 578, 579, 773, 774, 775, 776, 777, 778, 779, 780, 781, 782, 783, 784, 785, 786, 708, 709, 710, 711, 712, 713, 714, 715, 716, 717] rfl (by decide +kernel)) (goodIn_sub (fun _ h => List.mem_append_right _ h) (by decide +kernel))) (goodIn_sub (fun _ h => List.mem_append_left _ (List.mem_append_right _ h)) (by decide +kernel))
set_option maxRecDepth 20000 in
theorem gL_law_L_look : GoodIn wsL_law (va_wsS RL 121 yL_look wsL_look) := goodIn_app (goodIn_of _ (by decide +kernel)) ggL_law_L_look
set_option maxRecDepth 20000 in
theorem ggL_law_X8_look : GoodIn wsL_law wsX8_look := goodIn_r _ [583, 135, 92, 91, 93, 94, 96, 98, 97, 95, 88, 89, 90, 235, 236, 237, 5, 238, 196, 198, 199, 200, 201, 202, 203, 204, 718, 719, 720, 721, 722, 723, 724, 725, 726, 727, 728, 729, 730, 731, 732, 733, 734, 735, 736, 737, 738, 739, 740, 741, 742, 743, 744, 745, 746, 747, 748, 749, 750, 751] rfl (by decide +kernel)
set_option maxRecDepth 20000 in
theorem gL_law_X8_look : GoodIn wsL_law (wsV RL 124 RX8 yX8_look wsX8_look) := goodIn_app (goodIn_of _ (by decide +kernel)) ggL_law_X8_look
set_option maxRecDepth 20000 in
theorem ggL_law_L_on : GoodIn wsL_law wsL_on := goodIn_ca (goodIn_r _ [586, 153, 587, 588, 589, 2, 590, 18, 216, 217, 218, 171, 172, 173, 174, 175, 219, 220, 221, 17, 222, 45, 708, 709, 710, 711, 712, 713, 714, 715, 716, 717, 773, 774, 775, 776, 777, 778, 779, 780, 781, 782, 783, 784, 785, 786, 752] rfl (by decide +kernel)) (goodIn_sub (fun _ h => List.mem_append_left _ (List.mem_append_right _ h)) (by decide +kernel))
set_option maxRecDepth 20000 in
theorem gL_law_L_on : GoodIn wsL_law (va_wsS RL 125 yL_on wsL_on) := goodIn_app (goodIn_of _ (by decide +kernel)) ggL_law_L_on
set_option maxRecDepth 20000 in
theorem ggL_law_X8_on : GoodIn wsL_law wsX8_on := goodIn_r _ [594, 135, 100, 239, 240, 5, 241, 198, 199, 200, 201, 202, 203, 204, 718, 719, 720, 721, 722, 723, 724, 725, 726, 727, 728, 729, 730, 731, 732, 733, 734, 735, 736, 737, 738, 739, 740, 741, 742, 743, 744, 745, 746, 747, 748, 749, 750, 751] rfl (by decide +kernel)
set_option maxRecDepth 20000 in
theorem gL_law_X8_on : GoodIn wsL_law (wsV RL 127 RX8 yX8_on wsX8_on) := goodIn_app (goodIn_of _ (by decide +kernel)) ggL_law_X8_on
set_option maxRecDepth 20000 in
theorem ggL_law_L_should : GoodIn wsL_law wsL_should := goodIn_ca (goodIn_r _ [597, 153, 598, 599, 600, 2, 601, 212, 213, 214, 215, 171, 172, 14, 216, 217, 218, 173, 174, 175, 602, 603, 604, 166, 605, 184, 606, 607, 608, 609, 773, 774, 775, 776, 777, 778, 779, 780, 781, 782, 783, 784, 785, 786, 708, 709, 710, 711, 712, 713, 714, 715, 716, 717] rfl (by decide +kernel)) (goodIn_sub (fun _ h => List.mem_append_left _ (List.mem_append_right _ h)) (by decide +kernel))
set_option maxRecDepth 20000 in
theorem gL_law_L_should : GoodIn wsL_law (va_wsS RL 128 yL_should wsL_should) := goodIn_app (goodIn_of _ (by decide +kernel)) ggL_law_L_should
set_option maxRecDepth 20000 in
theorem ggL_law_X8_should : GoodIn wsL_law wsX8_should := goodIn_r _ [613, 135, 98, 196, 99, 235, 236, 237, 5, 238, 198, 199, 200, 239, 240, 241, 201, 202, 203, 204, 718, 719, 720, 721, 722, 723, 724, 725, 726, 727, 728, 729, 730, 731, 732, 733, 734, 735, 736, 737, 738, 739, 740, 741, 742, 743, 744, 745, 746, 747, 748, 749, 750, 751] rfl (by decide +kernel)
set_option maxRecDepth 20000 in
theorem gL_law_X8_should : GoodIn wsL_law (wsV RL 130 RX8 yX8_should wsX8_should) := goodIn_app (goodIn_of _ (by decide +kernel)) ggL_law_X8_should
set_option maxRecDepth 20000 in
theorem ggL_law_X7_moves : GoodIn wsL_law wsX7_moves := goodIn_r _ [617, 18, 14, 618, 619, 620, 17, 621, 45, 622, 623, 624, 625, 626, 220, 221, 222, 627, 628, 629, 630, 708, 709, 710, 711, 712, 713, 714, 715, 716, 717, 773, 774, 775, 776, 777, 778, 779, 780, 781, 782, 783, 784, 785, 786, 752] rfl (by decide +kernel)
set_option maxRecDepth 20000 in
theorem gL_law_X7_moves : GoodIn wsL_law (wsV RL 131 RX7 yX7_moves wsX7_moves) := goodIn_app (goodIn_of _ (by decide +kernel)) ggL_law_X7_moves
set_option maxRecDepth 20000 in
theorem ggL_law_X8_moves : GoodIn wsL_law wsX8_moves := goodIn_r _ [634, 135, 196, 99, 635, 636, 637, 5, 638, 100, 98, 639, 640, 326, 641, 642, 643, 644, 645, 718, 719, 720, 721, 722, 723, 724, 725, 726, 727, 728, 729, 730, 731, 732, 733, 734, 735, 736, 737, 738, 739, 740, 741, 742, 743, 744, 745, 746, 747, 748, 749, 750, 751] rfl (by decide +kernel)
set_option maxRecDepth 20000 in
theorem gL_law_X8_moves : GoodIn wsL_law (wsV RL 134 RX8 yX8_moves wsX8_moves) := goodIn_app (goodIn_of _ (by decide +kernel)) ggL_law_X8_moves
set_option maxRecDepth 20000 in
theorem ggL_law_L_order : GoodIn wsL_law wsL_order := goodIn_ca (goodIn_r _ [648, 154, 649, 650, 651, 2, 652, 160, 161, 653, 40, 14, 173, 174, 175, 654, 655, 656, 39, 657, 658, 659, 253, 254, 255, 166, 256, 184, 660, 661, 662, 663, 81, 82, 83, 664, 665, 666, 667, 668, 669, 670, 671, 672, 673, 674, 675, 676, 677, 678, 679, 680, 681, 682, 18, 683, 684, 685, 686, 223, 224, 225, 17, 226, 45, 708, 709, 710, 711, 712, 713, 714, 715, 716, 717, 773, 774, 775, 776, 777, 778, 779, 780, 781, 782, 783, 784, 785, 786, 768, 769, 770, 771, 772, 752] rfl (by decide +kernel)) (goodIn_sub (fun _ h => List.mem_append_left _ (List.mem_append_left _ (List.mem_append_left _ (List.mem_append_right _ h)))) (by decide +kernel))
set_option maxRecDepth 20000 in
theorem gL_law_L_order : GoodIn wsL_law (va_wsS RL 135 yL_order wsL_order) := goodIn_app (goodIn_of _ (by decide +kernel)) ggL_law_L_order
set_option maxRecDepth 20000 in
theorem ggL_law_X8_order : GoodIn wsL_law wsX8_order := goodIn_r _ [690, 135, 691, 196, 97, 98, 95, 113, 92, 96, 198, 199, 5, 200, 201, 202, 203, 204, 692, 673, 674, 675, 676, 677, 678, 242, 243, 244, 245, 100, 718, 719, 720, 721, 722, 723, 724, 725, 726, 727, 728, 729, 730, 731, 732, 733, 734, 735, 736, 737, 738, 739, 740, 741, 742, 743, 744, 745, 746, 747, 748, 749, 750, 751] rfl (by decide +kernel)
set_option maxRecDepth 20000 in
theorem gL_law_X8_order : GoodIn wsL_law (wsV RL 137 RX8 yX8_order wsX8_order) := goodIn_app (goodIn_of _ (by decide +kernel)) ggL_law_X8_order
set_option maxRecDepth 20000 in
theorem ggL_law_X7_count : GoodIn wsL_law wsX7_count := goodIn_r _ [696, 167, 164, 36, 697, 698, 699, 2, 700, 14, 701, 702, 703, 253, 254, 255, 166, 256, 184, 573, 574, 575, 708, 709, 710, 711, 712, 713, 714, 715, 716, 717, 763, 764, 765, 766, 767, 773, 774, 775, 776, 777, 778, 779, 780, 781, 782, 783, 784, 785, 786] rfl (by decide +kernel)
set_option maxRecDepth 20000 in
theorem gL_law_X7_count : GoodIn wsL_law (wsV RL 138 RX7 yX7_count wsX7_count) := goodIn_app (goodIn_of _ (by decide +kernel)) ggL_law_X7_count
set_option maxRecDepth 20000 in
theorem ggL_law_X8_count : GoodIn wsL_law wsX8_count := goodIn_r _ [707, 135, 197, 196, 520, 98, 97, 95, 96, 92, 99, 198, 199, 5, 200, 718, 719, 720, 721, 722, 723, 724, 725, 726, 727, 728, 729, 730, 731, 732, 733, 734, 735, 736, 737, 738, 739, 740, 741, 742, 743, 744, 745, 746, 747, 748, 749, 750, 751] rfl (by decide +kernel)
set_option maxRecDepth 20000 in
theorem gL_law_X8_count : GoodIn wsL_law (wsV RL 141 RX8 yX8_count wsX8_count) := goodIn_app (goodIn_of _ (by decide +kernel)) ggL_law_X8_count
