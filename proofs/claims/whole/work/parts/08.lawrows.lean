theorem inlX0 : ∀ w ∈ wsX00, w ∈ wsL_law := fun _ h => List.mem_append_left _ (List.mem_append_left _ (List.mem_append_left _ (List.mem_append_left _ (List.mem_append_left _ (List.mem_append_left _ (List.mem_append_left _ (List.mem_append_right _ h)))))))
theorem inlX1 : ∀ w ∈ wsX10, w ∈ wsL_law := fun _ h => List.mem_append_left _ (List.mem_append_left _ (List.mem_append_left _ (List.mem_append_left _ (List.mem_append_right _ h))))
theorem inlX3 : ∀ w ∈ wsX30, w ∈ wsL_law := fun _ h => List.mem_append_left _ (List.mem_append_left _ (List.mem_append_left _ (List.mem_append_left _ (List.mem_append_left _ (List.mem_append_left _ (List.mem_append_left _ (List.mem_append_left _ (List.mem_append_right _ h))))))))
theorem inlX4 : ∀ w ∈ wsX40, w ∈ wsL_law := fun _ h => List.mem_append_left _ (List.mem_append_left _ (List.mem_append_left _ (List.mem_append_left _ (List.mem_append_left _ (List.mem_append_left _ (List.mem_append_left _ (List.mem_append_left _ (List.mem_append_left _ (List.mem_append_right _ h)))))))))
theorem inlX5 : ∀ w ∈ wsX50, w ∈ wsL_law := fun _ h => List.mem_append_left _ (List.mem_append_left _ (List.mem_append_left _ (List.mem_append_right _ h)))
theorem inlX7 : ∀ w ∈ wsX70, w ∈ wsL_law := fun _ h => List.mem_append_left _ (List.mem_append_left _ (List.mem_append_left _ (List.mem_append_left _ (List.mem_append_left _ (List.mem_append_left _ (List.mem_append_right _ h))))))
theorem inlX8 : ∀ w ∈ wsX80, w ∈ wsL_law := fun _ h => List.mem_append_left _ (List.mem_append_left _ (List.mem_append_right _ h))
theorem inlX9 : ∀ w ∈ wsX90, w ∈ wsL_law := fun _ h => List.mem_append_left _ (List.mem_append_right _ h)
theorem inlX10 : ∀ w ∈ wsX100, w ∈ wsL_law := fun _ h => List.mem_append_left _ (List.mem_append_left _ (List.mem_append_left _ (List.mem_append_left _ (List.mem_append_left _ (List.mem_append_right _ h)))))
theorem inlX11 : ∀ w ∈ wsX110, w ∈ wsL_law := fun _ h => List.mem_append_left _ (List.mem_append_left _ (List.mem_append_left _ (List.mem_append_left _ (List.mem_append_left _ (List.mem_append_left _ (List.mem_append_left _ (List.mem_append_left _ (List.mem_append_left _ (List.mem_append_left _ (List.mem_append_left _ (List.mem_append_right _ h)))))))))))
theorem inlX12 : ∀ w ∈ wsX120, w ∈ wsL_law := fun _ h => List.mem_append_left _ (List.mem_append_left _ (List.mem_append_left _ (List.mem_append_left _ (List.mem_append_left _ (List.mem_append_left _ (List.mem_append_left _ (List.mem_append_left _ (List.mem_append_left _ (List.mem_append_left _ (List.mem_append_right _ h))))))))))
theorem inJx8e188 : ∀ w ∈ wsJx8e1880, w ∈ lw_tbl := by decide +kernel
theorem inJ6 : ∀ w ∈ wsJ60, w ∈ lw_tbl := by decide +kernel
theorem inJ13 : ∀ w ∈ wsJ130, w ∈ lw_tbl := by decide +kernel
theorem inJ9 : ∀ w ∈ wsJ90, w ∈ lw_tbl := by decide +kernel
theorem inJ10 : ∀ w ∈ wsJ100, w ∈ lw_tbl := by decide +kernel
theorem inJ7 : ∀ w ∈ wsJ70, w ∈ lw_tbl := by decide +kernel
set_option maxRecDepth 20000 in
theorem ggL_law_X11_init : GoodIn wsL_law wsX11_init := goodIn_r _ [9, 10, 11, 12, 13, 14, 15, 16, 17, 18, 19, 20, 21, 22, 23, 24, 25, 26, 27, 28, 29, 30, 31, 32, 33, 34, 35, 36, 37, 38, 39, 40, 41, 42, 43, 44, 45, 46, 47, 48, 49, 50, 51, 52, 53, 54, 55, 56, 57, 58, 59, 60, 61, 62, 63, 64, 65, 66, 67, 68, 69, 70, 71, 72, 1011, 1012, 1013, 1014, 1015, 1016, 1017, 1018, 1019, 1020, 1021, 1022, 1056, 1057, 1058, 1059, 1060, 1061, 1062, 1063, 1064, 1065, 1066, 1067, 1068, 1069, 1070, 1071, 1072, 1073, 1074, 1075, 1076] (by decide +kernel) (by decide +kernel)
set_option maxRecDepth 20000 in
theorem gL_law_X11_init : GoodIn wsL_law (wsX11_init) := ggL_law_X11_init
set_option maxRecDepth 20000 in
theorem ggL_law_X12_init : GoodIn wsL_law wsX12_init := goodIn_r _ [75, 76, 11, 12, 16, 77, 78, 79, 80, 81, 39, 82, 83, 84, 85, 86, 87, 88, 89, 90, 91, 92, 93, 94, 95, 96, 97, 98, 99, 100, 101, 1023, 1024, 1025, 1026, 1027, 1028, 1029, 1030, 1031, 1032, 1033, 1034, 1035, 1036, 1037, 1038, 1039, 1040, 1041, 1042, 1043, 1044, 1045, 1046, 1047, 1048, 1049, 1050, 1051, 1052, 1053, 1054, 1055] (by decide +kernel) (by decide +kernel)
set_option maxRecDepth 20000 in
theorem gL_law_X12_init : GoodIn wsL_law (wsX12_init) := ggL_law_X12_init
set_option maxRecDepth 20000 in
theorem ggL_law_X11_tell : GoodIn wsL_law wsX11_tell := goodIn_r _ [105, 106, 18, 17, 107, 108, 2, 109, 1011, 1012, 1013, 1014, 1015, 1016, 1017, 1018, 1019, 1020, 1021, 1022] (by decide +kernel) (by decide +kernel)
set_option maxRecDepth 20000 in
theorem gL_law_X11_tell : GoodIn wsL_law (wsV RL 13 RX11 yX11_tell wsX11_tell) := goodIn_app (goodIn_of _ (by decide +kernel)) ggL_law_X11_tell
set_option maxRecDepth 20000 in
theorem ggL_law_X12_tell : GoodIn wsL_law wsX12_tell := goodIn_r _ [113, 114, 115, 77, 116, 117, 5, 118, 1023, 1024, 1025, 1026, 1027, 1028, 1029, 1030, 1031, 1032, 1033, 1034, 1035, 1036, 1037, 1038, 1039, 1040, 1041, 1042, 1043, 1044, 1045, 1046, 1047, 1048, 1049, 1050, 1051, 1052, 1053, 1054, 1055] (by decide +kernel) (by decide +kernel)
set_option maxRecDepth 20000 in
theorem gL_law_X12_tell : GoodIn wsL_law (wsV RL 17 RX12 yX12_tell wsX12_tell) := goodIn_app (goodIn_of _ (by decide +kernel)) ggL_law_X12_tell
set_option maxRecDepth 20000 in
theorem ggL_law_X11_untell : GoodIn wsL_law wsX11_untell := goodIn_r _ [122, 18, 1011, 1012, 1013, 1014, 1015, 1016, 1017, 1018, 1019, 1020, 1021, 1022] (by decide +kernel) (by decide +kernel)
set_option maxRecDepth 20000 in
theorem gL_law_X11_untell : GoodIn wsL_law (wsV RL 18 RX11 yX11_untell wsX11_untell) := goodIn_app (goodIn_of _ (by decide +kernel)) ggL_law_X11_untell
set_option maxRecDepth 20000 in
theorem ggL_law_X12_untell : GoodIn wsL_law wsX12_untell := goodIn_r _ [126, 115, 1023, 1024, 1025, 1026, 1027, 1028, 1029, 1030, 1031, 1032, 1033, 1034, 1035, 1036, 1037, 1038, 1039, 1040, 1041, 1042, 1043, 1044, 1045, 1046, 1047, 1048, 1049, 1050, 1051, 1052, 1053, 1054, 1055] (by decide +kernel) (by decide +kernel)
set_option maxRecDepth 20000 in
theorem gL_law_X12_untell : GoodIn wsL_law (wsV RL 22 RX12 yX12_untell wsX12_untell) := goodIn_app (goodIn_of _ (by decide +kernel)) ggL_law_X12_untell
set_option maxRecDepth 20000 in
theorem ggL_law_X11_plain : GoodIn wsL_law wsX11_plain := goodIn_r _ [130, 131, 132, 133, 134, 135, 136, 2, 137, 138, 107, 108, 109, 139, 140, 141, 142, 15, 143, 144, 145, 146, 147, 148, 149, 150, 151, 152, 153, 154, 155, 156, 11, 12, 157, 158, 159, 160, 161, 14, 1077, 1078, 1079, 1011, 1012, 1013, 1014, 1015, 1016, 1017, 1018, 1019, 1020, 1021, 1022, 1080, 1081, 1082, 1083, 1084, 1085, 1086, 1087, 1088, 1089, 1090, 1091, 1092, 1093] (by decide +kernel) (by decide +kernel)
set_option maxRecDepth 20000 in
theorem gL_law_X11_plain : GoodIn wsL_law (wsV RL 23 RX11 yX11_plain wsX11_plain) := goodIn_app (goodIn_of _ (by decide +kernel)) ggL_law_X11_plain
set_option maxRecDepth 20000 in
theorem ggL_law_X12_plain : GoodIn wsL_law wsX12_plain := goodIn_r _ [165, 166, 167, 168, 5, 169, 170, 171, 172, 79, 116, 117, 118, 173, 174, 175, 176, 78, 1023, 1024, 1025, 1026, 1027, 1028, 1029, 1030, 1031, 1032, 1033, 1034, 1035, 1036, 1037, 1038, 1039, 1040, 1041, 1042, 1043, 1044, 1045, 1046, 1047, 1048, 1049, 1050, 1051, 1052, 1053, 1054, 1055] (by decide +kernel) (by decide +kernel)
set_option maxRecDepth 20000 in
theorem gL_law_X12_plain : GoodIn wsL_law (wsV RL 26 RX12 yX12_plain wsX12_plain) := goodIn_app (goodIn_of _ (by decide +kernel)) ggL_law_X12_plain
set_option maxRecDepth 20000 in
theorem ggL_law_X11_twofold : GoodIn wsL_law wsX11_twofold := goodIn_r _ [180, 181, 182, 183, 135, 136, 2, 137, 138, 107, 108, 109, 139, 140, 141, 142, 15, 184, 185, 186, 187, 188, 149, 150, 151, 152, 153, 154, 155, 156, 11, 12, 157, 158, 159, 160, 161, 14, 1092, 1093, 1011, 1012, 1013, 1014, 1015, 1016, 1017, 1018, 1019, 1020, 1021, 1022, 1080, 1081, 1082, 1083, 1084, 1085, 1086, 1087, 1088, 1089, 1090, 1091, 1077, 1078, 1079] (by decide +kernel) (by decide +kernel)
set_option maxRecDepth 20000 in
theorem gL_law_X11_twofold : GoodIn wsL_law (wsV RL 27 RX11 yX11_twofold wsX11_twofold) := goodIn_app (goodIn_of _ (by decide +kernel)) ggL_law_X11_twofold
set_option maxRecDepth 20000 in
theorem ggL_law_X12_twofold : GoodIn wsL_law wsX12_twofold := goodIn_r _ [192, 166, 167, 168, 5, 169, 170, 171, 172, 79, 116, 117, 118, 173, 174, 175, 176, 78, 1023, 1024, 1025, 1026, 1027, 1028, 1029, 1030, 1031, 1032, 1033, 1034, 1035, 1036, 1037, 1038, 1039, 1040, 1041, 1042, 1043, 1044, 1045, 1046, 1047, 1048, 1049, 1050, 1051, 1052, 1053, 1054, 1055] (by decide +kernel) (by decide +kernel)
set_option maxRecDepth 20000 in
theorem gL_law_X12_twofold : GoodIn wsL_law (wsV RL 30 RX12 yX12_twofold wsX12_twofold) := goodIn_app (goodIn_of _ (by decide +kernel)) ggL_law_X12_twofold
set_option maxRecDepth 20000 in
theorem ggL_law_X11_weighted : GoodIn wsL_law wsX11_weighted := goodIn_r _ [196, 18, 17, 131, 132, 133, 135, 136, 2, 137, 138, 107, 108, 109, 139, 140, 141, 142, 15, 197, 198, 199, 200, 201, 202, 203, 204, 205, 206, 16, 207, 208, 209, 210, 211, 212, 213, 214, 143, 144, 145, 146, 147, 148, 149, 150, 151, 152, 153, 154, 155, 156, 11, 12, 157, 158, 159, 160, 161, 14, 1011, 1012, 1013, 1014, 1015, 1016, 1017, 1018, 1019, 1020, 1021, 1022, 1077, 1078, 1079, 1080, 1081, 1082, 1083, 1084, 1085, 1086, 1087, 1088, 1089, 1090, 1091, 1092, 1093] (by decide +kernel) (by decide +kernel)
set_option maxRecDepth 20000 in
theorem gL_law_X11_weighted : GoodIn wsL_law (wsV RL 31 RX11 yX11_weighted wsX11_weighted) := goodIn_app (goodIn_of _ (by decide +kernel)) ggL_law_X11_weighted
set_option maxRecDepth 20000 in
theorem ggL_law_X12_weighted : GoodIn wsL_law wsX12_weighted := goodIn_r _ [218, 170, 171, 115, 219, 172, 87, 88, 77, 79, 116, 117, 5, 118, 173, 174, 175, 176, 78, 1023, 1024, 1025, 1026, 1027, 1028, 1029, 1030, 1031, 1032, 1033, 1034, 1035, 1036, 1037, 1038, 1039, 1040, 1041, 1042, 1043, 1044, 1045, 1046, 1047, 1048, 1049, 1050, 1051, 1052, 1053, 1054, 1055] (by decide +kernel) (by decide +kernel)
set_option maxRecDepth 20000 in
theorem gL_law_X12_weighted : GoodIn wsL_law (wsV RL 34 RX12 yX12_weighted wsX12_weighted) := goodIn_app (goodIn_of _ (by decide +kernel)) ggL_law_X12_weighted
set_option maxRecDepth 20000 in
theorem ggL_law_X11_turning : GoodIn wsL_law wsX11_turning := goodIn_r _ [223, 224, 225, 226, 107, 108, 2, 109, 139, 140, 141, 142, 15, 227, 228, 229, 230, 231, 232, 149, 150, 151, 152, 153, 154, 155, 156, 11, 12, 157, 158, 159, 160, 161, 14, 1089, 1090, 1091, 1011, 1012, 1013, 1014, 1015, 1016, 1017, 1018, 1019, 1020, 1021, 1022, 1080, 1081, 1082, 1083, 1084, 1085, 1086, 1087, 1088, 1092, 1093, 1077, 1078, 1079] (by decide +kernel) (by decide +kernel)
set_option maxRecDepth 20000 in
theorem gL_law_X11_turning : GoodIn wsL_law (wsV RL 35 RX11 yX11_turning wsX11_turning) := goodIn_app (goodIn_of _ (by decide +kernel)) ggL_law_X11_turning
set_option maxRecDepth 20000 in
theorem ggL_law_X12_turning : GoodIn wsL_law wsX12_turning := goodIn_r _ [236, 237, 238, 172, 80, 81, 116, 117, 5, 118, 173, 174, 175, 176, 78, 1023, 1024, 1025, 1026, 1027, 1028, 1029, 1030, 1031, 1032, 1033, 1034, 1035, 1036, 1037, 1038, 1039, 1040, 1041, 1042, 1043, 1044, 1045, 1046, 1047, 1048, 1049, 1050, 1051, 1052, 1053, 1054, 1055] (by decide +kernel) (by decide +kernel)
set_option maxRecDepth 20000 in
theorem gL_law_X12_turning : GoodIn wsL_law (wsV RL 39 RX12 yX12_turning wsX12_turning) := goodIn_app (goodIn_of _ (by decide +kernel)) ggL_law_X12_turning
set_option maxRecDepth 20000 in
theorem ggL_law_X11_divided : GoodIn wsL_law wsX11_divided := goodIn_r _ [242, 243, 244, 245, 107, 108, 2, 109, 246, 247, 248, 249, 250, 251, 139, 140, 141, 142, 15, 252, 253, 254, 255, 256, 257, 258, 259, 260, 149, 150, 151, 152, 153, 154, 155, 156, 11, 12, 157, 158, 159, 160, 161, 14, 1080, 1081, 1082, 1083, 1084, 1085, 1011, 1012, 1013, 1014, 1015, 1016, 1017, 1018, 1019, 1020, 1021, 1022, 1086, 1087, 1088, 1089, 1090, 1091, 1092, 1093, 1077, 1078, 1079] (by decide +kernel) (by decide +kernel)
set_option maxRecDepth 20000 in
theorem gL_law_X11_divided : GoodIn wsL_law (wsV RL 42 RX11 yX11_divided wsX11_divided) := goodIn_app (goodIn_of _ (by decide +kernel)) ggL_law_X11_divided
set_option maxRecDepth 20000 in
theorem ggL_law_X12_divided : GoodIn wsL_law wsX12_divided := goodIn_r _ [264, 265, 238, 172, 80, 82, 83, 84, 86, 116, 117, 5, 118, 173, 174, 175, 176, 78, 1023, 1024, 1025, 1026, 1027, 1028, 1029, 1030, 1031, 1032, 1033, 1034, 1035, 1036, 1037, 1038, 1039, 1040, 1041, 1042, 1043, 1044, 1045, 1046, 1047, 1048, 1049, 1050, 1051, 1052, 1053, 1054, 1055] (by decide +kernel) (by decide +kernel)
set_option maxRecDepth 20000 in
theorem gL_law_X12_divided : GoodIn wsL_law (wsV RL 46 RX12 yX12_divided wsX12_divided) := goodIn_app (goodIn_of _ (by decide +kernel)) ggL_law_X12_divided
set_option maxRecDepth 20000 in
theorem ggL_law_X11_square : GoodIn wsL_law wsX11_square := goodIn_r _ [269, 17, 18, 270, 271, 272, 107, 108, 2, 109, 273, 274, 275, 276, 139, 140, 141, 142, 15, 197, 198, 199, 200, 201, 202, 203, 204, 205, 206, 16, 207, 208, 209, 210, 211, 212, 213, 214, 277, 278, 279, 280, 281, 282, 153, 154, 155, 156, 11, 12, 157, 158, 159, 160, 161, 14, 1011, 1012, 1013, 1014, 1015, 1016, 1017, 1018, 1019, 1020, 1021, 1022, 1086, 1087, 1088, 1080, 1081, 1082, 1083, 1084, 1085, 1089, 1090, 1091, 1092, 1093, 1077, 1078, 1079] (by decide +kernel) (by decide +kernel)
set_option maxRecDepth 20000 in
theorem gL_law_X11_square : GoodIn wsL_law (wsV RL 47 RX11 yX11_square wsX11_square) := goodIn_app (goodIn_of _ (by decide +kernel)) ggL_law_X11_square
set_option maxRecDepth 20000 in
theorem ggL_law_X12_square : GoodIn wsL_law wsX12_square := goodIn_r _ [286, 170, 287, 115, 77, 172, 89, 79, 116, 117, 5, 118, 173, 174, 175, 176, 78, 1023, 1024, 1025, 1026, 1027, 1028, 1029, 1030, 1031, 1032, 1033, 1034, 1035, 1036, 1037, 1038, 1039, 1040, 1041, 1042, 1043, 1044, 1045, 1046, 1047, 1048, 1049, 1050, 1051, 1052, 1053, 1054, 1055] (by decide +kernel) (by decide +kernel)
set_option maxRecDepth 20000 in
theorem gL_law_X12_square : GoodIn wsL_law (wsV RL 50 RX12 yX12_square wsX12_square) := goodIn_app (goodIn_of _ (by decide +kernel)) ggL_law_X12_square
set_option maxRecDepth 20000 in
theorem ggL_law_X11_kind : GoodIn wsL_law wsX11_kind := goodIn_r _ [291, 292, 293, 294, 295, 2, 296, 15, 14, 107, 108, 109, 1080, 1081, 1082, 1083, 1084, 1085, 1086, 1087, 1088, 1089, 1090, 1091, 1092, 1093, 1077, 1078, 1079, 1011, 1012, 1013, 1014, 1015, 1016, 1017, 1018, 1019, 1020, 1021, 1022] (by decide +kernel) (by decide +kernel)
set_option maxRecDepth 20000 in
theorem gL_law_X11_kind : GoodIn wsL_law (wsV RL 51 RX11 yX11_kind wsX11_kind) := goodIn_app (goodIn_of _ (by decide +kernel)) ggL_law_X11_kind
set_option maxRecDepth 20000 in
theorem ggL_law_X12_kind : GoodIn wsL_law wsX12_kind := goodIn_r _ [300, 78, 301, 302, 303, 5, 304, 172, 116, 117, 118, 1023, 1024, 1025, 1026, 1027, 1028, 1029, 1030, 1031, 1032, 1033, 1034, 1035, 1036, 1037, 1038, 1039, 1040, 1041, 1042, 1043, 1044, 1045, 1046, 1047, 1048, 1049, 1050, 1051, 1052, 1053, 1054, 1055] (by decide +kernel) (by decide +kernel)
set_option maxRecDepth 20000 in
theorem gL_law_X12_kind : GoodIn wsL_law (wsV RL 54 RX12 yX12_kind wsX12_kind) := goodIn_app (goodIn_of _ (by decide +kernel)) ggL_law_X12_kind
set_option maxRecDepth 20000 in
theorem ggL_law_X11_put : GoodIn wsL_law wsX11_put := goodIn_r _ [308, 20, 19, 309, 310, 2, 311, 107, 108, 109, 1011, 1012, 1013, 1014, 1015, 1016, 1017, 1018, 1019, 1020, 1021, 1022] (by decide +kernel) (by decide +kernel)
set_option maxRecDepth 20000 in
theorem gL_law_X11_put : GoodIn wsL_law (wsV RL 55 RX11 yX11_put wsX11_put) := goodIn_app (goodIn_of _ (by decide +kernel)) ggL_law_X11_put
set_option maxRecDepth 20000 in
theorem ggL_law_X12_put : GoodIn wsL_law wsX12_put := goodIn_r _ [315, 316, 317, 90, 116, 117, 5, 118, 1023, 1024, 1025, 1026, 1027, 1028, 1029, 1030, 1031, 1032, 1033, 1034, 1035, 1036, 1037, 1038, 1039, 1040, 1041, 1042, 1043, 1044, 1045, 1046, 1047, 1048, 1049, 1050, 1051, 1052, 1053, 1054, 1055] (by decide +kernel) (by decide +kernel)
set_option maxRecDepth 20000 in
theorem gL_law_X12_put : GoodIn wsL_law (wsV RL 58 RX12 yX12_put wsX12_put) := goodIn_app (goodIn_of _ (by decide +kernel)) ggL_law_X12_put
set_option maxRecDepth 20000 in
theorem ggL_law_X11_set : GoodIn wsL_law wsX11_set := goodIn_r _ [321, 20, 19, 107, 108, 2, 109, 309, 310, 311, 1011, 1012, 1013, 1014, 1015, 1016, 1017, 1018, 1019, 1020, 1021, 1022] (by decide +kernel) (by decide +kernel)
set_option maxRecDepth 20000 in
theorem gL_law_X11_set : GoodIn wsL_law (wsV RL 59 RX11 yX11_set wsX11_set) := goodIn_app (goodIn_of _ (by decide +kernel)) ggL_law_X11_set
set_option maxRecDepth 20000 in
theorem ggL_law_X12_set : GoodIn wsL_law wsX12_set := goodIn_r _ [325, 317, 316, 90, 116, 117, 5, 118, 1023, 1024, 1025, 1026, 1027, 1028, 1029, 1030, 1031, 1032, 1033, 1034, 1035, 1036, 1037, 1038, 1039, 1040, 1041, 1042, 1043, 1044, 1045, 1046, 1047, 1048, 1049, 1050, 1051, 1052, 1053, 1054, 1055] (by decide +kernel) (by decide +kernel)
set_option maxRecDepth 20000 in
theorem gL_law_X12_set : GoodIn wsL_law (wsV RL 62 RX12 yX12_set wsX12_set) := goodIn_app (goodIn_of _ (by decide +kernel)) ggL_law_X12_set
set_option maxRecDepth 20000 in
theorem ggL_law_X11_at : GoodIn wsL_law wsX11_at := goodIn_r _ [329, 20, 19, 107, 108, 2, 109, 1011, 1012, 1013, 1014, 1015, 1016, 1017, 1018, 1019, 1020, 1021, 1022] (by decide +kernel) (by decide +kernel)
set_option maxRecDepth 20000 in
theorem gL_law_X11_at : GoodIn wsL_law (wsV RL 63 RX11 yX11_at wsX11_at) := goodIn_app (goodIn_of _ (by decide +kernel)) ggL_law_X11_at
set_option maxRecDepth 20000 in
theorem ggL_law_X12_at : GoodIn wsL_law wsX12_at := goodIn_r _ [333, 317, 90, 116, 117, 5, 118, 1023, 1024, 1025, 1026, 1027, 1028, 1029, 1030, 1031, 1032, 1033, 1034, 1035, 1036, 1037, 1038, 1039, 1040, 1041, 1042, 1043, 1044, 1045, 1046, 1047, 1048, 1049, 1050, 1051, 1052, 1053, 1054, 1055] (by decide +kernel) (by decide +kernel)
set_option maxRecDepth 20000 in
theorem gL_law_X12_at : GoodIn wsL_law (wsV RL 66 RX12 yX12_at wsX12_at) := goodIn_app (goodIn_of _ (by decide +kernel)) ggL_law_X12_at
set_option maxRecDepth 20000 in
theorem ggL_law_X11_cut : GoodIn wsL_law wsX11_cut := goodIn_r _ [337, 20, 107, 108, 2, 109, 1011, 1012, 1013, 1014, 1015, 1016, 1017, 1018, 1019, 1020, 1021, 1022] (by decide +kernel) (by decide +kernel)
set_option maxRecDepth 20000 in
theorem gL_law_X11_cut : GoodIn wsL_law (wsV RL 67 RX11 yX11_cut wsX11_cut) := goodIn_app (goodIn_of _ (by decide +kernel)) ggL_law_X11_cut
set_option maxRecDepth 20000 in
theorem ggL_law_X12_cut : GoodIn wsL_law wsX12_cut := goodIn_r _ [341, 317, 116, 117, 5, 118, 1023, 1024, 1025, 1026, 1027, 1028, 1029, 1030, 1031, 1032, 1033, 1034, 1035, 1036, 1037, 1038, 1039, 1040, 1041, 1042, 1043, 1044, 1045, 1046, 1047, 1048, 1049, 1050, 1051, 1052, 1053, 1054, 1055] (by decide +kernel) (by decide +kernel)
set_option maxRecDepth 20000 in
theorem gL_law_X12_cut : GoodIn wsL_law (wsV RL 70 RX12 yX12_cut wsX12_cut) := goodIn_app (goodIn_of _ (by decide +kernel)) ggL_law_X12_cut
set_option maxRecDepth 20000 in
theorem ggL_law_X11_sum : GoodIn wsL_law wsX11_sum := goodIn_r _ [345, 346, 21, 292, 19, 20, 293, 294, 295, 2, 296, 15, 14, 107, 108, 109, 347, 348, 349, 350, 245, 351, 257, 258, 352, 353, 354, 355, 259, 255, 256, 356, 357, 358, 250, 251, 359, 360, 272, 361, 280, 362, 363, 364, 365, 366, 281, 367, 368, 226, 369, 370, 371, 372, 373, 231, 230, 374, 375, 183, 376, 187, 377, 378, 379, 380, 381, 382, 133, 383, 146, 384, 385, 386, 387, 147, 1011, 1012, 1013, 1014, 1015, 1016, 1017, 1018, 1019, 1020, 1021, 1022, 1080, 1081, 1082, 1083, 1084, 1085, 1086, 1087, 1088, 1089, 1090, 1091, 1092, 1093, 1077, 1078, 1079] (by decide +kernel) (by decide +kernel)
set_option maxRecDepth 20000 in
theorem gL_law_X11_sum : GoodIn wsL_law (wsV RL 71 RX11 yX11_sum wsX11_sum) := goodIn_app (goodIn_of _ (by decide +kernel)) ggL_law_X11_sum
set_option maxRecDepth 20000 in
theorem ggL_law_X12_sum : GoodIn wsL_law wsX12_sum := goodIn_r _ [391, 392, 101, 78, 90, 317, 301, 302, 303, 5, 304, 172, 116, 117, 118, 393, 394, 395, 396, 79, 83, 88, 87, 81, 80, 397, 89, 82, 86, 171, 84, 398, 399, 400, 401, 402, 403, 404, 405, 406, 1023, 1024, 1025, 1026, 1027, 1028, 1029, 1030, 1031, 1032, 1033, 1034, 1035, 1036, 1037, 1038, 1039, 1040, 1041, 1042, 1043, 1044, 1045, 1046, 1047, 1048, 1049, 1050, 1051, 1052, 1053, 1054, 1055] (by decide +kernel) (by decide +kernel)
set_option maxRecDepth 20000 in
theorem gL_law_X12_sum : GoodIn wsL_law (wsV RL 75 RX12 yX12_sum wsX12_sum) := goodIn_app (goodIn_of _ (by decide +kernel)) ggL_law_X12_sum
set_option maxRecDepth 20000 in
theorem ggL_law_X11_joined : GoodIn wsL_law wsX11_joined := goodIn_r _ [410, 346, 411, 412, 413, 414, 293, 294, 295, 2, 296, 15, 14, 107, 108, 109, 415, 416, 417, 418, 245, 419, 255, 247, 248, 249, 250, 251, 420, 421, 226, 422, 230, 423, 424, 183, 425, 187, 426, 427, 428, 429, 430, 431, 432, 433, 434, 133, 435, 146, 436, 437, 438, 439, 150, 440, 441, 442, 443, 444, 445, 446, 147, 447, 448, 449, 450, 451, 258, 257, 452, 453, 454, 455, 256, 356, 357, 358, 456, 371, 373, 231, 457, 458, 459, 377, 378, 379, 380, 460, 461, 462, 463, 464, 465, 466, 467, 468, 469, 470, 471, 472, 473, 474, 475, 476, 1011, 1012, 1013, 1014, 1015, 1016, 1017, 1018, 1019, 1020, 1021, 1022, 1080, 1081, 1082, 1083, 1084, 1085, 1089, 1090, 1091, 1092, 1093, 1077, 1078, 1079] (by decide +kernel) (by decide +kernel)
set_option maxRecDepth 20000 in
theorem gL_law_X11_joined : GoodIn wsL_law (wsV RL 76 RX11 yX11_joined wsX11_joined) := goodIn_app (goodIn_of _ (by decide +kernel)) ggL_law_X11_joined
set_option maxRecDepth 20000 in
theorem ggL_law_X12_joined : GoodIn wsL_law wsX12_joined := goodIn_r _ [480, 392, 78, 481, 482, 483, 79, 171, 87, 397, 81, 80, 84, 83, 301, 302, 303, 5, 304, 172, 116, 117, 118, 484, 485, 486, 487, 488, 489, 490, 491, 398, 399, 400, 492, 493, 494, 495, 82, 404, 405, 406, 1023, 1024, 1025, 1026, 1027, 1028, 1029, 1030, 1031, 1032, 1033, 1034, 1035, 1036, 1037, 1038, 1039, 1040, 1041, 1042, 1043, 1044, 1045, 1046, 1047, 1048, 1049, 1050, 1051, 1052, 1053, 1054, 1055] (by decide +kernel) (by decide +kernel)
set_option maxRecDepth 20000 in
theorem gL_law_X12_joined : GoodIn wsL_law (wsV RL 80 RX12 yX12_joined wsX12_joined) := goodIn_app (goodIn_of _ (by decide +kernel)) ggL_law_X12_joined
set_option maxRecDepth 20000 in
theorem ggL_law_X11_other : GoodIn wsL_law wsX11_other := goodIn_r _ [499, 346, 411, 412, 413, 293, 294, 295, 2, 296, 15, 14, 107, 108, 109, 415, 416, 417, 418, 245, 419, 255, 247, 248, 249, 250, 251, 420, 421, 226, 422, 230, 423, 424, 183, 425, 187, 426, 427, 428, 429, 430, 431, 432, 433, 434, 133, 435, 146, 309, 310, 311, 500, 501, 502, 503, 504, 352, 353, 354, 355, 259, 256, 356, 357, 358, 452, 453, 454, 455, 505, 506, 507, 370, 371, 372, 373, 231, 508, 509, 510, 511, 512, 513, 514, 377, 378, 379, 380, 515, 516, 517, 384, 385, 386, 387, 147, 518, 463, 464, 465, 466, 467, 468, 469, 470, 471, 472, 473, 474, 475, 476, 1011, 1012, 1013, 1014, 1015, 1016, 1017, 1018, 1019, 1020, 1021, 1022, 1080, 1081, 1082, 1083, 1084, 1085, 1089, 1090, 1091, 1092, 1093, 1077, 1078, 1079] (by decide +kernel) (by decide +kernel)
set_option maxRecDepth 20000 in
theorem gL_law_X11_other : GoodIn wsL_law (wsV RL 81 RX11 yX11_other wsX11_other) := goodIn_app (goodIn_of _ (by decide +kernel)) ggL_law_X11_other
set_option maxRecDepth 20000 in
theorem ggL_law_X12_other : GoodIn wsL_law wsX12_other := goodIn_r _ [522, 392, 78, 481, 482, 483, 79, 171, 88, 87, 81, 80, 82, 86, 301, 302, 303, 5, 304, 172, 116, 117, 118, 484, 485, 486, 487, 488, 489, 490, 491, 523, 524, 525, 316, 526, 527, 528, 398, 399, 400, 401, 402, 403, 404, 405, 406, 492, 493, 494, 495, 1023, 1024, 1025, 1026, 1027, 1028, 1029, 1030, 1031, 1032, 1033, 1034, 1035, 1036, 1037, 1038, 1039, 1040, 1041, 1042, 1043, 1044, 1045, 1046, 1047, 1048, 1049, 1050, 1051, 1052, 1053, 1054, 1055] (by decide +kernel) (by decide +kernel)
set_option maxRecDepth 20000 in
theorem gL_law_X12_other : GoodIn wsL_law (wsV RL 85 RX12 yX12_other wsX12_other) := goodIn_app (goodIn_of _ (by decide +kernel)) ggL_law_X12_other
set_option maxRecDepth 20000 in
theorem ggL_law_X11_less : GoodIn wsL_law wsX11_less := goodIn_r _ [532, 346, 411, 412, 413, 414, 293, 294, 295, 2, 296, 15, 14, 107, 108, 109, 415, 416, 417, 418, 245, 419, 255, 247, 248, 249, 250, 251, 420, 421, 226, 422, 230, 423, 424, 183, 425, 187, 426, 427, 428, 429, 430, 431, 432, 433, 434, 133, 435, 146, 309, 310, 311, 533, 534, 535, 536, 150, 537, 538, 539, 540, 541, 542, 543, 147, 500, 501, 502, 503, 504, 352, 353, 354, 355, 259, 256, 356, 357, 358, 452, 453, 454, 455, 505, 506, 507, 370, 371, 372, 373, 231, 508, 509, 510, 511, 512, 513, 514, 377, 378, 379, 380, 515, 516, 517, 384, 385, 386, 387, 518, 463, 464, 465, 466, 467, 468, 469, 470, 471, 472, 473, 474, 475, 476, 544, 545, 546, 547, 548, 549, 257, 550, 551, 552, 553, 554, 1011, 1012, 1013, 1014, 1015, 1016, 1017, 1018, 1019, 1020, 1021, 1022, 1080, 1081, 1082, 1083, 1084, 1085, 1089, 1090, 1091, 1092, 1093, 1077, 1078, 1079] (by decide +kernel) (by decide +kernel)
set_option maxRecDepth 20000 in
theorem gL_law_X11_less : GoodIn wsL_law (wsV RL 86 RX11 yX11_less wsX11_less) := goodIn_app (goodIn_of _ (by decide +kernel)) ggL_law_X11_less
set_option maxRecDepth 20000 in
theorem ggL_law_X12_less : GoodIn wsL_law wsX12_less := goodIn_r _ [558, 392, 78, 481, 482, 483, 79, 171, 87, 397, 88, 81, 80, 83, 82, 86, 301, 302, 303, 5, 304, 172, 116, 117, 118, 484, 485, 486, 487, 488, 489, 490, 491, 523, 524, 525, 316, 526, 527, 528, 398, 399, 400, 401, 402, 403, 404, 405, 406, 492, 493, 494, 495, 1023, 1024, 1025, 1026, 1027, 1028, 1029, 1030, 1031, 1032, 1033, 1034, 1035, 1036, 1037, 1038, 1039, 1040, 1041, 1042, 1043, 1044, 1045, 1046, 1047, 1048, 1049, 1050, 1051, 1052, 1053, 1054, 1055] (by decide +kernel) (by decide +kernel)
set_option maxRecDepth 20000 in
theorem gL_law_X12_less : GoodIn wsL_law (wsV RL 90 RX12 yX12_less wsX12_less) := goodIn_app (goodIn_of _ (by decide +kernel)) ggL_law_X12_less
set_option maxRecDepth 20000 in
theorem ggL_law_X11_sees : GoodIn wsL_law wsX11_sees := goodIn_r _ [562, 411, 25, 293, 294, 295, 2, 296, 15, 14, 107, 108, 109, 563, 564, 565, 566, 567, 568, 24, 569, 570, 571, 572, 573, 40, 41, 574, 575, 576, 577, 578, 501, 502, 503, 245, 504, 352, 353, 354, 355, 259, 255, 256, 356, 357, 358, 250, 251, 452, 453, 454, 455, 505, 506, 226, 507, 370, 371, 372, 373, 231, 230, 508, 509, 183, 510, 187, 511, 512, 513, 514, 377, 378, 379, 380, 515, 516, 133, 517, 146, 384, 385, 386, 387, 147, 518, 579, 580, 581, 582, 42, 583, 584, 585, 586, 587, 588, 589, 590, 43, 591, 592, 593, 594, 595, 596, 597, 598, 599, 600, 601, 602, 150, 603, 604, 464, 465, 466, 467, 468, 469, 470, 471, 472, 473, 426, 427, 428, 429, 430, 431, 432, 474, 475, 476, 605, 606, 607, 608, 609, 610, 611, 612, 44, 45, 613, 614, 615, 616, 46, 617, 618, 199, 619, 620, 621, 622, 623, 624, 625, 626, 627, 628, 629, 630, 631, 632, 633, 634, 635, 636, 637, 638, 639, 640, 641, 642, 1011, 1012, 1013, 1014, 1015, 1016, 1017, 1018, 1019, 1020, 1021, 1022, 1056, 1057, 1058, 1059, 1060, 1061, 1062, 1080, 1081, 1082, 1083, 1084, 1085, 1089, 1090, 1091, 1092, 1093, 1077, 1078, 1079] (by decide +kernel) (by decide +kernel)
set_option maxRecDepth 20000 in
theorem gL_law_X11_sees : GoodIn wsL_law (wsV RL 91 RX11 yX11_sees wsX11_sees) := goodIn_app (goodIn_of _ (by decide +kernel)) ggL_law_X11_sees
set_option maxRecDepth 20000 in
theorem ggL_law_X12_sees : GoodIn wsL_law wsX12_sees := goodIn_r _ [646, 78, 647, 265, 237, 301, 302, 303, 5, 304, 172, 116, 117, 118, 648, 649, 650, 651, 93, 94, 652, 653, 654, 655, 88, 87, 81, 80, 82, 86, 398, 399, 400, 401, 402, 403, 404, 405, 406, 492, 493, 494, 495, 656, 657, 658, 659, 660, 661, 662, 663, 664, 95, 665, 666, 667, 668, 669, 670, 91, 92, 671, 672, 673, 674, 675, 676, 677, 678, 679, 680, 681, 682, 79, 683, 684, 685, 686, 687, 688, 689, 690, 691, 692, 693, 694, 695, 696, 697, 698, 699, 1023, 1024, 1025, 1026, 1027, 1028, 1029, 1030, 1031, 1032, 1033, 1034, 1035, 1036, 1037, 1038, 1039, 1040, 1041, 1042, 1043, 1044, 1045, 1046, 1047, 1048, 1049, 1050, 1051, 1052, 1053, 1054, 1055] (by decide +kernel) (by decide +kernel)
set_option maxRecDepth 20000 in
theorem gL_law_X12_sees : GoodIn wsL_law (wsV RL 95 RX12 yX12_sees wsX12_sees) := goodIn_app (goodIn_of _ (by decide +kernel)) ggL_law_X12_sees
set_option maxRecDepth 20000 in
theorem ggL_law_X11_passes : GoodIn wsL_law wsX11_passes := goodIn_r _ [703, 25, 704, 705, 706, 107, 108, 2, 109, 1011, 1012, 1013, 1014, 1015, 1016, 1017, 1018, 1019, 1020, 1021, 1022, 1056, 1057, 1058, 1059, 1060, 1061, 1062] (by decide +kernel) (by decide +kernel)
set_option maxRecDepth 20000 in
theorem gL_law_X11_passes : GoodIn wsL_law (wsV RL 96 RX11 yX11_passes wsX11_passes) := goodIn_app (goodIn_of _ (by decide +kernel)) ggL_law_X11_passes
set_option maxRecDepth 20000 in
theorem ggL_law_X12_passes : GoodIn wsL_law wsX12_passes := goodIn_r _ [710, 687, 92, 91, 116, 117, 5, 118, 1023, 1024, 1025, 1026, 1027, 1028, 1029, 1030, 1031, 1032, 1033, 1034, 1035, 1036, 1037, 1038, 1039, 1040, 1041, 1042, 1043, 1044, 1045, 1046, 1047, 1048, 1049, 1050, 1051, 1052, 1053, 1054, 1055] (by decide +kernel) (by decide +kernel)
set_option maxRecDepth 20000 in
theorem gL_law_X12_passes : GoodIn wsL_law (wsV RL 100 RX12 yX12_passes wsX12_passes) := goodIn_app (goodIn_of _ (by decide +kernel)) ggL_law_X12_passes
set_option maxRecDepth 20000 in
theorem ggL_law_X11_signs : GoodIn wsL_law wsX11_signs := goodIn_r _ [714, 715, 293, 294, 295, 2, 296, 15, 14, 107, 108, 109, 716, 717, 718, 272, 719, 280, 363, 364, 365, 366, 281, 720, 721, 722, 723, 724, 725, 726, 727, 1011, 1012, 1013, 1014, 1015, 1016, 1017, 1018, 1019, 1020, 1021, 1022, 1086, 1087, 1088] (by decide +kernel) (by decide +kernel)
set_option maxRecDepth 20000 in
theorem gL_law_X11_signs : GoodIn wsL_law (wsV RL 101 RX11 yX11_signs wsX11_signs) := goodIn_app (goodIn_of _ (by decide +kernel)) ggL_law_X11_signs
set_option maxRecDepth 20000 in
theorem ggL_law_X12_signs : GoodIn wsL_law wsX12_signs := goodIn_r _ [731, 78, 170, 79, 301, 302, 303, 5, 304, 172, 116, 117, 118, 732, 733, 734, 735, 89, 1023, 1024, 1025, 1026, 1027, 1028, 1029, 1030, 1031, 1032, 1033, 1034, 1035, 1036, 1037, 1038, 1039, 1040, 1041, 1042, 1043, 1044, 1045, 1046, 1047, 1048, 1049, 1050, 1051, 1052, 1053, 1054, 1055] (by decide +kernel) (by decide +kernel)
set_option maxRecDepth 20000 in
theorem gL_law_X12_signs : GoodIn wsL_law (wsV RL 104 RX12 yX12_signs wsX12_signs) := goodIn_app (goodIn_of _ (by decide +kernel)) ggL_law_X12_signs
set_option maxRecDepth 20000 in
theorem ggL_law_X11_syndrome : GoodIn wsL_law wsX11_syndrome := goodIn_r _ [739, 346, 740, 412, 413, 293, 294, 295, 2, 296, 15, 14, 107, 108, 109, 741, 576, 577, 742, 574, 575, 743, 503, 744, 245, 504, 352, 353, 354, 355, 259, 255, 256, 356, 357, 358, 250, 251, 452, 453, 454, 455, 1011, 1012, 1013, 1014, 1015, 1016, 1017, 1018, 1019, 1020, 1021, 1022, 1080, 1081, 1082, 1083, 1084, 1085] (by decide +kernel) (by decide +kernel)
set_option maxRecDepth 20000 in
theorem gL_law_X11_syndrome : GoodIn wsL_law (wsV RL 105 RX11 yX11_syndrome wsX11_syndrome) := goodIn_app (goodIn_of _ (by decide +kernel)) ggL_law_X11_syndrome
set_option maxRecDepth 20000 in
theorem ggL_law_X12_syndrome : GoodIn wsL_law wsX12_syndrome := goodIn_r _ [748, 749, 483, 750, 751, 752, 5, 753, 78, 301, 302, 303, 304, 172, 116, 117, 118, 754, 755, 756, 757, 80, 82, 86, 401, 402, 403, 404, 405, 406, 492, 493, 494, 495, 1023, 1024, 1025, 1026, 1027, 1028, 1029, 1030, 1031, 1032, 1033, 1034, 1035, 1036, 1037, 1038, 1039, 1040, 1041, 1042, 1043, 1044, 1045, 1046, 1047, 1048, 1049, 1050, 1051, 1052, 1053, 1054, 1055] (by decide +kernel) (by decide +kernel)
set_option maxRecDepth 20000 in
theorem gL_law_X12_syndrome : GoodIn wsL_law (wsV RL 109 RX12 yX12_syndrome wsX12_syndrome) := goodIn_app (goodIn_of _ (by decide +kernel)) ggL_law_X12_syndrome
set_option maxRecDepth 20000 in
theorem ggL_law_X11_weight : GoodIn wsL_law wsX11_weight := goodIn_r _ [761, 740, 29, 762, 763, 764, 30, 31, 293, 294, 295, 2, 296, 15, 14, 107, 108, 109, 765, 766, 767, 28, 768, 51, 50, 769, 357, 245, 358, 250, 251, 770, 771, 772, 773, 774, 775, 776, 777, 778, 779, 780, 781, 782, 783, 784, 785, 786, 787, 788, 789, 55, 790, 791, 792, 54, 793, 59, 63, 794, 618, 199, 619, 795, 796, 797, 798, 62, 799, 800, 801, 802, 803, 804, 805, 806, 61, 60, 807, 808, 809, 810, 811, 812, 813, 814, 815, 816, 817, 818, 819, 820, 821, 822, 1011, 1012, 1013, 1014, 1015, 1016, 1017, 1018, 1019, 1020, 1021, 1022, 1080, 1081, 1082, 1083, 1084, 1085, 1063, 1064, 1065, 1072, 1073, 1074, 1075, 1076] (by decide +kernel) (by decide +kernel)
set_option maxRecDepth 20000 in
theorem gL_law_X11_weight : GoodIn wsL_law (wsV RL 110 RX11 yX11_weight wsX11_weight) := goodIn_app (goodIn_of _ (by decide +kernel)) ggL_law_X11_weight
set_option maxRecDepth 20000 in
theorem ggL_law_X12_weight : GoodIn wsL_law wsX12_weight := goodIn_r _ [826, 827, 750, 751, 752, 5, 753, 78, 301, 302, 303, 304, 172, 116, 117, 118, 828, 829, 830, 831, 96, 754, 755, 756, 757, 80, 82, 86, 401, 402, 403, 404, 405, 406, 492, 493, 494, 495, 832, 833, 834, 835, 836, 837, 838, 839, 97, 1023, 1024, 1025, 1026, 1027, 1028, 1029, 1030, 1031, 1032, 1033, 1034, 1035, 1036, 1037, 1038, 1039, 1040, 1041, 1042, 1043, 1044, 1045, 1046, 1047, 1048, 1049, 1050, 1051, 1052, 1053, 1054, 1055] (by decide +kernel) (by decide +kernel)
set_option maxRecDepth 20000 in
theorem gL_law_X12_weight : GoodIn wsL_law (wsV RL 113 RX12 yX12_weight wsX12_weight) := goodIn_app (goodIn_of _ (by decide +kernel)) ggL_law_X12_weight
set_option maxRecDepth 20000 in
theorem ggL_law_X11_lightest : GoodIn wsL_law wsX11_lightest := goodIn_r _ [843, 31, 30, 107, 108, 2, 109, 1011, 1012, 1013, 1014, 1015, 1016, 1017, 1018, 1019, 1020, 1021, 1022] (by decide +kernel) (by decide +kernel)
set_option maxRecDepth 20000 in
theorem gL_law_X11_lightest : GoodIn wsL_law (wsV RL 114 RX11 yX11_lightest wsX11_lightest) := goodIn_app (goodIn_of _ (by decide +kernel)) ggL_law_X11_lightest
set_option maxRecDepth 20000 in
theorem ggL_law_X12_lightest : GoodIn wsL_law wsX12_lightest := goodIn_r _ [847, 265, 97, 116, 117, 5, 118, 1023, 1024, 1025, 1026, 1027, 1028, 1029, 1030, 1031, 1032, 1033, 1034, 1035, 1036, 1037, 1038, 1039, 1040, 1041, 1042, 1043, 1044, 1045, 1046, 1047, 1048, 1049, 1050, 1051, 1052, 1053, 1054, 1055] (by decide +kernel) (by decide +kernel)
set_option maxRecDepth 20000 in
theorem gL_law_X12_lightest : GoodIn wsL_law (wsV RL 117 RX12 yX12_lightest wsX12_lightest) := goodIn_app (goodIn_of _ (by decide +kernel)) ggL_law_X12_lightest
set_option maxRecDepth 20000 in
theorem ggL_law_X11_count : GoodIn wsL_law wsX11_count := goodIn_r _ [851, 740, 29, 762, 763, 764, 293, 294, 295, 2, 296, 15, 14, 107, 108, 109, 765, 766, 767, 28, 768, 51, 50, 769, 357, 245, 358, 250, 251, 852, 775, 776, 777, 778, 779, 780, 781, 782, 783, 784, 785, 786, 787, 788, 789, 55, 790, 791, 792, 54, 793, 59, 63, 794, 618, 199, 619, 795, 796, 797, 798, 62, 799, 800, 801, 802, 803, 804, 805, 806, 61, 60, 807, 808, 809, 810, 811, 812, 813, 814, 1011, 1012, 1013, 1014, 1015, 1016, 1017, 1018, 1019, 1020, 1021, 1022, 1080, 1081, 1082, 1083, 1084, 1085, 1063, 1064, 1065, 1072, 1073, 1074, 1075, 1076] (by decide +kernel) (by decide +kernel)
set_option maxRecDepth 20000 in
theorem gL_law_X11_count : GoodIn wsL_law (wsV RL 118 RX11 yX11_count wsX11_count) := goodIn_app (goodIn_of _ (by decide +kernel)) ggL_law_X11_count
set_option maxRecDepth 20000 in
theorem ggL_law_X12_count : GoodIn wsL_law wsX12_count := goodIn_r _ [856, 857, 827, 750, 751, 752, 5, 753, 78, 301, 302, 303, 304, 172, 116, 117, 118, 828, 829, 830, 831, 96, 754, 755, 756, 757, 80, 82, 86, 401, 402, 403, 404, 405, 406, 492, 493, 494, 495, 832, 833, 834, 835, 836, 837, 838, 839, 97, 1023, 1024, 1025, 1026, 1027, 1028, 1029, 1030, 1031, 1032, 1033, 1034, 1035, 1036, 1037, 1038, 1039, 1040, 1041, 1042, 1043, 1044, 1045, 1046, 1047, 1048, 1049, 1050, 1051, 1052, 1053, 1054, 1055] (by decide +kernel) (by decide +kernel)
set_option maxRecDepth 20000 in
theorem gL_law_X12_count : GoodIn wsL_law (wsV RL 122 RX12 yX12_count wsX12_count) := goodIn_app (goodIn_of _ (by decide +kernel)) ggL_law_X12_count
set_option maxRecDepth 20000 in
theorem ggL_law_X11_period : GoodIn wsL_law wsX11_period := goodIn_r _ [861, 740, 293, 294, 295, 2, 296, 15, 14, 107, 108, 109, 862, 863, 864, 245, 865, 866, 255, 256, 356, 357, 358, 250, 251, 1011, 1012, 1013, 1014, 1015, 1016, 1017, 1018, 1019, 1020, 1021, 1022, 1080, 1081, 1082, 1083, 1084, 1085] (by decide +kernel) (by decide +kernel)
set_option maxRecDepth 20000 in
theorem gL_law_X11_period : GoodIn wsL_law (wsV RL 123 RX11 yX11_period wsX11_period) := goodIn_app (goodIn_of _ (by decide +kernel)) ggL_law_X11_period
set_option maxRecDepth 20000 in
theorem ggL_law_X12_period : GoodIn wsL_law wsX12_period := goodIn_r _ [870, 871, 80, 82, 750, 751, 752, 5, 753, 78, 301, 302, 303, 304, 172, 116, 117, 118, 404, 405, 406, 1023, 1024, 1025, 1026, 1027, 1028, 1029, 1030, 1031, 1032, 1033, 1034, 1035, 1036, 1037, 1038, 1039, 1040, 1041, 1042, 1043, 1044, 1045, 1046, 1047, 1048, 1049, 1050, 1051, 1052, 1053, 1054, 1055] (by decide +kernel) (by decide +kernel)
set_option maxRecDepth 20000 in
theorem gL_law_X12_period : GoodIn wsL_law (wsV RL 126 RX12 yX12_period wsX12_period) := goodIn_app (goodIn_of _ (by decide +kernel)) ggL_law_X12_period
set_option maxRecDepth 20000 in
theorem ggL_law_X11_free : GoodIn wsL_law wsX11_free := goodIn_r _ [875, 20, 35, 107, 108, 2, 109, 876, 877, 878, 34, 879, 68, 67, 880, 881, 882, 883, 884, 885, 886, 887, 1011, 1012, 1013, 1014, 1015, 1016, 1017, 1018, 1019, 1020, 1021, 1022, 1066, 1067, 1068, 1069, 1070, 1071] (by decide +kernel) (by decide +kernel)
set_option maxRecDepth 20000 in
theorem gL_law_X11_free : GoodIn wsL_law (wsV RL 127 RX11 yX11_free wsX11_free) := goodIn_app (goodIn_of _ (by decide +kernel)) ggL_law_X11_free
set_option maxRecDepth 20000 in
theorem ggL_law_X12_free : GoodIn wsL_law wsX12_free := goodIn_r _ [891, 317, 892, 98, 116, 117, 5, 118, 1023, 1024, 1025, 1026, 1027, 1028, 1029, 1030, 1031, 1032, 1033, 1034, 1035, 1036, 1037, 1038, 1039, 1040, 1041, 1042, 1043, 1044, 1045, 1046, 1047, 1048, 1049, 1050, 1051, 1052, 1053, 1054, 1055] (by decide +kernel) (by decide +kernel)
set_option maxRecDepth 20000 in
theorem gL_law_X12_free : GoodIn wsL_law (wsV RL 130 RX12 yX12_free wsX12_free) := goodIn_app (goodIn_of _ (by decide +kernel)) ggL_law_X12_free
set_option maxRecDepth 20000 in
theorem ggL_law_X11_bind : GoodIn wsL_law wsX11_bind := goodIn_r _ [896, 35, 897, 1011, 1012, 1013, 1014, 1015, 1016, 1017, 1018, 1019, 1020, 1021, 1022, 1066, 1067, 1068, 1069, 1070, 1071] (by decide +kernel) (by decide +kernel)
set_option maxRecDepth 20000 in
theorem gL_law_X11_bind : GoodIn wsL_law (wsV RL 131 RX11 yX11_bind wsX11_bind) := goodIn_app (goodIn_of _ (by decide +kernel)) ggL_law_X11_bind
set_option maxRecDepth 20000 in
theorem ggL_law_X12_bind : GoodIn wsL_law wsX12_bind := goodIn_r _ [901, 892, 1023, 1024, 1025, 1026, 1027, 1028, 1029, 1030, 1031, 1032, 1033, 1034, 1035, 1036, 1037, 1038, 1039, 1040, 1041, 1042, 1043, 1044, 1045, 1046, 1047, 1048, 1049, 1050, 1051, 1052, 1053, 1054, 1055] (by decide +kernel) (by decide +kernel)
set_option maxRecDepth 20000 in
theorem gL_law_X12_bind : GoodIn wsL_law (wsV RL 134 RX12 yX12_bind wsX12_bind) := goodIn_app (goodIn_of _ (by decide +kernel)) ggL_law_X12_bind
set_option maxRecDepth 20000 in
theorem ggL_law_X11_aim : GoodIn wsL_law wsX11_aim := goodIn_r _ [905, 740, 29, 20, 762, 763, 764, 35, 906, 907, 19, 293, 294, 295, 2, 296, 15, 14, 107, 108, 109, 908, 418, 909, 245, 419, 255, 247, 248, 249, 250, 251, 765, 766, 767, 28, 768, 51, 50, 769, 357, 358, 910, 350, 911, 351, 257, 258, 352, 353, 354, 355, 259, 256, 356, 912, 913, 914, 34, 915, 72, 69, 916, 208, 209, 210, 70, 917, 918, 919, 920, 68, 67, 71, 921, 922, 923, 924, 925, 926, 927, 928, 929, 1011, 1012, 1013, 1014, 1015, 1016, 1017, 1018, 1019, 1020, 1021, 1022, 1080, 1081, 1082, 1083, 1084, 1085, 1063, 1064, 1065, 1066, 1067, 1068, 1069, 1070, 1071] (by decide +kernel) (by decide +kernel)
set_option maxRecDepth 20000 in
theorem gL_law_X11_aim : GoodIn wsL_law (wsV RL 135 RX11 yX11_aim wsX11_aim) := goodIn_app (goodIn_of _ (by decide +kernel)) ggL_law_X11_aim
set_option maxRecDepth 20000 in
theorem ggL_law_X12_aim : GoodIn wsL_law wsX12_aim := goodIn_r _ [933, 90, 317, 892, 98, 99, 934, 100, 750, 751, 752, 5, 753, 78, 301, 302, 303, 304, 172, 116, 117, 118, 488, 489, 490, 491, 80, 393, 394, 395, 396, 79, 83, 88, 87, 81, 397, 89, 82, 86, 171, 84, 398, 399, 400, 401, 402, 403, 404, 405, 406, 754, 755, 756, 757, 492, 493, 494, 495, 1023, 1024, 1025, 1026, 1027, 1028, 1029, 1030, 1031, 1032, 1033, 1034, 1035, 1036, 1037, 1038, 1039, 1040, 1041, 1042, 1043, 1044, 1045, 1046, 1047, 1048, 1049, 1050, 1051, 1052, 1053, 1054, 1055] (by decide +kernel) (by decide +kernel)
set_option maxRecDepth 20000 in
theorem gL_law_X12_aim : GoodIn wsL_law (wsV RL 139 RX12 yX12_aim wsX12_aim) := goodIn_app (goodIn_of _ (by decide +kernel)) ggL_law_X12_aim
set_option maxRecDepth 20000 in
theorem ggL_law_X11_way : GoodIn wsL_law wsX11_way := goodIn_r _ [938, 35, 939, 940, 107, 108, 2, 109, 1011, 1012, 1013, 1014, 1015, 1016, 1017, 1018, 1019, 1020, 1021, 1022, 1066, 1067, 1068, 1069, 1070, 1071] (by decide +kernel) (by decide +kernel)
set_option maxRecDepth 20000 in
theorem gL_law_X11_way : GoodIn wsL_law (wsV RL 140 RX11 yX11_way wsX11_way) := goodIn_app (goodIn_of _ (by decide +kernel)) ggL_law_X11_way
set_option maxRecDepth 20000 in
theorem ggL_law_X12_way : GoodIn wsL_law wsX12_way := goodIn_r _ [944, 934, 100, 116, 117, 5, 118, 1023, 1024, 1025, 1026, 1027, 1028, 1029, 1030, 1031, 1032, 1033, 1034, 1035, 1036, 1037, 1038, 1039, 1040, 1041, 1042, 1043, 1044, 1045, 1046, 1047, 1048, 1049, 1050, 1051, 1052, 1053, 1054, 1055] (by decide +kernel) (by decide +kernel)
set_option maxRecDepth 20000 in
theorem gL_law_X12_way : GoodIn wsL_law (wsV RL 143 RX12 yX12_way wsX12_way) := goodIn_app (goodIn_of _ (by decide +kernel)) ggL_law_X12_way
set_option maxRecDepth 20000 in
theorem ggL_law_X11_best : GoodIn wsL_law wsX11_best := goodIn_r _ [948, 29, 107, 108, 2, 109, 949, 950, 951, 28, 952, 953, 766, 767, 768, 51, 50, 769, 357, 245, 358, 250, 251, 954, 771, 772, 773, 774, 775, 776, 777, 778, 779, 780, 781, 782, 783, 784, 785, 786, 787, 788, 789, 55, 790, 791, 792, 54, 793, 59, 63, 794, 618, 199, 619, 795, 796, 797, 798, 62, 799, 800, 801, 802, 803, 804, 805, 806, 61, 60, 807, 808, 809, 810, 811, 812, 813, 814, 1011, 1012, 1013, 1014, 1015, 1016, 1017, 1018, 1019, 1020, 1021, 1022, 1063, 1064, 1065, 1072, 1073, 1074, 1075, 1076] (by decide +kernel) (by decide +kernel)
set_option maxRecDepth 20000 in
theorem gL_law_X11_best : GoodIn wsL_law (wsV RL 144 RX11 yX11_best wsX11_best) := goodIn_app (goodIn_of _ (by decide +kernel)) ggL_law_X11_best
set_option maxRecDepth 20000 in
theorem ggL_law_X12_best : GoodIn wsL_law wsX12_best := goodIn_r _ [958, 265, 237, 96, 116, 117, 5, 118, 401, 402, 403, 404, 405, 406, 832, 833, 834, 835, 836, 837, 838, 839, 97, 1023, 1024, 1025, 1026, 1027, 1028, 1029, 1030, 1031, 1032, 1033, 1034, 1035, 1036, 1037, 1038, 1039, 1040, 1041, 1042, 1043, 1044, 1045, 1046, 1047, 1048, 1049, 1050, 1051, 1052, 1053, 1054, 1055] (by decide +kernel) (by decide +kernel)
set_option maxRecDepth 20000 in
theorem gL_law_X12_best : GoodIn wsL_law (wsV RL 147 RX12 yX12_best wsX12_best) := goodIn_app (goodIn_of _ (by decide +kernel)) ggL_law_X12_best
set_option maxRecDepth 20000 in
theorem ggL_law_X11_mend : GoodIn wsL_law wsX11_mend := goodIn_r _ [962, 740, 292, 19, 20, 29, 762, 763, 764, 293, 294, 295, 2, 296, 15, 14, 107, 108, 109, 908, 418, 909, 245, 419, 255, 247, 248, 249, 250, 251, 910, 350, 911, 351, 257, 258, 352, 353, 354, 355, 259, 256, 356, 357, 358, 765, 766, 767, 28, 768, 51, 50, 769, 963, 964, 965, 966, 742, 574, 575, 741, 576, 577, 967, 968, 969, 970, 971, 972, 973, 974, 975, 976, 977, 922, 923, 924, 925, 1080, 1081, 1082, 1083, 1084, 1085, 1086, 1087, 1088, 1089, 1090, 1091, 1092, 1093, 1077, 1078, 1079, 1011, 1012, 1013, 1014, 1015, 1016, 1017, 1018, 1019, 1020, 1021, 1022, 1063, 1064, 1065] (by decide +kernel) (by decide +kernel)
set_option maxRecDepth 20000 in
theorem gL_law_X11_mend : GoodIn wsL_law (wsV RL 148 RX11 yX11_mend wsX11_mend) := goodIn_app (goodIn_of _ (by decide +kernel)) ggL_law_X11_mend
set_option maxRecDepth 20000 in
theorem ggL_law_X12_mend : GoodIn wsL_law wsX12_mend := goodIn_r _ [981, 78, 90, 317, 301, 302, 303, 5, 304, 172, 116, 117, 118, 488, 489, 490, 491, 80, 393, 394, 395, 396, 79, 83, 88, 87, 81, 397, 89, 82, 86, 171, 84, 398, 399, 400, 401, 402, 403, 404, 405, 406, 754, 755, 756, 757, 492, 493, 494, 495, 1023, 1024, 1025, 1026, 1027, 1028, 1029, 1030, 1031, 1032, 1033, 1034, 1035, 1036, 1037, 1038, 1039, 1040, 1041, 1042, 1043, 1044, 1045, 1046, 1047, 1048, 1049, 1050, 1051, 1052, 1053, 1054, 1055] (by decide +kernel) (by decide +kernel)
set_option maxRecDepth 20000 in
theorem gL_law_X12_mend : GoodIn wsL_law (wsV RL 151 RX12 yX12_mend wsX12_mend) := goodIn_app (goodIn_of _ (by decide +kernel)) ggL_law_X12_mend
set_option maxRecDepth 20000 in
theorem ggL_law_X11_reach : GoodIn wsL_law wsX11_reach := goodIn_r _ [985, 740, 292, 29, 762, 763, 293, 294, 295, 2, 296, 15, 14, 107, 108, 109, 986, 987, 988, 28, 989, 55, 51, 50, 953, 766, 767, 768, 769, 357, 245, 358, 250, 251, 790, 791, 792, 54, 793, 59, 63, 794, 618, 199, 619, 990, 968, 969, 970, 971, 972, 973, 795, 796, 797, 798, 62, 799, 800, 801, 802, 803, 804, 805, 806, 61, 60, 807, 808, 809, 810, 1080, 1081, 1082, 1083, 1084, 1085, 1086, 1087, 1088, 1089, 1090, 1091, 1092, 1093, 1077, 1078, 1079, 1011, 1012, 1013, 1014, 1015, 1016, 1017, 1018, 1019, 1020, 1021, 1022, 1063, 1064, 1065, 1072, 1073, 1074, 1075, 1076] (by decide +kernel) (by decide +kernel)
set_option maxRecDepth 20000 in
theorem gL_law_X11_reach : GoodIn wsL_law (wsV RL 152 RX11 yX11_reach wsX11_reach) := goodIn_app (goodIn_of _ (by decide +kernel)) ggL_law_X11_reach
set_option maxRecDepth 20000 in
theorem ggL_law_X12_reach : GoodIn wsL_law wsX12_reach := goodIn_r _ [994, 78, 96, 301, 302, 303, 5, 304, 172, 116, 117, 118, 754, 755, 756, 757, 80, 82, 86, 401, 402, 403, 404, 405, 406, 492, 493, 494, 495, 1023, 1024, 1025, 1026, 1027, 1028, 1029, 1030, 1031, 1032, 1033, 1034, 1035, 1036, 1037, 1038, 1039, 1040, 1041, 1042, 1043, 1044, 1045, 1046, 1047, 1048, 1049, 1050, 1051, 1052, 1053, 1054, 1055] (by decide +kernel) (by decide +kernel)
set_option maxRecDepth 20000 in
theorem gL_law_X12_reach : GoodIn wsL_law (wsV RL 155 RX12 yX12_reach wsX12_reach) := goodIn_app (goodIn_of _ (by decide +kernel)) ggL_law_X12_reach
set_option maxRecDepth 20000 in
theorem ggL_law_X11_trace : GoodIn wsL_law wsX11_trace := goodIn_r _ [998, 21, 107, 108, 2, 109, 1011, 1012, 1013, 1014, 1015, 1016, 1017, 1018, 1019, 1020, 1021, 1022] (by decide +kernel) (by decide +kernel)
set_option maxRecDepth 20000 in
theorem gL_law_X11_trace : GoodIn wsL_law (wsV RL 156 RX11 yX11_trace wsX11_trace) := goodIn_app (goodIn_of _ (by decide +kernel)) ggL_law_X11_trace
set_option maxRecDepth 20000 in
theorem ggL_law_X12_trace : GoodIn wsL_law wsX12_trace := goodIn_r _ [1002, 827, 101, 116, 117, 5, 118, 1023, 1024, 1025, 1026, 1027, 1028, 1029, 1030, 1031, 1032, 1033, 1034, 1035, 1036, 1037, 1038, 1039, 1040, 1041, 1042, 1043, 1044, 1045, 1046, 1047, 1048, 1049, 1050, 1051, 1052, 1053, 1054, 1055] (by decide +kernel) (by decide +kernel)
set_option maxRecDepth 20000 in
theorem gL_law_X12_trace : GoodIn wsL_law (wsV RL 159 RX12 yX12_trace wsX12_trace) := goodIn_app (goodIn_of _ (by decide +kernel)) ggL_law_X12_trace
set_option maxRecDepth 20000 in
theorem ggL_law_X11_about : GoodIn wsL_law wsX11_about := goodIn_r _ [1006, 15, 20, 18, 35, 897, 25, 704, 1011, 1012, 1013, 1014, 1015, 1016, 1017, 1018, 1019, 1020, 1021, 1022, 1066, 1067, 1068, 1069, 1070, 1071, 1056, 1057, 1058, 1059, 1060, 1061, 1062] (by decide +kernel) (by decide +kernel)
set_option maxRecDepth 20000 in
theorem gL_law_X11_about : GoodIn wsL_law (wsV RL 160 RX11 yX11_about wsX11_about) := goodIn_app (goodIn_of _ (by decide +kernel)) ggL_law_X11_about
set_option maxRecDepth 20000 in
theorem ggL_law_X12_about : GoodIn wsL_law wsX12_about := goodIn_r _ [1010, 172, 317, 115, 892, 687, 1023, 1024, 1025, 1026, 1027, 1028, 1029, 1030, 1031, 1032, 1033, 1034, 1035, 1036, 1037, 1038, 1039, 1040, 1041, 1042, 1043, 1044, 1045, 1046, 1047, 1048, 1049, 1050, 1051, 1052, 1053, 1054, 1055] (by decide +kernel) (by decide +kernel)
set_option maxRecDepth 20000 in
theorem gL_law_X12_about : GoodIn wsL_law (wsV RL 163 RX12 yX12_about wsX12_about) := goodIn_app (goodIn_of _ (by decide +kernel)) ggL_law_X12_about
