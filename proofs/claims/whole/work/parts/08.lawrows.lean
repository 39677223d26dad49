theorem inlX0 : ∀ w ∈ wsX00, w ∈ wsL_law := by sorry
theorem inlX1 : ∀ w ∈ wsX10, w ∈ wsL_law := by sorry
theorem inlX3 : ∀ w ∈ wsX30, w ∈ wsL_law := by sorry
theorem inlX4 : ∀ w ∈ wsX40, w ∈ wsL_law := by sorry
theorem inlX5 : ∀ w ∈ wsX50, w ∈ wsL_law := by sorry
theorem inlX7 : ∀ w ∈ wsX70, w ∈ wsL_law := by sorry
theorem inlX8 : ∀ w ∈ wsX80, w ∈ wsL_law := by sorry
theorem inlX9 : ∀ w ∈ wsX90, w ∈ wsL_law := by sorry
theorem inlX10 : ∀ w ∈ wsX100, w ∈ wsL_law := by sorry
theorem inlX11 : ∀ w ∈ wsX110, w ∈ wsL_law := by sorry
theorem inlX12 : ∀ w ∈ wsX120, w ∈ wsL_law := by sorry
theorem inJx8e188 : ∀ w ∈ wsJx8e1880, w ∈ lw_tbl := by sorry
theorem inJ6 : ∀ w ∈ wsJ60, w ∈ lw_tbl := by sorry
theorem inJ13 : ∀ w ∈ wsJ130, w ∈ lw_tbl := by sorry
theorem inJ9 : ∀ w ∈ wsJ90, w ∈ lw_tbl := by sorry
theorem inJ10 : ∀ w ∈ wsJ100, w ∈ lw_tbl := by sorry
theorem inJ7 : ∀ w ∈ wsJ70, w ∈ lw_tbl := by sorry
set_option maxRecDepth 20000 in
theorem ggL_law_X11_init : GoodIn wsL_law wsX11_init := by sorry
set_option maxRecDepth 20000 in
theorem gL_law_X11_init : GoodIn wsL_law (wsX11_init) := by sorry
set_option maxRecDepth 20000 in
theorem ggL_law_X12_init : GoodIn wsL_law wsX12_init := by sorry
set_option maxRecDepth 20000 in
theorem gL_law_X12_init : GoodIn wsL_law (wsX12_init) := by sorry
set_option maxRecDepth 20000 in
theorem ggL_law_X11_tell : GoodIn wsL_law wsX11_tell := by sorry
set_option maxRecDepth 20000 in
theorem gL_law_X11_tell : GoodIn wsL_law (wsV RL 13 RX11 yX11_tell wsX11_tell) := by sorry
set_option maxRecDepth 20000 in
theorem ggL_law_X12_tell : GoodIn wsL_law wsX12_tell := by sorry
set_option maxRecDepth 20000 in
theorem gL_law_X12_tell : GoodIn wsL_law (wsV RL 17 RX12 yX12_tell wsX12_tell) := by sorry
set_option maxRecDepth 20000 in
theorem ggL_law_X11_untell : GoodIn wsL_law wsX11_untell := by sorry
set_option maxRecDepth 20000 in
theorem gL_law_X11_untell : GoodIn wsL_law (wsV RL 18 RX11 yX11_untell wsX11_untell) := by sorry
set_option maxRecDepth 20000 in
theorem ggL_law_X12_untell : GoodIn wsL_law wsX12_untell := by sorry
set_option maxRecDepth 20000 in
theorem gL_law_X12_untell : GoodIn wsL_law (wsV RL 22 RX12 yX12_untell wsX12_untell) := by sorry
set_option maxRecDepth 20000 in
theorem ggL_law_X11_plain : GoodIn wsL_law wsX11_plain := by sorry
set_option maxRecDepth 20000 in
theorem gL_law_X11_plain : GoodIn wsL_law (wsV RL 23 RX11 yX11_plain wsX11_plain) := by sorry
set_option maxRecDepth 20000 in
theorem ggL_law_X12_plain : GoodIn wsL_law wsX12_plain := by sorry
set_option maxRecDepth 20000 in
theorem gL_law_X12_plain : GoodIn wsL_law (wsV RL 26 RX12 yX12_plain wsX12_plain) := by sorry
set_option maxRecDepth 20000 in
theorem ggL_law_X11_twofold : GoodIn wsL_law wsX11_twofold := by sorry
set_option maxRecDepth 20000 in
theorem gL_law_X11_twofold : GoodIn wsL_law (wsV RL 27 RX11 yX11_twofold wsX11_twofold) := by sorry
set_option maxRecDepth 20000 in
theorem ggL_law_X12_twofold : GoodIn wsL_law wsX12_twofold := by sorry
set_option maxRecDepth 20000 in
theorem gL_law_X12_twofold : GoodIn wsL_law (wsV RL 30 RX12 yX12_twofold wsX12_twofold) := by sorry
set_option maxRecDepth 20000 in
theorem ggL_law_X11_weighted : GoodIn wsL_law wsX11_weighted := by sorry
set_option maxRecDepth 20000 in
theorem gL_law_X11_weighted : GoodIn wsL_law (wsV RL 31 RX11 yX11_weighted wsX11_weighted) := by sorry
set_option maxRecDepth 20000 in
theorem ggL_law_X12_weighted : GoodIn wsL_law wsX12_weighted := by sorry
set_option maxRecDepth 20000 in
theorem gL_law_X12_weighted : GoodIn wsL_law (wsV RL 34 RX12 yX12_weighted wsX12_weighted) := by sorry
set_option maxRecDepth 20000 in
theorem ggL_law_X11_turning : GoodIn wsL_law wsX11_turning := by sorry
set_option maxRecDepth 20000 in
theorem gL_law_X11_turning : GoodIn wsL_law (wsV RL 35 RX11 yX11_turning wsX11_turning) := by sorry
set_option maxRecDepth 20000 in
theorem ggL_law_X12_turning : GoodIn wsL_law wsX12_turning := by sorry
set_option maxRecDepth 20000 in
theorem gL_law_X12_turning : GoodIn wsL_law (wsV RL 39 RX12 yX12_turning wsX12_turning) := by sorry
set_option maxRecDepth 20000 in
theorem ggL_law_X11_divided : GoodIn wsL_law wsX11_divided := by sorry
set_option maxRecDepth 20000 in
theorem gL_law_X11_divided : GoodIn wsL_law (wsV RL 42 RX11 yX11_divided wsX11_divided) := by sorry
set_option maxRecDepth 20000 in
theorem ggL_law_X12_divided : GoodIn wsL_law wsX12_divided := by sorry
set_option maxRecDepth 20000 in
theorem gL_law_X12_divided : GoodIn wsL_law (wsV RL 46 RX12 yX12_divided wsX12_divided) := by sorry
set_option maxRecDepth 20000 in
theorem ggL_law_X11_square : GoodIn wsL_law wsX11_square := by sorry
set_option maxRecDepth 20000 in
theorem gL_law_X11_square : GoodIn wsL_law (wsV RL 47 RX11 yX11_square wsX11_square) := by sorry
set_option maxRecDepth 20000 in
theorem ggL_law_X12_square : GoodIn wsL_law wsX12_square := by sorry
set_option maxRecDepth 20000 in
theorem gL_law_X12_square : GoodIn wsL_law (wsV RL 50 RX12 yX12_square wsX12_square) := by sorry
set_option maxRecDepth 20000 in
theorem ggL_law_X11_kind : GoodIn wsL_law wsX11_kind := by sorry
set_option maxRecDepth 20000 in
theorem gL_law_X11_kind : GoodIn wsL_law (wsV RL 51 RX11 yX11_kind wsX11_kind) := by sorry
set_option maxRecDepth 20000 in
theorem ggL_law_X12_kind : GoodIn wsL_law wsX12_kind := by sorry
set_option maxRecDepth 20000 in
theorem gL_law_X12_kind : GoodIn wsL_law (wsV RL 54 RX12 yX12_kind wsX12_kind) := by sorry
set_option maxRecDepth 20000 in
theorem ggL_law_X11_put : GoodIn wsL_law wsX11_put := by sorry
set_option maxRecDepth 20000 in
theorem gL_law_X11_put : GoodIn wsL_law (wsV RL 55 RX11 yX11_put wsX11_put) := by sorry
set_option maxRecDepth 20000 in
theorem ggL_law_X12_put : GoodIn wsL_law wsX12_put := by sorry
set_option maxRecDepth 20000 in
theorem gL_law_X12_put : GoodIn wsL_law (wsV RL 58 RX12 yX12_put wsX12_put) := by sorry
set_option maxRecDepth 20000 in
theorem ggL_law_X11_set : GoodIn wsL_law wsX11_set := by sorry
set_option maxRecDepth 20000 in
theorem gL_law_X11_set : GoodIn wsL_law (wsV RL 59 RX11 yX11_set wsX11_set) := by sorry
set_option maxRecDepth 20000 in
theorem ggL_law_X12_set : GoodIn wsL_law wsX12_set := by sorry
set_option maxRecDepth 20000 in
theorem gL_law_X12_set : GoodIn wsL_law (wsV RL 62 RX12 yX12_set wsX12_set) := by sorry
set_option maxRecDepth 20000 in
theorem ggL_law_X11_at : GoodIn wsL_law wsX11_at := by sorry
set_option maxRecDepth 20000 in
theorem gL_law_X11_at : GoodIn wsL_law (wsV RL 63 RX11 yX11_at wsX11_at) := by sorry
set_option maxRecDepth 20000 in
theorem ggL_law_X12_at : GoodIn wsL_law wsX12_at := by sorry
set_option maxRecDepth 20000 in
theorem gL_law_X12_at : GoodIn wsL_law (wsV RL 66 RX12 yX12_at wsX12_at) := by sorry
set_option maxRecDepth 20000 in
theorem ggL_law_X11_cut : GoodIn wsL_law wsX11_cut := by sorry
set_option maxRecDepth 20000 in
theorem gL_law_X11_cut : GoodIn wsL_law (wsV RL 67 RX11 yX11_cut wsX11_cut) := by sorry
set_option maxRecDepth 20000 in
theorem ggL_law_X12_cut : GoodIn wsL_law wsX12_cut := by sorry
set_option maxRecDepth 20000 in
theorem gL_law_X12_cut : GoodIn wsL_law (wsV RL 70 RX12 yX12_cut wsX12_cut) := by sorry
set_option maxRecDepth 20000 in
theorem ggL_law_X11_sum : GoodIn wsL_law wsX11_sum := by sorry
set_option maxRecDepth 20000 in
theorem gL_law_X11_sum : GoodIn wsL_law (wsV RL 71 RX11 yX11_sum wsX11_sum) := by sorry
set_option maxRecDepth 20000 in
theorem ggL_law_X12_sum : GoodIn wsL_law wsX12_sum := by sorry
set_option maxRecDepth 20000 in
theorem gL_law_X12_sum : GoodIn wsL_law (wsV RL 75 RX12 yX12_sum wsX12_sum) := by sorry
set_option maxRecDepth 20000 in
theorem ggL_law_X11_joined : GoodIn wsL_law wsX11_joined := by sorry
set_option maxRecDepth 20000 in
theorem gL_law_X11_joined : GoodIn wsL_law (wsV RL 76 RX11 yX11_joined wsX11_joined) := by sorry
set_option maxRecDepth 20000 in
theorem ggL_law_X12_joined : GoodIn wsL_law wsX12_joined := by sorry
set_option maxRecDepth 20000 in
theorem gL_law_X12_joined : GoodIn wsL_law (wsV RL 80 RX12 yX12_joined wsX12_joined) := by sorry
set_option maxRecDepth 20000 in
theorem ggL_law_X11_other : GoodIn wsL_law wsX11_other := by sorry
set_option maxRecDepth 20000 in
theorem gL_law_X11_other : GoodIn wsL_law (wsV RL 81 RX11 yX11_other wsX11_other) := by sorry
set_option maxRecDepth 20000 in
theorem ggL_law_X12_other : GoodIn wsL_law wsX12_other := by sorry
set_option maxRecDepth 20000 in
theorem gL_law_X12_other : GoodIn wsL_law (wsV RL 85 RX12 yX12_other wsX12_other) := by sorry
set_option maxRecDepth 20000 in
theorem ggL_law_X11_less : GoodIn wsL_law wsX11_less := by sorry
set_option maxRecDepth 20000 in
theorem gL_law_X11_less : GoodIn wsL_law (wsV RL 86 RX11 yX11_less wsX11_less) := by sorry
set_option maxRecDepth 20000 in
theorem ggL_law_X12_less : GoodIn wsL_law wsX12_less := by sorry
set_option maxRecDepth 20000 in
theorem gL_law_X12_less : GoodIn wsL_law (wsV RL 90 RX12 yX12_less wsX12_less) := by sorry
set_option maxRecDepth 20000 in
theorem ggL_law_X11_sees : GoodIn wsL_law wsX11_sees := by sorry
set_option maxRecDepth 20000 in
theorem gL_law_X11_sees : GoodIn wsL_law (wsV RL 91 RX11 yX11_sees wsX11_sees) := by sorry
set_option maxRecDepth 20000 in
theorem ggL_law_X12_sees : GoodIn wsL_law wsX12_sees := by sorry
set_option maxRecDepth 20000 in
theorem gL_law_X12_sees : GoodIn wsL_law (wsV RL 95 RX12 yX12_sees wsX12_sees) := by sorry
set_option maxRecDepth 20000 in
theorem ggL_law_X11_passes : GoodIn wsL_law wsX11_passes := by sorry
set_option maxRecDepth 20000 in
theorem gL_law_X11_passes : GoodIn wsL_law (wsV RL 96 RX11 yX11_passes wsX11_passes) := by sorry
set_option maxRecDepth 20000 in
theorem ggL_law_X12_passes : GoodIn wsL_law wsX12_passes := by sorry
set_option maxRecDepth 20000 in
theorem gL_law_X12_passes : GoodIn wsL_law (wsV RL 100 RX12 yX12_passes wsX12_passes) := by sorry
set_option maxRecDepth 20000 in
theorem ggL_law_X11_signs : GoodIn wsL_law wsX11_signs := by sorry
set_option maxRecDepth 20000 in
theorem gL_law_X11_signs : GoodIn wsL_law (wsV RL 101 RX11 yX11_signs wsX11_signs) := by sorry
set_option maxRecDepth 20000 in
theorem ggL_law_X12_signs : GoodIn wsL_law wsX12_signs := by sorry
set_option maxRecDepth 20000 in
theorem gL_law_X12_signs : GoodIn wsL_law (wsV RL 104 RX12 yX12_signs wsX12_signs) := by sorry
set_option maxRecDepth 20000 in
theorem ggL_law_X11_syndrome : GoodIn wsL_law wsX11_syndrome := by sorry
set_option maxRecDepth 20000 in
theorem gL_law_X11_syndrome : GoodIn wsL_law (wsV RL 105 RX11 yX11_syndrome wsX11_syndrome) := by sorry
set_option maxRecDepth 20000 in
theorem ggL_law_X12_syndrome : GoodIn wsL_law wsX12_syndrome := by sorry
set_option maxRecDepth 20000 in
theorem gL_law_X12_syndrome : GoodIn wsL_law (wsV RL 109 RX12 yX12_syndrome wsX12_syndrome) := by sorry
set_option maxRecDepth 20000 in
theorem ggL_law_X11_weight : GoodIn wsL_law wsX11_weight := by sorry
set_option maxRecDepth 20000 in
theorem gL_law_X11_weight : GoodIn wsL_law (wsV RL 110 RX11 yX11_weight wsX11_weight) := by sorry
set_option maxRecDepth 20000 in
theorem ggL_law_X12_weight : GoodIn wsL_law wsX12_weight := by sorry
set_option maxRecDepth 20000 in
theorem gL_law_X12_weight : GoodIn wsL_law (wsV RL 113 RX12 yX12_weight wsX12_weight) := by sorry
set_option maxRecDepth 20000 in
theorem ggL_law_X11_lightest : GoodIn wsL_law wsX11_lightest := by sorry
set_option maxRecDepth 20000 in
theorem gL_law_X11_lightest : GoodIn wsL_law (wsV RL 114 RX11 yX11_lightest wsX11_lightest) := by sorry
set_option maxRecDepth 20000 in
theorem ggL_law_X12_lightest : GoodIn wsL_law wsX12_lightest := by sorry
set_option maxRecDepth 20000 in
theorem gL_law_X12_lightest : GoodIn wsL_law (wsV RL 117 RX12 yX12_lightest wsX12_lightest) := by sorry
set_option maxRecDepth 20000 in
theorem ggL_law_X11_count : GoodIn wsL_law wsX11_count := by sorry
set_option maxRecDepth 20000 in
theorem gL_law_X11_count : GoodIn wsL_law (wsV RL 118 RX11 yX11_count wsX11_count) := by sorry
set_option maxRecDepth 20000 in
theorem ggL_law_X12_count : GoodIn wsL_law wsX12_count := by sorry
set_option maxRecDepth 20000 in
theorem gL_law_X12_count : GoodIn wsL_law (wsV RL 122 RX12 yX12_count wsX12_count) := by sorry
set_option maxRecDepth 20000 in
theorem ggL_law_X11_period : GoodIn wsL_law wsX11_period := by sorry
set_option maxRecDepth 20000 in
theorem gL_law_X11_period : GoodIn wsL_law (wsV RL 123 RX11 yX11_period wsX11_period) := by sorry
set_option maxRecDepth 20000 in
theorem ggL_law_X12_period : GoodIn wsL_law wsX12_period := by sorry
set_option maxRecDepth 20000 in
theorem gL_law_X12_period : GoodIn wsL_law (wsV RL 126 RX12 yX12_period wsX12_period) := by sorry
set_option maxRecDepth 20000 in
theorem ggL_law_X11_free : GoodIn wsL_law wsX11_free := by sorry
set_option maxRecDepth 20000 in
theorem gL_law_X11_free : GoodIn wsL_law (wsV RL 127 RX11 yX11_free wsX11_free) := by sorry
set_option maxRecDepth 20000 in
theorem ggL_law_X12_free : GoodIn wsL_law wsX12_free := by sorry
set_option maxRecDepth 20000 in
theorem gL_law_X12_free : GoodIn wsL_law (wsV RL 130 RX12 yX12_free wsX12_free) := by sorry
set_option maxRecDepth 20000 in
theorem ggL_law_X11_bind : GoodIn wsL_law wsX11_bind := by sorry
set_option maxRecDepth 20000 in
theorem gL_law_X11_bind : GoodIn wsL_law (wsV RL 131 RX11 yX11_bind wsX11_bind) := by sorry
set_option maxRecDepth 20000 in
theorem ggL_law_X12_bind : GoodIn wsL_law wsX12_bind := by sorry
set_option maxRecDepth 20000 in
theorem gL_law_X12_bind : GoodIn wsL_law (wsV RL 134 RX12 yX12_bind wsX12_bind) := by sorry
set_option maxRecDepth 20000 in
theorem ggL_law_X11_aim : GoodIn wsL_law wsX11_aim := by sorry
set_option maxRecDepth 20000 in
theorem gL_law_X11_aim : GoodIn wsL_law (wsV RL 135 RX11 yX11_aim wsX11_aim) := by sorry
set_option maxRecDepth 20000 in
theorem ggL_law_X12_aim : GoodIn wsL_law wsX12_aim := by sorry
set_option maxRecDepth 20000 in
theorem gL_law_X12_aim : GoodIn wsL_law (wsV RL 139 RX12 yX12_aim wsX12_aim) := by sorry
set_option maxRecDepth 20000 in
theorem ggL_law_X11_way : GoodIn wsL_law wsX11_way := by sorry
set_option maxRecDepth 20000 in
theorem gL_law_X11_way : GoodIn wsL_law (wsV RL 140 RX11 yX11_way wsX11_way) := by sorry
set_option maxRecDepth 20000 in
theorem ggL_law_X12_way : GoodIn wsL_law wsX12_way := by sorry
set_option maxRecDepth 20000 in
theorem gL_law_X12_way : GoodIn wsL_law (wsV RL 143 RX12 yX12_way wsX12_way) := by sorry
set_option maxRecDepth 20000 in
theorem ggL_law_X11_best : GoodIn wsL_law wsX11_best := by sorry
set_option maxRecDepth 20000 in
theorem gL_law_X11_best : GoodIn wsL_law (wsV RL 144 RX11 yX11_best wsX11_best) := by sorry
set_option maxRecDepth 20000 in
theorem ggL_law_X12_best : GoodIn wsL_law wsX12_best := by sorry
set_option maxRecDepth 20000 in
theorem gL_law_X12_best : GoodIn wsL_law (wsV RL 147 RX12 yX12_best wsX12_best) := by sorry
set_option maxRecDepth 20000 in
theorem ggL_law_X11_mend : GoodIn wsL_law wsX11_mend := by sorry
set_option maxRecDepth 20000 in
theorem gL_law_X11_mend : GoodIn wsL_law (wsV RL 148 RX11 yX11_mend wsX11_mend) := by sorry
set_option maxRecDepth 20000 in
theorem ggL_law_X12_mend : GoodIn wsL_law wsX12_mend := by sorry
set_option maxRecDepth 20000 in
theorem gL_law_X12_mend : GoodIn wsL_law (wsV RL 151 RX12 yX12_mend wsX12_mend) := by sorry
set_option maxRecDepth 20000 in
theorem ggL_law_X11_reach : GoodIn wsL_law wsX11_reach := by sorry
set_option maxRecDepth 20000 in
theorem gL_law_X11_reach : GoodIn wsL_law (wsV RL 152 RX11 yX11_reach wsX11_reach) := by sorry
set_option maxRecDepth 20000 in
theorem ggL_law_X12_reach : GoodIn wsL_law wsX12_reach := by sorry
set_option maxRecDepth 20000 in
theorem gL_law_X12_reach : GoodIn wsL_law (wsV RL 155 RX12 yX12_reach wsX12_reach) := by sorry
set_option maxRecDepth 20000 in
theorem ggL_law_X11_trace : GoodIn wsL_law wsX11_trace := by sorry
set_option maxRecDepth 20000 in
theorem gL_law_X11_trace : GoodIn wsL_law (wsV RL 156 RX11 yX11_trace wsX11_trace) := by sorry
set_option maxRecDepth 20000 in
theorem ggL_law_X12_trace : GoodIn wsL_law wsX12_trace := by sorry
set_option maxRecDepth 20000 in
theorem gL_law_X12_trace : GoodIn wsL_law (wsV RL 159 RX12 yX12_trace wsX12_trace) := by sorry
set_option maxRecDepth 20000 in
theorem ggL_law_X11_about : GoodIn wsL_law wsX11_about := by sorry
set_option maxRecDepth 20000 in
theorem gL_law_X11_about : GoodIn wsL_law (wsV RL 160 RX11 yX11_about wsX11_about) := by sorry
set_option maxRecDepth 20000 in
theorem ggL_law_X12_about : GoodIn wsL_law wsX12_about := by sorry
set_option maxRecDepth 20000 in
theorem gL_law_X12_about : GoodIn wsL_law (wsV RL 163 RX12 yX12_about wsX12_about) := by sorry
