/-! Own rows: the invariant of the law, and its steps. -/
def INVW (c : CT) (m : MT) : Prop := I_told c.2.2.2.1 c.2.2.1 m.1 m.2.1 ∧ I_sums c.1 c.2.1 m.2.2.1 m.2.2.2.1 m.2.2.2.2.1 m.2.2.2.2.2.1 m.2.2.2.2.2.2.1 m.2.2.2.2.2.2.2.1 m.2.2.2.2.2.2.2.2.1 m.2.2.2.2.2.2.2.2.2.1 m.2.2.2.2.2.2.2.2.2.2.1 m.2.2.2.2.2.2.2.2.2.2.2.1 m.2.2.2.2.2.2.2.2.2.2.2.2.1 m.2.2.2.2.2.2.2.2.2.2.2.2.2.1 ∧ I_row c.2.2.2.2.2.1 c.2.2.2.2.1 m.2.2.2.2.2.2.2.2.2.2.2.2.2.2.1 m.2.2.2.2.2.2.2.2.2.2.2.2.2.2.2.1 ∧ I_trace c.2.2.2.2.2.2.1 m.2.2.2.2.2.2.2.2.2.2.2.2.2.2.2.2.2.2.2.2.2.2.2.2.2.2.2.2.2.2.1 ∧ I_kept c.2.2.2.2.2.2.2.2.2.2.2.2.2.1 c.2.2.2.2.2.2.2.2.2.2.2.1 c.2.2.2.2.2.2.2.2.2.2.2.2.1 m.2.2.2.2.2.2.2.2.2.2.2.2.2.2.2.2.1 m.2.2.2.2.2.2.2.2.2.2.2.2.2.2.2.2.2.1 m.2.2.2.2.2.2.2.2.2.2.2.2.2.2.2.2.2.2.1 ∧ I_light c.2.2.2.2.2.2.2.2.2.2.2.2.2.2.2.2.2.2.2.2.2.2.1 c.2.2.2.2.2.2.2.2.2.2.2.2.2.2.2.2.2.2.2.2.2.1 m.2.2.2.2.2.2.2.2.2.2.2.2.2.2.2.2.2.2.2.2.2.2.2.2.1 ∧ I_free c.2.2.2.2.2.2.2.2.2.2.2.2.2.2.2.2.2.2.2.2.2.2.2.2.1 c.2.2.2.2.2.2.2.2.2.2.2.2.2.2.2.2.2.2.2.2.2.2.2.1 m.2.2.2.2.2.2.2.2.2.2.2.2.2.2.2.2.2.2.2.2.2.2.2.2.2.1 m.2.2.2.2.2.2.2.2.2.2.2.2.2.2.2.2.2.2.2.2.2.2.2.2.2.2.1 ∧ I_ways c.2.2.2.2.2.2.2.2.2.2.2.2.2.2.2.2.2.2.2.2.2.2.2.2.2.2.1 c.2.2.2.2.2.2.2.2.2.2.2.2.2.2.2.2.2.2.2.2.2.2.2.2.2.1 m.2.2.2.2.2.2.2.2.2.2.2.2.2.2.2.2.2.2.2.2.2.2.2.2.2.2.2.2.2.1 m.2.2.2.2.2.2.2.2.2.2.2.2.2.2.2.2.2.2.2.2.2.2.2.2.2.2.2.2.1
theorem s_tell : st_tell INVW := by
  intro v_ro v_sumCount v_told v_toldCount v_row v_rowLength v_asked v_rising v_falling v_turned v_totals v_before v_after v_keptBytes v_syndromes v_places v_firstEntry v_nextEntry v_numbers v_counts v_size v_lightestPlaces v_lightestCount v_toldPlaces v_placeCount v_ways v_wayCount v_usable v_upTo m_told m_tell m_sums m_kindOf m_modOf m_bitsOf m_turnOf m_polyOf m_beginOf m_finishOf m_isLow m_weightsOf m_weight m_cell m_size m_row m_keptSize m_keptBefore m_keptAfter m_placeA m_placeB m_turned m_turnedMany m_syndromes m_lightest m_freeMany m_freePlace m_freeSyndrome m_ways m_waysKept m_trace m_comesA m_comesB hI x1
  have hT : I_told v_toldCount v_told m_told m_tell := hI.1
  have hS : I_sums v_ro v_sumCount m_sums m_kindOf m_modOf m_bitsOf m_turnOf m_polyOf m_beginOf m_finishOf m_isLow m_weightsOf m_weight m_cell := hI.2.1
  have hR : I_row v_rowLength v_row m_size m_row := hI.2.2.1
  have hA : I_trace v_asked m_trace := hI.2.2.2.1
  have hK : I_kept v_keptBytes v_before v_after m_keptSize m_keptBefore m_keptAfter := hI.2.2.2.2.1
  have hL : I_light v_lightestCount v_lightestPlaces m_lightest := hI.2.2.2.2.2.1
  have hF : I_free v_placeCount v_toldPlaces m_freeMany m_freePlace := hI.2.2.2.2.2.2.1
  have hW : I_ways v_wayCount v_ways m_waysKept m_ways := hI.2.2.2.2.2.2.2
  obtain ⟨r, r2, e1, e2, e3, h'⟩ := o_tell hT x1
  exact ⟨80000, 80000, r, r2, e1, e2, e3, ⟨h', hS, hR, hA, hK, hL, hF, hW⟩⟩
theorem s_untell : st_untell INVW := by
  intro v_ro v_sumCount v_told v_toldCount v_row v_rowLength v_asked v_rising v_falling v_turned v_totals v_before v_after v_keptBytes v_syndromes v_places v_firstEntry v_nextEntry v_numbers v_counts v_size v_lightestPlaces v_lightestCount v_toldPlaces v_placeCount v_ways v_wayCount v_usable v_upTo m_told m_tell m_sums m_kindOf m_modOf m_bitsOf m_turnOf m_polyOf m_beginOf m_finishOf m_isLow m_weightsOf m_weight m_cell m_size m_row m_keptSize m_keptBefore m_keptAfter m_placeA m_placeB m_turned m_turnedMany m_syndromes m_lightest m_freeMany m_freePlace m_freeSyndrome m_ways m_waysKept m_trace m_comesA m_comesB hI
  have hT : I_told v_toldCount v_told m_told m_tell := hI.1
  have hS : I_sums v_ro v_sumCount m_sums m_kindOf m_modOf m_bitsOf m_turnOf m_polyOf m_beginOf m_finishOf m_isLow m_weightsOf m_weight m_cell := hI.2.1
  have hR : I_row v_rowLength v_row m_size m_row := hI.2.2.1
  have hA : I_trace v_asked m_trace := hI.2.2.2.1
  have hK : I_kept v_keptBytes v_before v_after m_keptSize m_keptBefore m_keptAfter := hI.2.2.2.2.1
  have hL : I_light v_lightestCount v_lightestPlaces m_lightest := hI.2.2.2.2.2.1
  have hF : I_free v_placeCount v_toldPlaces m_freeMany m_freePlace := hI.2.2.2.2.2.2.1
  have hW : I_ways v_wayCount v_ways m_waysKept m_ways := hI.2.2.2.2.2.2.2
  obtain ⟨r, r2, e1, e2, e3, h'⟩ := o_untell hT
  exact ⟨80000, 80000, r, r2, e1, e2, e3, ⟨h', hS, hR, hA, hK, hL, hF, hW⟩⟩
theorem s_plain : st_plain INVW := by
  intro v_ro v_sumCount v_told v_toldCount v_row v_rowLength v_asked v_rising v_falling v_turned v_totals v_before v_after v_keptBytes v_syndromes v_places v_firstEntry v_nextEntry v_numbers v_counts v_size v_lightestPlaces v_lightestCount v_toldPlaces v_placeCount v_ways v_wayCount v_usable v_upTo m_told m_tell m_sums m_kindOf m_modOf m_bitsOf m_turnOf m_polyOf m_beginOf m_finishOf m_isLow m_weightsOf m_weight m_cell m_size m_row m_keptSize m_keptBefore m_keptAfter m_placeA m_placeB m_turned m_turnedMany m_syndromes m_lightest m_freeMany m_freePlace m_freeSyndrome m_ways m_waysKept m_trace m_comesA m_comesB hI x1
  have hT : I_told v_toldCount v_told m_told m_tell := hI.1
  have hS : I_sums v_ro v_sumCount m_sums m_kindOf m_modOf m_bitsOf m_turnOf m_polyOf m_beginOf m_finishOf m_isLow m_weightsOf m_weight m_cell := hI.2.1
  have hR : I_row v_rowLength v_row m_size m_row := hI.2.2.1
  have hA : I_trace v_asked m_trace := hI.2.2.2.1
  have hK : I_kept v_keptBytes v_before v_after m_keptSize m_keptBefore m_keptAfter := hI.2.2.2.2.1
  have hL : I_light v_lightestCount v_lightestPlaces m_lightest := hI.2.2.2.2.2.1
  have hF : I_free v_placeCount v_toldPlaces m_freeMany m_freePlace := hI.2.2.2.2.2.2.1
  have hW : I_ways v_wayCount v_ways m_waysKept m_ways := hI.2.2.2.2.2.2.2
  obtain ⟨r, r2, e1, e2, e3, h'⟩ := o_plain hS x1
  exact ⟨80000, 80000, r, r2, e1, e2, e3, fun a w => ⟨hT, h' a w, hR, hA, hK, hL, hF, hW⟩⟩
theorem s_twofold : st_twofold INVW := by
  intro v_ro v_sumCount v_told v_toldCount v_row v_rowLength v_asked v_rising v_falling v_turned v_totals v_before v_after v_keptBytes v_syndromes v_places v_firstEntry v_nextEntry v_numbers v_counts v_size v_lightestPlaces v_lightestCount v_toldPlaces v_placeCount v_ways v_wayCount v_usable v_upTo m_told m_tell m_sums m_kindOf m_modOf m_bitsOf m_turnOf m_polyOf m_beginOf m_finishOf m_isLow m_weightsOf m_weight m_cell m_size m_row m_keptSize m_keptBefore m_keptAfter m_placeA m_placeB m_turned m_turnedMany m_syndromes m_lightest m_freeMany m_freePlace m_freeSyndrome m_ways m_waysKept m_trace m_comesA m_comesB hI x1
  have hT : I_told v_toldCount v_told m_told m_tell := hI.1
  have hS : I_sums v_ro v_sumCount m_sums m_kindOf m_modOf m_bitsOf m_turnOf m_polyOf m_beginOf m_finishOf m_isLow m_weightsOf m_weight m_cell := hI.2.1
  have hR : I_row v_rowLength v_row m_size m_row := hI.2.2.1
  have hA : I_trace v_asked m_trace := hI.2.2.2.1
  have hK : I_kept v_keptBytes v_before v_after m_keptSize m_keptBefore m_keptAfter := hI.2.2.2.2.1
  have hL : I_light v_lightestCount v_lightestPlaces m_lightest := hI.2.2.2.2.2.1
  have hF : I_free v_placeCount v_toldPlaces m_freeMany m_freePlace := hI.2.2.2.2.2.2.1
  have hW : I_ways v_wayCount v_ways m_waysKept m_ways := hI.2.2.2.2.2.2.2
  obtain ⟨r, r2, e1, e2, e3, h'⟩ := o_twofold hS x1
  exact ⟨80000, 80000, r, r2, e1, e2, e3, fun a w => ⟨hT, h' a w, hR, hA, hK, hL, hF, hW⟩⟩
theorem s_weighted : st_weighted INVW := by
  intro v_ro v_sumCount v_told v_toldCount v_row v_rowLength v_asked v_rising v_falling v_turned v_totals v_before v_after v_keptBytes v_syndromes v_places v_firstEntry v_nextEntry v_numbers v_counts v_size v_lightestPlaces v_lightestCount v_toldPlaces v_placeCount v_ways v_wayCount v_usable v_upTo m_told m_tell m_sums m_kindOf m_modOf m_bitsOf m_turnOf m_polyOf m_beginOf m_finishOf m_isLow m_weightsOf m_weight m_cell m_size m_row m_keptSize m_keptBefore m_keptAfter m_placeA m_placeB m_turned m_turnedMany m_syndromes m_lightest m_freeMany m_freePlace m_freeSyndrome m_ways m_waysKept m_trace m_comesA m_comesB hI x1
  have hT : I_told v_toldCount v_told m_told m_tell := hI.1
  have hS : I_sums v_ro v_sumCount m_sums m_kindOf m_modOf m_bitsOf m_turnOf m_polyOf m_beginOf m_finishOf m_isLow m_weightsOf m_weight m_cell := hI.2.1
  have hR : I_row v_rowLength v_row m_size m_row := hI.2.2.1
  have hA : I_trace v_asked m_trace := hI.2.2.2.1
  have hK : I_kept v_keptBytes v_before v_after m_keptSize m_keptBefore m_keptAfter := hI.2.2.2.2.1
  have hL : I_light v_lightestCount v_lightestPlaces m_lightest := hI.2.2.2.2.2.1
  have hF : I_free v_placeCount v_toldPlaces m_freeMany m_freePlace := hI.2.2.2.2.2.2.1
  have hW : I_ways v_wayCount v_ways m_waysKept m_ways := hI.2.2.2.2.2.2.2
  obtain ⟨r, r2, e1, e2, e3, h', hT'⟩ := o_weighted (n := 80000) (by decide) hT hS x1
  exact ⟨80000, 80000, r, r2, e1, e2, e3, fun a w => ⟨hT', h' a w, hR, hA, hK, hL, hF, hW⟩⟩
theorem s_turning : st_turning INVW := by
  intro v_ro v_sumCount v_told v_toldCount v_row v_rowLength v_asked v_rising v_falling v_turned v_totals v_before v_after v_keptBytes v_syndromes v_places v_firstEntry v_nextEntry v_numbers v_counts v_size v_lightestPlaces v_lightestCount v_toldPlaces v_placeCount v_ways v_wayCount v_usable v_upTo m_told m_tell m_sums m_kindOf m_modOf m_bitsOf m_turnOf m_polyOf m_beginOf m_finishOf m_isLow m_weightsOf m_weight m_cell m_size m_row m_keptSize m_keptBefore m_keptAfter m_placeA m_placeB m_turned m_turnedMany m_syndromes m_lightest m_freeMany m_freePlace m_freeSyndrome m_ways m_waysKept m_trace m_comesA m_comesB hI x1 x2
  have hT : I_told v_toldCount v_told m_told m_tell := hI.1
  have hS : I_sums v_ro v_sumCount m_sums m_kindOf m_modOf m_bitsOf m_turnOf m_polyOf m_beginOf m_finishOf m_isLow m_weightsOf m_weight m_cell := hI.2.1
  have hR : I_row v_rowLength v_row m_size m_row := hI.2.2.1
  have hA : I_trace v_asked m_trace := hI.2.2.2.1
  have hK : I_kept v_keptBytes v_before v_after m_keptSize m_keptBefore m_keptAfter := hI.2.2.2.2.1
  have hL : I_light v_lightestCount v_lightestPlaces m_lightest := hI.2.2.2.2.2.1
  have hF : I_free v_placeCount v_toldPlaces m_freeMany m_freePlace := hI.2.2.2.2.2.2.1
  have hW : I_ways v_wayCount v_ways m_waysKept m_ways := hI.2.2.2.2.2.2.2
  obtain ⟨r, r2, e1, e2, e3, h'⟩ := o_turning hS x1 x2
  exact ⟨80000, 80000, r, r2, e1, e2, e3, fun a w => ⟨hT, h' a w, hR, hA, hK, hL, hF, hW⟩⟩
theorem s_divided : st_divided INVW := by
  intro v_ro v_sumCount v_told v_toldCount v_row v_rowLength v_asked v_rising v_falling v_turned v_totals v_before v_after v_keptBytes v_syndromes v_places v_firstEntry v_nextEntry v_numbers v_counts v_size v_lightestPlaces v_lightestCount v_toldPlaces v_placeCount v_ways v_wayCount v_usable v_upTo m_told m_tell m_sums m_kindOf m_modOf m_bitsOf m_turnOf m_polyOf m_beginOf m_finishOf m_isLow m_weightsOf m_weight m_cell m_size m_row m_keptSize m_keptBefore m_keptAfter m_placeA m_placeB m_turned m_turnedMany m_syndromes m_lightest m_freeMany m_freePlace m_freeSyndrome m_ways m_waysKept m_trace m_comesA m_comesB hI x1 x2 x4 x6 x8 x9 h8 h9
  have hT : I_told v_toldCount v_told m_told m_tell := hI.1
  have hS : I_sums v_ro v_sumCount m_sums m_kindOf m_modOf m_bitsOf m_turnOf m_polyOf m_beginOf m_finishOf m_isLow m_weightsOf m_weight m_cell := hI.2.1
  have hR : I_row v_rowLength v_row m_size m_row := hI.2.2.1
  have hA : I_trace v_asked m_trace := hI.2.2.2.1
  have hK : I_kept v_keptBytes v_before v_after m_keptSize m_keptBefore m_keptAfter := hI.2.2.2.2.1
  have hL : I_light v_lightestCount v_lightestPlaces m_lightest := hI.2.2.2.2.2.1
  have hF : I_free v_placeCount v_toldPlaces m_freeMany m_freePlace := hI.2.2.2.2.2.2.1
  have hW : I_ways v_wayCount v_ways m_waysKept m_ways := hI.2.2.2.2.2.2.2
  obtain ⟨r, r2, e1, e2, e3, h'⟩ := o_divided hS x1 x2 x4 x6 x8 x9 h8 h9
  exact ⟨80000, 80000, r, r2, e1, e2, e3, fun a w => ⟨hT, h' a w, hR, hA, hK, hL, hF, hW⟩⟩
theorem s_square : st_square INVW := by
  intro v_ro v_sumCount v_told v_toldCount v_row v_rowLength v_asked v_rising v_falling v_turned v_totals v_before v_after v_keptBytes v_syndromes v_places v_firstEntry v_nextEntry v_numbers v_counts v_size v_lightestPlaces v_lightestCount v_toldPlaces v_placeCount v_ways v_wayCount v_usable v_upTo m_told m_tell m_sums m_kindOf m_modOf m_bitsOf m_turnOf m_polyOf m_beginOf m_finishOf m_isLow m_weightsOf m_weight m_cell m_size m_row m_keptSize m_keptBefore m_keptAfter m_placeA m_placeB m_turned m_turnedMany m_syndromes m_lightest m_freeMany m_freePlace m_freeSyndrome m_ways m_waysKept m_trace m_comesA m_comesB hI x1
  have hT : I_told v_toldCount v_told m_told m_tell := hI.1
  have hS : I_sums v_ro v_sumCount m_sums m_kindOf m_modOf m_bitsOf m_turnOf m_polyOf m_beginOf m_finishOf m_isLow m_weightsOf m_weight m_cell := hI.2.1
  have hR : I_row v_rowLength v_row m_size m_row := hI.2.2.1
  have hA : I_trace v_asked m_trace := hI.2.2.2.1
  have hK : I_kept v_keptBytes v_before v_after m_keptSize m_keptBefore m_keptAfter := hI.2.2.2.2.1
  have hL : I_light v_lightestCount v_lightestPlaces m_lightest := hI.2.2.2.2.2.1
  have hF : I_free v_placeCount v_toldPlaces m_freeMany m_freePlace := hI.2.2.2.2.2.2.1
  have hW : I_ways v_wayCount v_ways m_waysKept m_ways := hI.2.2.2.2.2.2.2
  obtain ⟨r, r2, e1, e2, e3, h', hT'⟩ := o_square (n := 80000) (by decide) hT hS x1
  exact ⟨80000, 80000, r, r2, e1, e2, e3, fun a w => ⟨hT', h' a w, hR, hA, hK, hL, hF, hW⟩⟩
theorem s_kind : st_kind INVW := by
  intro v_ro v_sumCount v_told v_toldCount v_row v_rowLength v_asked v_rising v_falling v_turned v_totals v_before v_after v_keptBytes v_syndromes v_places v_firstEntry v_nextEntry v_numbers v_counts v_size v_lightestPlaces v_lightestCount v_toldPlaces v_placeCount v_ways v_wayCount v_usable v_upTo m_told m_tell m_sums m_kindOf m_modOf m_bitsOf m_turnOf m_polyOf m_beginOf m_finishOf m_isLow m_weightsOf m_weight m_cell m_size m_row m_keptSize m_keptBefore m_keptAfter m_placeA m_placeB m_turned m_turnedMany m_syndromes m_lightest m_freeMany m_freePlace m_freeSyndrome m_ways m_waysKept m_trace m_comesA m_comesB hI x1
  have hT : I_told v_toldCount v_told m_told m_tell := hI.1
  have hS : I_sums v_ro v_sumCount m_sums m_kindOf m_modOf m_bitsOf m_turnOf m_polyOf m_beginOf m_finishOf m_isLow m_weightsOf m_weight m_cell := hI.2.1
  have hR : I_row v_rowLength v_row m_size m_row := hI.2.2.1
  have hA : I_trace v_asked m_trace := hI.2.2.2.1
  have hK : I_kept v_keptBytes v_before v_after m_keptSize m_keptBefore m_keptAfter := hI.2.2.2.2.1
  have hL : I_light v_lightestCount v_lightestPlaces m_lightest := hI.2.2.2.2.2.1
  have hF : I_free v_placeCount v_toldPlaces m_freeMany m_freePlace := hI.2.2.2.2.2.2.1
  have hW : I_ways v_wayCount v_ways m_waysKept m_ways := hI.2.2.2.2.2.2.2
  obtain ⟨r, r2, e1, e2, e3⟩ := o_kind hS x1
  exact ⟨80000, 80000, r, r2, e1, e2, e3, ⟨hT, hS, hR, hA, hK, hL, hF, hW⟩⟩
theorem s_put : st_put INVW := by
  intro v_ro v_sumCount v_told v_toldCount v_row v_rowLength v_asked v_rising v_falling v_turned v_totals v_before v_after v_keptBytes v_syndromes v_places v_firstEntry v_nextEntry v_numbers v_counts v_size v_lightestPlaces v_lightestCount v_toldPlaces v_placeCount v_ways v_wayCount v_usable v_upTo m_told m_tell m_sums m_kindOf m_modOf m_bitsOf m_turnOf m_polyOf m_beginOf m_finishOf m_isLow m_weightsOf m_weight m_cell m_size m_row m_keptSize m_keptBefore m_keptAfter m_placeA m_placeB m_turned m_turnedMany m_syndromes m_lightest m_freeMany m_freePlace m_freeSyndrome m_ways m_waysKept m_trace m_comesA m_comesB hI x1
  have hT : I_told v_toldCount v_told m_told m_tell := hI.1
  have hS : I_sums v_ro v_sumCount m_sums m_kindOf m_modOf m_bitsOf m_turnOf m_polyOf m_beginOf m_finishOf m_isLow m_weightsOf m_weight m_cell := hI.2.1
  have hR : I_row v_rowLength v_row m_size m_row := hI.2.2.1
  have hA : I_trace v_asked m_trace := hI.2.2.2.1
  have hK : I_kept v_keptBytes v_before v_after m_keptSize m_keptBefore m_keptAfter := hI.2.2.2.2.1
  have hL : I_light v_lightestCount v_lightestPlaces m_lightest := hI.2.2.2.2.2.1
  have hF : I_free v_placeCount v_toldPlaces m_freeMany m_freePlace := hI.2.2.2.2.2.2.1
  have hW : I_ways v_wayCount v_ways m_waysKept m_ways := hI.2.2.2.2.2.2.2
  obtain ⟨r, r2, e1, e2, e3, h'⟩ := o_put hR x1
  exact ⟨80000, 80000, r, r2, e1, e2, e3, ⟨hT, hS, h', hA, hK, hL, hF, hW⟩⟩
theorem s_set : st_set INVW := by
  intro v_ro v_sumCount v_told v_toldCount v_row v_rowLength v_asked v_rising v_falling v_turned v_totals v_before v_after v_keptBytes v_syndromes v_places v_firstEntry v_nextEntry v_numbers v_counts v_size v_lightestPlaces v_lightestCount v_toldPlaces v_placeCount v_ways v_wayCount v_usable v_upTo m_told m_tell m_sums m_kindOf m_modOf m_bitsOf m_turnOf m_polyOf m_beginOf m_finishOf m_isLow m_weightsOf m_weight m_cell m_size m_row m_keptSize m_keptBefore m_keptAfter m_placeA m_placeB m_turned m_turnedMany m_syndromes m_lightest m_freeMany m_freePlace m_freeSyndrome m_ways m_waysKept m_trace m_comesA m_comesB hI x1 x2
  have hT : I_told v_toldCount v_told m_told m_tell := hI.1
  have hS : I_sums v_ro v_sumCount m_sums m_kindOf m_modOf m_bitsOf m_turnOf m_polyOf m_beginOf m_finishOf m_isLow m_weightsOf m_weight m_cell := hI.2.1
  have hR : I_row v_rowLength v_row m_size m_row := hI.2.2.1
  have hA : I_trace v_asked m_trace := hI.2.2.2.1
  have hK : I_kept v_keptBytes v_before v_after m_keptSize m_keptBefore m_keptAfter := hI.2.2.2.2.1
  have hL : I_light v_lightestCount v_lightestPlaces m_lightest := hI.2.2.2.2.2.1
  have hF : I_free v_placeCount v_toldPlaces m_freeMany m_freePlace := hI.2.2.2.2.2.2.1
  have hW : I_ways v_wayCount v_ways m_waysKept m_ways := hI.2.2.2.2.2.2.2
  obtain ⟨r, r2, e1, e2, e3, h'⟩ := o_set hR x1 x2
  exact ⟨80000, 80000, r, r2, e1, e2, e3, ⟨hT, hS, h', hA, hK, hL, hF, hW⟩⟩
theorem s_at : st_at INVW := by
  intro v_ro v_sumCount v_told v_toldCount v_row v_rowLength v_asked v_rising v_falling v_turned v_totals v_before v_after v_keptBytes v_syndromes v_places v_firstEntry v_nextEntry v_numbers v_counts v_size v_lightestPlaces v_lightestCount v_toldPlaces v_placeCount v_ways v_wayCount v_usable v_upTo m_told m_tell m_sums m_kindOf m_modOf m_bitsOf m_turnOf m_polyOf m_beginOf m_finishOf m_isLow m_weightsOf m_weight m_cell m_size m_row m_keptSize m_keptBefore m_keptAfter m_placeA m_placeB m_turned m_turnedMany m_syndromes m_lightest m_freeMany m_freePlace m_freeSyndrome m_ways m_waysKept m_trace m_comesA m_comesB hI x1
  have hT : I_told v_toldCount v_told m_told m_tell := hI.1
  have hS : I_sums v_ro v_sumCount m_sums m_kindOf m_modOf m_bitsOf m_turnOf m_polyOf m_beginOf m_finishOf m_isLow m_weightsOf m_weight m_cell := hI.2.1
  have hR : I_row v_rowLength v_row m_size m_row := hI.2.2.1
  have hA : I_trace v_asked m_trace := hI.2.2.2.1
  have hK : I_kept v_keptBytes v_before v_after m_keptSize m_keptBefore m_keptAfter := hI.2.2.2.2.1
  have hL : I_light v_lightestCount v_lightestPlaces m_lightest := hI.2.2.2.2.2.1
  have hF : I_free v_placeCount v_toldPlaces m_freeMany m_freePlace := hI.2.2.2.2.2.2.1
  have hW : I_ways v_wayCount v_ways m_waysKept m_ways := hI.2.2.2.2.2.2.2
  obtain ⟨r, r2, e1, e2, e3⟩ := o_at hR x1
  exact ⟨80000, 80000, r, r2, e1, e2, e3, ⟨hT, hS, hR, hA, hK, hL, hF, hW⟩⟩
theorem s_cut : st_cut INVW := by
  intro v_ro v_sumCount v_told v_toldCount v_row v_rowLength v_asked v_rising v_falling v_turned v_totals v_before v_after v_keptBytes v_syndromes v_places v_firstEntry v_nextEntry v_numbers v_counts v_size v_lightestPlaces v_lightestCount v_toldPlaces v_placeCount v_ways v_wayCount v_usable v_upTo m_told m_tell m_sums m_kindOf m_modOf m_bitsOf m_turnOf m_polyOf m_beginOf m_finishOf m_isLow m_weightsOf m_weight m_cell m_size m_row m_keptSize m_keptBefore m_keptAfter m_placeA m_placeB m_turned m_turnedMany m_syndromes m_lightest m_freeMany m_freePlace m_freeSyndrome m_ways m_waysKept m_trace m_comesA m_comesB hI x1
  have hT : I_told v_toldCount v_told m_told m_tell := hI.1
  have hS : I_sums v_ro v_sumCount m_sums m_kindOf m_modOf m_bitsOf m_turnOf m_polyOf m_beginOf m_finishOf m_isLow m_weightsOf m_weight m_cell := hI.2.1
  have hR : I_row v_rowLength v_row m_size m_row := hI.2.2.1
  have hA : I_trace v_asked m_trace := hI.2.2.2.1
  have hK : I_kept v_keptBytes v_before v_after m_keptSize m_keptBefore m_keptAfter := hI.2.2.2.2.1
  have hL : I_light v_lightestCount v_lightestPlaces m_lightest := hI.2.2.2.2.2.1
  have hF : I_free v_placeCount v_toldPlaces m_freeMany m_freePlace := hI.2.2.2.2.2.2.1
  have hW : I_ways v_wayCount v_ways m_waysKept m_ways := hI.2.2.2.2.2.2.2
  obtain ⟨r, r2, e1, e2, e3, h'⟩ := o_cut hR x1
  exact ⟨80000, 80000, r, r2, e1, e2, e3, ⟨hT, hS, h', hA, hK, hL, hF, hW⟩⟩
theorem s_sum : st_sum INVW := by
  intro v_ro v_sumCount v_told v_toldCount v_row v_rowLength v_asked v_rising v_falling v_turned v_totals v_before v_after v_keptBytes v_syndromes v_places v_firstEntry v_nextEntry v_numbers v_counts v_size v_lightestPlaces v_lightestCount v_toldPlaces v_placeCount v_ways v_wayCount v_usable v_upTo m_told m_tell m_sums m_kindOf m_modOf m_bitsOf m_turnOf m_polyOf m_beginOf m_finishOf m_isLow m_weightsOf m_weight m_cell m_size m_row m_keptSize m_keptBefore m_keptAfter m_placeA m_placeB m_turned m_turnedMany m_syndromes m_lightest m_freeMany m_freePlace m_freeSyndrome m_ways m_waysKept m_trace m_comesA m_comesB hI x1
  have hT : I_told v_toldCount v_told m_told m_tell := hI.1
  have hS : I_sums v_ro v_sumCount m_sums m_kindOf m_modOf m_bitsOf m_turnOf m_polyOf m_beginOf m_finishOf m_isLow m_weightsOf m_weight m_cell := hI.2.1
  have hR : I_row v_rowLength v_row m_size m_row := hI.2.2.1
  have hA : I_trace v_asked m_trace := hI.2.2.2.1
  have hK : I_kept v_keptBytes v_before v_after m_keptSize m_keptBefore m_keptAfter := hI.2.2.2.2.1
  have hL : I_light v_lightestCount v_lightestPlaces m_lightest := hI.2.2.2.2.2.1
  have hF : I_free v_placeCount v_toldPlaces m_freeMany m_freePlace := hI.2.2.2.2.2.2.1
  have hW : I_ways v_wayCount v_ways m_waysKept m_ways := hI.2.2.2.2.2.2.2
  obtain ⟨r, r2, e1, e2, e3, h'⟩ := o_sum (n := 80000) (by decide) hR hS hA x1
  exact ⟨80000, 80000, r, r2, e1, e2, e3, ⟨hT, hS, hR, h', hK, hL, hF, hW⟩⟩
theorem s_joined : st_joined INVW := by
  intro v_ro v_sumCount v_told v_toldCount v_row v_rowLength v_asked v_rising v_falling v_turned v_totals v_before v_after v_keptBytes v_syndromes v_places v_firstEntry v_nextEntry v_numbers v_counts v_size v_lightestPlaces v_lightestCount v_toldPlaces v_placeCount v_ways v_wayCount v_usable v_upTo m_told m_tell m_sums m_kindOf m_modOf m_bitsOf m_turnOf m_polyOf m_beginOf m_finishOf m_isLow m_weightsOf m_weight m_cell m_size m_row m_keptSize m_keptBefore m_keptAfter m_placeA m_placeB m_turned m_turnedMany m_syndromes m_lightest m_freeMany m_freePlace m_freeSyndrome m_ways m_waysKept m_trace m_comesA m_comesB hI x1 x2 x4 x5 x7
  have hT : I_told v_toldCount v_told m_told m_tell := hI.1
  have hS : I_sums v_ro v_sumCount m_sums m_kindOf m_modOf m_bitsOf m_turnOf m_polyOf m_beginOf m_finishOf m_isLow m_weightsOf m_weight m_cell := hI.2.1
  have hR : I_row v_rowLength v_row m_size m_row := hI.2.2.1
  have hA : I_trace v_asked m_trace := hI.2.2.2.1
  have hK : I_kept v_keptBytes v_before v_after m_keptSize m_keptBefore m_keptAfter := hI.2.2.2.2.1
  have hL : I_light v_lightestCount v_lightestPlaces m_lightest := hI.2.2.2.2.2.1
  have hF : I_free v_placeCount v_toldPlaces m_freeMany m_freePlace := hI.2.2.2.2.2.2.1
  have hW : I_ways v_wayCount v_ways m_waysKept m_ways := hI.2.2.2.2.2.2.2
  obtain ⟨r, r2, e1, e2, e3⟩ := o_joined (n := 80000) (by decide) hS x1 x2 x4 x5 x7
  exact ⟨80000, 80000, r, r2, e1, e2, e3, ⟨hT, hS, hR, hA, hK, hL, hF, hW⟩⟩
theorem s_other : st_other INVW := by
  intro v_ro v_sumCount v_told v_toldCount v_row v_rowLength v_asked v_rising v_falling v_turned v_totals v_before v_after v_keptBytes v_syndromes v_places v_firstEntry v_nextEntry v_numbers v_counts v_size v_lightestPlaces v_lightestCount v_toldPlaces v_placeCount v_ways v_wayCount v_usable v_upTo m_told m_tell m_sums m_kindOf m_modOf m_bitsOf m_turnOf m_polyOf m_beginOf m_finishOf m_isLow m_weightsOf m_weight m_cell m_size m_row m_keptSize m_keptBefore m_keptAfter m_placeA m_placeB m_turned m_turnedMany m_syndromes m_lightest m_freeMany m_freePlace m_freeSyndrome m_ways m_waysKept m_trace m_comesA m_comesB hI x1 x2 x4 x5 x6 x7
  have hT : I_told v_toldCount v_told m_told m_tell := hI.1
  have hS : I_sums v_ro v_sumCount m_sums m_kindOf m_modOf m_bitsOf m_turnOf m_polyOf m_beginOf m_finishOf m_isLow m_weightsOf m_weight m_cell := hI.2.1
  have hR : I_row v_rowLength v_row m_size m_row := hI.2.2.1
  have hA : I_trace v_asked m_trace := hI.2.2.2.1
  have hK : I_kept v_keptBytes v_before v_after m_keptSize m_keptBefore m_keptAfter := hI.2.2.2.2.1
  have hL : I_light v_lightestCount v_lightestPlaces m_lightest := hI.2.2.2.2.2.1
  have hF : I_free v_placeCount v_toldPlaces m_freeMany m_freePlace := hI.2.2.2.2.2.2.1
  have hW : I_ways v_wayCount v_ways m_waysKept m_ways := hI.2.2.2.2.2.2.2
  obtain ⟨r, r2, e1, e2, e3⟩ := o_other (n := 80000) (by decide) hS x1 x2 x4 x5 x6 x7
  exact ⟨80000, 80000, r, r2, e1, e2, e3, ⟨hT, hS, hR, hA, hK, hL, hF, hW⟩⟩
theorem s_less : st_less INVW := by
  intro v_ro v_sumCount v_told v_toldCount v_row v_rowLength v_asked v_rising v_falling v_turned v_totals v_before v_after v_keptBytes v_syndromes v_places v_firstEntry v_nextEntry v_numbers v_counts v_size v_lightestPlaces v_lightestCount v_toldPlaces v_placeCount v_ways v_wayCount v_usable v_upTo m_told m_tell m_sums m_kindOf m_modOf m_bitsOf m_turnOf m_polyOf m_beginOf m_finishOf m_isLow m_weightsOf m_weight m_cell m_size m_row m_keptSize m_keptBefore m_keptAfter m_placeA m_placeB m_turned m_turnedMany m_syndromes m_lightest m_freeMany m_freePlace m_freeSyndrome m_ways m_waysKept m_trace m_comesA m_comesB hI x1 x2 x4 x5
  have hT : I_told v_toldCount v_told m_told m_tell := hI.1
  have hS : I_sums v_ro v_sumCount m_sums m_kindOf m_modOf m_bitsOf m_turnOf m_polyOf m_beginOf m_finishOf m_isLow m_weightsOf m_weight m_cell := hI.2.1
  have hR : I_row v_rowLength v_row m_size m_row := hI.2.2.1
  have hA : I_trace v_asked m_trace := hI.2.2.2.1
  have hK : I_kept v_keptBytes v_before v_after m_keptSize m_keptBefore m_keptAfter := hI.2.2.2.2.1
  have hL : I_light v_lightestCount v_lightestPlaces m_lightest := hI.2.2.2.2.2.1
  have hF : I_free v_placeCount v_toldPlaces m_freeMany m_freePlace := hI.2.2.2.2.2.2.1
  have hW : I_ways v_wayCount v_ways m_waysKept m_ways := hI.2.2.2.2.2.2.2
  obtain ⟨r, r2, e1, e2, e3⟩ := o_less (n := 80000) (by decide) hS x1 x2 x4 x5
  exact ⟨80000, 80000, r, r2, e1, e2, e3, ⟨hT, hS, hR, hA, hK, hL, hF, hW⟩⟩
theorem s_sees : st_sees INVW := by
  intro v_ro v_sumCount v_told v_toldCount v_row v_rowLength v_asked v_rising v_falling v_turned v_totals v_before v_after v_keptBytes v_syndromes v_places v_firstEntry v_nextEntry v_numbers v_counts v_size v_lightestPlaces v_lightestCount v_toldPlaces v_placeCount v_ways v_wayCount v_usable v_upTo m_told m_tell m_sums m_kindOf m_modOf m_bitsOf m_turnOf m_polyOf m_beginOf m_finishOf m_isLow m_weightsOf m_weight m_cell m_size m_row m_keptSize m_keptBefore m_keptAfter m_placeA m_placeB m_turned m_turnedMany m_syndromes m_lightest m_freeMany m_freePlace m_freeSyndrome m_ways m_waysKept m_trace m_comesA m_comesB hI x1 x2 x3 x4
  have hT : I_told v_toldCount v_told m_told m_tell := hI.1
  have hS : I_sums v_ro v_sumCount m_sums m_kindOf m_modOf m_bitsOf m_turnOf m_polyOf m_beginOf m_finishOf m_isLow m_weightsOf m_weight m_cell := hI.2.1
  have hR : I_row v_rowLength v_row m_size m_row := hI.2.2.1
  have hA : I_trace v_asked m_trace := hI.2.2.2.1
  have hK : I_kept v_keptBytes v_before v_after m_keptSize m_keptBefore m_keptAfter := hI.2.2.2.2.1
  have hL : I_light v_lightestCount v_lightestPlaces m_lightest := hI.2.2.2.2.2.1
  have hF : I_free v_placeCount v_toldPlaces m_freeMany m_freePlace := hI.2.2.2.2.2.2.1
  have hW : I_ways v_wayCount v_ways m_waysKept m_ways := hI.2.2.2.2.2.2.2
  obtain ⟨r, r2, e1, e2, e3, h'⟩ := o_sees (n := 80000) (by decide) hS hK x1 x2 x3 x4 v_rising v_falling v_turned v_totals m_placeA m_placeB m_turned m_turnedMany m_comesA m_comesB
  exact ⟨80000, 80000, r, r2, e1, e2, e3, ⟨hT, hS, hR, hA, h', hL, hF, hW⟩⟩
theorem s_passes : st_passes INVW := by
  intro v_ro v_sumCount v_told v_toldCount v_row v_rowLength v_asked v_rising v_falling v_turned v_totals v_before v_after v_keptBytes v_syndromes v_places v_firstEntry v_nextEntry v_numbers v_counts v_size v_lightestPlaces v_lightestCount v_toldPlaces v_placeCount v_ways v_wayCount v_usable v_upTo m_told m_tell m_sums m_kindOf m_modOf m_bitsOf m_turnOf m_polyOf m_beginOf m_finishOf m_isLow m_weightsOf m_weight m_cell m_size m_row m_keptSize m_keptBefore m_keptAfter m_placeA m_placeB m_turned m_turnedMany m_syndromes m_lightest m_freeMany m_freePlace m_freeSyndrome m_ways m_waysKept m_trace m_comesA m_comesB hI x1 x2 h2
  have hT : I_told v_toldCount v_told m_told m_tell := hI.1
  have hS : I_sums v_ro v_sumCount m_sums m_kindOf m_modOf m_bitsOf m_turnOf m_polyOf m_beginOf m_finishOf m_isLow m_weightsOf m_weight m_cell := hI.2.1
  have hR : I_row v_rowLength v_row m_size m_row := hI.2.2.1
  have hA : I_trace v_asked m_trace := hI.2.2.2.1
  have hK : I_kept v_keptBytes v_before v_after m_keptSize m_keptBefore m_keptAfter := hI.2.2.2.2.1
  have hL : I_light v_lightestCount v_lightestPlaces m_lightest := hI.2.2.2.2.2.1
  have hF : I_free v_placeCount v_toldPlaces m_freeMany m_freePlace := hI.2.2.2.2.2.2.1
  have hW : I_ways v_wayCount v_ways m_waysKept m_ways := hI.2.2.2.2.2.2.2
  obtain ⟨r, r2, e1, e2, e3⟩ := o_passes hK x1 x2
  exact ⟨80000, 80000, r, r2, e1, e2, e3, ⟨hT, hS, hR, hA, hK, hL, hF, hW⟩⟩
theorem s_signs : st_signs INVW := by
  intro v_ro v_sumCount v_told v_toldCount v_row v_rowLength v_asked v_rising v_falling v_turned v_totals v_before v_after v_keptBytes v_syndromes v_places v_firstEntry v_nextEntry v_numbers v_counts v_size v_lightestPlaces v_lightestCount v_toldPlaces v_placeCount v_ways v_wayCount v_usable v_upTo m_told m_tell m_sums m_kindOf m_modOf m_bitsOf m_turnOf m_polyOf m_beginOf m_finishOf m_isLow m_weightsOf m_weight m_cell m_size m_row m_keptSize m_keptBefore m_keptAfter m_placeA m_placeB m_turned m_turnedMany m_syndromes m_lightest m_freeMany m_freePlace m_freeSyndrome m_ways m_waysKept m_trace m_comesA m_comesB hI x1 x2
  have hT : I_told v_toldCount v_told m_told m_tell := hI.1
  have hS : I_sums v_ro v_sumCount m_sums m_kindOf m_modOf m_bitsOf m_turnOf m_polyOf m_beginOf m_finishOf m_isLow m_weightsOf m_weight m_cell := hI.2.1
  have hR : I_row v_rowLength v_row m_size m_row := hI.2.2.1
  have hA : I_trace v_asked m_trace := hI.2.2.2.1
  have hK : I_kept v_keptBytes v_before v_after m_keptSize m_keptBefore m_keptAfter := hI.2.2.2.2.1
  have hL : I_light v_lightestCount v_lightestPlaces m_lightest := hI.2.2.2.2.2.1
  have hF : I_free v_placeCount v_toldPlaces m_freeMany m_freePlace := hI.2.2.2.2.2.2.1
  have hW : I_ways v_wayCount v_ways m_waysKept m_ways := hI.2.2.2.2.2.2.2
  obtain ⟨r, r2, e1, e2, e3⟩ := o_signs (n := 80000) (by decide) hS x1 x2
  exact ⟨80000, 80000, r, r2, e1, e2, e3, ⟨hT, hS, hR, hA, hK, hL, hF, hW⟩⟩
theorem s_syndrome : st_syndrome INVW := by
  intro v_ro v_sumCount v_told v_toldCount v_row v_rowLength v_asked v_rising v_falling v_turned v_totals v_before v_after v_keptBytes v_syndromes v_places v_firstEntry v_nextEntry v_numbers v_counts v_size v_lightestPlaces v_lightestCount v_toldPlaces v_placeCount v_ways v_wayCount v_usable v_upTo m_told m_tell m_sums m_kindOf m_modOf m_bitsOf m_turnOf m_polyOf m_beginOf m_finishOf m_isLow m_weightsOf m_weight m_cell m_size m_row m_keptSize m_keptBefore m_keptAfter m_placeA m_placeB m_turned m_turnedMany m_syndromes m_lightest m_freeMany m_freePlace m_freeSyndrome m_ways m_waysKept m_trace m_comesA m_comesB hI x1 x2 x3
  have hT : I_told v_toldCount v_told m_told m_tell := hI.1
  have hS : I_sums v_ro v_sumCount m_sums m_kindOf m_modOf m_bitsOf m_turnOf m_polyOf m_beginOf m_finishOf m_isLow m_weightsOf m_weight m_cell := hI.2.1
  have hR : I_row v_rowLength v_row m_size m_row := hI.2.2.1
  have hA : I_trace v_asked m_trace := hI.2.2.2.1
  have hK : I_kept v_keptBytes v_before v_after m_keptSize m_keptBefore m_keptAfter := hI.2.2.2.2.1
  have hL : I_light v_lightestCount v_lightestPlaces m_lightest := hI.2.2.2.2.2.1
  have hF : I_free v_placeCount v_toldPlaces m_freeMany m_freePlace := hI.2.2.2.2.2.2.1
  have hW : I_ways v_wayCount v_ways m_waysKept m_ways := hI.2.2.2.2.2.2.2
  obtain ⟨r, r2, e1, e2, e3⟩ := o_syndrome (n := 80000) (by decide) hS x1 x2 x3
  exact ⟨80000, 80000, r, r2, e1, e2, e3, ⟨hT, hS, hR, hA, hK, hL, hF, hW⟩⟩
theorem s_weight : st_weight INVW := by
  intro v_ro v_sumCount v_told v_toldCount v_row v_rowLength v_asked v_rising v_falling v_turned v_totals v_before v_after v_keptBytes v_syndromes v_places v_firstEntry v_nextEntry v_numbers v_counts v_size v_lightestPlaces v_lightestCount v_toldPlaces v_placeCount v_ways v_wayCount v_usable v_upTo m_told m_tell m_sums m_kindOf m_modOf m_bitsOf m_turnOf m_polyOf m_beginOf m_finishOf m_isLow m_weightsOf m_weight m_cell m_size m_row m_keptSize m_keptBefore m_keptAfter m_placeA m_placeB m_turned m_turnedMany m_syndromes m_lightest m_freeMany m_freePlace m_freeSyndrome m_ways m_waysKept m_trace m_comesA m_comesB hI x1 x2
  have hT : I_told v_toldCount v_told m_told m_tell := hI.1
  have hS : I_sums v_ro v_sumCount m_sums m_kindOf m_modOf m_bitsOf m_turnOf m_polyOf m_beginOf m_finishOf m_isLow m_weightsOf m_weight m_cell := hI.2.1
  have hR : I_row v_rowLength v_row m_size m_row := hI.2.2.1
  have hA : I_trace v_asked m_trace := hI.2.2.2.1
  have hK : I_kept v_keptBytes v_before v_after m_keptSize m_keptBefore m_keptAfter := hI.2.2.2.2.1
  have hL : I_light v_lightestCount v_lightestPlaces m_lightest := hI.2.2.2.2.2.1
  have hF : I_free v_placeCount v_toldPlaces m_freeMany m_freePlace := hI.2.2.2.2.2.2.1
  have hW : I_ways v_wayCount v_ways m_waysKept m_ways := hI.2.2.2.2.2.2.2
  obtain ⟨r, r2, e1, e2, e3, h'⟩ := o_weight (n := 80000) (by decide) hS hL x1 x2 v_syndromes v_places v_firstEntry v_nextEntry v_numbers v_counts v_size m_syndromes
  exact ⟨80000, 80000, r, r2, e1, e2, e3, ⟨hT, hS, hR, hA, hK, h', hF, hW⟩⟩
theorem s_lightest : st_lightest INVW := by
  intro v_ro v_sumCount v_told v_toldCount v_row v_rowLength v_asked v_rising v_falling v_turned v_totals v_before v_after v_keptBytes v_syndromes v_places v_firstEntry v_nextEntry v_numbers v_counts v_size v_lightestPlaces v_lightestCount v_toldPlaces v_placeCount v_ways v_wayCount v_usable v_upTo m_told m_tell m_sums m_kindOf m_modOf m_bitsOf m_turnOf m_polyOf m_beginOf m_finishOf m_isLow m_weightsOf m_weight m_cell m_size m_row m_keptSize m_keptBefore m_keptAfter m_placeA m_placeB m_turned m_turnedMany m_syndromes m_lightest m_freeMany m_freePlace m_freeSyndrome m_ways m_waysKept m_trace m_comesA m_comesB hI x1
  have hT : I_told v_toldCount v_told m_told m_tell := hI.1
  have hS : I_sums v_ro v_sumCount m_sums m_kindOf m_modOf m_bitsOf m_turnOf m_polyOf m_beginOf m_finishOf m_isLow m_weightsOf m_weight m_cell := hI.2.1
  have hR : I_row v_rowLength v_row m_size m_row := hI.2.2.1
  have hA : I_trace v_asked m_trace := hI.2.2.2.1
  have hK : I_kept v_keptBytes v_before v_after m_keptSize m_keptBefore m_keptAfter := hI.2.2.2.2.1
  have hL : I_light v_lightestCount v_lightestPlaces m_lightest := hI.2.2.2.2.2.1
  have hF : I_free v_placeCount v_toldPlaces m_freeMany m_freePlace := hI.2.2.2.2.2.2.1
  have hW : I_ways v_wayCount v_ways m_waysKept m_ways := hI.2.2.2.2.2.2.2
  obtain ⟨r, r2, e1, e2, e3⟩ := o_lightest hL x1
  exact ⟨80000, 80000, r, r2, e1, e2, e3, ⟨hT, hS, hR, hA, hK, hL, hF, hW⟩⟩
theorem s_count : st_count INVW := by
  intro v_ro v_sumCount v_told v_toldCount v_row v_rowLength v_asked v_rising v_falling v_turned v_totals v_before v_after v_keptBytes v_syndromes v_places v_firstEntry v_nextEntry v_numbers v_counts v_size v_lightestPlaces v_lightestCount v_toldPlaces v_placeCount v_ways v_wayCount v_usable v_upTo m_told m_tell m_sums m_kindOf m_modOf m_bitsOf m_turnOf m_polyOf m_beginOf m_finishOf m_isLow m_weightsOf m_weight m_cell m_size m_row m_keptSize m_keptBefore m_keptAfter m_placeA m_placeB m_turned m_turnedMany m_syndromes m_lightest m_freeMany m_freePlace m_freeSyndrome m_ways m_waysKept m_trace m_comesA m_comesB hI x1 x2 x3
  have hT : I_told v_toldCount v_told m_told m_tell := hI.1
  have hS : I_sums v_ro v_sumCount m_sums m_kindOf m_modOf m_bitsOf m_turnOf m_polyOf m_beginOf m_finishOf m_isLow m_weightsOf m_weight m_cell := hI.2.1
  have hR : I_row v_rowLength v_row m_size m_row := hI.2.2.1
  have hA : I_trace v_asked m_trace := hI.2.2.2.1
  have hK : I_kept v_keptBytes v_before v_after m_keptSize m_keptBefore m_keptAfter := hI.2.2.2.2.1
  have hL : I_light v_lightestCount v_lightestPlaces m_lightest := hI.2.2.2.2.2.1
  have hF : I_free v_placeCount v_toldPlaces m_freeMany m_freePlace := hI.2.2.2.2.2.2.1
  have hW : I_ways v_wayCount v_ways m_waysKept m_ways := hI.2.2.2.2.2.2.2
  obtain ⟨r, r2, e1, e2, e3, h'⟩ := o_count (n := 80000) (by decide) hS hL x1 x2 x3 v_syndromes v_places v_firstEntry v_nextEntry v_numbers v_counts v_size m_syndromes
  exact ⟨80000, 80000, r, r2, e1, e2, e3, ⟨hT, hS, hR, hA, hK, h', hF, hW⟩⟩
theorem s_period : st_period INVW := by
  intro v_ro v_sumCount v_told v_toldCount v_row v_rowLength v_asked v_rising v_falling v_turned v_totals v_before v_after v_keptBytes v_syndromes v_places v_firstEntry v_nextEntry v_numbers v_counts v_size v_lightestPlaces v_lightestCount v_toldPlaces v_placeCount v_ways v_wayCount v_usable v_upTo m_told m_tell m_sums m_kindOf m_modOf m_bitsOf m_turnOf m_polyOf m_beginOf m_finishOf m_isLow m_weightsOf m_weight m_cell m_size m_row m_keptSize m_keptBefore m_keptAfter m_placeA m_placeB m_turned m_turnedMany m_syndromes m_lightest m_freeMany m_freePlace m_freeSyndrome m_ways m_waysKept m_trace m_comesA m_comesB hI x1
  have hT : I_told v_toldCount v_told m_told m_tell := hI.1
  have hS : I_sums v_ro v_sumCount m_sums m_kindOf m_modOf m_bitsOf m_turnOf m_polyOf m_beginOf m_finishOf m_isLow m_weightsOf m_weight m_cell := hI.2.1
  have hR : I_row v_rowLength v_row m_size m_row := hI.2.2.1
  have hA : I_trace v_asked m_trace := hI.2.2.2.1
  have hK : I_kept v_keptBytes v_before v_after m_keptSize m_keptBefore m_keptAfter := hI.2.2.2.2.1
  have hL : I_light v_lightestCount v_lightestPlaces m_lightest := hI.2.2.2.2.2.1
  have hF : I_free v_placeCount v_toldPlaces m_freeMany m_freePlace := hI.2.2.2.2.2.2.1
  have hW : I_ways v_wayCount v_ways m_waysKept m_ways := hI.2.2.2.2.2.2.2
  obtain ⟨r, r2, e1, e2, e3⟩ := o_period (n := 80000) (by decide) hS x1
  exact ⟨80000, 80000, r, r2, e1, e2, e3, ⟨hT, hS, hR, hA, hK, hL, hF, hW⟩⟩
theorem s_free : st_free INVW := by
  intro v_ro v_sumCount v_told v_toldCount v_row v_rowLength v_asked v_rising v_falling v_turned v_totals v_before v_after v_keptBytes v_syndromes v_places v_firstEntry v_nextEntry v_numbers v_counts v_size v_lightestPlaces v_lightestCount v_toldPlaces v_placeCount v_ways v_wayCount v_usable v_upTo m_told m_tell m_sums m_kindOf m_modOf m_bitsOf m_turnOf m_polyOf m_beginOf m_finishOf m_isLow m_weightsOf m_weight m_cell m_size m_row m_keptSize m_keptBefore m_keptAfter m_placeA m_placeB m_turned m_turnedMany m_syndromes m_lightest m_freeMany m_freePlace m_freeSyndrome m_ways m_waysKept m_trace m_comesA m_comesB hI x1
  have hT : I_told v_toldCount v_told m_told m_tell := hI.1
  have hS : I_sums v_ro v_sumCount m_sums m_kindOf m_modOf m_bitsOf m_turnOf m_polyOf m_beginOf m_finishOf m_isLow m_weightsOf m_weight m_cell := hI.2.1
  have hR : I_row v_rowLength v_row m_size m_row := hI.2.2.1
  have hA : I_trace v_asked m_trace := hI.2.2.2.1
  have hK : I_kept v_keptBytes v_before v_after m_keptSize m_keptBefore m_keptAfter := hI.2.2.2.2.1
  have hL : I_light v_lightestCount v_lightestPlaces m_lightest := hI.2.2.2.2.2.1
  have hF : I_free v_placeCount v_toldPlaces m_freeMany m_freePlace := hI.2.2.2.2.2.2.1
  have hW : I_ways v_wayCount v_ways m_waysKept m_ways := hI.2.2.2.2.2.2.2
  obtain ⟨r, r2, e1, e2, e3, h'⟩ := o_free (n := 80000) (by decide) hR hF x1
  exact ⟨80000, 80000, r, r2, e1, e2, e3, ⟨hT, hS, hR, hA, hK, hL, h', hW⟩⟩
theorem s_bind : st_bind INVW := by
  intro v_ro v_sumCount v_told v_toldCount v_row v_rowLength v_asked v_rising v_falling v_turned v_totals v_before v_after v_keptBytes v_syndromes v_places v_firstEntry v_nextEntry v_numbers v_counts v_size v_lightestPlaces v_lightestCount v_toldPlaces v_placeCount v_ways v_wayCount v_usable v_upTo m_told m_tell m_sums m_kindOf m_modOf m_bitsOf m_turnOf m_polyOf m_beginOf m_finishOf m_isLow m_weightsOf m_weight m_cell m_size m_row m_keptSize m_keptBefore m_keptAfter m_placeA m_placeB m_turned m_turnedMany m_syndromes m_lightest m_freeMany m_freePlace m_freeSyndrome m_ways m_waysKept m_trace m_comesA m_comesB hI
  have hT : I_told v_toldCount v_told m_told m_tell := hI.1
  have hS : I_sums v_ro v_sumCount m_sums m_kindOf m_modOf m_bitsOf m_turnOf m_polyOf m_beginOf m_finishOf m_isLow m_weightsOf m_weight m_cell := hI.2.1
  have hR : I_row v_rowLength v_row m_size m_row := hI.2.2.1
  have hA : I_trace v_asked m_trace := hI.2.2.2.1
  have hK : I_kept v_keptBytes v_before v_after m_keptSize m_keptBefore m_keptAfter := hI.2.2.2.2.1
  have hL : I_light v_lightestCount v_lightestPlaces m_lightest := hI.2.2.2.2.2.1
  have hF : I_free v_placeCount v_toldPlaces m_freeMany m_freePlace := hI.2.2.2.2.2.2.1
  have hW : I_ways v_wayCount v_ways m_waysKept m_ways := hI.2.2.2.2.2.2.2
  obtain ⟨r, r2, e1, e2, e3, h'⟩ := o_bind hF
  exact ⟨80000, 80000, r, r2, e1, e2, e3, ⟨hT, hS, hR, hA, hK, hL, h', hW⟩⟩
theorem s_aim : st_aim INVW := by
  intro v_ro v_sumCount v_told v_toldCount v_row v_rowLength v_asked v_rising v_falling v_turned v_totals v_before v_after v_keptBytes v_syndromes v_places v_firstEntry v_nextEntry v_numbers v_counts v_size v_lightestPlaces v_lightestCount v_toldPlaces v_placeCount v_ways v_wayCount v_usable v_upTo m_told m_tell m_sums m_kindOf m_modOf m_bitsOf m_turnOf m_polyOf m_beginOf m_finishOf m_isLow m_weightsOf m_weight m_cell m_size m_row m_keptSize m_keptBefore m_keptAfter m_placeA m_placeB m_turned m_turnedMany m_syndromes m_lightest m_freeMany m_freePlace m_freeSyndrome m_ways m_waysKept m_trace m_comesA m_comesB hI x1 x2
  have hT : I_told v_toldCount v_told m_told m_tell := hI.1
  have hS : I_sums v_ro v_sumCount m_sums m_kindOf m_modOf m_bitsOf m_turnOf m_polyOf m_beginOf m_finishOf m_isLow m_weightsOf m_weight m_cell := hI.2.1
  have hR : I_row v_rowLength v_row m_size m_row := hI.2.2.1
  have hA : I_trace v_asked m_trace := hI.2.2.2.1
  have hK : I_kept v_keptBytes v_before v_after m_keptSize m_keptBefore m_keptAfter := hI.2.2.2.2.1
  have hL : I_light v_lightestCount v_lightestPlaces m_lightest := hI.2.2.2.2.2.1
  have hF : I_free v_placeCount v_toldPlaces m_freeMany m_freePlace := hI.2.2.2.2.2.2.1
  have hW : I_ways v_wayCount v_ways m_waysKept m_ways := hI.2.2.2.2.2.2.2
  obtain ⟨r, r2, e1, e2, e3, h'⟩ := o_aim (n := 80000) (by decide) hR hS hF hW x1 x2 v_syndromes v_places v_usable v_upTo m_freeSyndrome
  exact ⟨80000, 80000, r, r2, e1, e2, e3, ⟨hT, hS, hR, hA, hK, hL, hF, h'⟩⟩
theorem s_way : st_way INVW := by
  intro v_ro v_sumCount v_told v_toldCount v_row v_rowLength v_asked v_rising v_falling v_turned v_totals v_before v_after v_keptBytes v_syndromes v_places v_firstEntry v_nextEntry v_numbers v_counts v_size v_lightestPlaces v_lightestCount v_toldPlaces v_placeCount v_ways v_wayCount v_usable v_upTo m_told m_tell m_sums m_kindOf m_modOf m_bitsOf m_turnOf m_polyOf m_beginOf m_finishOf m_isLow m_weightsOf m_weight m_cell m_size m_row m_keptSize m_keptBefore m_keptAfter m_placeA m_placeB m_turned m_turnedMany m_syndromes m_lightest m_freeMany m_freePlace m_freeSyndrome m_ways m_waysKept m_trace m_comesA m_comesB hI x1
  have hT : I_told v_toldCount v_told m_told m_tell := hI.1
  have hS : I_sums v_ro v_sumCount m_sums m_kindOf m_modOf m_bitsOf m_turnOf m_polyOf m_beginOf m_finishOf m_isLow m_weightsOf m_weight m_cell := hI.2.1
  have hR : I_row v_rowLength v_row m_size m_row := hI.2.2.1
  have hA : I_trace v_asked m_trace := hI.2.2.2.1
  have hK : I_kept v_keptBytes v_before v_after m_keptSize m_keptBefore m_keptAfter := hI.2.2.2.2.1
  have hL : I_light v_lightestCount v_lightestPlaces m_lightest := hI.2.2.2.2.2.1
  have hF : I_free v_placeCount v_toldPlaces m_freeMany m_freePlace := hI.2.2.2.2.2.2.1
  have hW : I_ways v_wayCount v_ways m_waysKept m_ways := hI.2.2.2.2.2.2.2
  obtain ⟨r, r2, e1, e2, e3⟩ := o_way hW x1
  exact ⟨80000, 80000, r, r2, e1, e2, e3, ⟨hT, hS, hR, hA, hK, hL, hF, hW⟩⟩
theorem s_best : st_best INVW := by
  intro v_ro v_sumCount v_told v_toldCount v_row v_rowLength v_asked v_rising v_falling v_turned v_totals v_before v_after v_keptBytes v_syndromes v_places v_firstEntry v_nextEntry v_numbers v_counts v_size v_lightestPlaces v_lightestCount v_toldPlaces v_placeCount v_ways v_wayCount v_usable v_upTo m_told m_tell m_sums m_kindOf m_modOf m_bitsOf m_turnOf m_polyOf m_beginOf m_finishOf m_isLow m_weightsOf m_weight m_cell m_size m_row m_keptSize m_keptBefore m_keptAfter m_placeA m_placeB m_turned m_turnedMany m_syndromes m_lightest m_freeMany m_freePlace m_freeSyndrome m_ways m_waysKept m_trace m_comesA m_comesB hI x1 x2
  have hT : I_told v_toldCount v_told m_told m_tell := hI.1
  have hS : I_sums v_ro v_sumCount m_sums m_kindOf m_modOf m_bitsOf m_turnOf m_polyOf m_beginOf m_finishOf m_isLow m_weightsOf m_weight m_cell := hI.2.1
  have hR : I_row v_rowLength v_row m_size m_row := hI.2.2.1
  have hA : I_trace v_asked m_trace := hI.2.2.2.1
  have hK : I_kept v_keptBytes v_before v_after m_keptSize m_keptBefore m_keptAfter := hI.2.2.2.2.1
  have hL : I_light v_lightestCount v_lightestPlaces m_lightest := hI.2.2.2.2.2.1
  have hF : I_free v_placeCount v_toldPlaces m_freeMany m_freePlace := hI.2.2.2.2.2.2.1
  have hW : I_ways v_wayCount v_ways m_waysKept m_ways := hI.2.2.2.2.2.2.2
  obtain ⟨r, r2, e1, e2, e3, h'⟩ := o_best (n := 80000) (by decide) hL x1 x2 v_syndromes v_places v_firstEntry v_nextEntry v_numbers v_counts v_size m_syndromes
  exact ⟨80000, 80000, r, r2, e1, e2, e3, ⟨hT, hS, hR, hA, hK, h', hF, hW⟩⟩
theorem s_mend : st_mend INVW := by
  intro v_ro v_sumCount v_told v_toldCount v_row v_rowLength v_asked v_rising v_falling v_turned v_totals v_before v_after v_keptBytes v_syndromes v_places v_firstEntry v_nextEntry v_numbers v_counts v_size v_lightestPlaces v_lightestCount v_toldPlaces v_placeCount v_ways v_wayCount v_usable v_upTo m_told m_tell m_sums m_kindOf m_modOf m_bitsOf m_turnOf m_polyOf m_beginOf m_finishOf m_isLow m_weightsOf m_weight m_cell m_size m_row m_keptSize m_keptBefore m_keptAfter m_placeA m_placeB m_turned m_turnedMany m_syndromes m_lightest m_freeMany m_freePlace m_freeSyndrome m_ways m_waysKept m_trace m_comesA m_comesB hI x1 x2
  have hT : I_told v_toldCount v_told m_told m_tell := hI.1
  have hS : I_sums v_ro v_sumCount m_sums m_kindOf m_modOf m_bitsOf m_turnOf m_polyOf m_beginOf m_finishOf m_isLow m_weightsOf m_weight m_cell := hI.2.1
  have hR : I_row v_rowLength v_row m_size m_row := hI.2.2.1
  have hA : I_trace v_asked m_trace := hI.2.2.2.1
  have hK : I_kept v_keptBytes v_before v_after m_keptSize m_keptBefore m_keptAfter := hI.2.2.2.2.1
  have hL : I_light v_lightestCount v_lightestPlaces m_lightest := hI.2.2.2.2.2.1
  have hF : I_free v_placeCount v_toldPlaces m_freeMany m_freePlace := hI.2.2.2.2.2.2.1
  have hW : I_ways v_wayCount v_ways m_waysKept m_ways := hI.2.2.2.2.2.2.2
  obtain ⟨r, r2, e1, e2, e3, h'⟩ := o_mend (n := 80000) (by decide) hR hS x1 x2 v_syndromes v_places
  exact ⟨80000, 80000, r, r2, e1, e2, e3, ⟨hT, hS, h', hA, hK, hL, hF, hW⟩⟩
theorem s_reach : st_reach INVW := by
  intro v_ro v_sumCount v_told v_toldCount v_row v_rowLength v_asked v_rising v_falling v_turned v_totals v_before v_after v_keptBytes v_syndromes v_places v_firstEntry v_nextEntry v_numbers v_counts v_size v_lightestPlaces v_lightestCount v_toldPlaces v_placeCount v_ways v_wayCount v_usable v_upTo m_told m_tell m_sums m_kindOf m_modOf m_bitsOf m_turnOf m_polyOf m_beginOf m_finishOf m_isLow m_weightsOf m_weight m_cell m_size m_row m_keptSize m_keptBefore m_keptAfter m_placeA m_placeB m_turned m_turnedMany m_syndromes m_lightest m_freeMany m_freePlace m_freeSyndrome m_ways m_waysKept m_trace m_comesA m_comesB hI x1
  have hT : I_told v_toldCount v_told m_told m_tell := hI.1
  have hS : I_sums v_ro v_sumCount m_sums m_kindOf m_modOf m_bitsOf m_turnOf m_polyOf m_beginOf m_finishOf m_isLow m_weightsOf m_weight m_cell := hI.2.1
  have hR : I_row v_rowLength v_row m_size m_row := hI.2.2.1
  have hA : I_trace v_asked m_trace := hI.2.2.2.1
  have hK : I_kept v_keptBytes v_before v_after m_keptSize m_keptBefore m_keptAfter := hI.2.2.2.2.1
  have hL : I_light v_lightestCount v_lightestPlaces m_lightest := hI.2.2.2.2.2.1
  have hF : I_free v_placeCount v_toldPlaces m_freeMany m_freePlace := hI.2.2.2.2.2.2.1
  have hW : I_ways v_wayCount v_ways m_waysKept m_ways := hI.2.2.2.2.2.2.2
  obtain ⟨r, r2, e1, e2, e3⟩ := o_reach (n := 80000) (by decide) hS x1 v_syndromes v_places v_firstEntry v_nextEntry v_numbers v_counts v_size m_syndromes
  exact ⟨80000, 80000, r, r2, e1, e2, e3, ⟨hT, hS, hR, hA, hK, hL, hF, hW⟩⟩
theorem s_trace : st_trace INVW := by
  intro v_ro v_sumCount v_told v_toldCount v_row v_rowLength v_asked v_rising v_falling v_turned v_totals v_before v_after v_keptBytes v_syndromes v_places v_firstEntry v_nextEntry v_numbers v_counts v_size v_lightestPlaces v_lightestCount v_toldPlaces v_placeCount v_ways v_wayCount v_usable v_upTo m_told m_tell m_sums m_kindOf m_modOf m_bitsOf m_turnOf m_polyOf m_beginOf m_finishOf m_isLow m_weightsOf m_weight m_cell m_size m_row m_keptSize m_keptBefore m_keptAfter m_placeA m_placeB m_turned m_turnedMany m_syndromes m_lightest m_freeMany m_freePlace m_freeSyndrome m_ways m_waysKept m_trace m_comesA m_comesB hI x1
  have hT : I_told v_toldCount v_told m_told m_tell := hI.1
  have hS : I_sums v_ro v_sumCount m_sums m_kindOf m_modOf m_bitsOf m_turnOf m_polyOf m_beginOf m_finishOf m_isLow m_weightsOf m_weight m_cell := hI.2.1
  have hR : I_row v_rowLength v_row m_size m_row := hI.2.2.1
  have hA : I_trace v_asked m_trace := hI.2.2.2.1
  have hK : I_kept v_keptBytes v_before v_after m_keptSize m_keptBefore m_keptAfter := hI.2.2.2.2.1
  have hL : I_light v_lightestCount v_lightestPlaces m_lightest := hI.2.2.2.2.2.1
  have hF : I_free v_placeCount v_toldPlaces m_freeMany m_freePlace := hI.2.2.2.2.2.2.1
  have hW : I_ways v_wayCount v_ways m_waysKept m_ways := hI.2.2.2.2.2.2.2
  obtain ⟨r, r2, e1, e2, e3⟩ := o_trace hA x1
  exact ⟨80000, 80000, r, r2, e1, e2, e3, ⟨hT, hS, hR, hA, hK, hL, hF, hW⟩⟩
theorem s_about : st_about INVW := by
  intro v_ro v_sumCount v_told v_toldCount v_row v_rowLength v_asked v_rising v_falling v_turned v_totals v_before v_after v_keptBytes v_syndromes v_places v_firstEntry v_nextEntry v_numbers v_counts v_size v_lightestPlaces v_lightestCount v_toldPlaces v_placeCount v_ways v_wayCount v_usable v_upTo m_told m_tell m_sums m_kindOf m_modOf m_bitsOf m_turnOf m_polyOf m_beginOf m_finishOf m_isLow m_weightsOf m_weight m_cell m_size m_row m_keptSize m_keptBefore m_keptAfter m_placeA m_placeB m_turned m_turnedMany m_syndromes m_lightest m_freeMany m_freePlace m_freeSyndrome m_ways m_waysKept m_trace m_comesA m_comesB hI x1
  have hT : I_told v_toldCount v_told m_told m_tell := hI.1
  have hS : I_sums v_ro v_sumCount m_sums m_kindOf m_modOf m_bitsOf m_turnOf m_polyOf m_beginOf m_finishOf m_isLow m_weightsOf m_weight m_cell := hI.2.1
  have hR : I_row v_rowLength v_row m_size m_row := hI.2.2.1
  have hA : I_trace v_asked m_trace := hI.2.2.2.1
  have hK : I_kept v_keptBytes v_before v_after m_keptSize m_keptBefore m_keptAfter := hI.2.2.2.2.1
  have hL : I_light v_lightestCount v_lightestPlaces m_lightest := hI.2.2.2.2.2.1
  have hF : I_free v_placeCount v_toldPlaces m_freeMany m_freePlace := hI.2.2.2.2.2.2.1
  have hW : I_ways v_wayCount v_ways m_waysKept m_ways := hI.2.2.2.2.2.2.2
  have qS : v_sumCount = m_sums := by obtain ⟨k, -, e1, e2, -⟩ := hS; rw [e1, e2]
  have qT : v_toldCount = m_told := by obtain ⟨k, -, e1, e2, -⟩ := hT; rw [e1, e2]
  have qR : v_rowLength = m_size := by obtain ⟨k, -, e1, e2, -⟩ := hR; rw [e1, e2]
  have qK : v_keptBytes = m_keptSize := by obtain ⟨k, -, e1, e2, -⟩ := hK; rw [e1, e2]
  have qF : v_placeCount = m_freeMany := by obtain ⟨k, -, e1, e2, -⟩ := hF; rw [e1, e2]
  obtain ⟨r, r2, e1, e2, e3⟩ := o_about (x1 := x1) qS qT qR qK qF
  exact ⟨80000, 80000, r, r2, e1, e2, e3, ⟨hT, hS, hR, hA, hK, hL, hF, hW⟩⟩
theorem law_ok : LawOK INVW := ⟨s_tell, s_untell, s_plain, s_twofold, s_weighted, s_turning, s_divided, s_square, s_kind, s_put, s_set, s_at, s_cut, s_sum, s_joined, s_other, s_less, s_sees, s_passes, s_signs, s_syndrome, s_weight, s_lightest, s_count, s_period, s_free, s_bind, s_aim, s_way, s_best, s_mend, s_reach, s_trace, s_about⟩
