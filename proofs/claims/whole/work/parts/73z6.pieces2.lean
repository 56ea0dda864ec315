theorem eq_pieces {tolds : Int32} {hasImage : Int32} {n_heirs : Int32} {n_left : Int32} {n_bitten : Int32} {n_kinds : (Nat → Int32)} {n_figures : (Nat → Int32)} {k_heirs : Int32} {k_left : Int32} {k_bitten : Int32} {k_kinds : (Nat → Int32)} {k_figures : (Nat → Int32)} {t_heirs : Int32} {t_left : Int32} {t_bitten : Int32} {t_kinds : (Nat → Int32)} {t_figures : (Nat → Int32)} {r_gone : Int32} {r_heaps : Int32} {r_fewestCells : Int32} {r_deed : Int32} {c_ways : (Nat → Int32)} {c_fewest : (Nat → Int32)} {c_nextWays : (Nat → Int32)} {c_nextFewest : (Nat → Int32)} {x_length : Int32} {x_letters : (Nat → Int32)} {told : (Nat → Int32)} {refusals : (Nat → Int32)} {ends : (Nat → Int32)} {m_left : Int32} {m_bites : Int32} {m_many : Int32} {m_imageLeft : Int32} {m_imageBites : Int32} {m_imageMany : Int32} {m_wasLeft : Int32} {m_wasBites : Int32} {m_wasMany : Int32} {m_hasImage : Int32} {m_letterMany : Int32} {m_rowMany : Int32} {m_place : Int32} {m_seed : Int32} {m_kind : (Nat → Int32)} {m_figure : (Nat → Int32)} {m_imageKind : (Nat → Int32)} {m_imageFigure : (Nat → Int32)} {m_wasKind : (Nat → Int32)} {m_wasFigure : (Nat → Int32)} {m_letters : (Nat → Int32)} {m_row : (Nat → Int32)} {m_refused : (Nat → Int32)} {m_numbers : (Nat → Int32)} {m_counted : (Nat → Int32)} {m_few : (Nat → Int32)} (hR : RR tolds hasImage n_heirs n_left n_bitten n_kinds n_figures k_heirs k_left k_bitten k_kinds k_figures x_length x_letters told refusals m_left m_bites m_many m_imageLeft m_imageBites m_imageMany m_hasImage m_letterMany m_rowMany m_kind m_figure m_imageKind m_imageFigure m_letters m_row m_refused) (a1 : Int32) : ∃ (o1 : Int32 × Int32 × Int32 × Int32 × Int32 × (Nat → Int32)) (o2 : Int32 × (Nat → Int32)), f_X5_pieces n_left r_gone r_heaps r_fewestCells r_deed refusals a1 = some o1 ∧ f_X6_pieces m_left m_refused a1 = some o2 ∧ o1.1 = o2.1 ∧ RR tolds hasImage n_heirs n_left n_bitten n_kinds n_figures k_heirs k_left k_bitten k_kinds k_figures x_length x_letters told o1.2.2.2.2.2 m_left m_bites m_many m_imageLeft m_imageBites m_imageMany m_hasImage m_letterMany m_rowMany m_kind m_figure m_imageKind m_imageFigure m_letters m_row o2.2 := by
  have hR0 := hR
  obtain ⟨⟨h, b, K, F, rfl, hL, rfl, rfl, hh, rfl, rfl, hb, hs, hs'⟩, hT, hW, hF, hI⟩ := hR
  unfold f_X5_pieces f_X6_pieces f_X3_isInChancery
  have cd := cr_dd hL
  rw [m_deed hL, bn_some]
  rcases rng a1 (n := 3) (by decide) with q | q | ⟨s, hs3, rfl⟩
  · have f := lt_facts q
    rw [if_pos q, if_neg (show ¬ a1 = 0 from f.1 0 (by decide)), if_neg (show ¬ a1 = 1 from f.1 1 (by decide)), if_neg (show ¬ a1 = 2 from f.1 2 (by decide)), if_neg (show ¬ a1 = 3 from f.1 3 (by decide)), x_no2, m_no2, bn_some, bn_some]
    exact ⟨_, _, rfl, rfl, rfl, RR_bump hR0 (by decide)⟩
  · have f := gt_ge (by decide) q
    rw [if_neg f.2.1, if_neg (show ¬ a1 ≤ 3 from f.2.2.2.1 3 (by decide)), if_neg (show ¬ a1 = 0 from f.2.2.1 0 (by decide)), if_neg (show ¬ a1 = 1 from f.2.2.1 1 (by decide)), if_neg (show ¬ a1 = 2 from f.2.2.1 2 (by decide)), if_neg (show ¬ a1 = 3 from f.2.2.1 3 (by decide)), x_no2, m_no2, bn_some, bn_some]
    exact ⟨_, _, rfl, rfl, rfl, RR_bump hR0 (by decide)⟩
  · rw [if_neg (not_lt0 (by omega)), if_pos (show nI s ≤ (3 : Int32) from nI_le' (b := 3) (by omega) (by decide) hs3), x_reads hL, bn_some]
    have hj4 : s = 0 ∨ s = 1 ∨ s = 2 ∨ s = 3 := by omega
    rcases hj4 with rfl | rfl | rfl | rfl
    · rw [if_pos (show nI 0 = (0 : Int32) from rfl), if_pos (show nI 0 = (0 : Int32) from rfl), m_heaps hL, bn_some]
      exact ⟨_, _, rfl, rfl, rfl, hR0⟩
    · rw [if_neg (show ¬ nI 1 = (0 : Int32) by decide), if_neg (show ¬ nI 1 = (0 : Int32) by decide), if_pos (show nI 1 = (1 : Int32) from rfl), if_pos (show nI 1 = (1 : Int32) from rfl), m_leastHeap hL, bn_some]
      exact ⟨_, _, rfl, rfl, rfl, hR0⟩
    · rw [if_neg (show ¬ nI 2 = (0 : Int32) by decide), if_neg (show ¬ nI 2 = (0 : Int32) by decide), if_neg (show ¬ nI 2 = (1 : Int32) by decide), if_neg (show ¬ nI 2 = (1 : Int32) by decide), if_pos (show nI 2 = (2 : Int32) from rfl), if_pos (show nI 2 = (2 : Int32) from rfl)]
      by_cases d : dd n_left = 0
      · rw [if_pos d, if_pos d, bn_some, if_neg (show ¬ (1 : Int32) = 0 by decide)]
        exact ⟨_, _, rfl, rfl, rfl, hR0⟩
      · obtain ⟨c, hc⟩ := ex_least cd d
        rw [if_neg d, if_neg d, bn_some, if_pos rfl, x_leastCell hc, m_leastOf cd hc, bn_some, bn_some]
        exact ⟨_, _, rfl, rfl, rfl, hR0⟩
    · rw [if_neg (show ¬ nI 3 = (0 : Int32) by decide), if_neg (show ¬ nI 3 = (0 : Int32) by decide), if_neg (show ¬ nI 3 = (1 : Int32) by decide), if_neg (show ¬ nI 3 = (1 : Int32) by decide), if_neg (show ¬ nI 3 = (2 : Int32) by decide), if_neg (show ¬ nI 3 = (2 : Int32) by decide), if_pos (show nI 3 = (3 : Int32) from rfl)]
      by_cases d : dd n_left = 0
      · rw [if_pos d, if_pos d, bn_some, if_neg (show ¬ (1 : Int32) = 0 by decide)]
        exact ⟨_, _, rfl, rfl, rfl, hR0⟩
      · rw [if_neg d, if_neg d, bn_some, if_pos rfl, x_bits cd, m_bits cd, bn_some, bn_some]
        exact ⟨_, _, rfl, rfl, rfl, hR0⟩
