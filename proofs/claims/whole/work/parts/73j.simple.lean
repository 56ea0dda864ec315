theorem RR_bump {tolds : Int32} {hasImage : Int32} {n_heirs : Int32} {n_left : Int32} {n_bitten : Int32} {n_kinds : Nat → Int32} {n_figures : Nat → Int32} {k_heirs : Int32} {k_left : Int32} {k_bitten : Int32} {k_kinds : Nat → Int32} {k_figures : Nat → Int32} {x_length : Int32} {x_letters : Nat → Int32} {told : Nat → Int32} {refusals : Nat → Int32} {m_left : Int32} {m_bites : Int32} {m_many : Int32} {m_imageLeft : Int32} {m_imageBites : Int32} {m_imageMany : Int32} {m_hasImage : Int32} {m_letterMany : Int32} {m_rowMany : Int32} {m_kind : Nat → Int32} {m_figure : Nat → Int32} {m_imageKind : Nat → Int32} {m_imageFigure : Nat → Int32} {m_letters : Nat → Int32} {m_row : Nat → Int32} {m_refused : Nat → Int32} (hR : RR tolds hasImage n_heirs n_left n_bitten n_kinds n_figures k_heirs k_left k_bitten k_kinds k_figures x_length x_letters told refusals m_left m_bites m_many m_imageLeft m_imageBites m_imageMany m_hasImage m_letterMany m_rowMany m_kind m_figure m_imageKind m_imageFigure m_letters m_row m_refused) {k : Nat} (hk : k < 7) : RR tolds hasImage n_heirs n_left n_bitten n_kinds n_figures k_heirs k_left k_bitten k_kinds k_figures x_length x_letters told (bump refusals k) m_left m_bites m_many m_imageLeft m_imageBites m_imageMany m_hasImage m_letterMany m_rowMany m_kind m_figure m_imageKind m_imageFigure m_letters m_row (bump m_refused k) := ⟨hR.1, hR.2.1, hR.2.2.1, RF_bump hR.2.2.2.1 hk, hR.2.2.2.2⟩
theorem not_ge {a : Int32} (h : a < 0) : ¬ 0 ≤ a := Int32.not_le.mpr h
theorem gt_ge {a : Int32} {n : Nat} (hn : n < 2 ^ 31) (h : nI n < a) : 0 ≤ a ∧ ¬ a < 0 ∧ (∀ j, j ≤ n → ¬ a = nI j) ∧ (∀ j, j ≤ n → ¬ a ≤ nI j) ∧ ∀ j, j ≤ n → ¬ a < nI j := by
  rw [Int32.lt_iff_toInt_lt, nI_toInt hn] at h
  refine ⟨?_, ?_, fun j hj e => ?_, fun j hj e => ?_, fun j hj e => ?_⟩
  · rw [Int32.le_iff_toInt_le]; have : (0 : Int32).toInt = 0 := by decide
    omega
  · rw [Int32.lt_iff_toInt_lt]; have : (0 : Int32).toInt = 0 := by decide
    omega
  · rw [e, nI_toInt (by omega)] at h; omega
  · rw [Int32.le_iff_toInt_le, nI_toInt (by omega)] at e; omega
  · rw [Int32.lt_iff_toInt_lt, nI_toInt (by omega)] at e; omega
theorem lt_facts {a : Int32} (h : a < 0) : (∀ j, j < 2 ^ 31 → ¬ a = nI j) ∧ (∀ j, j < 2 ^ 31 → a < nI j) ∧ ∀ j, j < 2 ^ 31 → a ≤ nI j := by
  rw [Int32.lt_iff_toInt_lt] at h
  have z : (0 : Int32).toInt = 0 := by decide
  refine ⟨fun j hj e => ?_, fun j hj => ?_, fun j hj => ?_⟩
  · rw [e, nI_toInt hj] at h; omega
  · rw [Int32.lt_iff_toInt_lt, nI_toInt hj]; omega
  · rw [Int32.le_iff_toInt_le, nI_toInt hj]; omega
theorem nI_ge0 {j : Nat} (h : j < 2 ^ 31) : (0 : Int32) ≤ nI j := nI_pos' h
theorem nI_le' {a b : Nat} (ha : a < 2 ^ 31) (hb : b < 2 ^ 31) (h : a ≤ b) : nI a ≤ nI b := (nI_leI ha hb).mpr h
theorem nI_nle' {a b : Nat} (ha : a < 2 ^ 31) (hb : b < 2 ^ 31) (h : b < a) : ¬ nI a ≤ nI b := fun q => by have := (nI_leI ha hb).mp q; omega
theorem nI_lt2 {a b : Nat} (ha : a < 2 ^ 31) (hb : b < 2 ^ 31) (h : a < b) : nI a < nI b := (nI_ltI ha hb).mpr h
theorem nI_nlt2 {a b : Nat} (ha : a < 2 ^ 31) (hb : b < 2 ^ 31) (h : b ≤ a) : ¬ nI a < nI b := fun q => by have := (nI_ltI ha hb).mp q; omega
theorem nI_neq {a b : Nat} (ha : a < 2 ^ 31) (hb : b < 2 ^ 31) (h : a ≠ b) : ¬ nI a = nI b := fun q => h ((nI_eq ha hb).mp q)
theorem eq_letter {tolds : Int32} {hasImage : Int32} {n_heirs : Int32} {n_left : Int32} {n_bitten : Int32} {n_kinds : (Nat → Int32)} {n_figures : (Nat → Int32)} {k_heirs : Int32} {k_left : Int32} {k_bitten : Int32} {k_kinds : (Nat → Int32)} {k_figures : (Nat → Int32)} {t_heirs : Int32} {t_left : Int32} {t_bitten : Int32} {t_kinds : (Nat → Int32)} {t_figures : (Nat → Int32)} {r_gone : Int32} {r_heaps : Int32} {r_fewestCells : Int32} {r_deed : Int32} {c_ways : (Nat → Int32)} {c_fewest : (Nat → Int32)} {c_nextWays : (Nat → Int32)} {c_nextFewest : (Nat → Int32)} {x_length : Int32} {x_letters : (Nat → Int32)} {told : (Nat → Int32)} {refusals : (Nat → Int32)} {ends : (Nat → Int32)} {m_left : Int32} {m_bites : Int32} {m_many : Int32} {m_imageLeft : Int32} {m_imageBites : Int32} {m_imageMany : Int32} {m_wasLeft : Int32} {m_wasBites : Int32} {m_wasMany : Int32} {m_hasImage : Int32} {m_letterMany : Int32} {m_rowMany : Int32} {m_place : Int32} {m_seed : Int32} {m_kind : (Nat → Int32)} {m_figure : (Nat → Int32)} {m_imageKind : (Nat → Int32)} {m_imageFigure : (Nat → Int32)} {m_wasKind : (Nat → Int32)} {m_wasFigure : (Nat → Int32)} {m_letters : (Nat → Int32)} {m_row : (Nat → Int32)} {m_refused : (Nat → Int32)} {m_numbers : (Nat → Int32)} {m_counted : (Nat → Int32)} {m_few : (Nat → Int32)} (hR : RR tolds hasImage n_heirs n_left n_bitten n_kinds n_figures k_heirs k_left k_bitten k_kinds k_figures x_length x_letters told refusals m_left m_bites m_many m_imageLeft m_imageBites m_imageMany m_hasImage m_letterMany m_rowMany m_kind m_figure m_imageKind m_imageFigure m_letters m_row m_refused) (a1 : Int32) : ∃ (o1 : Int32 × Int32 × (Nat → Int32) × (Nat → Int32)) (o2 : Int32 × Int32 × (Nat → Int32) × (Nat → Int32)), f_X5_letter x_length x_letters refusals a1 = some o1 ∧ f_X6_letter m_letterMany m_letters m_refused a1 = some o2 ∧ o1.1 = o2.1 ∧ RR tolds hasImage n_heirs n_left n_bitten n_kinds n_figures k_heirs k_left k_bitten k_kinds k_figures o1.2.1 o1.2.2.1 told o1.2.2.2 m_left m_bites m_many m_imageLeft m_imageBites m_imageMany m_hasImage o2.2.1 m_rowMany m_kind m_figure m_imageKind m_imageFigure o2.2.2.1 m_row o2.2.2.2 := by
  have hR0 := hR
  obtain ⟨hN, hT, ⟨n, hn, rfl, rfl, hl⟩, hF, hI⟩ := hR
  unfold f_X5_letter f_X6_letter
  rcases rng a1 (n := 255) (by decide) with h | h | ⟨j, hj, rfl⟩
  · rw [if_neg (not_ge h), if_neg (not_ge h), x_no4, m_no4, bn_some, bn_some]
    exact ⟨_, _, rfl, rfl, rfl, RR_bump hR0 (by decide)⟩
  · rw [if_pos (gt_ge (by decide) h).1, if_pos (gt_ge (by decide) h).1, if_pos (show (255 : Int32) < a1 from h), if_pos (show (255 : Int32) < a1 from h), x_no6, m_no6, bn_some, bn_some]
    exact ⟨_, _, rfl, rfl, rfl, RR_bump hR0 (by decide)⟩
  · rw [if_pos (nI_ge0 (by omega)), if_pos (nI_ge0 (by omega)), if_neg (show ¬ (255 : Int32) < nI j from nI_nlt2 (a := 255) (by decide) (by omega) hj), if_neg (show ¬ (255 : Int32) < nI j from nI_nlt2 (a := 255) (by decide) (by omega) hj)]
    by_cases q : n < 96
    · unfold f_X4_takes
      rw [if_pos (show nI n < (96 : Int32) from nI_lt2 (b := 96) (by omega) (by decide) q), if_neg (show ¬ nI n = (96 : Int32) from nI_neq (b := 96) (by omega) (by decide) (by omega)), if_neg (show ¬ (96 : Int32) ≤ nI n from nI_nle' (a := 96) (by decide) (by omega) q), inb_nI q (by decide), ck_true, ck_true, bn_some, nI_1, nI_clamp (by omega)]
      refine ⟨_, _, rfl, rfl, rfl, hN, hT, ⟨n + 1, by omega, rfl, rfl, fun i hi => ?_⟩, hF, hI⟩
      show ∃ c : Nat, c < 256 ∧ upd x_letters n (nI j) i = nI c ∧ upd m_letters n (nI j) i = nI c
      unfold upd
      split
      · exact ⟨j, by omega, rfl, rfl⟩
      · exact hl i hi
    · obtain rfl : n = 96 := by omega
      rw [if_neg (show ¬ nI 96 < (96 : Int32) by decide), if_pos (show nI 96 = (96 : Int32) from rfl), x_no6, m_no6, bn_some, bn_some]
      exact ⟨_, _, rfl, rfl, rfl, RR_bump hR0 (by decide)⟩
theorem eq_anew {tolds : Int32} {hasImage : Int32} {n_heirs : Int32} {n_left : Int32} {n_bitten : Int32} {n_kinds : (Nat → Int32)} {n_figures : (Nat → Int32)} {k_heirs : Int32} {k_left : Int32} {k_bitten : Int32} {k_kinds : (Nat → Int32)} {k_figures : (Nat → Int32)} {t_heirs : Int32} {t_left : Int32} {t_bitten : Int32} {t_kinds : (Nat → Int32)} {t_figures : (Nat → Int32)} {r_gone : Int32} {r_heaps : Int32} {r_fewestCells : Int32} {r_deed : Int32} {c_ways : (Nat → Int32)} {c_fewest : (Nat → Int32)} {c_nextWays : (Nat → Int32)} {c_nextFewest : (Nat → Int32)} {x_length : Int32} {x_letters : (Nat → Int32)} {told : (Nat → Int32)} {refusals : (Nat → Int32)} {ends : (Nat → Int32)} {m_left : Int32} {m_bites : Int32} {m_many : Int32} {m_imageLeft : Int32} {m_imageBites : Int32} {m_imageMany : Int32} {m_wasLeft : Int32} {m_wasBites : Int32} {m_wasMany : Int32} {m_hasImage : Int32} {m_letterMany : Int32} {m_rowMany : Int32} {m_place : Int32} {m_seed : Int32} {m_kind : (Nat → Int32)} {m_figure : (Nat → Int32)} {m_imageKind : (Nat → Int32)} {m_imageFigure : (Nat → Int32)} {m_wasKind : (Nat → Int32)} {m_wasFigure : (Nat → Int32)} {m_letters : (Nat → Int32)} {m_row : (Nat → Int32)} {m_refused : (Nat → Int32)} {m_numbers : (Nat → Int32)} {m_counted : (Nat → Int32)} {m_few : (Nat → Int32)} (hR : RR tolds hasImage n_heirs n_left n_bitten n_kinds n_figures k_heirs k_left k_bitten k_kinds k_figures x_length x_letters told refusals m_left m_bites m_many m_imageLeft m_imageBites m_imageMany m_hasImage m_letterMany m_rowMany m_kind m_figure m_imageKind m_imageFigure m_letters m_row m_refused) : ∃ (o1 : Int32 × Int32 × Int32) (o2 : Int32 × Int32 × Int32), f_X5_anew n_bitten = some o1 ∧ f_X6_anew m_bites = some o2 ∧ o1.1 = o2.1 ∧ RR tolds hasImage n_heirs o1.2.1 o1.2.2 n_kinds n_figures k_heirs k_left k_bitten k_kinds k_figures x_length x_letters told refusals o2.2.1 o2.2.2 m_many m_imageLeft m_imageBites m_imageMany m_hasImage m_letterMany m_rowMany m_kind m_figure m_imageKind m_imageFigure m_letters m_row m_refused := by
  obtain ⟨⟨h, b, K, F, rfl, hL, rfl, rfl, hh, rfl, rfl, hb, hs, hs'⟩, hT, hW, hF, hI⟩ := hR
  exact ⟨_, _, rfl, rfl, rfl, ⟨h, 0, K, F, rfl, cr_all, rfl, rfl, hh, rfl, rfl, by decide, hs, hs'⟩, hT, hW, hF, hI⟩
theorem eq_clear {tolds : Int32} {hasImage : Int32} {n_heirs : Int32} {n_left : Int32} {n_bitten : Int32} {n_kinds : (Nat → Int32)} {n_figures : (Nat → Int32)} {k_heirs : Int32} {k_left : Int32} {k_bitten : Int32} {k_kinds : (Nat → Int32)} {k_figures : (Nat → Int32)} {t_heirs : Int32} {t_left : Int32} {t_bitten : Int32} {t_kinds : (Nat → Int32)} {t_figures : (Nat → Int32)} {r_gone : Int32} {r_heaps : Int32} {r_fewestCells : Int32} {r_deed : Int32} {c_ways : (Nat → Int32)} {c_fewest : (Nat → Int32)} {c_nextWays : (Nat → Int32)} {c_nextFewest : (Nat → Int32)} {x_length : Int32} {x_letters : (Nat → Int32)} {told : (Nat → Int32)} {refusals : (Nat → Int32)} {ends : (Nat → Int32)} {m_left : Int32} {m_bites : Int32} {m_many : Int32} {m_imageLeft : Int32} {m_imageBites : Int32} {m_imageMany : Int32} {m_wasLeft : Int32} {m_wasBites : Int32} {m_wasMany : Int32} {m_hasImage : Int32} {m_letterMany : Int32} {m_rowMany : Int32} {m_place : Int32} {m_seed : Int32} {m_kind : (Nat → Int32)} {m_figure : (Nat → Int32)} {m_imageKind : (Nat → Int32)} {m_imageFigure : (Nat → Int32)} {m_wasKind : (Nat → Int32)} {m_wasFigure : (Nat → Int32)} {m_letters : (Nat → Int32)} {m_row : (Nat → Int32)} {m_refused : (Nat → Int32)} {m_numbers : (Nat → Int32)} {m_counted : (Nat → Int32)} {m_few : (Nat → Int32)} (hR : RR tolds hasImage n_heirs n_left n_bitten n_kinds n_figures k_heirs k_left k_bitten k_kinds k_figures x_length x_letters told refusals m_left m_bites m_many m_imageLeft m_imageBites m_imageMany m_hasImage m_letterMany m_rowMany m_kind m_figure m_imageKind m_imageFigure m_letters m_row m_refused) : ∃ (o1 : Int32 × Int32) (o2 : Int32 × Int32), f_X5_clear tolds = some o1 ∧ f_X6_clear m_rowMany = some o2 ∧ o1.1 = o2.1 ∧ RR o1.2 hasImage n_heirs n_left n_bitten n_kinds n_figures k_heirs k_left k_bitten k_kinds k_figures x_length x_letters told refusals m_left m_bites m_many m_imageLeft m_imageBites m_imageMany m_hasImage m_letterMany o2.2 m_kind m_figure m_imageKind m_imageFigure m_letters m_row m_refused := by
  obtain ⟨hN, ⟨t, ht, rfl, rfl, hr⟩, hW, hF, hI⟩ := hR
  exact ⟨_, _, rfl, rfl, rfl, hN, ⟨0, by decide, rfl, rfl, hr⟩, hW, hF, hI⟩
theorem m_wrong {a : Int32} {n : Nat} (hn : n < 2 ^ 31 - 1) : (a < 0 ∧ f_X6_wrongBy a (nI n) = some (-4 : Int32)) ∨ (nI n < a ∧ f_X6_wrongBy a (nI n) = some (-6 : Int32)) ∨ ∃ j, j ≤ n ∧ a = nI j ∧ f_X6_wrongBy a (nI n) = some (0 : Int32) := by
  unfold f_X6_wrongBy
  rcases rng a hn with h | h | ⟨j, hj, rfl⟩
  · exact Or.inl ⟨h, by rw [if_neg (not_ge h)]⟩
  · exact Or.inr (Or.inl ⟨h, by rw [if_pos (gt_ge (by omega) h).1, if_neg (Int32.not_le.mpr h)]⟩)
  · exact Or.inr (Or.inr ⟨j, hj, rfl, by rw [if_pos (nI_ge0 (by omega)), if_pos (nI_le' (by omega) (by omega) hj)]⟩)
theorem eq_row {tolds : Int32} {hasImage : Int32} {n_heirs : Int32} {n_left : Int32} {n_bitten : Int32} {n_kinds : (Nat → Int32)} {n_figures : (Nat → Int32)} {k_heirs : Int32} {k_left : Int32} {k_bitten : Int32} {k_kinds : (Nat → Int32)} {k_figures : (Nat → Int32)} {t_heirs : Int32} {t_left : Int32} {t_bitten : Int32} {t_kinds : (Nat → Int32)} {t_figures : (Nat → Int32)} {r_gone : Int32} {r_heaps : Int32} {r_fewestCells : Int32} {r_deed : Int32} {c_ways : (Nat → Int32)} {c_fewest : (Nat → Int32)} {c_nextWays : (Nat → Int32)} {c_nextFewest : (Nat → Int32)} {x_length : Int32} {x_letters : (Nat → Int32)} {told : (Nat → Int32)} {refusals : (Nat → Int32)} {ends : (Nat → Int32)} {m_left : Int32} {m_bites : Int32} {m_many : Int32} {m_imageLeft : Int32} {m_imageBites : Int32} {m_imageMany : Int32} {m_wasLeft : Int32} {m_wasBites : Int32} {m_wasMany : Int32} {m_hasImage : Int32} {m_letterMany : Int32} {m_rowMany : Int32} {m_place : Int32} {m_seed : Int32} {m_kind : (Nat → Int32)} {m_figure : (Nat → Int32)} {m_imageKind : (Nat → Int32)} {m_imageFigure : (Nat → Int32)} {m_wasKind : (Nat → Int32)} {m_wasFigure : (Nat → Int32)} {m_letters : (Nat → Int32)} {m_row : (Nat → Int32)} {m_refused : (Nat → Int32)} {m_numbers : (Nat → Int32)} {m_counted : (Nat → Int32)} {m_few : (Nat → Int32)} (hR : RR tolds hasImage n_heirs n_left n_bitten n_kinds n_figures k_heirs k_left k_bitten k_kinds k_figures x_length x_letters told refusals m_left m_bites m_many m_imageLeft m_imageBites m_imageMany m_hasImage m_letterMany m_rowMany m_kind m_figure m_imageKind m_imageFigure m_letters m_row m_refused) (a1 : Int32) : ∃ (o1 : Int32 × Int32 × (Nat → Int32) × (Nat → Int32)) (o2 : Int32 × Int32 × (Nat → Int32) × (Nat → Int32)), f_X5_row tolds told refusals a1 = some o1 ∧ f_X6_row m_rowMany m_row m_refused a1 = some o2 ∧ o1.1 = o2.1 ∧ RR o1.2.1 hasImage n_heirs n_left n_bitten n_kinds n_figures k_heirs k_left k_bitten k_kinds k_figures x_length x_letters o1.2.2.1 o1.2.2.2 m_left m_bites m_many m_imageLeft m_imageBites m_imageMany m_hasImage m_letterMany o2.2.1 m_kind m_figure m_imageKind m_imageFigure m_letters o2.2.2.1 o2.2.2.2 := by
  have hR0 := hR
  obtain ⟨hN, ⟨t, ht, rfl, rfl, hr⟩, hW, hF, hI⟩ := hR
  unfold f_X5_row f_X6_row
  rw [show (99 : Int32) = nI 99 from rfl]
  rcases m_wrong (a := a1) (n := 99) (by decide) with ⟨h, e⟩ | ⟨h, e⟩ | ⟨j, hj, rfl, e⟩
  · rw [if_neg (not_ge h), e, bn_some, jn_eq, if_neg (show ¬ (-4 : Int32) = 0 by decide), if_neg (show ¬ (-4 : Int32) = 0 by decide), x_no4, m_no4, bn_some, bn_some]
    exact ⟨_, _, rfl, rfl, rfl, RR_bump hR0 (by decide)⟩
  · rw [if_pos (gt_ge (by decide) h).1, if_pos h, e, bn_some, jn_eq, if_neg (show ¬ (-6 : Int32) = 0 by decide), if_neg (show ¬ (-6 : Int32) = 0 by decide), x_no6, m_no6, bn_some, bn_some]
    exact ⟨_, _, rfl, rfl, rfl, RR_bump hR0 (by decide)⟩
  · rw [if_pos (nI_ge0 (by omega)), if_neg (nI_nlt2 (by decide) (by omega) hj), e, bn_some, jn_eq, if_pos (show (0 : Int32) = 0 from rfl)]
    by_cases q : t < 16
    · rw [if_pos (show nI t < (16 : Int32) from nI_lt2 (b := 16) (by omega) (by decide) q), if_neg (show ¬ nI t = (16 : Int32) from nI_neq (b := 16) (by omega) (by decide) (by omega)), if_pos (show (0 : Int32) = 0 from rfl), inb_nI q (by decide), ck_true, ck_true, nI_1, nI_clamp (by omega)]
      refine ⟨_, _, rfl, rfl, rfl, hN, ⟨t + 1, by omega, rfl, rfl, fun i hi => ?_⟩, hW, hF, hI⟩
      show ∃ c : Nat, c ≤ 99 ∧ upd told t (nI j) i = nI c ∧ upd m_row t (nI j) i = nI c
      unfold upd
      split
      · exact ⟨j, hj, rfl, rfl⟩
      · exact hr i hi
    · obtain rfl : t = 16 := by omega
      rw [if_neg (show ¬ nI 16 < (16 : Int32) by decide), if_pos (show nI 16 = (16 : Int32) from rfl), if_neg (show ¬ (-6 : Int32) = 0 by decide), x_no6, m_no6, bn_some, bn_some]
      exact ⟨_, _, rfl, rfl, rfl, RR_bump hR0 (by decide)⟩
theorem eq_pips {tolds : Int32} {hasImage : Int32} {n_heirs : Int32} {n_left : Int32} {n_bitten : Int32} {n_kinds : (Nat → Int32)} {n_figures : (Nat → Int32)} {k_heirs : Int32} {k_left : Int32} {k_bitten : Int32} {k_kinds : (Nat → Int32)} {k_figures : (Nat → Int32)} {t_heirs : Int32} {t_left : Int32} {t_bitten : Int32} {t_kinds : (Nat → Int32)} {t_figures : (Nat → Int32)} {r_gone : Int32} {r_heaps : Int32} {r_fewestCells : Int32} {r_deed : Int32} {c_ways : (Nat → Int32)} {c_fewest : (Nat → Int32)} {c_nextWays : (Nat → Int32)} {c_nextFewest : (Nat → Int32)} {x_length : Int32} {x_letters : (Nat → Int32)} {told : (Nat → Int32)} {refusals : (Nat → Int32)} {ends : (Nat → Int32)} {m_left : Int32} {m_bites : Int32} {m_many : Int32} {m_imageLeft : Int32} {m_imageBites : Int32} {m_imageMany : Int32} {m_wasLeft : Int32} {m_wasBites : Int32} {m_wasMany : Int32} {m_hasImage : Int32} {m_letterMany : Int32} {m_rowMany : Int32} {m_place : Int32} {m_seed : Int32} {m_kind : (Nat → Int32)} {m_figure : (Nat → Int32)} {m_imageKind : (Nat → Int32)} {m_imageFigure : (Nat → Int32)} {m_wasKind : (Nat → Int32)} {m_wasFigure : (Nat → Int32)} {m_letters : (Nat → Int32)} {m_row : (Nat → Int32)} {m_refused : (Nat → Int32)} {m_numbers : (Nat → Int32)} {m_counted : (Nat → Int32)} {m_few : (Nat → Int32)} (hR : RR tolds hasImage n_heirs n_left n_bitten n_kinds n_figures k_heirs k_left k_bitten k_kinds k_figures x_length x_letters told refusals m_left m_bites m_many m_imageLeft m_imageBites m_imageMany m_hasImage m_letterMany m_rowMany m_kind m_figure m_imageKind m_imageFigure m_letters m_row m_refused) (a1 : Int32) : ∃ (o1 : Int32 × (Nat → Int32)) (o2 : Int32 × (Nat → Int32)), f_X5_pips n_left refusals a1 = some o1 ∧ f_X6_pips m_left m_refused a1 = some o2 ∧ o1.1 = o2.1 ∧ RR tolds hasImage n_heirs n_left n_bitten n_kinds n_figures k_heirs k_left k_bitten k_kinds k_figures x_length x_letters told o1.2 m_left m_bites m_many m_imageLeft m_imageBites m_imageMany m_hasImage m_letterMany m_rowMany m_kind m_figure m_imageKind m_imageFigure m_letters m_row o2.2 := by
  have hR0 := hR
  obtain ⟨⟨h, b, K, F, rfl, hL, rfl, rfl, hh, rfl, rfl, hb, hs, hs'⟩, hT, hW, hF, hI⟩ := hR
  unfold f_X5_pips f_X6_pips
  rcases two_cases a1 with ⟨e1, e2⟩ | ⟨hv, e1, e2⟩
  · have n0 : ¬ a1 = 0 := fun q => by subst q; revert e1; decide
    have n1 : ¬ a1 = 1 := fun q => by subst q; revert e1; decide
    rw [e1, bn_some, if_pos (show (0 : Int32) = 0 from rfl), if_neg n0, if_neg n1, x_no2, m_no2, bn_some, bn_some]
    exact ⟨_, _, rfl, rfl, rfl, RR_bump hR0 (by decide)⟩
  · rw [e1, bn_some, if_neg (show ¬ (1 : Int32) = 0 by decide)]
    rcases hv with rfl | rfl
    · rw [if_pos rfl, if_pos rfl, x_bits (cr_and _ hL), m_bits (cr_and _ hL), bn_some, bn_some]
      exact ⟨_, _, rfl, rfl, rfl, hR0⟩
    · rw [if_neg (show ¬ (1 : Int32) = 0 by decide), if_neg (show ¬ (1 : Int32) = 0 by decide), if_pos rfl, x_bits (cr_and _ hL), bn_some, show (2 : Int32) = nI 2 from rfl, shr_bit hL (by decide)]
      refine ⟨_, _, rfl, rfl, congrArg nI ?_, hR0⟩
      have e : ∀ k, k < 25 → bt (n_left &&& (4 : Int32)) k = (decide (k = 2) && bt n_left 2) := fun k hk => by
        rw [b_and, (by decide +kernel : ∀ k, k < 25 → bt (4 : Int32) k = decide (k = 2)) k hk]
        by_cases q : k = 2
        · subst q; simp
        · simp [q]
      show fb_ct _ 25 = _
      rw [fb_ct_cong e]
      generalize bt n_left 2 = z
      revert z
      decide
theorem and_comm0 {x y : Int32} : x &&& y = 0 ↔ y &&& x = 0 := by rw [Int32.and_comm]
theorem x_isLeft {L : Int32} {c : Nat} (hc : c < 25) : f_X5_isLeft L (nI c) = some (nI (if bt L c then 1 else 0)) := by
  unfold f_X5_isLeft
  rw [ite_p (and_bit0 hc)]
  cases bt L c <;> rfl
theorem cr_add {L : Int32} (hL : Cr L) {c : Nat} (hc : c < 25) : Cr (L ||| jshl (1 : Int32) (nI c)) := cr_or hL (cr_one hc)
theorem eq_heals {tolds : Int32} {hasImage : Int32} {n_heirs : Int32} {n_left : Int32} {n_bitten : Int32} {n_kinds : (Nat → Int32)} {n_figures : (Nat → Int32)} {k_heirs : Int32} {k_left : Int32} {k_bitten : Int32} {k_kinds : (Nat → Int32)} {k_figures : (Nat → Int32)} {t_heirs : Int32} {t_left : Int32} {t_bitten : Int32} {t_kinds : (Nat → Int32)} {t_figures : (Nat → Int32)} {r_gone : Int32} {r_heaps : Int32} {r_fewestCells : Int32} {r_deed : Int32} {c_ways : (Nat → Int32)} {c_fewest : (Nat → Int32)} {c_nextWays : (Nat → Int32)} {c_nextFewest : (Nat → Int32)} {x_length : Int32} {x_letters : (Nat → Int32)} {told : (Nat → Int32)} {refusals : (Nat → Int32)} {ends : (Nat → Int32)} {m_left : Int32} {m_bites : Int32} {m_many : Int32} {m_imageLeft : Int32} {m_imageBites : Int32} {m_imageMany : Int32} {m_wasLeft : Int32} {m_wasBites : Int32} {m_wasMany : Int32} {m_hasImage : Int32} {m_letterMany : Int32} {m_rowMany : Int32} {m_place : Int32} {m_seed : Int32} {m_kind : (Nat → Int32)} {m_figure : (Nat → Int32)} {m_imageKind : (Nat → Int32)} {m_imageFigure : (Nat → Int32)} {m_wasKind : (Nat → Int32)} {m_wasFigure : (Nat → Int32)} {m_letters : (Nat → Int32)} {m_row : (Nat → Int32)} {m_refused : (Nat → Int32)} {m_numbers : (Nat → Int32)} {m_counted : (Nat → Int32)} {m_few : (Nat → Int32)} (hR : RR tolds hasImage n_heirs n_left n_bitten n_kinds n_figures k_heirs k_left k_bitten k_kinds k_figures x_length x_letters told refusals m_left m_bites m_many m_imageLeft m_imageBites m_imageMany m_hasImage m_letterMany m_rowMany m_kind m_figure m_imageKind m_imageFigure m_letters m_row m_refused) (a1 : Int32) : ∃ (o1 : Int32 × Int32 × (Nat → Int32)) (o2 : Int32 × Int32 × (Nat → Int32)), f_X5_heals n_left refusals a1 = some o1 ∧ f_X6_heals m_left m_refused a1 = some o2 ∧ o1.1 = o2.1 ∧ RR tolds hasImage n_heirs o1.2.1 n_bitten n_kinds n_figures k_heirs k_left k_bitten k_kinds k_figures x_length x_letters told o1.2.2 o2.2.1 m_bites m_many m_imageLeft m_imageBites m_imageMany m_hasImage m_letterMany m_rowMany m_kind m_figure m_imageKind m_imageFigure m_letters m_row o2.2.2 := by
  have hR0 := hR
  obtain ⟨⟨h, b, K, F, rfl, hL, rfl, rfl, hh, rfl, rfl, hb, hs, hs'⟩, hT, hW, hF, hI⟩ := hR
  unfold f_X5_heals f_X6_heals
  rcases cell_cases a1 with ⟨e1, e2⟩ | ⟨c, hc, rfl, e1, e2⟩
  · rw [e1, e2, bn_some, bn_some, if_pos rfl, if_pos rfl, x_no1, m_no1, bn_some, bn_some]
    exact ⟨_, _, rfl, rfl, rfl, RR_bump hR0 (by decide)⟩
  · rw [e1, e2, bn_some, bn_some, if_neg (show ¬ (1 : Int32) = 0 by decide), if_neg (show ¬ (1 : Int32) = 0 by decide), x_isLeft hc, m_has hL (by omega), bn_some, bn_some]
    cases bt n_left c
    · unfold f_X0_mends
      rw [if_pos (by rfl), if_pos (by rfl), e1, bn_some, if_neg (show ¬ (1 : Int32) = 0 by decide), bn_some, x_bits (cr_add hL hc), m_bits (cr_add hL hc), bn_some, bn_some]
      exact ⟨_, _, rfl, rfl, rfl, ⟨h, b, K, F, rfl, cr_add hL hc, rfl, rfl, hh, rfl, rfl, hb, hs, hs'⟩, hT, hW, hF, hI⟩
    · rw [if_neg (by decide), if_neg (by decide), x_no3, m_no3, bn_some, bn_some]
      exact ⟨_, _, rfl, rfl, rfl, RR_bump hR0 (by decide)⟩
theorem bit_one {L : Int32} {c : Nat} (hc : c < 25) : (if L &&& jshl (1 : Int32) (nI c) = 0 then (0 : Int32) else 1) = nI (if bt L c then 1 else 0) := by
  rw [ite_p (and_bit0 hc)]
  cases bt L c <;> rfl
theorem eq_cell {tolds : Int32} {hasImage : Int32} {n_heirs : Int32} {n_left : Int32} {n_bitten : Int32} {n_kinds : (Nat → Int32)} {n_figures : (Nat → Int32)} {k_heirs : Int32} {k_left : Int32} {k_bitten : Int32} {k_kinds : (Nat → Int32)} {k_figures : (Nat → Int32)} {t_heirs : Int32} {t_left : Int32} {t_bitten : Int32} {t_kinds : (Nat → Int32)} {t_figures : (Nat → Int32)} {r_gone : Int32} {r_heaps : Int32} {r_fewestCells : Int32} {r_deed : Int32} {c_ways : (Nat → Int32)} {c_fewest : (Nat → Int32)} {c_nextWays : (Nat → Int32)} {c_nextFewest : (Nat → Int32)} {x_length : Int32} {x_letters : (Nat → Int32)} {told : (Nat → Int32)} {refusals : (Nat → Int32)} {ends : (Nat → Int32)} {m_left : Int32} {m_bites : Int32} {m_many : Int32} {m_imageLeft : Int32} {m_imageBites : Int32} {m_imageMany : Int32} {m_wasLeft : Int32} {m_wasBites : Int32} {m_wasMany : Int32} {m_hasImage : Int32} {m_letterMany : Int32} {m_rowMany : Int32} {m_place : Int32} {m_seed : Int32} {m_kind : (Nat → Int32)} {m_figure : (Nat → Int32)} {m_imageKind : (Nat → Int32)} {m_imageFigure : (Nat → Int32)} {m_wasKind : (Nat → Int32)} {m_wasFigure : (Nat → Int32)} {m_letters : (Nat → Int32)} {m_row : (Nat → Int32)} {m_refused : (Nat → Int32)} {m_numbers : (Nat → Int32)} {m_counted : (Nat → Int32)} {m_few : (Nat → Int32)} (hR : RR tolds hasImage n_heirs n_left n_bitten n_kinds n_figures k_heirs k_left k_bitten k_kinds k_figures x_length x_letters told refusals m_left m_bites m_many m_imageLeft m_imageBites m_imageMany m_hasImage m_letterMany m_rowMany m_kind m_figure m_imageKind m_imageFigure m_letters m_row m_refused) (a1 : Int32) (a2 : Int32) : ∃ (o1 : Int32 × (Nat → Int32)) (o2 : Int32 × (Nat → Int32)), f_X5_cell n_left refusals a1 a2 = some o1 ∧ f_X6_cell m_left m_refused a1 a2 = some o2 ∧ o1.1 = o2.1 ∧ RR tolds hasImage n_heirs n_left n_bitten n_kinds n_figures k_heirs k_left k_bitten k_kinds k_figures x_length x_letters told o1.2 m_left m_bites m_many m_imageLeft m_imageBites m_imageMany m_hasImage m_letterMany m_rowMany m_kind m_figure m_imageKind m_imageFigure m_letters m_row o2.2 := by
  have hR0 := hR
  obtain ⟨⟨h, b, K, F, rfl, hL, rfl, rfl, hh, rfl, rfl, hb, hs, hs'⟩, hT, hW, hF, hI⟩ := hR
  unfold f_X5_cell f_X6_cell
  rcases cell_cases a1 with ⟨e1, e2⟩ | ⟨c, hc, rfl, e1, e2⟩
  · rw [e1, e2, bn_some, bn_some, if_pos rfl, if_pos rfl, x_no1, m_no1, bn_some, bn_some]
    exact ⟨_, _, rfl, rfl, rfl, RR_bump hR0 (by decide)⟩
  · rw [e1, e2, bn_some, bn_some, if_neg (show ¬ (1 : Int32) = 0 by decide), if_neg (show ¬ (1 : Int32) = 0 by decide)]
    rcases rng a2 (n := 2) (by decide) with q | q | ⟨j, hj, rfl⟩
    · have f := lt_facts q
      rw [if_pos q, if_neg (show ¬ a2 = 0 from f.1 0 (by decide)), if_neg (show ¬ a2 = 1 from f.1 1 (by decide)), if_neg (show ¬ a2 = 2 from f.1 2 (by decide)), x_no2, m_no2, bn_some, bn_some]
      exact ⟨_, _, rfl, rfl, rfl, RR_bump hR0 (by decide)⟩
    · have f := gt_ge (by decide) q
      rw [if_neg f.2.1, if_neg (show ¬ a2 ≤ 2 from f.2.2.2.1 2 (by decide)), if_neg (show ¬ a2 = 0 from f.2.2.1 0 (by decide)), if_neg (show ¬ a2 = 1 from f.2.2.1 1 (by decide)), if_neg (show ¬ a2 = 2 from f.2.2.1 2 (by decide)), x_no2, m_no2, bn_some, bn_some]
      exact ⟨_, _, rfl, rfl, rfl, RR_bump hR0 (by decide)⟩
    · rw [if_neg (not_lt0 (by omega)), if_pos (show nI j ≤ (2 : Int32) from nI_le' (b := 2) (by omega) (by decide) hj)]
      have hj3 : j = 0 ∨ j = 1 ∨ j = 2 := by omega
      rcases hj3 with rfl | rfl | rfl
      · rw [if_pos (show nI 0 = (0 : Int32) from rfl), if_pos (show nI 0 = (0 : Int32) from rfl), shr_bit hL (by omega), ite_p (and_bit0 hc)]
        cases bt n_left c <;> exact ⟨_, _, rfl, rfl, rfl, hR0⟩
      · rw [if_neg (show ¬ nI 1 = (0 : Int32) by decide), if_neg (show ¬ nI 1 = (0 : Int32) by decide), if_pos (show nI 1 = (1 : Int32) from rfl), if_pos (show nI 1 = (1 : Int32) from rfl), x_besides, m_beside (cr_one hc), bn_some, bn_some, x_bits (cr_and2 _ hL), m_bits (cr_and2 _ hL), bn_some, bn_some]
        exact ⟨_, _, rfl, rfl, rfl, hR0⟩
      · rw [if_neg (show ¬ nI 2 = (0 : Int32) by decide), if_neg (show ¬ nI 2 = (0 : Int32) by decide), if_neg (show ¬ nI 2 = (1 : Int32) by decide), if_neg (show ¬ nI 2 = (1 : Int32) by decide), if_pos (show nI 2 = (2 : Int32) from rfl), x_heapOf, m_heapOf hL, bn_some, bn_some, x_bits (cr_fl' hL (cr_and _ (cr_one hc))), m_bits (cr_fl' hL (cr_and _ (cr_one hc))), bn_some, bn_some]
        exact ⟨_, _, rfl, rfl, rfl, hR0⟩
