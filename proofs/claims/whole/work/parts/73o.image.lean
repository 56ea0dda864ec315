/-! image, on, count, lots -/
theorem HS_cpy {K F : Nat → Nat} {nk nf gk gf : Nat → Int32} (hs : HS K F nk nf) : HS K F (va_cpy nk gk 0 0 5) (va_cpy nf gf 0 0 5) := fun i hi => by
  have := hs i hi
  unfold va_cpy
  rw [if_pos ⟨Nat.zero_le _, by omega⟩, if_pos ⟨Nat.zero_le _, by omega⟩]
  simp only [Nat.sub_zero, Nat.zero_add]
  exact this
theorem m_image_loop {K F : Nat → Nat} {nk nf : Nat → Int32} (hs : HS K F nk nf) (c1 c2 c3 c4 : Int32) : ∀ (m i n : Nat) (gk gf : Nat → Int32), i + m = 5 → m < n → (∀ j, j < i → gk j = nI (K j) ∧ gf j = nI (F j)) → ∃ hk hf, f_X6_image_26 c1 c2 c3 c4 nk nf n (nI i) gk gf = some (c1, c2, c3, c4, (1 : Int32), hk, hf) ∧ HS K F hk hf := by
  intro m
  induction m with
  | zero =>
    intro i n gk gf hi hn hg
    obtain ⟨n, rfl⟩ := fuel hn
    obtain rfl : i = 5 := by omega
    rw [f_X6_image_26_s, if_pos (by decide)]
    exact ⟨gk, gf, rfl, fun j hj => ⟨(hg j hj).1, (hg j hj).2, (hs j hj).2.2⟩⟩
  | succ m ih =>
    intro i n gk gf hi hn hg
    obtain ⟨n, rfl⟩ := fuel hn
    rw [f_X6_image_26_s, if_neg (show ¬ (5 : Int32) ≤ nI i from nI_nle' (a := 5) (by decide) (by omega) (by omega)), inb_nI (by omega) (by decide), ck_true, ck_true, ck_true, ck_true, nI_clamp (by omega), nI_1]
    refine ih (i + 1) n _ _ (by omega) (by omega) (fun j hj => ?_)
    unfold upd
    by_cases q : j = i
    · subst q
      rw [if_pos rfl, if_pos rfl]
      exact ⟨(hs j (by omega)).1, (hs j (by omega)).2.1⟩
    · rw [if_neg q, if_neg q]
      exact hg j (by omega)
theorem eq_image {tolds : Int32} {hasImage : Int32} {n_heirs : Int32} {n_left : Int32} {n_bitten : Int32} {n_kinds : (Nat → Int32)} {n_figures : (Nat → Int32)} {k_heirs : Int32} {k_left : Int32} {k_bitten : Int32} {k_kinds : (Nat → Int32)} {k_figures : (Nat → Int32)} {t_heirs : Int32} {t_left : Int32} {t_bitten : Int32} {t_kinds : (Nat → Int32)} {t_figures : (Nat → Int32)} {r_gone : Int32} {r_heaps : Int32} {r_fewestCells : Int32} {r_deed : Int32} {c_ways : (Nat → Int32)} {c_fewest : (Nat → Int32)} {c_nextWays : (Nat → Int32)} {c_nextFewest : (Nat → Int32)} {x_length : Int32} {x_letters : (Nat → Int32)} {told : (Nat → Int32)} {refusals : (Nat → Int32)} {ends : (Nat → Int32)} {m_left : Int32} {m_bites : Int32} {m_many : Int32} {m_imageLeft : Int32} {m_imageBites : Int32} {m_imageMany : Int32} {m_wasLeft : Int32} {m_wasBites : Int32} {m_wasMany : Int32} {m_hasImage : Int32} {m_letterMany : Int32} {m_rowMany : Int32} {m_place : Int32} {m_seed : Int32} {m_kind : (Nat → Int32)} {m_figure : (Nat → Int32)} {m_imageKind : (Nat → Int32)} {m_imageFigure : (Nat → Int32)} {m_wasKind : (Nat → Int32)} {m_wasFigure : (Nat → Int32)} {m_letters : (Nat → Int32)} {m_row : (Nat → Int32)} {m_refused : (Nat → Int32)} {m_numbers : (Nat → Int32)} {m_counted : (Nat → Int32)} {m_few : (Nat → Int32)} (hR : RR tolds hasImage n_heirs n_left n_bitten n_kinds n_figures k_heirs k_left k_bitten k_kinds k_figures x_length x_letters told refusals m_left m_bites m_many m_imageLeft m_imageBites m_imageMany m_hasImage m_letterMany m_rowMany m_kind m_figure m_imageKind m_imageFigure m_letters m_row m_refused) : ∃ (o1 : Int32 × Int32 × Int32 × Int32 × Int32 × (Nat → Int32) × (Nat → Int32)) (o2 : Int32 × Int32 × Int32 × Int32 × Int32 × (Nat → Int32) × (Nat → Int32)), f_X5_image n_heirs n_left n_bitten n_kinds n_figures k_kinds k_figures = some o1 ∧ f_X6_image m_left m_bites m_many m_kind m_figure m_imageKind m_imageFigure = some o2 ∧ o1.1 = o2.1 ∧ RR tolds o1.2.1 n_heirs n_left n_bitten n_kinds n_figures o1.2.2.1 o1.2.2.2.1 o1.2.2.2.2.1 o1.2.2.2.2.2.1 o1.2.2.2.2.2.2 x_length x_letters told refusals m_left m_bites m_many o2.2.1 o2.2.2.1 o2.2.2.2.1 o2.2.2.2.2.1 m_letterMany m_rowMany m_kind m_figure o2.2.2.2.2.2.1 o2.2.2.2.2.2.2 m_letters m_row m_refused := by
  obtain ⟨⟨h, b, K, F, rfl, hL, rfl, rfl, hh, rfl, rfl, hb, hs, hs'⟩, hT, hW, hF, hI⟩ := hR
  unfold f_X5_image f_X6_image f_X0_becomes
  obtain ⟨hk, hf, e, hs2⟩ := m_image_loop hs' (nI b) n_left (nI b) (nI h) 5 0 1000 m_imageKind m_imageFigure (by omega) (by decide) (fun j hj => absurd hj (Nat.not_lt_zero j))
  rw [← show (0 : Int32) = nI 0 from rfl] at e
  rw [bn_some, e]
  refine ⟨_, _, rfl, rfl, rfl, ⟨h, b, K, F, rfl, hL, rfl, rfl, hh, rfl, rfl, hb, hs, hs'⟩, hT, hW, hF, Or.inr ⟨rfl, rfl, ⟨h, b, K, F, rfl, hL, rfl, rfl, hh, rfl, rfl, hb, HS_cpy hs, hs2⟩⟩⟩
theorem m_on_loop {K F : Nat → Nat} {nk nf : Nat → Int32} (hs : HS K F nk nf) (c1 c2 c3 : Int32) (r : Nat → Int32) : ∀ (m i n : Nat) (gk gf : Nat → Int32), i + m = 5 → m < n → (∀ j, j < i → gk j = nI (K j) ∧ gf j = nI (F j)) → ∃ hk hf, f_X6_on_40 c1 c2 c3 nk nf r n (nI i) gk gf = some (c2, c1, c2, c3, hk, hf, r) ∧ HS K F hk hf := by
  intro m
  induction m with
  | zero =>
    intro i n gk gf hi hn hg
    obtain ⟨n, rfl⟩ := fuel hn
    obtain rfl : i = 5 := by omega
    rw [f_X6_on_40_s, if_pos (by decide)]
    exact ⟨gk, gf, rfl, fun j hj => ⟨(hg j hj).1, (hg j hj).2, (hs j hj).2.2⟩⟩
  | succ m ih =>
    intro i n gk gf hi hn hg
    obtain ⟨n, rfl⟩ := fuel hn
    rw [f_X6_on_40_s, if_neg (show ¬ (5 : Int32) ≤ nI i from nI_nle' (a := 5) (by decide) (by omega) (by omega)), inb_nI (by omega) (by decide), ck_true, ck_true, ck_true, ck_true, nI_clamp (by omega), nI_1]
    refine ih (i + 1) n _ _ (by omega) (by omega) (fun j hj => ?_)
    unfold upd
    by_cases q : j = i
    · subst q
      rw [if_pos rfl, if_pos rfl]
      exact ⟨(hs j (by omega)).1, (hs j (by omega)).2.1⟩
    · rw [if_neg q, if_neg q]
      exact hg j (by omega)
theorem eq_on {tolds : Int32} {hasImage : Int32} {n_heirs : Int32} {n_left : Int32} {n_bitten : Int32} {n_kinds : (Nat → Int32)} {n_figures : (Nat → Int32)} {k_heirs : Int32} {k_left : Int32} {k_bitten : Int32} {k_kinds : (Nat → Int32)} {k_figures : (Nat → Int32)} {t_heirs : Int32} {t_left : Int32} {t_bitten : Int32} {t_kinds : (Nat → Int32)} {t_figures : (Nat → Int32)} {r_gone : Int32} {r_heaps : Int32} {r_fewestCells : Int32} {r_deed : Int32} {c_ways : (Nat → Int32)} {c_fewest : (Nat → Int32)} {c_nextWays : (Nat → Int32)} {c_nextFewest : (Nat → Int32)} {x_length : Int32} {x_letters : (Nat → Int32)} {told : (Nat → Int32)} {refusals : (Nat → Int32)} {ends : (Nat → Int32)} {m_left : Int32} {m_bites : Int32} {m_many : Int32} {m_imageLeft : Int32} {m_imageBites : Int32} {m_imageMany : Int32} {m_wasLeft : Int32} {m_wasBites : Int32} {m_wasMany : Int32} {m_hasImage : Int32} {m_letterMany : Int32} {m_rowMany : Int32} {m_place : Int32} {m_seed : Int32} {m_kind : (Nat → Int32)} {m_figure : (Nat → Int32)} {m_imageKind : (Nat → Int32)} {m_imageFigure : (Nat → Int32)} {m_wasKind : (Nat → Int32)} {m_wasFigure : (Nat → Int32)} {m_letters : (Nat → Int32)} {m_row : (Nat → Int32)} {m_refused : (Nat → Int32)} {m_numbers : (Nat → Int32)} {m_counted : (Nat → Int32)} {m_few : (Nat → Int32)} (hR : RR tolds hasImage n_heirs n_left n_bitten n_kinds n_figures k_heirs k_left k_bitten k_kinds k_figures x_length x_letters told refusals m_left m_bites m_many m_imageLeft m_imageBites m_imageMany m_hasImage m_letterMany m_rowMany m_kind m_figure m_imageKind m_imageFigure m_letters m_row m_refused) : ∃ (o1 : Int32 × Int32 × Int32 × Int32 × (Nat → Int32) × (Nat → Int32) × (Nat → Int32)) (o2 : Int32 × Int32 × Int32 × Int32 × (Nat → Int32) × (Nat → Int32) × (Nat → Int32)), f_X5_on hasImage n_heirs n_left n_bitten n_kinds n_figures k_heirs k_left k_bitten k_kinds k_figures refusals = some o1 ∧ f_X6_on m_left m_bites m_many m_imageLeft m_imageBites m_imageMany m_hasImage m_kind m_figure m_imageKind m_imageFigure m_refused = some o2 ∧ o1.1 = o2.1 ∧ RR tolds hasImage o1.2.1 o1.2.2.1 o1.2.2.2.1 o1.2.2.2.2.1 o1.2.2.2.2.2.1 k_heirs k_left k_bitten k_kinds k_figures x_length x_letters told o1.2.2.2.2.2.2 o2.2.1 o2.2.2.1 o2.2.2.2.1 m_imageLeft m_imageBites m_imageMany m_hasImage m_letterMany m_rowMany o2.2.2.2.2.1 o2.2.2.2.2.2.1 m_imageKind m_imageFigure m_letters m_row o2.2.2.2.2.2.2 := by
  have hR0 := hR
  obtain ⟨hN, hT, hW, hF, hI⟩ := hR
  unfold f_X5_on f_X6_on f_X0_becomes
  rcases hI with ⟨rfl, rfl⟩ | ⟨rfl, rfl, ⟨h, b, K, F, rfl, hL, rfl, rfl, hh, rfl, rfl, hb, hs, hs'⟩⟩
  · rw [if_pos rfl, if_pos rfl, x_no3, m_no3, bn_some, bn_some]
    exact ⟨_, _, rfl, rfl, rfl, RR_bump hR0 (by decide)⟩
  · obtain ⟨hk, hf, e, hs2⟩ := m_on_loop hs' k_left (nI b) (nI h) m_refused 5 0 1000 m_kind m_figure (by omega) (by decide) (fun j hj => absurd hj (Nat.not_lt_zero j))
    rw [← show (0 : Int32) = nI 0 from rfl] at e
    rw [if_neg (show ¬ (1 : Int32) = 0 by decide), if_neg (show ¬ (1 : Int32) = 0 by decide), bn_some, e]
    exact ⟨_, _, rfl, rfl, rfl, ⟨h, b, K, F, rfl, hL, rfl, rfl, hh, rfl, rfl, hb, HS_cpy hs, hs2⟩, hT, hW, hF, Or.inr ⟨rfl, rfl, ⟨h, b, K, F, rfl, hL, rfl, rfl, hh, rfl, rfl, hb, hs, hs'⟩⟩⟩
theorem isIn_gen (a : Int32) {lo hi : Nat} (hlo : lo < 2 ^ 31) (hhi : hi < 2 ^ 31 - 1) : (a < nI lo ∧ f_X6_isIn a (nI lo) (nI hi) = some (0 : Int32)) ∨ (nI hi < a ∧ f_X6_isIn a (nI lo) (nI hi) = some (0 : Int32)) ∨ ∃ j : Nat, lo ≤ j ∧ j ≤ hi ∧ a = nI j ∧ f_X6_isIn a (nI lo) (nI hi) = some (1 : Int32) := by
  by_cases q : a < nI lo
  · exact Or.inl ⟨q, isIn_no1 q⟩
  · rcases rng a (n := hi) (by omega) with r | r | ⟨j, hj, rfl⟩
    · exact absurd (by
        rw [Int32.lt_iff_toInt_lt] at r ⊢
        rw [nI_toInt hlo]
        have : (0 : Int32).toInt = 0 := by decide
        omega) q
    · exact Or.inr (Or.inl ⟨r, isIn_no2 r⟩)
    · rw [nI_ltI (by omega) hlo] at q
      refine Or.inr (Or.inr ⟨j, by omega, hj, rfl, ?_⟩)
      unfold f_X6_isIn
      rw [if_neg (nI_nlt2 (by omega) hlo (by omega)), if_neg (nI_nlt2 (by omega) (by omega) hj)]
theorem eq_count {tolds : Int32} {hasImage : Int32} {n_heirs : Int32} {n_left : Int32} {n_bitten : Int32} {n_kinds : (Nat → Int32)} {n_figures : (Nat → Int32)} {k_heirs : Int32} {k_left : Int32} {k_bitten : Int32} {k_kinds : (Nat → Int32)} {k_figures : (Nat → Int32)} {t_heirs : Int32} {t_left : Int32} {t_bitten : Int32} {t_kinds : (Nat → Int32)} {t_figures : (Nat → Int32)} {r_gone : Int32} {r_heaps : Int32} {r_fewestCells : Int32} {r_deed : Int32} {c_ways : (Nat → Int32)} {c_fewest : (Nat → Int32)} {c_nextWays : (Nat → Int32)} {c_nextFewest : (Nat → Int32)} {x_length : Int32} {x_letters : (Nat → Int32)} {told : (Nat → Int32)} {refusals : (Nat → Int32)} {ends : (Nat → Int32)} {m_left : Int32} {m_bites : Int32} {m_many : Int32} {m_imageLeft : Int32} {m_imageBites : Int32} {m_imageMany : Int32} {m_wasLeft : Int32} {m_wasBites : Int32} {m_wasMany : Int32} {m_hasImage : Int32} {m_letterMany : Int32} {m_rowMany : Int32} {m_place : Int32} {m_seed : Int32} {m_kind : (Nat → Int32)} {m_figure : (Nat → Int32)} {m_imageKind : (Nat → Int32)} {m_imageFigure : (Nat → Int32)} {m_wasKind : (Nat → Int32)} {m_wasFigure : (Nat → Int32)} {m_letters : (Nat → Int32)} {m_row : (Nat → Int32)} {m_refused : (Nat → Int32)} {m_numbers : (Nat → Int32)} {m_counted : (Nat → Int32)} {m_few : (Nat → Int32)} (hR : RR tolds hasImage n_heirs n_left n_bitten n_kinds n_figures k_heirs k_left k_bitten k_kinds k_figures x_length x_letters told refusals m_left m_bites m_many m_imageLeft m_imageBites m_imageMany m_hasImage m_letterMany m_rowMany m_kind m_figure m_imageKind m_imageFigure m_letters m_row m_refused) (a1 : Int32) : ∃ (o1 : Int32 × Int32 × Int32 × Int32 × Int32) (o2 : Int32), f_X5_count tolds n_heirs n_left n_bitten n_kinds n_figures r_gone r_heaps r_fewestCells r_deed x_length refusals a1 = some o1 ∧ f_X6_count m_left m_bites m_many m_letterMany m_rowMany m_kind m_figure m_refused a1 = some o2 ∧ o1.1 = o2 ∧ RR tolds hasImage n_heirs n_left n_bitten n_kinds n_figures k_heirs k_left k_bitten k_kinds k_figures x_length x_letters told refusals m_left m_bites m_many m_imageLeft m_imageBites m_imageMany m_hasImage m_letterMany m_rowMany m_kind m_figure m_imageKind m_imageFigure m_letters m_row m_refused := by
  have hR0 := hR
  obtain ⟨⟨h, b, K, F, rfl, hL, rfl, rfl, hh, rfl, rfl, hb, hs, hs'⟩, ⟨t, ht, rfl, rfl, hr⟩, ⟨n, hn, rfl, rfl, hl⟩, hF, hI⟩ := hR
  unfold f_X5_count f_X6_count
  have z11 : (11 : Int32).toInt = 11 := by decide
  have z16 : (16 : Int32).toInt = 16 := by decide
  have out : (a1 < 11 ∨ (16 : Int32) < a1) → f_X6_isIn a1 (11 : Int32) (16 : Int32) = some (0 : Int32) := fun q => by
    rcases q with q | q
    · exact isIn_no1 q
    · exact isIn_no2 q
  by_cases o : a1 < 11 ∨ (16 : Int32) < a1
  · rw [out o, bn_some, if_pos rfl]
    by_cases q0 : a1 = 0
    · rw [if_pos q0, if_pos q0]; exact ⟨_, _, rfl, rfl, rfl, hR0⟩
    rw [if_neg q0, if_neg q0]
    by_cases q1 : a1 = 1
    · rw [if_pos q1, if_pos q1]; exact ⟨_, _, rfl, rfl, rfl, hR0⟩
    rw [if_neg q1, if_neg q1]
    by_cases q2 : a1 = 2
    · rw [if_pos q2, if_pos q2]; exact ⟨_, _, rfl, rfl, rfl, hR0⟩
    rw [if_neg q2, if_neg q2]
    by_cases q3 : a1 = 3
    · rw [if_pos q3, if_pos q3, x_bits hL, m_bits hL, bn_some, bn_some]; exact ⟨_, _, rfl, rfl, rfl, hR0⟩
    rw [if_neg q3, if_neg q3]
    by_cases q4 : a1 = 4
    · rw [if_pos q4, if_pos q4, x_sums hs hh hL, m_sums hs' hh hL, bn_some, bn_some]; exact ⟨_, _, rfl, rfl, rfl, hR0⟩
    rw [if_neg q4, if_neg q4]
    by_cases q5 : a1 = 5
    · unfold f_X5_isSettled f_X3_isInChancery
      rw [if_pos q5, if_pos q5, m_deed hL, x_reads hL, bn_some, bn_some]
      by_cases d : dd n_left = 0
      · rw [if_pos d, bn_some, if_neg (show ¬ (1 : Int32) = 0 by decide), bn_some, if_pos rfl]
        exact ⟨_, _, rfl, rfl, rfl, hR0⟩
      · rw [if_neg d, bn_some, if_pos rfl, bn_some, if_neg (show ¬ (1 : Int32) = 0 by decide)]
        exact ⟨_, _, rfl, rfl, rfl, hR0⟩
    rw [if_neg q5, if_neg q5]
    by_cases q6 : a1 = 6
    · rw [if_pos q6, if_pos q6]; exact ⟨_, _, rfl, rfl, rfl, hR0⟩
    rw [if_neg q6, if_neg q6]
    by_cases q7 : a1 = 7
    · rw [if_pos q7, if_pos q7]; exact ⟨_, _, rfl, rfl, rfl, hR0⟩
    rw [if_neg q7, if_neg q7]
    by_cases q8 : a1 < 11
    · rw [if_pos q8]; exact ⟨_, _, rfl, rfl, rfl, hR0⟩
    · rw [if_neg q8, if_pos (o.resolve_left q8)]; exact ⟨_, _, rfl, rfl, rfl, hR0⟩
  · obtain ⟨j, h1, h2, rfl⟩ : ∃ j, 11 ≤ j ∧ j ≤ 16 ∧ a1 = nI j := by
      rcases isIn_gen a1 (lo := 11) (hi := 16) (by decide) (by decide) with ⟨q, _⟩ | ⟨q, _⟩ | ⟨j, h1, h2, e, _⟩
      · exact absurd (Or.inl q) o
      · exact absurd (Or.inr q) o
      · exact ⟨j, h1, h2, e⟩
    have nz : ∀ k, k < 8 → ¬ nI j = nI k := fun k hk => nI_neq (by omega) (by omega) (by omega)
    have is1 : f_X6_isIn (nI j) (11 : Int32) (16 : Int32) = some (1 : Int32) := by
      unfold f_X6_isIn
      rw [if_neg (fun q => o (Or.inl q)), if_neg (fun q => o (Or.inr q))]
    rw [is1, bn_some, if_neg (show ¬ (1 : Int32) = 0 by decide)]
    rw [if_neg (show ¬ nI j = (0 : Int32) from nz 0 (by decide)), if_neg (show ¬ nI j = (1 : Int32) from nz 1 (by decide)), if_neg (show ¬ nI j = (2 : Int32) from nz 2 (by decide)), if_neg (show ¬ nI j = (3 : Int32) from nz 3 (by decide)), if_neg (show ¬ nI j = (4 : Int32) from nz 4 (by decide)), if_neg (show ¬ nI j = (5 : Int32) from nz 5 (by decide)), if_neg (show ¬ nI j = (6 : Int32) from nz 6 (by decide)), if_neg (show ¬ nI j = (7 : Int32) from nz 7 (by decide)), if_neg (fun q => o (Or.inl q)), if_neg (fun q => o (Or.inr q)), show (10 : Int32) = nI 10 from rfl, pk_sub (by omega), inb_nI (by omega) (by decide), ck_true, ck_true, nI_clamp (by omega), hF (j - 10) (by omega)]
    exact ⟨_, _, rfl, rfl, rfl, hR0⟩
