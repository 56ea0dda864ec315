/-! sums, the richest, rolls, judge -/
def tot (K F : Nat → Nat) (h : Nat) (L : Int32) : Nat := fb_sm (fun j => sh K F j L) h
theorem x_sums_loop {K F : Nat → Nat} {nk nf : Nat → Int32} (hs : HS K F nk nf) {h : Nat} (hh : h ≤ 5) {L : Int32} (hL : Cr L) : ∀ (m i n : Nat), i + m = h → m < n → f_X5_sharesTogether_12 (nI h) nk nf (gone L) (nI (nh L)) (nI (fw L)) (dd L) n (nI (fb_sm (fun j => sh K F j L) i)) (nI i) = some (nI (tot K F h L), gone L, nI (nh L), nI (fw L), dd L) := by
  intro m
  induction m with
  | zero =>
    intro i n hi hn
    obtain ⟨n, rfl⟩ : ∃ k, n = k + 1 := ⟨n - 1, by omega⟩
    obtain rfl : i = h := by omega
    rw [f_X5_sharesTogether_12_s, if_pos (Int32.le_refl _)]
    rfl
  | succ m ih =>
    intro i n hi hn
    obtain ⟨n, rfl⟩ : ∃ k, n = k + 1 := ⟨n - 1, by omega⟩
    rw [f_X5_sharesTogether_12_s, if_neg (nI_nle' (by omega) (by omega) (by omega)), x_readShare hs (by omega) hL, bn_some, nI_add, nI_1]
    exact ih (i + 1) n (by omega) (by omega)
theorem x_sums {K F : Nat → Nat} {nk nf : Nat → Int32} (hs : HS K F nk nf) {h : Nat} (hh : h ≤ 5) {L : Int32} (hL : Cr L) : f_X5_sharesTogether (nI h) nk nf L = some (nI (tot K F h L), gone L, nI (nh L), nI (fw L), dd L) := by
  unfold f_X5_sharesTogether
  rw [x_reads hL, bn_some]
  exact x_sums_loop hs hh hL h 0 1000 (by omega) (by omega)
theorem m_sums_loop {K F : Nat → Nat} {nk nf : Nat → Int32} (hs : HS K F nk nf) {h : Nat} (hh : h ≤ 5) {L : Int32} (hL : Cr L) : ∀ (m i n : Nat), i + m = h → m < n → f_X6_sharesOf_4 L (nI h) nk nf n (nI (fb_sm (fun j => sh K F j L) i)) (nI i) = some (nI (tot K F h L)) := by
  intro m
  induction m with
  | zero =>
    intro i n hi hn
    obtain ⟨n, rfl⟩ : ∃ k, n = k + 1 := ⟨n - 1, by omega⟩
    obtain rfl : i = h := by omega
    rw [f_X6_sharesOf_4_s, if_pos (Int32.le_refl _)]
    rfl
  | succ m ih =>
    intro i n hi hn
    obtain ⟨n, rfl⟩ : ∃ k, n = k + 1 := ⟨n - 1, by omega⟩
    rw [f_X6_sharesOf_4_s, if_neg (nI_nle' (by omega) (by omega) (by omega)), m_shareOf hs (by omega) hL, bn_some, nI_add, nI_1]
    exact ih (i + 1) n (by omega) (by omega)
theorem m_sums {K F : Nat → Nat} {nk nf : Nat → Int32} (hs : HS K F nk nf) {h : Nat} (hh : h ≤ 5) {L : Int32} (hL : Cr L) : f_X6_sharesOf (nI h) nk nf L = some (nI (tot K F h L)) := by
  unfold f_X6_sharesOf
  exact m_sums_loop hs hh hL h 0 1000 (by omega) (by omega)
theorem tot_le {K F : Nat → Nat} {nk nf : Nat → Int32} (hs : HS K F nk nf) {h : Nat} (hh : h ≤ 5) {L : Int32} (hL : Cr L) : tot K F h L ≤ 400 := by
  have := fb_sm_bound (f := fun j => sh K F j L) (c := 80) (n := h) (fun k hk => sh_le hs (by omega) hL)
  unfold tot
  omega
def eR (fo : Option Nat) : Int32 := match fo with | none => -9 | some b => nI b
def eS (f : Nat → Nat) (fo : Option Nat) : Int32 := match fo with | none => -1 | some b => nI (f b)
def richF (f : Nat → Nat) : Nat → Nat → Option Nat → Option Nat
  | 0, _, fo => fo
  | m + 1, i, fo => richF f m (i + 1) (match fo with | none => some i | some b => if f i ≤ f b then some b else some i)
theorem x_rich_loop {K F : Nat → Nat} {nk nf : Nat → Int32} (hs : HS K F nk nf) {h : Nat} (hh : h ≤ 5) {L : Int32} (hL : Cr L) : ∀ (m i n : Nat) (fo : Option Nat), i + m = h → m < n → (∀ b, fo = some b → b < h) → f_X5_richest_21 (nI h) nk nf (gone L) (nI (nh L)) (nI (fw L)) (dd L) n (eR fo) (eS (fun j => sh K F j L) fo) (nI i) = some (eR (richF (fun j => sh K F j L) m i fo), gone L, nI (nh L), nI (fw L), dd L) := by
  intro m
  induction m with
  | zero =>
    intro i n fo hi hn hb
    obtain ⟨n, rfl⟩ : ∃ k, n = k + 1 := ⟨n - 1, by omega⟩
    obtain rfl : i = h := by omega
    rw [f_X5_richest_21_s, if_pos (Int32.le_refl _)]
    rfl
  | succ m ih =>
    intro i n fo hi hn hb
    obtain ⟨n, rfl⟩ : ∃ k, n = k + 1 := ⟨n - 1, by omega⟩
    have l1 : sh K F i L ≤ 80 := sh_le hs (by omega) hL
    rw [f_X5_richest_21_s, if_neg (nI_nle' (by omega) (by omega) (by omega)), x_readShare hs (by omega) hL, bn_some, jn_eq, nI_1]
    unfold richF
    cases fo with
    | none =>
      rw [if_neg (show ¬ nI (sh K F i L) ≤ eS (fun j => sh K F j L) none from fun q => by
        rw [Int32.le_iff_toInt_le, nI_toInt (by omega)] at q
        have : (eS (fun j => sh K F j L) none).toInt = -1 := by show (-1 : Int32).toInt = -1; decide
        omega)]
      exact ih (i + 1) n (some i) (by omega) (by omega) (fun b e => by cases e; omega)
    | some b =>
      have hb' := hb b rfl
      have l2 : sh K F b L ≤ 80 := sh_le hs (by omega) hL
      by_cases q : sh K F i L ≤ sh K F b L
      · rw [if_pos (show nI (sh K F i L) ≤ eS (fun j => sh K F j L) (some b) from nI_le' (a := sh K F i L) (b := sh K F b L) (by omega) (by omega) q)]
        show _ = some (eR (richF (fun j => sh K F j L) m (i + 1) (if sh K F i L ≤ sh K F b L then some b else some i)), _)
        rw [if_pos q]
        exact ih (i + 1) n (some b) (by omega) (by omega) hb
      · rw [if_neg (show ¬ nI (sh K F i L) ≤ eS (fun j => sh K F j L) (some b) from nI_nle' (a := sh K F i L) (b := sh K F b L) (by omega) (by omega) (by omega))]
        show _ = some (eR (richF (fun j => sh K F j L) m (i + 1) (if sh K F i L ≤ sh K F b L then some b else some i)), _)
        rw [if_neg q]
        exact ih (i + 1) n (some i) (by omega) (by omega) (fun b e => by cases e; omega)
theorem m_rich_loop {K F : Nat → Nat} {nk nf r : Nat → Int32} (hs : HS K F nk nf) {h : Nat} (hh : h ≤ 5) {L : Int32} (hL : Cr L) : ∀ (m i n : Nat) (fo : Option Nat), i + m = h → m < n → (∀ b, fo = some b → b < h) → f_X6_shares_34 L (nI h) nk nf r n (eR fo) (nI i) = some (eR (richF (fun j => sh K F j L) m i fo), r) := by
  intro m
  induction m with
  | zero =>
    intro i n fo hi hn hb
    obtain ⟨n, rfl⟩ : ∃ k, n = k + 1 := ⟨n - 1, by omega⟩
    obtain rfl : i = h := by omega
    rw [f_X6_shares_34_s, if_pos (Int32.le_refl _)]
    rfl
  | succ m ih =>
    intro i n fo hi hn hb
    obtain ⟨n, rfl⟩ : ∃ k, n = k + 1 := ⟨n - 1, by omega⟩
    have l1 : sh K F i L ≤ 80 := sh_le hs (by omega) hL
    rw [f_X6_shares_34_s, if_neg (nI_nle' (by omega) (by omega) (by omega)), nI_1]
    unfold richF
    cases fo with
    | none =>
      rw [if_pos (show eR none < 0 by decide), bn_some]
      exact ih (i + 1) n (some i) (by omega) (by omega) (fun b e => by cases e; omega)
    | some b =>
      have hb' := hb b rfl
      have l2 : sh K F b L ≤ 80 := sh_le hs (by omega) hL
      rw [if_neg (show ¬ eR (some b) < 0 from not_lt0 (by omega)), m_shareOf hs (by omega) hL, bn_some, show eR (some b) = nI b from rfl, m_shareOf hs (by omega) hL, bn_some]
      by_cases q : sh K F i L ≤ sh K F b L
      · rw [if_pos (nI_le' (by omega) (by omega) q), bn_some]
        show _ = some (eR (richF (fun j => sh K F j L) m (i + 1) (if sh K F i L ≤ sh K F b L then some b else some i)), _)
        rw [if_pos q]
        exact ih (i + 1) n (some b) (by omega) (by omega) hb
      · rw [if_neg (nI_nle' (by omega) (by omega) (by omega)), bn_some]
        show _ = some (eR (richF (fun j => sh K F j L) m (i + 1) (if sh K F i L ≤ sh K F b L then some b else some i)), _)
        rw [if_neg q]
        exact ih (i + 1) n (some i) (by omega) (by omega) (fun b e => by cases e; omega)
theorem eq_shares {tolds : Int32} {hasImage : Int32} {n_heirs : Int32} {n_left : Int32} {n_bitten : Int32} {n_kinds : (Nat → Int32)} {n_figures : (Nat → Int32)} {k_heirs : Int32} {k_left : Int32} {k_bitten : Int32} {k_kinds : (Nat → Int32)} {k_figures : (Nat → Int32)} {t_heirs : Int32} {t_left : Int32} {t_bitten : Int32} {t_kinds : (Nat → Int32)} {t_figures : (Nat → Int32)} {r_gone : Int32} {r_heaps : Int32} {r_fewestCells : Int32} {r_deed : Int32} {c_ways : (Nat → Int32)} {c_fewest : (Nat → Int32)} {c_nextWays : (Nat → Int32)} {c_nextFewest : (Nat → Int32)} {x_length : Int32} {x_letters : (Nat → Int32)} {told : (Nat → Int32)} {refusals : (Nat → Int32)} {ends : (Nat → Int32)} {m_left : Int32} {m_bites : Int32} {m_many : Int32} {m_imageLeft : Int32} {m_imageBites : Int32} {m_imageMany : Int32} {m_wasLeft : Int32} {m_wasBites : Int32} {m_wasMany : Int32} {m_hasImage : Int32} {m_letterMany : Int32} {m_rowMany : Int32} {m_place : Int32} {m_seed : Int32} {m_kind : (Nat → Int32)} {m_figure : (Nat → Int32)} {m_imageKind : (Nat → Int32)} {m_imageFigure : (Nat → Int32)} {m_wasKind : (Nat → Int32)} {m_wasFigure : (Nat → Int32)} {m_letters : (Nat → Int32)} {m_row : (Nat → Int32)} {m_refused : (Nat → Int32)} {m_numbers : (Nat → Int32)} {m_counted : (Nat → Int32)} {m_few : (Nat → Int32)} (hR : RR tolds hasImage n_heirs n_left n_bitten n_kinds n_figures k_heirs k_left k_bitten k_kinds k_figures x_length x_letters told refusals m_left m_bites m_many m_imageLeft m_imageBites m_imageMany m_hasImage m_letterMany m_rowMany m_kind m_figure m_imageKind m_imageFigure m_letters m_row m_refused) (a1 : Int32) : ∃ (o1 : Int32 × Int32 × Int32 × Int32 × Int32 × (Nat → Int32)) (o2 : Int32 × (Nat → Int32)), f_X5_shares n_heirs n_left n_kinds n_figures r_gone r_heaps r_fewestCells r_deed refusals a1 = some o1 ∧ f_X6_shares m_left m_many m_kind m_figure m_refused a1 = some o2 ∧ o1.1 = o2.1 ∧ RR tolds hasImage n_heirs n_left n_bitten n_kinds n_figures k_heirs k_left k_bitten k_kinds k_figures x_length x_letters told o1.2.2.2.2.2 m_left m_bites m_many m_imageLeft m_imageBites m_imageMany m_hasImage m_letterMany m_rowMany m_kind m_figure m_imageKind m_imageFigure m_letters m_row o2.2 := by
  have hR0 := hR
  obtain ⟨⟨h, b, K, F, rfl, hL, rfl, rfl, hh, rfl, rfl, hb, hs, hs'⟩, hT, hW, hF, hI⟩ := hR
  unfold f_X5_shares f_X6_shares
  rcases two_cases a1 with ⟨e1, e2⟩ | ⟨hv, e1, e2⟩
  · rw [e1, e2, bn_some, bn_some, if_pos rfl, if_pos rfl, x_no2, m_no2, bn_some, bn_some]
    exact ⟨_, _, rfl, rfl, rfl, RR_bump hR0 (by decide)⟩
  · rw [e1, e2, bn_some, bn_some, if_neg (show ¬ (1 : Int32) = 0 by decide), if_neg (show ¬ (1 : Int32) = 0 by decide)]
    rcases hv with rfl | rfl
    · rw [if_pos rfl, if_pos rfl, x_sums hs hh hL, m_sums hs' hh hL, bn_some, bn_some]
      exact ⟨_, _, rfl, rfl, rfl, hR0⟩
    · rw [if_neg (show ¬ (1 : Int32) = 0 by decide), if_neg (show ¬ (1 : Int32) = 0 by decide)]
      unfold f_X5_richest
      rw [x_reads hL, bn_some]
      have x := x_rich_loop hs hh hL h 0 1000 none (by omega) (by omega) (fun b e => by cases e)
      have y := m_rich_loop (r := m_refused) hs' hh hL h 0 1000 none (by omega) (by omega) (fun b e => by cases e)
      have z : (0 : Int32) = nI 0 := rfl
      have ex : eR none = (-9 : Int32) := rfl
      have es : eS (fun j => sh K F j n_left) none = (-1 : Int32) := rfl
      rw [ex] at x y
      rw [es] at x
      rw [← z] at x y
      rw [x, y, bn_some]
      exact ⟨_, _, rfl, rfl, rfl, hR0⟩
theorem eq_heir {tolds : Int32} {hasImage : Int32} {n_heirs : Int32} {n_left : Int32} {n_bitten : Int32} {n_kinds : (Nat → Int32)} {n_figures : (Nat → Int32)} {k_heirs : Int32} {k_left : Int32} {k_bitten : Int32} {k_kinds : (Nat → Int32)} {k_figures : (Nat → Int32)} {t_heirs : Int32} {t_left : Int32} {t_bitten : Int32} {t_kinds : (Nat → Int32)} {t_figures : (Nat → Int32)} {r_gone : Int32} {r_heaps : Int32} {r_fewestCells : Int32} {r_deed : Int32} {c_ways : (Nat → Int32)} {c_fewest : (Nat → Int32)} {c_nextWays : (Nat → Int32)} {c_nextFewest : (Nat → Int32)} {x_length : Int32} {x_letters : (Nat → Int32)} {told : (Nat → Int32)} {refusals : (Nat → Int32)} {ends : (Nat → Int32)} {m_left : Int32} {m_bites : Int32} {m_many : Int32} {m_imageLeft : Int32} {m_imageBites : Int32} {m_imageMany : Int32} {m_wasLeft : Int32} {m_wasBites : Int32} {m_wasMany : Int32} {m_hasImage : Int32} {m_letterMany : Int32} {m_rowMany : Int32} {m_place : Int32} {m_seed : Int32} {m_kind : (Nat → Int32)} {m_figure : (Nat → Int32)} {m_imageKind : (Nat → Int32)} {m_imageFigure : (Nat → Int32)} {m_wasKind : (Nat → Int32)} {m_wasFigure : (Nat → Int32)} {m_letters : (Nat → Int32)} {m_row : (Nat → Int32)} {m_refused : (Nat → Int32)} {m_numbers : (Nat → Int32)} {m_counted : (Nat → Int32)} {m_few : (Nat → Int32)} (hR : RR tolds hasImage n_heirs n_left n_bitten n_kinds n_figures k_heirs k_left k_bitten k_kinds k_figures x_length x_letters told refusals m_left m_bites m_many m_imageLeft m_imageBites m_imageMany m_hasImage m_letterMany m_rowMany m_kind m_figure m_imageKind m_imageFigure m_letters m_row m_refused) (a1 : Int32) (a2 : Int32) : ∃ (o1 : Int32 × Int32 × Int32 × Int32 × Int32 × (Nat → Int32)) (o2 : Int32 × (Nat → Int32)), f_X5_heir n_heirs n_left n_kinds n_figures r_gone r_heaps r_fewestCells r_deed refusals a1 a2 = some o1 ∧ f_X6_heir m_left m_many m_kind m_figure m_refused a1 a2 = some o2 ∧ o1.1 = o2.1 ∧ RR tolds hasImage n_heirs n_left n_bitten n_kinds n_figures k_heirs k_left k_bitten k_kinds k_figures x_length x_letters told o1.2.2.2.2.2 m_left m_bites m_many m_imageLeft m_imageBites m_imageMany m_hasImage m_letterMany m_rowMany m_kind m_figure m_imageKind m_imageFigure m_letters m_row o2.2 := by
  have hR0 := hR
  obtain ⟨⟨h, b, K, F, rfl, hL, rfl, rfl, hh, rfl, rfl, hb, hs, hs'⟩, hT, hW, hF, hI⟩ := hR
  unfold f_X5_heir f_X6_heir
  rcases heir_cases hh a1 with ⟨e1, e2⟩ | ⟨j, hj, rfl, e1, e2⟩
  · rw [e1, e2, bn_some, bn_some, if_pos rfl, if_pos rfl, x_no1, m_no1, bn_some, bn_some]
    exact ⟨_, _, rfl, rfl, rfl, RR_bump hR0 (by decide)⟩
  · rw [e1, e2, bn_some, bn_some, if_neg (show ¬ (1 : Int32) = 0 by decide), if_neg (show ¬ (1 : Int32) = 0 by decide)]
    have k1 := hs j (by omega)
    have k2 := hs' j (by omega)
    rcases rng a2 (n := 2) (by decide) with q | q | ⟨i, hi, rfl⟩
    · have f := lt_facts q
      rw [if_pos q, if_neg (show ¬ a2 = 0 from f.1 0 (by decide)), if_neg (show ¬ a2 = 1 from f.1 1 (by decide)), if_neg (show ¬ a2 = 2 from f.1 2 (by decide)), x_no2, m_no2, bn_some, bn_some]
      exact ⟨_, _, rfl, rfl, rfl, RR_bump hR0 (by decide)⟩
    · have f := gt_ge (by decide) q
      rw [if_neg f.2.1, if_neg (show ¬ a2 ≤ 2 from f.2.2.2.1 2 (by decide)), if_neg (show ¬ a2 = 0 from f.2.2.1 0 (by decide)), if_neg (show ¬ a2 = 1 from f.2.2.1 1 (by decide)), if_neg (show ¬ a2 = 2 from f.2.2.1 2 (by decide)), x_no2, m_no2, bn_some, bn_some]
      exact ⟨_, _, rfl, rfl, rfl, RR_bump hR0 (by decide)⟩
    · rw [if_neg (not_lt0 (by omega)), if_pos (show nI i ≤ (2 : Int32) from nI_le' (b := 2) (by omega) (by decide) hi)]
      have hj3 : i = 0 ∨ i = 1 ∨ i = 2 := by omega
      rcases hj3 with rfl | rfl | rfl
      · rw [if_pos (show nI 0 = (0 : Int32) from rfl), if_pos (show nI 0 = (0 : Int32) from rfl), inb_nI (by omega) (by decide), ck_true, ck_true, nI_clamp (by omega), k1.1, k2.1]
        exact ⟨_, _, rfl, rfl, rfl, hR0⟩
      · rw [if_neg (show ¬ nI 1 = (0 : Int32) by decide), if_neg (show ¬ nI 1 = (0 : Int32) by decide), if_pos (show nI 1 = (1 : Int32) from rfl), if_pos (show nI 1 = (1 : Int32) from rfl), inb_nI (by omega) (by decide), ck_true, ck_true, nI_clamp (by omega), k1.2.1, k2.2.1]
        exact ⟨_, _, rfl, rfl, rfl, hR0⟩
      · rw [if_neg (show ¬ nI 2 = (0 : Int32) by decide), if_neg (show ¬ nI 2 = (0 : Int32) by decide), if_neg (show ¬ nI 2 = (1 : Int32) by decide), if_neg (show ¬ nI 2 = (1 : Int32) by decide), if_pos (show nI 2 = (2 : Int32) from rfl), x_shareOf hs (by omega) hL, m_shareOf hs' (by omega) hL, bn_some, bn_some]
        exact ⟨_, _, rfl, rfl, rfl, hR0⟩
theorem HS_upd {K F : Nat → Nat} {nk nf : Nat → Int32} (hs : HS K F nk nf) {j k f : Nat} (hk : k < 6) (hf : f < 10) : HS (fun i => if i = j then k else K i) (fun i => if i = j then f else F i) (upd nk j (nI k)) (upd nf j (nI f)) := fun i hi => by
  have := hs i hi
  unfold upd
  by_cases q : i = j
  · simp only [if_pos q]
    exact ⟨trivial, trivial, hk, hf⟩
  · simp only [if_neg q]
    exact this
theorem eq_turn {tolds : Int32} {hasImage : Int32} {n_heirs : Int32} {n_left : Int32} {n_bitten : Int32} {n_kinds : (Nat → Int32)} {n_figures : (Nat → Int32)} {k_heirs : Int32} {k_left : Int32} {k_bitten : Int32} {k_kinds : (Nat → Int32)} {k_figures : (Nat → Int32)} {t_heirs : Int32} {t_left : Int32} {t_bitten : Int32} {t_kinds : (Nat → Int32)} {t_figures : (Nat → Int32)} {r_gone : Int32} {r_heaps : Int32} {r_fewestCells : Int32} {r_deed : Int32} {c_ways : (Nat → Int32)} {c_fewest : (Nat → Int32)} {c_nextWays : (Nat → Int32)} {c_nextFewest : (Nat → Int32)} {x_length : Int32} {x_letters : (Nat → Int32)} {told : (Nat → Int32)} {refusals : (Nat → Int32)} {ends : (Nat → Int32)} {m_left : Int32} {m_bites : Int32} {m_many : Int32} {m_imageLeft : Int32} {m_imageBites : Int32} {m_imageMany : Int32} {m_wasLeft : Int32} {m_wasBites : Int32} {m_wasMany : Int32} {m_hasImage : Int32} {m_letterMany : Int32} {m_rowMany : Int32} {m_place : Int32} {m_seed : Int32} {m_kind : (Nat → Int32)} {m_figure : (Nat → Int32)} {m_imageKind : (Nat → Int32)} {m_imageFigure : (Nat → Int32)} {m_wasKind : (Nat → Int32)} {m_wasFigure : (Nat → Int32)} {m_letters : (Nat → Int32)} {m_row : (Nat → Int32)} {m_refused : (Nat → Int32)} {m_numbers : (Nat → Int32)} {m_counted : (Nat → Int32)} {m_few : (Nat → Int32)} (hR : RR tolds hasImage n_heirs n_left n_bitten n_kinds n_figures k_heirs k_left k_bitten k_kinds k_figures x_length x_letters told refusals m_left m_bites m_many m_imageLeft m_imageBites m_imageMany m_hasImage m_letterMany m_rowMany m_kind m_figure m_imageKind m_imageFigure m_letters m_row m_refused) (a1 : Int32) (a2 : Int32) (a3 : Int32) : ∃ (o1 : Int32 × (Nat → Int32) × (Nat → Int32) × (Nat → Int32)) (o2 : Int32 × (Nat → Int32) × (Nat → Int32) × (Nat → Int32)), f_X5_turn n_heirs n_kinds n_figures refusals a1 a2 a3 = some o1 ∧ f_X6_turn m_many m_kind m_figure m_refused a1 a2 a3 = some o2 ∧ o1.1 = o2.1 ∧ RR tolds hasImage n_heirs n_left n_bitten o1.2.1 o1.2.2.1 k_heirs k_left k_bitten k_kinds k_figures x_length x_letters told o1.2.2.2 m_left m_bites m_many m_imageLeft m_imageBites m_imageMany m_hasImage m_letterMany m_rowMany o2.2.1 o2.2.2.1 m_imageKind m_imageFigure m_letters m_row o2.2.2.2 := by
  have hR0 := hR
  obtain ⟨⟨h, b, K, F, rfl, hL, rfl, rfl, hh, rfl, rfl, hb, hs, hs'⟩, hT, hW, hF, hI⟩ := hR
  unfold f_X5_turn f_X6_turn
  rcases heir_cases hh a1 with ⟨e1, e2⟩ | ⟨j, hj, rfl, e1, e2⟩
  · rw [e1, e2, bn_some, bn_some, if_pos rfl, if_pos rfl, bn_some, if_neg (show ¬ (-1 : Int32) = 0 by decide), x_no1, m_no1, bn_some, bn_some]
    exact ⟨_, _, rfl, rfl, rfl, RR_bump hR0 (by decide)⟩
  · rw [e1, e2, bn_some, bn_some, if_neg (show ¬ (1 : Int32) = 0 by decide), if_neg (show ¬ (1 : Int32) = 0 by decide)]
    have k1 := hs j (by omega)
    have k2 := hs' j (by omega)
    rcases rng a2 (n := 5) (by decide) with q | q | ⟨i, hi, rfl⟩
    · rw [if_pos q, isIn_no1 q, bn_some, if_pos rfl, bn_some, if_neg (show ¬ (-2 : Int32) = 0 by decide), x_no2, m_no2, bn_some, bn_some]
      exact ⟨_, _, rfl, rfl, rfl, RR_bump hR0 (by decide)⟩
    · have f := gt_ge (by decide) q
      rw [if_neg f.2.1, if_neg (show ¬ a2 < (6 : Int32) from fun z => by
        rw [Int32.lt_iff_toInt_lt] at q z
        have z1 : (6 : Int32).toInt = 6 := by decide
        have z2 : (nI 5).toInt = 5 := by decide
        omega), show (5 : Int32) = nI 5 from rfl, isIn_no2 q, bn_some, if_pos rfl, bn_some, if_neg (show ¬ (-2 : Int32) = 0 by decide), x_no2, m_no2, bn_some, bn_some]
      exact ⟨_, _, rfl, rfl, rfl, RR_bump hR0 (by decide)⟩
    · rw [if_neg (not_lt0 (by omega)), if_pos (show nI i < (6 : Int32) from nI_lt2 (b := 6) (by omega) (by decide) (by omega)), show (5 : Int32) = nI 5 from rfl, isIn_yes hi (by decide), bn_some, if_neg (show ¬ (1 : Int32) = 0 by decide), show (9 : Int32) = nI 9 from rfl]
      rcases m_wrong (a := a3) (n := 9) (by decide) with ⟨g, e⟩ | ⟨g, e⟩ | ⟨l, hl, rfl, e⟩
      · rw [if_neg (not_ge g), e, bn_some, bn_some, if_neg (show ¬ (-4 : Int32) = 0 by decide), x_no4, m_no4, bn_some, bn_some]
        exact ⟨_, _, rfl, rfl, rfl, RR_bump hR0 (by decide)⟩
      · rw [if_pos (gt_ge (by decide) g).1, if_neg (show ¬ a3 < (10 : Int32) from fun z => by
          rw [Int32.lt_iff_toInt_lt] at g z
          have z1 : (10 : Int32).toInt = 10 := by decide
          have z2 : (nI 9).toInt = 9 := by decide
          omega), e, bn_some, bn_some, if_neg (show ¬ (-6 : Int32) = 0 by decide), x_no6, m_no6, bn_some, bn_some]
        exact ⟨_, _, rfl, rfl, rfl, RR_bump hR0 (by decide)⟩
      · rw [if_pos (nI_ge0 (by omega)), if_pos (show nI l < (10 : Int32) from nI_lt2 (b := 10) (by omega) (by decide) (by omega)), e, bn_some, bn_some, if_pos rfl, inb_nI (by omega) (by decide), ck_true, ck_true, ck_true, ck_true, ck_true, ck_true, ck_true, ck_true, nI_clamp (by omega), k1.1, k1.2.1, k2.1, k2.2.1]
        exact ⟨_, _, rfl, rfl, rfl, ⟨h, b, _, _, rfl, hL, rfl, rfl, hh, rfl, rfl, hb, HS_upd hs (by omega) (by omega), HS_upd hs' (by omega) (by omega)⟩, hT, hW, hF, hI⟩
theorem least_eq (a b : Int32) : f_X6_least a b = some (jmin a b) := by
  unfold f_X6_least jmin
  by_cases h : b < a
  · rw [if_pos h, if_pos (Int32.le_of_lt h)]
  · rw [if_neg h]
    by_cases q : b ≤ a
    · rw [if_pos q, Int32.le_antisymm q (Int32.not_lt.mp h)]
    · rw [if_neg q]
theorem jmin_nI {a b : Nat} (ha : a < 2 ^ 31) (hb : b < 2 ^ 31) : jmin (nI a) (nI b) = nI (min a b) := by
  unfold jmin
  by_cases h : b < a
  · rw [if_pos ((nI_ltI hb ha).mpr h), Nat.min_eq_right (by omega)]
  · rw [if_neg (fun q => h ((nI_ltI hb ha).mp q)), Nat.min_eq_left (by omega)]
theorem eq_bites {tolds : Int32} {hasImage : Int32} {n_heirs : Int32} {n_left : Int32} {n_bitten : Int32} {n_kinds : (Nat → Int32)} {n_figures : (Nat → Int32)} {k_heirs : Int32} {k_left : Int32} {k_bitten : Int32} {k_kinds : (Nat → Int32)} {k_figures : (Nat → Int32)} {t_heirs : Int32} {t_left : Int32} {t_bitten : Int32} {t_kinds : (Nat → Int32)} {t_figures : (Nat → Int32)} {r_gone : Int32} {r_heaps : Int32} {r_fewestCells : Int32} {r_deed : Int32} {c_ways : (Nat → Int32)} {c_fewest : (Nat → Int32)} {c_nextWays : (Nat → Int32)} {c_nextFewest : (Nat → Int32)} {x_length : Int32} {x_letters : (Nat → Int32)} {told : (Nat → Int32)} {refusals : (Nat → Int32)} {ends : (Nat → Int32)} {m_left : Int32} {m_bites : Int32} {m_many : Int32} {m_imageLeft : Int32} {m_imageBites : Int32} {m_imageMany : Int32} {m_wasLeft : Int32} {m_wasBites : Int32} {m_wasMany : Int32} {m_hasImage : Int32} {m_letterMany : Int32} {m_rowMany : Int32} {m_place : Int32} {m_seed : Int32} {m_kind : (Nat → Int32)} {m_figure : (Nat → Int32)} {m_imageKind : (Nat → Int32)} {m_imageFigure : (Nat → Int32)} {m_wasKind : (Nat → Int32)} {m_wasFigure : (Nat → Int32)} {m_letters : (Nat → Int32)} {m_row : (Nat → Int32)} {m_refused : (Nat → Int32)} {m_numbers : (Nat → Int32)} {m_counted : (Nat → Int32)} {m_few : (Nat → Int32)} (hR : RR tolds hasImage n_heirs n_left n_bitten n_kinds n_figures k_heirs k_left k_bitten k_kinds k_figures x_length x_letters told refusals m_left m_bites m_many m_imageLeft m_imageBites m_imageMany m_hasImage m_letterMany m_rowMany m_kind m_figure m_imageKind m_imageFigure m_letters m_row m_refused) (a1 : Int32) (a2 : Int32) : ∃ (o1 : Int32 × Int32 × Int32 × (Nat → Int32)) (o2 : Int32 × Int32 × Int32 × (Nat → Int32)), f_X5_bites n_left n_bitten refusals a1 a2 = some o1 ∧ f_X6_bites m_left m_bites m_refused a1 a2 = some o2 ∧ o1.1 = o2.1 ∧ RR tolds hasImage n_heirs o1.2.1 o1.2.2.1 n_kinds n_figures k_heirs k_left k_bitten k_kinds k_figures x_length x_letters told o1.2.2.2 o2.2.1 o2.2.2.1 m_many m_imageLeft m_imageBites m_imageMany m_hasImage m_letterMany m_rowMany m_kind m_figure m_imageKind m_imageFigure m_letters m_row o2.2.2.2 := by
  have hR0 := hR
  obtain ⟨⟨h, b, K, F, rfl, hL, rfl, rfl, hh, rfl, rfl, hb, hs, hs'⟩, hT, hW, hF, hI⟩ := hR
  unfold f_X5_bites f_X6_bites
  rw [show (3 : Int32) = nI 3 from rfl]
  rcases rng a1 (n := 3) (by decide) with q | q | ⟨s, hs4, rfl⟩
  · rw [if_pos q, isIn_no1 q, bn_some, if_pos rfl, x_no2, m_no2, bn_some, bn_some]
    exact ⟨_, _, rfl, rfl, rfl, RR_bump hR0 (by decide)⟩
  · have f := gt_ge (by decide) q
    rw [if_neg f.2.1, if_neg (show ¬ a1 < (4 : Int32) from fun z => by
        rw [Int32.lt_iff_toInt_lt] at q z
        have z1 : (4 : Int32).toInt = 4 := by decide
        have z2 : (nI 3).toInt = 3 := by decide
        omega), isIn_no2 q, bn_some, if_pos rfl, x_no2, m_no2, bn_some, bn_some]
    exact ⟨_, _, rfl, rfl, rfl, RR_bump hR0 (by decide)⟩
  · rw [if_neg (not_lt0 (by omega)), if_pos (show nI s < (4 : Int32) from nI_lt2 (b := 4) (by omega) (by decide) (by omega)), isIn_yes hs4 (by decide), bn_some, if_neg (show ¬ (1 : Int32) = 0 by decide)]
    rcases cell_cases a2 with ⟨e1, e2⟩ | ⟨c, hc, rfl, e1, e2⟩
    · rw [e1, e2, bn_some, bn_some, if_pos rfl, if_pos rfl, x_no1, m_no1, bn_some, bn_some]
      exact ⟨_, _, rfl, rfl, rfl, RR_bump hR0 (by decide)⟩
    · rw [e1, e2, bn_some, bn_some, if_neg (show ¬ (1 : Int32) = 0 by decide), if_neg (show ¬ (1 : Int32) = 0 by decide)]
      have hB : 25 * s + c < 100 := by omega
      have cx := ce_x (25 * s + c) hB
      have cm := m_canBite hB n_left
      rw [show (25 * s + c) / 25 = s by omega, show (25 * s + c) % 25 = c by omega] at cx cm
      unfold f_X0_takesBite
      rw [cx.1, bn_some, cm, bn_some]
      cases hc : canB (25 * s + c) n_left with
      | true =>
        have g := canB_ne hc
        rw [if_neg g.1, if_pos g.2, bn_some, if_neg (show ¬ (1 : Int32) = 0 by decide), if_neg (by decide), cx.2, bn_some, x_bits (cr_and _ hL), bn_some]
        unfold f_X6_bitesOff
        rw [least_eq, bn_some, bn_some, m_bits (cr_and _ hL), bn_some]
        refine ⟨_, _, rfl, rfl, rfl, ⟨h, min 999 (b + 1), K, F, rfl, cr_and _ hL, rfl, rfl, hh, ?_, ?_, by omega, hs, hs'⟩, hT, hW, hF, hI⟩
        · show jmin (999 : Int32) (nI b + 1) = _
          rw [nI_1]
          exact jmin_nI (a := 999) (by decide) (by omega)
        · show jmin (999 : Int32) (nI b + 1) = _
          rw [nI_1]
          exact jmin_nI (a := 999) (by decide) (by omega)
      | false =>
        have g : ce (25 * s + c) = 0 ∨ ¬ n_left &&& ce (25 * s + c) = ce (25 * s + c) := by
          by_cases z : ce (25 * s + c) = 0
          · exact Or.inl z
          · refine Or.inr (fun y => ?_)
            have : canB (25 * s + c) n_left = true := by
              unfold canB
              rw [decide_eq_true z, decide_eq_true ((sub_iff _ _).mpr y)]
              rfl
            rw [this] at hc
            cases hc
        have w : (if ce (25 * s + c) = 0 then some ((0 : Int32), n_left, nI b) else if n_left &&& ce (25 * s + c) = ce (25 * s + c) then some ((1 : Int32), n_left &&& (ce (25 * s + c) ^^^ (-1 : Int32)), jmin (999 : Int32) (nI b + (1 : Int32))) else some ((0 : Int32), n_left, nI b)) = some ((0 : Int32), n_left, nI b) := by
          by_cases z : ce (25 * s + c) = 0
          · rw [if_pos z]
          · rw [if_neg z, if_neg (g.resolve_left z)]
        rw [w, bn_some, if_pos rfl, if_pos (by rfl), show -nI 3 = (-3 : Int32) from rfl, x_no3, m_no3, bn_some, bn_some]
        exact ⟨_, _, rfl, rfl, rfl, RR_bump hR0 (by decide)⟩
