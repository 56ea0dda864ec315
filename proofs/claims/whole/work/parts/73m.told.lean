/-! best, worst, join, gain, grudge -/
theorem x_name {b : Nat} (hb : b < 100) : f_X5_bitesName (nI b) = some (nI (100 * (b / 25) + b % 25)) := by
  unfold f_X5_bitesName
  rw [show (100 : Int32) = nI 100 from rfl, show (25 : Int32) = nI 25 from rfl, div_nI (by omega) (by decide) (by decide), jrem_nI (by omega) (by decide) (by decide), pk_mul, nI_add]
def toldV (K F : Nat → Nat) (j : Nat) (L : Int32) (fo : Option Nat) (z : Bool) : Int32 := match fo with | none => -9 | some b => if z then nI (100 * (b / 25) + b % 25) else nI (sh K F j (bh b L))
theorem x_told {K F : Nat → Nat} {nk nf : Nat → Int32} (hs : HS K F nk nf) {j : Nat} (hj : j < 5) {L : Int32} (hL : Cr L) (fo : Option Nat) (hf : ∀ b, fo = some b → b < 100 ∧ canB b L = true) (z : Bool) (g1 g2 g3 g4 : Int32) : ∃ u1 u2 u3 u4, f_X5_toldBite L nk nf g1 g2 g3 g4 (nI j) (eX fo) (nI (if z then 0 else 1)) = some (toldV K F j L fo z, u1, u2, u3, u4) := by
  unfold f_X5_toldBite
  cases fo with
  | none => rw [if_pos (show eX none = (-1 : Int32) from rfl)]; exact ⟨_, _, _, _, rfl⟩
  | some b =>
    have hb := (hf b rfl).1
    rw [if_neg (show ¬ eX (some b) = (-1 : Int32) from fun q => by
      have := (eX_none (fo := some b) (fun b' e => by cases e; exact hb)).mp q
      cases this)]
    cases z with
    | true =>
      rw [if_pos (by rfl), show eX (some b) = nI b from rfl, x_name hb, bn_some]
      exact ⟨_, _, _, _, rfl⟩
    | false =>
      rw [if_neg (by decide), show eX (some b) = nI b from rfl, x_behind hb, bn_some, x_shareOf hs hj (cr_bh hL), bn_some]
      exact ⟨_, _, _, _, rfl⟩
theorem m_told {K F : Nat → Nat} {nk nf : Nat → Int32} (hs : HS K F nk nf) {j : Nat} (hj : j < 5) {L : Int32} (hL : Cr L) (fo : Option Nat) (hf : ∀ b, fo = some b → b < 100 ∧ canB b L = true) (z : Bool) (r : Nat → Int32) : (if eM fo < 0 then some (eM fo, r) else if nI (if z then 0 else 1) = 0 then some (eM fo, r) else bn (f_X6_after L (eM fo)) (fun r7 => bn (f_X6_shareOf nk nf r7 (nI j)) (fun r9 => some (r9, r)))) = some (toldV K F j L fo z, r) := by
  cases fo with
  | none => rw [if_pos (show eM none < 0 by decide)]; rfl
  | some b =>
    have hb := (hf b rfl).1
    rw [if_neg (show ¬ eM (some b) < 0 from fun q => by
      have := (eM_neg (fo := some b) (fun b' e => by cases e; exact hb)).mp q
      cases this)]
    cases z with
    | true => rw [if_pos (by rfl)]; rfl
    | false =>
      rw [if_neg (by decide), m_after hf, bn_some, m_shareOf hs hj (cr_aft hL), bn_some]
      rfl
theorem two_z {a : Int32} (hv : a = 0 ∨ a = 1) : ∃ z : Bool, a = nI (if z then 0 else 1) := by
  rcases hv with rfl | rfl
  · exact ⟨true, rfl⟩
  · exact ⟨false, rfl⟩
theorem eq_best {tolds : Int32} {hasImage : Int32} {n_heirs : Int32} {n_left : Int32} {n_bitten : Int32} {n_kinds : (Nat → Int32)} {n_figures : (Nat → Int32)} {k_heirs : Int32} {k_left : Int32} {k_bitten : Int32} {k_kinds : (Nat → Int32)} {k_figures : (Nat → Int32)} {t_heirs : Int32} {t_left : Int32} {t_bitten : Int32} {t_kinds : (Nat → Int32)} {t_figures : (Nat → Int32)} {r_gone : Int32} {r_heaps : Int32} {r_fewestCells : Int32} {r_deed : Int32} {c_ways : (Nat → Int32)} {c_fewest : (Nat → Int32)} {c_nextWays : (Nat → Int32)} {c_nextFewest : (Nat → Int32)} {x_length : Int32} {x_letters : (Nat → Int32)} {told : (Nat → Int32)} {refusals : (Nat → Int32)} {ends : (Nat → Int32)} {m_left : Int32} {m_bites : Int32} {m_many : Int32} {m_imageLeft : Int32} {m_imageBites : Int32} {m_imageMany : Int32} {m_wasLeft : Int32} {m_wasBites : Int32} {m_wasMany : Int32} {m_hasImage : Int32} {m_letterMany : Int32} {m_rowMany : Int32} {m_place : Int32} {m_seed : Int32} {m_kind : (Nat → Int32)} {m_figure : (Nat → Int32)} {m_imageKind : (Nat → Int32)} {m_imageFigure : (Nat → Int32)} {m_wasKind : (Nat → Int32)} {m_wasFigure : (Nat → Int32)} {m_letters : (Nat → Int32)} {m_row : (Nat → Int32)} {m_refused : (Nat → Int32)} {m_numbers : (Nat → Int32)} {m_counted : (Nat → Int32)} {m_few : (Nat → Int32)} (hR : RR tolds hasImage n_heirs n_left n_bitten n_kinds n_figures k_heirs k_left k_bitten k_kinds k_figures x_length x_letters told refusals m_left m_bites m_many m_imageLeft m_imageBites m_imageMany m_hasImage m_letterMany m_rowMany m_kind m_figure m_imageKind m_imageFigure m_letters m_row m_refused) (a1 : Int32) (a2 : Int32) : ∃ (o1 : Int32 × Int32 × Int32 × Int32 × Int32 × (Nat → Int32)) (o2 : Int32 × (Nat → Int32)), f_X5_best n_heirs n_left n_kinds n_figures r_gone r_heaps r_fewestCells r_deed refusals a1 a2 = some o1 ∧ f_X6_best m_left m_many m_kind m_figure m_refused a1 a2 = some o2 ∧ o1.1 = o2.1 ∧ RR tolds hasImage n_heirs n_left n_bitten n_kinds n_figures k_heirs k_left k_bitten k_kinds k_figures x_length x_letters told o1.2.2.2.2.2 m_left m_bites m_many m_imageLeft m_imageBites m_imageMany m_hasImage m_letterMany m_rowMany m_kind m_figure m_imageKind m_imageFigure m_letters m_row o2.2 := by
  have hR0 := hR
  obtain ⟨⟨h, b, K, F, rfl, hL, rfl, rfl, hh, rfl, rfl, hb, hs, hs'⟩, hT, hW, hF, hI⟩ := hR
  unfold f_X5_best f_X6_best f_X6_biteTold
  rcases heir_cases hh a1 with ⟨e1, e2⟩ | ⟨j, hj, rfl, e1, e2⟩
  · rw [e1, e2, bn_some, bn_some, if_pos rfl, if_pos rfl, x_no1, m_no1, bn_some, bn_some, bn_some]
    exact ⟨_, _, rfl, rfl, rfl, RR_bump hR0 (by decide)⟩
  · rw [e1, e2, bn_some, bn_some, if_neg (show ¬ (1 : Int32) = 0 by decide), if_neg (show ¬ (1 : Int32) = 0 by decide)]
    rcases two_cases a2 with ⟨e1, e2⟩ | ⟨hv, e1, e2⟩
    · rw [e1, e2, bn_some, bn_some, if_pos rfl, if_pos rfl, x_no2, m_no2, bn_some, bn_some, bn_some]
      exact ⟨_, _, rfl, rfl, rfl, RR_bump hR0 (by decide)⟩
    · rw [e1, e2, bn_some, bn_some, if_neg (show ¬ (1 : Int32) = 0 by decide), if_neg (show ¬ (1 : Int32) = 0 by decide)]
      obtain ⟨z, rfl⟩ := two_z hv
      have ok := fun b (e : BF (1 : Int32) (sh K F j) n_left = some b) => BF_ok e
      obtain ⟨u1, u2, u3, u4, e⟩ := x_further hs (show j < 5 by omega) hL (1 : Int32)
      obtain ⟨w1, w2, w3, w4, f⟩ := x_told hs (show j < 5 by omega) hL (BF (1 : Int32) (sh K F j) n_left) ok z u1 u2 u3 u4
      rw [e, bn_some, f, bn_some, m_biteFor hs' (by omega) hL, bn_some, m_told hs' (by omega) hL _ ok z, bn_some]
      exact ⟨_, _, rfl, rfl, rfl, hR0⟩
theorem eq_worst {tolds : Int32} {hasImage : Int32} {n_heirs : Int32} {n_left : Int32} {n_bitten : Int32} {n_kinds : (Nat → Int32)} {n_figures : (Nat → Int32)} {k_heirs : Int32} {k_left : Int32} {k_bitten : Int32} {k_kinds : (Nat → Int32)} {k_figures : (Nat → Int32)} {t_heirs : Int32} {t_left : Int32} {t_bitten : Int32} {t_kinds : (Nat → Int32)} {t_figures : (Nat → Int32)} {r_gone : Int32} {r_heaps : Int32} {r_fewestCells : Int32} {r_deed : Int32} {c_ways : (Nat → Int32)} {c_fewest : (Nat → Int32)} {c_nextWays : (Nat → Int32)} {c_nextFewest : (Nat → Int32)} {x_length : Int32} {x_letters : (Nat → Int32)} {told : (Nat → Int32)} {refusals : (Nat → Int32)} {ends : (Nat → Int32)} {m_left : Int32} {m_bites : Int32} {m_many : Int32} {m_imageLeft : Int32} {m_imageBites : Int32} {m_imageMany : Int32} {m_wasLeft : Int32} {m_wasBites : Int32} {m_wasMany : Int32} {m_hasImage : Int32} {m_letterMany : Int32} {m_rowMany : Int32} {m_place : Int32} {m_seed : Int32} {m_kind : (Nat → Int32)} {m_figure : (Nat → Int32)} {m_imageKind : (Nat → Int32)} {m_imageFigure : (Nat → Int32)} {m_wasKind : (Nat → Int32)} {m_wasFigure : (Nat → Int32)} {m_letters : (Nat → Int32)} {m_row : (Nat → Int32)} {m_refused : (Nat → Int32)} {m_numbers : (Nat → Int32)} {m_counted : (Nat → Int32)} {m_few : (Nat → Int32)} (hR : RR tolds hasImage n_heirs n_left n_bitten n_kinds n_figures k_heirs k_left k_bitten k_kinds k_figures x_length x_letters told refusals m_left m_bites m_many m_imageLeft m_imageBites m_imageMany m_hasImage m_letterMany m_rowMany m_kind m_figure m_imageKind m_imageFigure m_letters m_row m_refused) (a1 : Int32) (a2 : Int32) : ∃ (o1 : Int32 × Int32 × Int32 × Int32 × Int32 × (Nat → Int32)) (o2 : Int32 × (Nat → Int32)), f_X5_worst n_heirs n_left n_kinds n_figures r_gone r_heaps r_fewestCells r_deed refusals a1 a2 = some o1 ∧ f_X6_worst m_left m_many m_kind m_figure m_refused a1 a2 = some o2 ∧ o1.1 = o2.1 ∧ RR tolds hasImage n_heirs n_left n_bitten n_kinds n_figures k_heirs k_left k_bitten k_kinds k_figures x_length x_letters told o1.2.2.2.2.2 m_left m_bites m_many m_imageLeft m_imageBites m_imageMany m_hasImage m_letterMany m_rowMany m_kind m_figure m_imageKind m_imageFigure m_letters m_row o2.2 := by
  have hR0 := hR
  obtain ⟨⟨h, b, K, F, rfl, hL, rfl, rfl, hh, rfl, rfl, hb, hs, hs'⟩, hT, hW, hF, hI⟩ := hR
  unfold f_X5_worst f_X6_worst f_X6_biteTold
  rcases heir_cases hh a1 with ⟨e1, e2⟩ | ⟨j, hj, rfl, e1, e2⟩
  · rw [e1, e2, bn_some, bn_some, if_pos rfl, if_pos rfl, x_no1, m_no1, bn_some, bn_some, bn_some]
    exact ⟨_, _, rfl, rfl, rfl, RR_bump hR0 (by decide)⟩
  · rw [e1, e2, bn_some, bn_some, if_neg (show ¬ (1 : Int32) = 0 by decide), if_neg (show ¬ (1 : Int32) = 0 by decide)]
    rcases two_cases a2 with ⟨e1, e2⟩ | ⟨hv, e1, e2⟩
    · rw [e1, e2, bn_some, bn_some, if_pos rfl, if_pos rfl, x_no2, m_no2, bn_some, bn_some, bn_some]
      exact ⟨_, _, rfl, rfl, rfl, RR_bump hR0 (by decide)⟩
    · rw [e1, e2, bn_some, bn_some, if_neg (show ¬ (1 : Int32) = 0 by decide), if_neg (show ¬ (1 : Int32) = 0 by decide)]
      obtain ⟨z, rfl⟩ := two_z hv
      have ok := fun b (e : BF (-1 : Int32) (sh K F j) n_left = some b) => BF_ok e
      obtain ⟨u1, u2, u3, u4, e⟩ := x_further hs (show j < 5 by omega) hL (-1 : Int32)
      obtain ⟨w1, w2, w3, w4, f⟩ := x_told hs (show j < 5 by omega) hL (BF (-1 : Int32) (sh K F j) n_left) ok z u1 u2 u3 u4
      rw [e, bn_some, f, bn_some, m_biteFor hs' (by omega) hL, bn_some, m_told hs' (by omega) hL _ ok z, bn_some]
      exact ⟨_, _, rfl, rfl, rfl, hR0⟩
theorem eq_join {tolds : Int32} {hasImage : Int32} {n_heirs : Int32} {n_left : Int32} {n_bitten : Int32} {n_kinds : (Nat → Int32)} {n_figures : (Nat → Int32)} {k_heirs : Int32} {k_left : Int32} {k_bitten : Int32} {k_kinds : (Nat → Int32)} {k_figures : (Nat → Int32)} {t_heirs : Int32} {t_left : Int32} {t_bitten : Int32} {t_kinds : (Nat → Int32)} {t_figures : (Nat → Int32)} {r_gone : Int32} {r_heaps : Int32} {r_fewestCells : Int32} {r_deed : Int32} {c_ways : (Nat → Int32)} {c_fewest : (Nat → Int32)} {c_nextWays : (Nat → Int32)} {c_nextFewest : (Nat → Int32)} {x_length : Int32} {x_letters : (Nat → Int32)} {told : (Nat → Int32)} {refusals : (Nat → Int32)} {ends : (Nat → Int32)} {m_left : Int32} {m_bites : Int32} {m_many : Int32} {m_imageLeft : Int32} {m_imageBites : Int32} {m_imageMany : Int32} {m_wasLeft : Int32} {m_wasBites : Int32} {m_wasMany : Int32} {m_hasImage : Int32} {m_letterMany : Int32} {m_rowMany : Int32} {m_place : Int32} {m_seed : Int32} {m_kind : (Nat → Int32)} {m_figure : (Nat → Int32)} {m_imageKind : (Nat → Int32)} {m_imageFigure : (Nat → Int32)} {m_wasKind : (Nat → Int32)} {m_wasFigure : (Nat → Int32)} {m_letters : (Nat → Int32)} {m_row : (Nat → Int32)} {m_refused : (Nat → Int32)} {m_numbers : (Nat → Int32)} {m_counted : (Nat → Int32)} {m_few : (Nat → Int32)} (hR : RR tolds hasImage n_heirs n_left n_bitten n_kinds n_figures k_heirs k_left k_bitten k_kinds k_figures x_length x_letters told refusals m_left m_bites m_many m_imageLeft m_imageBites m_imageMany m_hasImage m_letterMany m_rowMany m_kind m_figure m_imageKind m_imageFigure m_letters m_row m_refused) (a1 : Int32) : ∃ (o1 : Int32 × (Nat → Int32)) (o2 : Int32 × (Nat → Int32)), f_X5_join n_left refusals a1 = some o1 ∧ f_X6_join m_left m_refused a1 = some o2 ∧ o1.1 = o2.1 ∧ RR tolds hasImage n_heirs n_left n_bitten n_kinds n_figures k_heirs k_left k_bitten k_kinds k_figures x_length x_letters told o1.2 m_left m_bites m_many m_imageLeft m_imageBites m_imageMany m_hasImage m_letterMany m_rowMany m_kind m_figure m_imageKind m_imageFigure m_letters m_row o2.2 := by
  have hR0 := hR
  obtain ⟨⟨h, b, K, F, rfl, hL, rfl, rfl, hh, rfl, rfl, hb, hs, hs'⟩, hT, hW, hF, hI⟩ := hR
  unfold f_X5_join f_X6_join
  rcases cell_cases a1 with ⟨e1, e2⟩ | ⟨c, hc, rfl, e1, e2⟩
  · rw [e1, e2, bn_some, bn_some, if_pos rfl, if_pos rfl, x_no1, m_no1, bn_some, bn_some]
    exact ⟨_, _, rfl, rfl, rfl, RR_bump hR0 (by decide)⟩
  · rw [e1, e2, bn_some, bn_some, if_neg (show ¬ (1 : Int32) = 0 by decide), if_neg (show ¬ (1 : Int32) = 0 by decide), x_isLeft hc, m_has hL (by omega), bn_some, bn_some]
    cases bt n_left c
    · rw [if_pos (by rfl), if_pos (by rfl), x_heapsOf (cr_add hL hc), m_heaps (cr_add hL hc), bn_some, bn_some]
      exact ⟨_, _, rfl, rfl, rfl, hR0⟩
    · rw [if_neg (by decide), if_neg (by decide), x_no3, m_no3, bn_some, bn_some]
      exact ⟨_, _, rfl, rfl, rfl, RR_bump hR0 (by decide)⟩
theorem areTwo_cases {h : Nat} (hh : h ≤ 5) (a b : Int32) : (f_X5_areTwo (nI h) a b = some (0 : Int32) ∧ f_X6_areTwo (nI h) a b = some (0 : Int32)) ∨ ∃ i j : Nat, i < h ∧ j < h ∧ i ≠ j ∧ a = nI i ∧ b = nI j ∧ f_X5_areTwo (nI h) a b = some (1 : Int32) ∧ f_X6_areTwo (nI h) a b = some (1 : Int32) := by
  unfold f_X5_areTwo f_X6_areTwo
  rcases heir_cases hh a with ⟨e1, e2⟩ | ⟨i, hi, rfl, e1, e2⟩
  · rw [e1, e2, bn_some, bn_some, if_pos rfl]
    exact Or.inl ⟨rfl, rfl⟩
  · rw [e1, e2, bn_some, bn_some, if_neg (show ¬ (1 : Int32) = 0 by decide), if_neg (show ¬ (1 : Int32) = 0 by decide)]
    rcases heir_cases hh b with ⟨e1, e2⟩ | ⟨j, hj, rfl, e1, e2⟩
    · rw [e1, e2, bn_some, if_pos rfl]
      exact Or.inl ⟨rfl, rfl⟩
    · rw [e1, e2, bn_some, if_neg (show ¬ (1 : Int32) = 0 by decide)]
      by_cases q : i = j
      · subst q
        rw [if_pos rfl]
        exact Or.inl ⟨rfl, rfl⟩
      · rw [if_neg (nI_neq (by omega) (by omega) q)]
        exact Or.inr ⟨i, j, hi, hj, q, rfl, rfl, rfl, rfl⟩
theorem eq_gain {tolds : Int32} {hasImage : Int32} {n_heirs : Int32} {n_left : Int32} {n_bitten : Int32} {n_kinds : (Nat → Int32)} {n_figures : (Nat → Int32)} {k_heirs : Int32} {k_left : Int32} {k_bitten : Int32} {k_kinds : (Nat → Int32)} {k_figures : (Nat → Int32)} {t_heirs : Int32} {t_left : Int32} {t_bitten : Int32} {t_kinds : (Nat → Int32)} {t_figures : (Nat → Int32)} {r_gone : Int32} {r_heaps : Int32} {r_fewestCells : Int32} {r_deed : Int32} {c_ways : (Nat → Int32)} {c_fewest : (Nat → Int32)} {c_nextWays : (Nat → Int32)} {c_nextFewest : (Nat → Int32)} {x_length : Int32} {x_letters : (Nat → Int32)} {told : (Nat → Int32)} {refusals : (Nat → Int32)} {ends : (Nat → Int32)} {m_left : Int32} {m_bites : Int32} {m_many : Int32} {m_imageLeft : Int32} {m_imageBites : Int32} {m_imageMany : Int32} {m_wasLeft : Int32} {m_wasBites : Int32} {m_wasMany : Int32} {m_hasImage : Int32} {m_letterMany : Int32} {m_rowMany : Int32} {m_place : Int32} {m_seed : Int32} {m_kind : (Nat → Int32)} {m_figure : (Nat → Int32)} {m_imageKind : (Nat → Int32)} {m_imageFigure : (Nat → Int32)} {m_wasKind : (Nat → Int32)} {m_wasFigure : (Nat → Int32)} {m_letters : (Nat → Int32)} {m_row : (Nat → Int32)} {m_refused : (Nat → Int32)} {m_numbers : (Nat → Int32)} {m_counted : (Nat → Int32)} {m_few : (Nat → Int32)} (hR : RR tolds hasImage n_heirs n_left n_bitten n_kinds n_figures k_heirs k_left k_bitten k_kinds k_figures x_length x_letters told refusals m_left m_bites m_many m_imageLeft m_imageBites m_imageMany m_hasImage m_letterMany m_rowMany m_kind m_figure m_imageKind m_imageFigure m_letters m_row m_refused) (a1 : Int32) (a2 : Int32) : ∃ (o1 : Int32 × Int32 × Int32 × Int32 × Int32 × (Nat → Int32)) (o2 : Int32 × (Nat → Int32)), f_X5_gain n_heirs n_left n_kinds n_figures r_gone r_heaps r_fewestCells r_deed refusals a1 a2 = some o1 ∧ f_X6_gain m_left m_many m_kind m_figure m_refused a1 a2 = some o2 ∧ o1.1 = o2.1 ∧ RR tolds hasImage n_heirs n_left n_bitten n_kinds n_figures k_heirs k_left k_bitten k_kinds k_figures x_length x_letters told o1.2.2.2.2.2 m_left m_bites m_many m_imageLeft m_imageBites m_imageMany m_hasImage m_letterMany m_rowMany m_kind m_figure m_imageKind m_imageFigure m_letters m_row o2.2 := by
  have hR0 := hR
  obtain ⟨⟨h, b, K, F, rfl, hL, rfl, rfl, hh, rfl, rfl, hb, hs, hs'⟩, hT, hW, hF, hI⟩ := hR
  unfold f_X5_gain f_X6_gain
  rcases areTwo_cases hh a1 a2 with ⟨e1, e2⟩ | ⟨i, j, hi, hj, hij, rfl, rfl, e1, e2⟩
  · unfold f_X6_noFar
    rw [e1, e2, bn_some, bn_some, if_pos rfl, if_pos rfl, x_no1, m_no1, bn_some, bn_some, bn_some]
    exact ⟨_, _, rfl, rfl, rfl, RR_bump hR0 (by decide)⟩
  · have ok := fun b (e : BF (1 : Int32) (sh K F i) n_left = some b) => BF_ok e
    obtain ⟨u1, u2, u3, u4, e⟩ := x_further hs (show i < 5 by omega) hL (1 : Int32)
    rw [e1, e2, bn_some, bn_some, if_neg (show ¬ (1 : Int32) = 0 by decide), if_neg (show ¬ (1 : Int32) = 0 by decide), e, bn_some, x_behind_e ok, bn_some, x_shareOf hs (by omega) (cr_aft hL), bn_some, x_shareOf hs (by omega) hL, bn_some, m_biteFor hs' (by omega) hL, bn_some, m_after ok, bn_some, m_shareOf hs' (by omega) (cr_aft hL), bn_some, m_shareOf hs' (by omega) hL, bn_some]
    exact ⟨_, _, rfl, rfl, rfl, hR0⟩
def gX (fo : Option (Nat × Nat)) (z : Int32) : Int32 := match fo with | none => z | some q => nI q.2
theorem grudge_loop {K F : Nat → Nat} {nk nf nk' nf' : Nat → Int32} (hs : HS K F nk nf) (hs' : HS K F nk' nf') {h j : Nat} (hh : h ≤ 5) (hj : j < h) {L : Int32} (hL : Cr L) (r r' : Nat → Int32) : ∀ (m i n : Nat) (fo : Option (Nat × Nat)) (z g1 g2 g3 g4 : Int32), i + m = h → m < n → (∀ q, fo = some q → q.1 < h ∧ q.2 ≤ 80) → ∃ v u1 u2 u3 u4, f_X5_grudge_22 (nI j) (nI h) L nk nf r n (eR (fo.map Prod.fst)) (gX fo z) (nI i) g1 g2 g3 g4 = some (v, u1, u2, u3, u4, r) ∧ f_X6_grudge_23 (nI j) L (nI h) nk' nf' r' n (eR (fo.map Prod.fst)) (gX fo (1000000000 : Int32)) (nI i) = some (v, r') := by
  intro m
  induction m with
  | zero =>
    intro i n fo z g1 g2 g3 g4 hi hn hfo
    obtain ⟨n, rfl⟩ : ∃ k, n = k + 1 := ⟨n - 1, by omega⟩
    obtain rfl : i = h := by omega
    rw [f_X5_grudge_22_s, f_X6_grudge_23_s, if_pos (Int32.le_refl _), if_pos (Int32.le_refl _)]
    exact ⟨_, _, _, _, _, rfl, rfl⟩
  | succ m ih =>
    intro i n fo z g1 g2 g3 g4 hi hn hfo
    obtain ⟨n, rfl⟩ : ∃ k, n = k + 1 := ⟨n - 1, by omega⟩
    have lt : ¬ nI h ≤ nI i := nI_nle' (by omega) (by omega) (by omega)
    rw [f_X5_grudge_22_s, f_X6_grudge_23_s, if_neg lt, if_neg lt]
    by_cases q : i = j
    · rw [if_pos (congrArg nI q), if_pos (congrArg nI q), bn_some, bn_some, if_pos (show (-9 : Int32) < 0 by decide), bn_some, nI_1]
      exact ih (i + 1) n fo z _ _ _ _ (by omega) (by omega) hfo
    · have q' : ¬ nI i = nI j := nI_neq (by omega) (by omega) q
      have ok := fun b (e : BF (1 : Int32) (sh K F i) L = some b) => BF_ok e
      obtain ⟨u1, u2, u3, u4, e⟩ := x_further hs (show i < 5 by omega) hL (1 : Int32)
      rw [if_neg q', if_neg q', e, bn_some, m_biteFor hs' (by omega) hL, bn_some, bn_some]
      cases hB : BF (1 : Int32) (sh K F i) L with
      | none =>
        rw [if_pos (show eX none = (-1 : Int32) from rfl), bn_some, if_pos (show eM none < 0 by decide), bn_some, nI_1]
        exact ih (i + 1) n fo z _ _ _ _ (by omega) (by omega) hfo
      | some b =>
        have hb := (ok b hB).1
        have ok' : ∀ b', some b = some b' → b' < 100 ∧ canB b' L = true := fun b' e' => ok b' (hB.trans e')
        rw [if_neg (show ¬ eX (some b) = (-1 : Int32) from fun q => by
          have := (eX_none (fo := some b) (fun b' e => by cases e; exact hb)).mp q
          cases this), x_behind_e ok', bn_some, x_shareOf hs (by omega) (cr_aft hL), bn_some, if_neg (show ¬ eM (some b) < 0 from fun q => by
          have := (eM_neg (fo := some b) (fun b' e => by cases e; exact hb)).mp q
          cases this), m_after ok', bn_some, m_shareOf hs' (by omega) (cr_aft hL), bn_some, bn_some, m_shareOf hs' (by omega) (cr_aft hL), bn_some]
        have l1 : sh K F j (aft (some b) L) ≤ 80 := sh_le hs (by omega) (cr_aft hL)
        generalize sh K F j (aft (some b) L) = w at l1
        cases fo with
        | none =>
          rw [if_pos (show eR ((none : Option (Nat × Nat)).map Prod.fst) = (-9 : Int32) from rfl), bn_some, if_pos (show nI w < gX none (1000000000 : Int32) from nI_lt2 (b := 1000000000) (by omega) (by decide) (by omega)), bn_some, nI_1]
          exact ih (i + 1) n (some (i, w)) z _ _ _ _ (by omega) (by omega) (fun q e => by cases e; exact ⟨by omega, l1⟩)
        | some p =>
          have hp := hfo p rfl
          rw [if_neg (show ¬ eR ((some p).map Prod.fst) = (-9 : Int32) from fun z => by
            have z2 : (nI p.1).toInt = (-9 : Int32).toInt := congrArg Int32.toInt z
            rw [nI_toInt (by omega)] at z2
            have : (-9 : Int32).toInt = -9 := by decide
            omega)]
          by_cases k : p.2 ≤ w
          · rw [if_pos (show gX (some p) z ≤ nI w from nI_le' (a := p.2) (by omega) (by omega) k), bn_some, if_neg (show ¬ nI w < gX (some p) (1000000000 : Int32) from nI_nlt2 (b := p.2) (by omega) (by omega) k), bn_some, nI_1]
            exact ih (i + 1) n (some p) z _ _ _ _ (by omega) (by omega) hfo
          · rw [if_neg (show ¬ gX (some p) z ≤ nI w from nI_nle' (a := p.2) (by omega) (by omega) (by omega)), bn_some, if_pos (show nI w < gX (some p) (1000000000 : Int32) from nI_lt2 (b := p.2) (by omega) (by omega) (by omega)), bn_some, nI_1]
            exact ih (i + 1) n (some (i, w)) z _ _ _ _ (by omega) (by omega) (fun q e => by cases e; exact ⟨by omega, l1⟩)
theorem eq_grudge {tolds : Int32} {hasImage : Int32} {n_heirs : Int32} {n_left : Int32} {n_bitten : Int32} {n_kinds : (Nat → Int32)} {n_figures : (Nat → Int32)} {k_heirs : Int32} {k_left : Int32} {k_bitten : Int32} {k_kinds : (Nat → Int32)} {k_figures : (Nat → Int32)} {t_heirs : Int32} {t_left : Int32} {t_bitten : Int32} {t_kinds : (Nat → Int32)} {t_figures : (Nat → Int32)} {r_gone : Int32} {r_heaps : Int32} {r_fewestCells : Int32} {r_deed : Int32} {c_ways : (Nat → Int32)} {c_fewest : (Nat → Int32)} {c_nextWays : (Nat → Int32)} {c_nextFewest : (Nat → Int32)} {x_length : Int32} {x_letters : (Nat → Int32)} {told : (Nat → Int32)} {refusals : (Nat → Int32)} {ends : (Nat → Int32)} {m_left : Int32} {m_bites : Int32} {m_many : Int32} {m_imageLeft : Int32} {m_imageBites : Int32} {m_imageMany : Int32} {m_wasLeft : Int32} {m_wasBites : Int32} {m_wasMany : Int32} {m_hasImage : Int32} {m_letterMany : Int32} {m_rowMany : Int32} {m_place : Int32} {m_seed : Int32} {m_kind : (Nat → Int32)} {m_figure : (Nat → Int32)} {m_imageKind : (Nat → Int32)} {m_imageFigure : (Nat → Int32)} {m_wasKind : (Nat → Int32)} {m_wasFigure : (Nat → Int32)} {m_letters : (Nat → Int32)} {m_row : (Nat → Int32)} {m_refused : (Nat → Int32)} {m_numbers : (Nat → Int32)} {m_counted : (Nat → Int32)} {m_few : (Nat → Int32)} (hR : RR tolds hasImage n_heirs n_left n_bitten n_kinds n_figures k_heirs k_left k_bitten k_kinds k_figures x_length x_letters told refusals m_left m_bites m_many m_imageLeft m_imageBites m_imageMany m_hasImage m_letterMany m_rowMany m_kind m_figure m_imageKind m_imageFigure m_letters m_row m_refused) (a1 : Int32) : ∃ (o1 : Int32 × Int32 × Int32 × Int32 × Int32 × (Nat → Int32)) (o2 : Int32 × (Nat → Int32)), f_X5_grudge n_heirs n_left n_kinds n_figures r_gone r_heaps r_fewestCells r_deed refusals a1 = some o1 ∧ f_X6_grudge m_left m_many m_kind m_figure m_refused a1 = some o2 ∧ o1.1 = o2.1 ∧ RR tolds hasImage n_heirs n_left n_bitten n_kinds n_figures k_heirs k_left k_bitten k_kinds k_figures x_length x_letters told o1.2.2.2.2.2 m_left m_bites m_many m_imageLeft m_imageBites m_imageMany m_hasImage m_letterMany m_rowMany m_kind m_figure m_imageKind m_imageFigure m_letters m_row o2.2 := by
  have hR0 := hR
  obtain ⟨⟨h, b, K, F, rfl, hL, rfl, rfl, hh, rfl, rfl, hb, hs, hs'⟩, hT, hW, hF, hI⟩ := hR
  unfold f_X5_grudge f_X6_grudge
  rcases heir_cases hh a1 with ⟨e1, e2⟩ | ⟨j, hj, rfl, e1, e2⟩
  · rw [e1, e2, bn_some, bn_some, if_pos rfl, if_pos rfl, x_no1, m_no1, bn_some, bn_some]
    exact ⟨_, _, rfl, rfl, rfl, RR_bump hR0 (by decide)⟩
  · rw [e1, e2, bn_some, bn_some, if_neg (show ¬ (1 : Int32) = 0 by decide), if_neg (show ¬ (1 : Int32) = 0 by decide)]
    obtain ⟨v, u1, u2, u3, u4, x, y⟩ := grudge_loop hs hs' hh hj hL refusals m_refused h 0 1000 none (0 : Int32) r_gone r_heaps r_fewestCells r_deed (by omega) (by omega) (fun q e => by cases e)
    have z0 : gX none (0 : Int32) = 0 := rfl
    have z1 : gX none (1000000000 : Int32) = 1000000000 := rfl
    have z2 : eR ((none : Option (Nat × Nat)).map Prod.fst) = (-9 : Int32) := rfl
    rw [z2, ← show (0 : Int32) = nI 0 from rfl] at x y
    rw [z0] at x
    rw [z1] at y
    rw [x, y]
    exact ⟨_, _, rfl, rfl, rfl, hR0⟩
