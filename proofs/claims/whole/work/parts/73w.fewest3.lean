/-! fewest: both -/
theorem fewest_end {r : Nat → Int32} {z : Bool} {e : Nat} (he : e = 1 ∨ e = 2) (x : Option Int32) : (if nI (if z then 0 else 1) = 0 then some (nI e, r) else if nI e = 0 then some ((-9 : Int32), r) else bn x (fun (r18 : Int32) => some (r18, r))) = if z then some (nI e, r) else bn x (fun (r18 : Int32) => some (r18, r)) := by
  have h : ¬ nI e = (0 : Int32) := fun q => by have := (nI0_iff (by omega)).mp q; omega
  cases z with
  | true => rw [if_pos (by rfl), if_pos rfl]
  | false => rw [if_neg (show ¬ nI (if false = true then 0 else 1) = 0 by decide), if_neg h, if_neg (by decide)]
theorem eq_fewest {tolds : Int32} {hasImage : Int32} {n_heirs : Int32} {n_left : Int32} {n_bitten : Int32} {n_kinds : (Nat → Int32)} {n_figures : (Nat → Int32)} {k_heirs : Int32} {k_left : Int32} {k_bitten : Int32} {k_kinds : (Nat → Int32)} {k_figures : (Nat → Int32)} {t_heirs : Int32} {t_left : Int32} {t_bitten : Int32} {t_kinds : (Nat → Int32)} {t_figures : (Nat → Int32)} {r_gone : Int32} {r_heaps : Int32} {r_fewestCells : Int32} {r_deed : Int32} {c_ways : (Nat → Int32)} {c_fewest : (Nat → Int32)} {c_nextWays : (Nat → Int32)} {c_nextFewest : (Nat → Int32)} {x_length : Int32} {x_letters : (Nat → Int32)} {told : (Nat → Int32)} {refusals : (Nat → Int32)} {ends : (Nat → Int32)} {m_left : Int32} {m_bites : Int32} {m_many : Int32} {m_imageLeft : Int32} {m_imageBites : Int32} {m_imageMany : Int32} {m_wasLeft : Int32} {m_wasBites : Int32} {m_wasMany : Int32} {m_hasImage : Int32} {m_letterMany : Int32} {m_rowMany : Int32} {m_place : Int32} {m_seed : Int32} {m_kind : (Nat → Int32)} {m_figure : (Nat → Int32)} {m_imageKind : (Nat → Int32)} {m_imageFigure : (Nat → Int32)} {m_wasKind : (Nat → Int32)} {m_wasFigure : (Nat → Int32)} {m_letters : (Nat → Int32)} {m_row : (Nat → Int32)} {m_refused : (Nat → Int32)} {m_numbers : (Nat → Int32)} {m_counted : (Nat → Int32)} {m_few : (Nat → Int32)} (hR : RR tolds hasImage n_heirs n_left n_bitten n_kinds n_figures k_heirs k_left k_bitten k_kinds k_figures x_length x_letters told refusals m_left m_bites m_many m_imageLeft m_imageBites m_imageMany m_hasImage m_letterMany m_rowMany m_kind m_figure m_imageKind m_imageFigure m_letters m_row m_refused) (a1 : Int32) (a2 : Int32) (a3 : Int32) : ∃ (o1 : Int32 × Int32 × Int32 × Int32 × Int32 × (Nat → Int32)) (o2 : Int32 × (Nat → Int32)), f_X5_fewest n_heirs n_left n_kinds n_figures r_gone r_heaps r_fewestCells r_deed refusals a1 a2 a3 = some o1 ∧ f_X6_fewest m_left m_many m_kind m_figure m_refused a1 a2 a3 = some o2 ∧ o1.1 = o2.1 ∧ RR tolds hasImage n_heirs n_left n_bitten n_kinds n_figures k_heirs k_left k_bitten k_kinds k_figures x_length x_letters told o1.2.2.2.2.2 m_left m_bites m_many m_imageLeft m_imageBites m_imageMany m_hasImage m_letterMany m_rowMany m_kind m_figure m_imageKind m_imageFigure m_letters m_row o2.2 := by
  have hR0 := hR
  obtain ⟨⟨h, b, K, F, rfl, hL, rfl, rfl, hh, rfl, rfl, hb, hs, hs'⟩, hT, hW, hF, hI⟩ := hR
  unfold f_X5_fewest f_X6_fewest
  rw [show (40 : Int32) = nI 40 from rfl]
  rcases heir_cases hh a1 with ⟨e1, e2⟩ | ⟨j, hj, rfl, e1, e2⟩
  · rw [e1, e2, bn_some, bn_some, if_pos rfl, if_pos rfl, bn_some, if_neg (show ¬ (-1 : Int32) = 0 by decide), bn_some, if_neg (show ¬ (-1 : Int32) = 0 by decide), x_no1, m_no1, bn_some, bn_some]
    exact ⟨_, _, rfl, rfl, rfl, RR_bump hR0 (by decide)⟩
  · rw [e1, e2, bn_some, bn_some, if_neg (show ¬ (1 : Int32) = 0 by decide), if_neg (show ¬ (1 : Int32) = 0 by decide)]
    rcases m_wrong (a := a2) (n := 40) (by decide) with ⟨g, e⟩ | ⟨g, e⟩ | ⟨t, ht, rfl, e⟩
    · rw [if_neg (not_ge g), e, bn_some, bn_some, if_neg (show ¬ (-4 : Int32) = 0 by decide), bn_some, if_neg (show ¬ (-4 : Int32) = 0 by decide), x_no4, m_no4, bn_some, bn_some]
      exact ⟨_, _, rfl, rfl, rfl, RR_bump hR0 (by decide)⟩
    · rw [if_pos (gt_ge (by decide) g).1, if_neg (Int32.not_le.mpr g), e, bn_some, bn_some, if_neg (show ¬ (-6 : Int32) = 0 by decide), bn_some, if_neg (show ¬ (-6 : Int32) = 0 by decide), x_no6, m_no6, bn_some, bn_some]
      exact ⟨_, _, rfl, rfl, rfl, RR_bump hR0 (by decide)⟩
    · rw [if_pos (nI_ge0 (by omega)), if_pos (nI_le' (by omega) (by decide) ht), e, bn_some, bn_some, if_pos rfl]
      rcases two_cases a3 with ⟨e1, e2⟩ | ⟨hv, e1, e2⟩
      · rw [e1, e2, bn_some, bn_some, if_pos rfl, if_pos rfl, bn_some, if_neg (show ¬ (-2 : Int32) = 0 by decide), x_no2, m_no2, bn_some, bn_some]
        exact ⟨_, _, rfl, rfl, rfl, RR_bump hR0 (by decide)⟩
      · rw [e1, e2, bn_some, bn_some, if_neg (show ¬ (1 : Int32) = 0 by decide), if_neg (show ¬ (1 : Int32) = 0 by decide), bn_some, if_pos rfl]
        obtain ⟨z, rfl⟩ := two_z hv
        have hj5 : j < 5 := by omega
        have s0 := m_so2z hs' hj5 ht hL
        have s1 := m_so2 hs' hj5 ht hL (e := 1) (Or.inl rfl)
        have s2 := m_so2 hs' hj5 ht hL (e := 2) (Or.inr rfl)
        have f1 := m_fs hs' hj5 ht hL (e := 1) (Or.inl rfl)
        have f2 := m_fs hs' hj5 ht hL (e := 2) (Or.inr rfl)
        have q1e : pe K F j t 1 n_left = p1 K F j t n_left := rfl
        have q2e : pe K F j t 2 n_left = p2 K F j t n_left := rfl
        rw [q1e] at s1 f1
        rw [q2e] at s2 f2
        have l0 : ¬ (3 : Int32) ≤ 0 := by decide
        have l1 : ¬ (3 : Int32) ≤ nI 1 := by decide
        have l2 : ¬ (3 : Int32) ≤ nI 2 := by decide
        have n1 : (0 : Int32) + 1 = nI 1 := by decide
        have n2 : nI 1 + 1 = nI 2 := by decide
        have n3 : nI 2 + 1 = nI 3 := by decide
        rw [x_shareOf hs hj5 hL, bn_some, gd_ite hs hj5 ht hL, show (1000 : Nat) = 999 + 1 from rfl, f_X6_fewest_53_s, if_neg l0, s0, bn_some]
        cases hg : gd K F j t n_left with
        | true =>
          rw [if_pos rfl, if_neg (show ¬ nI (if true = true then 1 else 0) = 0 by decide)]
          cases z with
          | true => rw [if_pos (by rfl), if_pos (by rfl)]; exact ⟨_, _, rfl, rfl, rfl, hR0⟩
          | false => rw [if_neg (show ¬ nI (if false = true then 0 else 1) = 0 by decide), if_neg (show ¬ nI (if false = true then 0 else 1) = 0 by decide), if_pos rfl]; exact ⟨_, _, rfl, rfl, rfl, hR0⟩
        | false =>
          obtain ⟨u1, u2, u3, u4, x⟩ := x_fbt hs hj5 ht hL (i := 0) (by decide) (gone n_left) (nI (nh n_left)) (nI (fw n_left)) (dd n_left)
          rw [show nI 0 = (0 : Int32) from rfl, show 100 - 0 = 100 from rfl] at x
          rw [if_neg (show ¬ false = true by decide), if_pos (show nI (if false = true then 1 else 0) = 0 from rfl), x, bn_some, n1, show (999 : Nat) = 998 + 1 from rfl, f_X6_fewest_53_s, if_neg l1, s1, bn_some, f1]
          have ok1 := sF_some (p1 K F j t n_left) 100 0
          cases h1 : sF (p1 K F j t n_left) 100 0 with
          | some c =>
            have := ok1 c h1
            rw [if_neg (show ¬ eX (some c) = (-1 : Int32) from fun q => by
              have := (eX_none (fo := some c) (fun b' e => by cases e; omega)).mp q
              cases this), if_neg (show ¬ nI (if (some c).isSome = true then 1 else 0) = 0 by rw [Option.isSome_some]; decide), fewest_end (Or.inl rfl), show eX (some c) = nI c from rfl, x_name (by omega), bn_some, bn_some]
            cases z with
            | true => rw [if_pos (by rfl)]; exact ⟨_, _, rfl, rfl, rfl, hR0⟩
            | false => rw [if_neg (show ¬ nI (if false = true then 0 else 1) = 0 by decide)]; exact ⟨_, _, rfl, rfl, rfl, hR0⟩
          | none =>
            obtain ⟨w1, w2, w3, w4, y⟩ := x_ftb_loop hs hj5 ht hL 100 0 1000 u1 u2 u3 u4 rfl (by decide)
            rw [show nI 0 = (0 : Int32) from rfl, first_two] at y
            unfold f_X5_firstOfTwoBitesTo
            rw [if_pos (show eX none = (-1 : Int32) from rfl), y, bn_some, if_pos (show nI (if (none : Option Nat).isSome = true then 1 else 0) = 0 from rfl), n2, show (998 : Nat) = 997 + 1 from rfl, f_X6_fewest_53_s, if_neg l2, s2, bn_some, f2]
            have ok2 := sF_some (p2 K F j t n_left) 100 0
            cases h2 : sF (p2 K F j t n_left) 100 0 with
            | some c =>
              have := ok2 c h2
              rw [if_neg (show ¬ eX (some c) = (-1 : Int32) from fun q => by
                have := (eX_none (fo := some c) (fun b' e => by cases e; omega)).mp q
                cases this), if_neg (show ¬ nI (if (some c).isSome = true then 1 else 0) = 0 by rw [Option.isSome_some]; decide), fewest_end (Or.inr rfl), show eX (some c) = nI c from rfl, x_name (by omega), bn_some, bn_some]
              cases z with
              | true => rw [if_pos (by rfl)]; exact ⟨_, _, rfl, rfl, rfl, hR0⟩
              | false => rw [if_neg (show ¬ nI (if false = true then 0 else 1) = 0 by decide)]; exact ⟨_, _, rfl, rfl, rfl, hR0⟩
            | none =>
              rw [if_pos (show eX none = (-1 : Int32) from rfl), if_pos (show nI (if (none : Option Nat).isSome = true then 1 else 0) = 0 from rfl), n3, show (997 : Nat) = 996 + 1 from rfl, f_X6_fewest_53_s, if_pos (by decide)]
              exact ⟨_, _, rfl, rfl, rfl, hR0⟩
