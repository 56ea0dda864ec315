/-! settles -/
def wo (c : Nat) (L : Int32) : Int32 := L &&& (jshl (1 : Int32) (nI c) ^^^ (-1 : Int32))
theorem cr_wo {c : Nat} {L : Int32} (hL : Cr L) : Cr (wo c L) := cr_and _ hL
theorem bt_wo {c i : Nat} {L : Int32} (hc : c < 25) (hi : i < 25) : bt (wo c L) i = (bt L i && !decide (i = c)) := by
  unfold wo
  rw [bt_andn (by omega), bt_one (by omega) (by omega)]
theorem x_settled {L : Int32} (hL : Cr L) : f_X5_isSettled L = some (nI (if dd L = 0 then 0 else 1), gone L, nI (nh L), nI (fw L), dd L) := by
  unfold f_X5_isSettled f_X3_isInChancery
  rw [x_reads hL, bn_some]
  by_cases d : dd L = 0
  · rw [if_pos d, bn_some, if_neg (show ¬ (1 : Int32) = 0 by decide), if_pos d]
    rfl
  · rw [if_neg d, bn_some, if_pos rfl, if_neg d]
    rfl
def fcF (L : Int32) : Nat → Nat → Option Nat
  | 0, _ => none
  | m + 1, i => if bt L i && decide (dd (wo i L) ≠ 0) then some i else fcF L m (i + 1)
theorem fcF_lt (L : Int32) : ∀ (m i : Nat) (c : Nat), fcF L m i = some c → i ≤ c ∧ c < i + m
  | 0, _, _, h => by cases h
  | m + 1, i, c, h => by
    unfold fcF at h
    split at h
    · cases h; omega
    · have := fcF_lt L m (i + 1) c h; omega
theorem x_fc_loop {L : Int32} (hL : Cr L) : ∀ (m i n : Nat) (g1 g2 g3 g4 : Int32), i + m = 25 → m < n → ∃ u1 u2 u3 u4, f_X5_firstCellThatSettles_2 L n (nI i) g1 g2 g3 g4 = some (eR (fcF L m i), u1, u2, u3, u4) := by
  intro m
  induction m with
  | zero =>
    intro i n g1 g2 g3 g4 hi hn
    obtain ⟨n, rfl⟩ := fuel hn
    obtain rfl : i = 25 := by omega
    rw [f_X5_firstCellThatSettles_2_s, if_pos (by decide)]
    exact ⟨_, _, _, _, rfl⟩
  | succ m ih =>
    intro i n g1 g2 g3 g4 hi hn
    obtain ⟨n, rfl⟩ := fuel hn
    rw [f_X5_firstCellThatSettles_2_s, if_neg (show ¬ (25 : Int32) ≤ nI i from nI_nle' (a := 25) (by decide) (by omega) (by omega)), ite_p (and_bit0 (by omega)), nI_1]
    unfold fcF
    cases hb : bt L i with
    | false =>
      rw [if_pos rfl, Bool.false_and, if_neg (by decide)]
      exact ih (i + 1) n _ _ _ _ (by omega) (by omega)
    | true =>
      rw [if_neg (by decide), show L &&& (jshl (1 : Int32) (nI i) ^^^ (-1 : Int32)) = wo i L from rfl, x_settled (cr_wo hL), bn_some, Bool.true_and]
      by_cases d : dd (wo i L) = 0
      · rw [if_pos d, if_pos (by rfl), if_neg (by simp [d])]
        exact ih (i + 1) n _ _ _ _ (by omega) (by omega)
      · rw [if_neg d, if_neg (show ¬ nI 1 = 0 by decide), if_pos (by simp [d])]
        exact ⟨_, _, _, _, rfl⟩
theorem x_fc {L : Int32} (hL : Cr L) {i : Nat} (hi : i ≤ 25) (g1 g2 g3 g4 : Int32) : ∃ u1 u2 u3 u4, f_X5_firstCellThatSettles g1 g2 g3 g4 L (nI i) = some (eR (fcF L (25 - i) i), u1, u2, u3, u4) := by
  unfold f_X5_firstCellThatSettles
  exact x_fc_loop hL (25 - i) i 1000 g1 g2 g3 g4 (by omega) (by omega)
theorem eR_neg {fo : Option Nat} (h : ∀ b, fo = some b → b < 1000) : eR fo = (-9 : Int32) ↔ fo = none := by
  cases fo with
  | none => exact ⟨fun _ => rfl, fun _ => rfl⟩
  | some b =>
    refine ⟨fun q => ?_, fun q => by cases q⟩
    have := h b rfl
    have z : (nI b).toInt = (-9 : Int32).toInt := congrArg Int32.toInt q
    rw [nI_toInt (by omega)] at z
    have : (-9 : Int32).toInt = -9 := by decide
    omega
def ftF (L : Int32) : Nat → Nat → Option Nat
  | 0, _ => none
  | m + 1, i => if bt L i && (fcF (wo i L) (25 - (i + 1)) (i + 1)).isSome then some i else ftF L m (i + 1)
theorem ftF_lt (L : Int32) : ∀ (m i : Nat) (c : Nat), ftF L m i = some c → i ≤ c ∧ c < i + m
  | 0, _, _, h => by cases h
  | m + 1, i, c, h => by
    unfold ftF at h
    split at h
    · cases h; omega
    · have := ftF_lt L m (i + 1) c h; omega
theorem x_ft_loop {L : Int32} (hL : Cr L) : ∀ (m i n : Nat) (g1 g2 g3 g4 : Int32), i + m = 25 → m < n → ∃ u1 u2 u3 u4, f_X5_firstOfTwoThatSettle_2 L n (nI i) g1 g2 g3 g4 = some (eR (ftF L m i), u1, u2, u3, u4) := by
  intro m
  induction m with
  | zero =>
    intro i n g1 g2 g3 g4 hi hn
    obtain ⟨n, rfl⟩ := fuel hn
    obtain rfl : i = 25 := by omega
    rw [f_X5_firstOfTwoThatSettle_2_s, if_pos (by decide)]
    exact ⟨_, _, _, _, rfl⟩
  | succ m ih =>
    intro i n g1 g2 g3 g4 hi hn
    obtain ⟨n, rfl⟩ := fuel hn
    rw [f_X5_firstOfTwoThatSettle_2_s, if_neg (show ¬ (25 : Int32) ≤ nI i from nI_nle' (a := 25) (by decide) (by omega) (by omega)), x_isLeft (by omega), bn_some, nI_1]
    unfold ftF
    cases hb : bt L i with
    | false =>
      rw [if_pos (by rfl), Bool.false_and, if_neg (by decide)]
      exact ih (i + 1) n _ _ _ _ (by omega) (by omega)
    | true =>
      obtain ⟨u1, u2, u3, u4, e⟩ := x_fc (cr_wo (c := i) hL) (i := i + 1) (by omega) g1 g2 g3 g4
      rw [if_neg (by decide), show L &&& (jshl (1 : Int32) (nI i) ^^^ (-1 : Int32)) = wo i L from rfl, e, bn_some, Bool.true_and]
      have lt := fcF_lt (wo i L) (25 - (i + 1)) (i + 1)
      cases hf : fcF (wo i L) (25 - (i + 1)) (i + 1) with
      | none =>
        rw [if_pos (show eR none = (-9 : Int32) from rfl), if_neg (by decide)]
        exact ih (i + 1) n _ _ _ _ (by omega) (by omega)
      | some c =>
        have := lt c hf
        rw [if_neg (show ¬ eR (some c) = (-9 : Int32) from fun q => by
          have := (eR_neg (fo := some c) (fun b e => by cases e; omega)).mp q
          cases this), if_pos (by rfl)]
        exact ⟨_, _, _, _, rfl⟩
theorem m_fc_loop {L : Int32} (hL : Cr L) (k1 : Int32 → Option (Int32 × (Nat → Int32))) (k2 : Unit → Option (Int32 × (Nat → Int32))) : ∀ (m i n : Nat), i + m = 25 → m < n → f_X6_settles_39 L k1 k2 n (nI i) = (match fcF L m i with | none => k2 () | some c => k1 (nI c)) := by
  intro m
  induction m with
  | zero =>
    intro i n hi hn
    obtain ⟨n, rfl⟩ := fuel hn
    obtain rfl : i = 25 := by omega
    rw [f_X6_settles_39_s, if_pos (by decide)]
    rfl
  | succ m ih =>
    intro i n hi hn
    obtain ⟨n, rfl⟩ := fuel hn
    rw [f_X6_settles_39_s, if_neg (show ¬ (25 : Int32) ≤ nI i from nI_nle' (a := 25) (by decide) (by omega) (by omega)), m_has hL (by omega), bn_some, nI_1]
    unfold fcF
    cases hb : bt L i with
    | false =>
      rw [if_pos (by rfl), Bool.false_and, if_neg (by decide)]
      exact ih (i + 1) n (by omega) (by omega)
    | true =>
      rw [if_neg (by decide), show L &&& (jshl (1 : Int32) (nI i) ^^^ (-1 : Int32)) = wo i L from rfl, m_deed (cr_wo hL), bn_some, Bool.true_and]
      by_cases d : dd (wo i L) = 0
      · rw [if_pos d, if_neg (by simp [d])]
        exact ih (i + 1) n (by omega) (by omega)
      · rw [if_neg d, if_pos (by simp [d])]
theorem m_in_loop {L : Int32} (hL : Cr L) {c : Nat} (hc : c < 25) (k1 k2 : Unit → Option (Int32 × (Nat → Int32))) : ∀ (m i n : Nat), i + m = 25 → m < n → c < i → f_X6_settles_100 (nI c) L k1 k2 n (nI i) = if bt L c && (fcF (wo c L) m i).isSome then k1 () else k2 () := by
  intro m
  induction m with
  | zero =>
    intro i n hi hn hci
    obtain ⟨n, rfl⟩ := fuel hn
    obtain rfl : i = 25 := by omega
    rw [f_X6_settles_100_s, if_pos (by decide)]
    show k2 () = if bt L c && false then k1 () else k2 ()
    rw [Bool.and_false, if_neg (by decide)]
  | succ m ih =>
    intro i n hi hn hci
    obtain ⟨n, rfl⟩ := fuel hn
    rw [f_X6_settles_100_s, if_neg (show ¬ (25 : Int32) ≤ nI i from nI_nle' (a := 25) (by decide) (by omega) (by omega)), m_has hL (by omega), bn_some, nI_1]
    unfold fcF
    have I := ih (i + 1) n (by omega) (by omega) (by omega)
    rw [bt_wo hc (by omega), show (!decide (i = c)) = true by simp; omega, Bool.and_true]
    cases hb : bt L c with
    | false =>
      rw [if_pos (by rfl), I, hb, Bool.false_and, Bool.false_and]
    | true =>
      rw [if_neg (by decide), m_has hL (by omega), bn_some]
      rw [hb, Bool.true_and] at I
      rw [Bool.true_and]
      cases hb2 : bt L i with
      | false =>
        rw [if_pos (by rfl), I, Bool.false_and, if_neg (show ¬ false = true by decide)]
      | true =>
        rw [if_neg (by decide), show (L &&& (jshl (1 : Int32) (nI c) ^^^ (-1 : Int32))) &&& (jshl (1 : Int32) (nI i) ^^^ (-1 : Int32)) = wo i (wo c L) from rfl, m_deed (cr_wo (cr_wo hL)), bn_some, Bool.true_and]
        by_cases d : dd (wo i (wo c L)) = 0
        · rw [if_pos d, I, if_neg (show ¬ decide (dd (wo i (wo c L)) ≠ 0) = true by simp [d])]
        · rw [if_neg d, if_pos (show decide (dd (wo i (wo c L)) ≠ 0) = true by simp [d])]
          rfl
theorem m_ft_loop {L : Int32} (hL : Cr L) (r : Nat → Int32) (k : Int32 → Option (Int32 × (Nat → Int32))) : ∀ (m i n : Nat), i + m = 25 → m < n → f_X6_settles_90 L r k n (nI i) = (match ftF L m i with | none => some ((-9 : Int32), r) | some c => k (nI c)) := by
  intro m
  induction m with
  | zero =>
    intro i n hi hn
    obtain ⟨n, rfl⟩ := fuel hn
    obtain rfl : i = 25 := by omega
    rw [f_X6_settles_90_s, if_pos (by decide)]
    rfl
  | succ m ih =>
    intro i n hi hn
    obtain ⟨n, rfl⟩ := fuel hn
    rw [f_X6_settles_90_s, if_neg (show ¬ (25 : Int32) ≤ nI i from nI_nle' (a := 25) (by decide) (by omega) (by omega)), nI_1, m_in_loop hL (by omega) _ _ (25 - (i + 1)) (i + 1) 1000 (by omega) (by omega) (by omega)]
    unfold ftF
    by_cases q : (bt L i && (fcF (wo i L) (25 - (i + 1)) (i + 1)).isSome) = true
    · rw [if_pos q, if_pos q]
    · rw [if_neg q, if_neg q]
      exact ih (i + 1) n (by omega) (by omega)
theorem eq_settles {tolds : Int32} {hasImage : Int32} {n_heirs : Int32} {n_left : Int32} {n_bitten : Int32} {n_kinds : (Nat → Int32)} {n_figures : (Nat → Int32)} {k_heirs : Int32} {k_left : Int32} {k_bitten : Int32} {k_kinds : (Nat → Int32)} {k_figures : (Nat → Int32)} {t_heirs : Int32} {t_left : Int32} {t_bitten : Int32} {t_kinds : (Nat → Int32)} {t_figures : (Nat → Int32)} {r_gone : Int32} {r_heaps : Int32} {r_fewestCells : Int32} {r_deed : Int32} {c_ways : (Nat → Int32)} {c_fewest : (Nat → Int32)} {c_nextWays : (Nat → Int32)} {c_nextFewest : (Nat → Int32)} {x_length : Int32} {x_letters : (Nat → Int32)} {told : (Nat → Int32)} {refusals : (Nat → Int32)} {ends : (Nat → Int32)} {m_left : Int32} {m_bites : Int32} {m_many : Int32} {m_imageLeft : Int32} {m_imageBites : Int32} {m_imageMany : Int32} {m_wasLeft : Int32} {m_wasBites : Int32} {m_wasMany : Int32} {m_hasImage : Int32} {m_letterMany : Int32} {m_rowMany : Int32} {m_place : Int32} {m_seed : Int32} {m_kind : (Nat → Int32)} {m_figure : (Nat → Int32)} {m_imageKind : (Nat → Int32)} {m_imageFigure : (Nat → Int32)} {m_wasKind : (Nat → Int32)} {m_wasFigure : (Nat → Int32)} {m_letters : (Nat → Int32)} {m_row : (Nat → Int32)} {m_refused : (Nat → Int32)} {m_numbers : (Nat → Int32)} {m_counted : (Nat → Int32)} {m_few : (Nat → Int32)} (hR : RR tolds hasImage n_heirs n_left n_bitten n_kinds n_figures k_heirs k_left k_bitten k_kinds k_figures x_length x_letters told refusals m_left m_bites m_many m_imageLeft m_imageBites m_imageMany m_hasImage m_letterMany m_rowMany m_kind m_figure m_imageKind m_imageFigure m_letters m_row m_refused) (a1 : Int32) : ∃ (o1 : Int32 × Int32 × Int32 × Int32 × Int32 × (Nat → Int32)) (o2 : Int32 × (Nat → Int32)), f_X5_settles n_left r_gone r_heaps r_fewestCells r_deed refusals a1 = some o1 ∧ f_X6_settles m_left m_refused a1 = some o2 ∧ o1.1 = o2.1 ∧ RR tolds hasImage n_heirs n_left n_bitten n_kinds n_figures k_heirs k_left k_bitten k_kinds k_figures x_length x_letters told o1.2.2.2.2.2 m_left m_bites m_many m_imageLeft m_imageBites m_imageMany m_hasImage m_letterMany m_rowMany m_kind m_figure m_imageKind m_imageFigure m_letters m_row o2.2 := by
  have hR0 := hR
  obtain ⟨⟨h, b, K, F, rfl, hL, rfl, rfl, hh, rfl, rfl, hb, hs, hs'⟩, hT, hW, hF, hI⟩ := hR
  unfold f_X5_settles f_X6_settles
  rcases two_cases a1 with ⟨e1, e2⟩ | ⟨hv, e1, e2⟩
  · rw [e1, e2, bn_some, bn_some, if_pos rfl, if_pos rfl, x_no2, m_no2, bn_some, bn_some]
    exact ⟨_, _, rfl, rfl, rfl, RR_bump hR0 (by decide)⟩
  · rw [e1, e2, bn_some, bn_some, if_neg (show ¬ (1 : Int32) = 0 by decide), if_neg (show ¬ (1 : Int32) = 0 by decide), x_settled hL, m_deed hL, bn_some, bn_some]
    by_cases d : dd n_left = 0
    · rw [if_pos d, if_pos d, if_pos (by rfl)]
      obtain ⟨u1, u2, u3, u4, x⟩ := x_fc hL (i := 0) (by decide) (gone n_left) (nI (nh n_left)) (nI (fw n_left)) (dd n_left)
      have y := fun k1 k2 => m_fc_loop hL k1 k2 25 0 1000 rfl (by decide)
      obtain ⟨w1, w2, w3, w4, x2⟩ := x_ft_loop hL 25 0 1000 u1 u2 u3 u4 rfl (by decide)
      have y2 := fun k => m_ft_loop hL m_refused k 25 0 1000 rfl (by decide)
      have l1 := fcF_lt n_left 25 0
      have l2 := ftF_lt n_left 25 0
      rw [← show (0 : Int32) = nI 0 from rfl] at x x2
      simp only [← show (0 : Int32) = nI 0 from rfl] at y y2
      rw [show 25 - 0 = 25 from rfl] at x
      rw [x, bn_some, y]
      unfold f_X5_firstOfTwoThatSettle
      cases hf : fcF n_left 25 0 with
      | some c =>
        have := l1 c hf
        rw [if_neg (show ¬ eR (some c) = (-9 : Int32) from fun q => by
          have := (eR_neg (fo := some c) (fun b e => by cases e; omega)).mp q
          cases this)]
        rcases hv with rfl | rfl
        · exact ⟨_, _, rfl, rfl, rfl, hR0⟩
        · exact ⟨_, _, rfl, rfl, rfl, hR0⟩
      | none =>
        rw [if_pos (show eR none = (-9 : Int32) from rfl), x2, bn_some]
        show ∃ o1 o2, _ ∧ f_X6_settles_90 n_left m_refused _ 1000 0 = some o2 ∧ _
        rw [y2]
        cases hg : ftF n_left 25 0 with
        | none =>
          rw [if_pos (show eR none = (-9 : Int32) from rfl)]
          exact ⟨_, _, rfl, rfl, rfl, hR0⟩
        | some c =>
          have := l2 c hg
          rw [if_neg (show ¬ eR (some c) = (-9 : Int32) from fun q => by
            have := (eR_neg (fo := some c) (fun b e => by cases e; omega)).mp q
            cases this)]
          rcases hv with rfl | rfl
          · exact ⟨_, _, rfl, rfl, rfl, hR0⟩
          · exact ⟨_, _, rfl, rfl, rfl, hR0⟩
    · rw [if_neg d, if_neg d, if_neg (show ¬ nI 1 = 0 by decide)]
      rcases hv with rfl | rfl
      · exact ⟨_, _, rfl, rfl, rfl, hR0⟩
      · exact ⟨_, _, rfl, rfl, rfl, hR0⟩
