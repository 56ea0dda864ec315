/-! lots -/
def nx (s : Int32) : Int32 := s * (1664525 : Int32) + (1013904223 : Int32)
def dr (s : Int32) : Nat := s.toBitVec.toNat % 2 ^ 31 / 256
theorem dr_lt (s : Int32) : dr s < 2 ^ 23 := by unfold dr; omega
theorem dr_eq (s : Int32) : (s &&& (2147483647 : Int32)) / (256 : Int32) = nI (dr s) := by
  have e : s &&& (2147483647 : Int32) = nI (s.toBitVec.toNat % 2 ^ 31) := by
    have a : s &&& (2147483647 : Int32) = nI s.toBitVec.toNat &&& nI 2147483647 := by
      rw [← toN s, show (2147483647 : Int32) = nI 2147483647 from rfl]
    rw [a, nx_and, show (2147483647 : Nat) = 2 ^ 31 - 1 by decide, Nat.and_two_pow_sub_one_eq_mod]
  rw [e, show (256 : Int32) = nI 256 from rfl, div_nI (by omega) (by decide) (by decide)]
  rfl
def lotG (N : Int32 → Int32) (D : Int32 → Nat) : Nat → Int32 → Int32 → Int32 × Int32
  | 0, s, L => (s, L)
  | m + 1, s, L => lotG N D m (N (N s)) (bh (25 * (D (N s) % 4) + D (N (N s)) % 25) L)
theorem lotG_0 (N : Int32 → Int32) (D : Int32 → Nat) (s L : Int32) : lotG N D 0 s L = (s, L) := rfl
theorem lotG_s (N : Int32 → Int32) (D : Int32 → Nat) (m : Nat) (s L : Int32) : lotG N D (m + 1) s L = lotG N D m (N (N s)) (bh (25 * (D (N s) % 4) + D (N (N s)) % 25) L) := rfl
theorem cr_lot (nx : Int32 → Int32) (dr : Int32 → Nat) : ∀ (m : Nat) (s L : Int32), Cr L → Cr (lotG nx dr m s L).2 := by
  intro m
  induction m with
  | zero => intro s L h; rw [lotG_0]; exact h
  | succ m ih => intro s L h; rw [lotG_s]; exact ih _ _ (cr_bh h)
theorem x_lot_loop (k : Int32 × Int32 → Option (Int32 × Int32 × Int32 × Int32 × Int32 × (Nat → Int32))) : ∀ (m i n : Nat) (s L : Int32), i + m = 6 → m < n → f_X5_lots_69 k n s L (nI i) = k (lotG nx dr m s L) := by
  intro m
  induction m with
  | zero =>
    intro i n s L hi hn
    obtain ⟨n, rfl⟩ := fuel hn
    obtain rfl : i = 6 := by omega
    rw [f_X5_lots_69_s, if_pos (by decide), lotG_0]
  | succ m ih =>
    intro i n s L hi hn
    obtain ⟨n, rfl⟩ := fuel hn
    have d1 := dr_lt (nx s)
    have d2 := dr_lt (nx (nx s))
    have e1 : f_X5_nextSeed s = some (nx s) := rfl
    have e2 : f_X5_nextSeed (nx s) = some (nx (nx s)) := rfl
    have e3 : ∀ x, f_X5_drawnFrom x = some (nI (dr x)) := fun x => by unfold f_X5_drawnFrom; rw [dr_eq]
    rw [f_X5_lots_69_s, if_neg (show ¬ (6 : Int32) ≤ nI i from nI_nle' (a := 6) (by decide) (by omega) (by omega)), e1, bn_some, e2, bn_some, e3, bn_some, e3, bn_some, show (4 : Int32) = nI 4 from rfl, show (25 : Int32) = nI 25 from rfl, jrem_nI (by omega) (by decide) (by decide), jrem_nI (by omega) (by decide) (by decide), pk_mul, nI_add, Nat.mul_comm _ 25, x_behind (by omega), bn_some, nI_1]
    rw [lotG_s]
    exact ih (i + 1) n _ _ (by omega) (by omega)
theorem m_lot_loop (k : Int32 × Int32 → Option (Int32 × Int32 × (Nat → Int32))) : ∀ (m i n : Nat) (s L : Int32), i + m = 6 → m < n → f_X6_lots_67 k n L (nI i) s = k ((lotG nx dr m s L).2, (lotG nx dr m s L).1) := by
  intro m
  induction m with
  | zero =>
    intro i n s L hi hn
    obtain ⟨n, rfl⟩ := fuel hn
    obtain rfl : i = 6 := by omega
    rw [f_X6_lots_67_s, if_pos (by decide), lotG_0]
  | succ m ih =>
    intro i n s L hi hn
    obtain ⟨n, rfl⟩ := fuel hn
    have d1 := dr_lt (nx s)
    have d2 := dr_lt (nx (nx s))
    have e4 : ∀ x, f_X6_drawn x (4 : Int32) = some (nI (dr (nx x) % 4), nx x) := fun x => by
      unfold f_X6_drawn
      have := dr_lt (nx x)
      rw [show nz (4 : Int32) = true by decide, ck_true, show x * (1664525 : Int32) + (1013904223 : Int32) = nx x from rfl, dr_eq, show (4 : Int32) = nI 4 from rfl, jrem_nI (by omega) (by decide) (by decide)]
    have e25 : ∀ x, f_X6_drawn x (25 : Int32) = some (nI (dr (nx x) % 25), nx x) := fun x => by
      unfold f_X6_drawn
      have := dr_lt (nx x)
      rw [show nz (25 : Int32) = true by decide, ck_true, show x * (1664525 : Int32) + (1013904223 : Int32) = nx x from rfl, dr_eq, show (25 : Int32) = nI 25 from rfl, jrem_nI (by omega) (by decide) (by decide)]
    have hB : 25 * (dr (nx s) % 4) + dr (nx (nx s)) % 25 < 100 := by omega
    have cm := m_canBite hB L
    have cx := (ce_x _ hB).2
    rw [show (25 * (dr (nx s) % 4) + dr (nx (nx s)) % 25) / 25 = dr (nx s) % 4 by omega, show (25 * (dr (nx s) % 4) + dr (nx (nx s)) % 25) % 25 = dr (nx (nx s)) % 25 by omega] at cm cx
    rw [f_X6_lots_67_s, if_neg (show ¬ (6 : Int32) ≤ nI i from nI_nle' (a := 6) (by decide) (by omega) (by omega)), e4, bn_some, e25, bn_some, cm, bn_some, cx, bn_some, nI_1]
    have e : (if nI (if canB (25 * (dr (nx s) % 4) + dr (nx (nx s)) % 25) L = true then 1 else 0) = 0 then some L else some (L &&& (ce (25 * (dr (nx s) % 4) + dr (nx (nx s)) % 25) ^^^ (-1 : Int32)))) = some (bh (25 * (dr (nx s) % 4) + dr (nx (nx s)) % 25) L) := by
      cases hc : canB (25 * (dr (nx s) % 4) + dr (nx (nx s)) % 25) L with
      | true => rw [if_neg (by decide), bh_can hc]
      | false => rw [if_pos (by rfl), bh_cant hc]
    rw [e, bn_some]
    rw [lotG_s]
    exact ih (i + 1) n _ _ (by omega) (by omega)
theorem x_lot0 (k : Int32 × Int32 → Option (Int32 × Int32 × Int32 × Int32 × Int32 × (Nat → Int32))) (s L : Int32) : f_X5_lots_69 k 1000 s L (0 : Int32) = k (lotG nx dr 6 s L) := x_lot_loop k 6 0 1000 s L rfl (by decide)
theorem m_lot0 (k : Int32 × Int32 → Option (Int32 × Int32 × (Nat → Int32))) (s L : Int32) : f_X6_lots_67 k 1000 L (0 : Int32) s = k ((lotG nx dr 6 s L).2, (lotG nx dr 6 s L).1) := m_lot_loop k 6 0 1000 s L rfl (by decide)
theorem lots_loop {K F : Nat → Nat} {nk nf nk' nf' : Nat → Int32} (hs : HS K F nk nf) (hs' : HS K F nk' nf') {h a : Nat} (hh : h ≤ 5) (ha : a ≤ 20) {L : Int32} (hL : Cr L) (r : Nat → Int32) (z : Bool) (k : Int32 × Int32 × Int32 × Int32 × Int32 × Int32 → Option (Int32 × Int32 × Int32 × Int32 × Int32 × (Nat → Int32))) : ∀ (m i n : Nat) (s v5 v6 g1 g2 g3 g4 : Int32), i + m = a → m < n → ∃ w5 w6 u1 u2 u3 u4 s', f_X5_lots_51 (nI a) (nI h) L nk nf k n s v5 v6 (nI i) g1 g2 g3 g4 = k (w5, w6, u1, u2, u3, u4) ∧ f_X6_lots_52 (nI a) (nI (if z then 0 else 1)) L (nI h) nk' nf' r n (if z then v5 else v6) (nI i) s = some (if z then w5 else w6, s', r) := by
  intro m
  induction m with
  | zero =>
    intro i n s v5 v6 g1 g2 g3 g4 hi hn
    obtain ⟨n, rfl⟩ := fuel hn
    obtain rfl : i = a := by omega
    rw [f_X5_lots_51_s, f_X6_lots_52_s, if_pos (Int32.le_refl _), if_pos (Int32.le_refl _)]
    exact ⟨_, _, _, _, _, _, _, rfl, rfl⟩
  | succ m ih =>
    intro i n s v5 v6 g1 g2 g3 g4 hi hn
    obtain ⟨n, rfl⟩ := fuel hn
    have lt : ¬ nI a ≤ nI i := nI_nle' (by omega) (by omega) (by omega)
    have hM := cr_lot nx dr 6 s L hL
    rw [f_X5_lots_51_s, f_X6_lots_52_s, if_neg lt, if_neg lt, x_lot0, m_lot0, x_sums hs hh hM, bn_some]
    unfold f_X3_isInChancery
    by_cases d : dd (lotG nx dr 6 s L).2 = 0
    · cases z with
      | true =>
        rw [if_pos d, bn_some, jn_eq, if_neg (show ¬ (1 : Int32) = 0 by decide), if_pos (by rfl), m_sums hs' hh hM, bn_some, bn_some, nI_1]
        exact ih (i + 1) n _ (v5 + nI (tot K F h (lotG nx dr 6 s L).2)) _ _ _ _ _ (by omega) (by omega)
      | false =>
        rw [if_pos d, bn_some, jn_eq, if_neg (show ¬ (1 : Int32) = 0 by decide), if_neg (show ¬ nI (if false = true then 0 else 1) = 0 by decide), m_deed hM, bn_some, if_pos d, bn_some, nI_1]
        exact ih (i + 1) n _ _ (v6 + 1) _ _ _ _ (by omega) (by omega)
    · cases z with
      | true =>
        rw [if_neg d, bn_some, jn_eq, if_pos rfl, if_pos (by rfl), m_sums hs' hh hM, bn_some, bn_some, nI_1]
        exact ih (i + 1) n _ (v5 + nI (tot K F h (lotG nx dr 6 s L).2)) _ _ _ _ _ (by omega) (by omega)
      | false =>
        rw [if_neg d, bn_some, jn_eq, if_pos rfl, if_neg (show ¬ nI (if false = true then 0 else 1) = 0 by decide), m_deed hM, bn_some, if_neg d, bn_some, nI_1, Int32.add_zero]
        exact ih (i + 1) n _ _ v6 _ _ _ _ (by omega) (by omega)
theorem eq_lots {tolds : Int32} {hasImage : Int32} {n_heirs : Int32} {n_left : Int32} {n_bitten : Int32} {n_kinds : (Nat → Int32)} {n_figures : (Nat → Int32)} {k_heirs : Int32} {k_left : Int32} {k_bitten : Int32} {k_kinds : (Nat → Int32)} {k_figures : (Nat → Int32)} {t_heirs : Int32} {t_left : Int32} {t_bitten : Int32} {t_kinds : (Nat → Int32)} {t_figures : (Nat → Int32)} {r_gone : Int32} {r_heaps : Int32} {r_fewestCells : Int32} {r_deed : Int32} {c_ways : (Nat → Int32)} {c_fewest : (Nat → Int32)} {c_nextWays : (Nat → Int32)} {c_nextFewest : (Nat → Int32)} {x_length : Int32} {x_letters : (Nat → Int32)} {told : (Nat → Int32)} {refusals : (Nat → Int32)} {ends : (Nat → Int32)} {m_left : Int32} {m_bites : Int32} {m_many : Int32} {m_imageLeft : Int32} {m_imageBites : Int32} {m_imageMany : Int32} {m_wasLeft : Int32} {m_wasBites : Int32} {m_wasMany : Int32} {m_hasImage : Int32} {m_letterMany : Int32} {m_rowMany : Int32} {m_place : Int32} {m_seed : Int32} {m_kind : (Nat → Int32)} {m_figure : (Nat → Int32)} {m_imageKind : (Nat → Int32)} {m_imageFigure : (Nat → Int32)} {m_wasKind : (Nat → Int32)} {m_wasFigure : (Nat → Int32)} {m_letters : (Nat → Int32)} {m_row : (Nat → Int32)} {m_refused : (Nat → Int32)} {m_numbers : (Nat → Int32)} {m_counted : (Nat → Int32)} {m_few : (Nat → Int32)} (hR : RR tolds hasImage n_heirs n_left n_bitten n_kinds n_figures k_heirs k_left k_bitten k_kinds k_figures x_length x_letters told refusals m_left m_bites m_many m_imageLeft m_imageBites m_imageMany m_hasImage m_letterMany m_rowMany m_kind m_figure m_imageKind m_imageFigure m_letters m_row m_refused) (a1 : Int32) (a2 : Int32) (a3 : Int32) : ∃ (o1 : Int32 × Int32 × Int32 × Int32 × Int32 × (Nat → Int32)) (o2 : Int32 × Int32 × (Nat → Int32)), f_X5_lots n_heirs n_left n_kinds n_figures r_gone r_heaps r_fewestCells r_deed refusals a1 a2 a3 = some o1 ∧ f_X6_lots m_left m_many m_seed m_kind m_figure m_refused a1 a2 a3 = some o2 ∧ o1.1 = o2.1 ∧ RR tolds hasImage n_heirs n_left n_bitten n_kinds n_figures k_heirs k_left k_bitten k_kinds k_figures x_length x_letters told o1.2.2.2.2.2 m_left m_bites m_many m_imageLeft m_imageBites m_imageMany m_hasImage m_letterMany m_rowMany m_kind m_figure m_imageKind m_imageFigure m_letters m_row o2.2.2 := by
  have hR0 := hR
  obtain ⟨⟨h, b, K, F, rfl, hL, rfl, rfl, hh, rfl, rfl, hb, hs, hs'⟩, hT, hW, hF, hI⟩ := hR
  unfold f_X5_lots f_X6_lots
  by_cases q1 : (1 : Int32) ≤ a1
  · rw [if_pos q1, if_pos q1]
    by_cases q3 : a1 ≤ (20 : Int32)
    · rw [if_pos q3, if_pos q3]
      obtain ⟨a, h1, h3, rfl⟩ : ∃ k, 1 ≤ k ∧ k ≤ 20 ∧ a1 = nI k := by
        rcases rng a1 (n := 20) (by decide) with q | q | ⟨k, hk, rfl⟩
        · exact absurd (Int32.lt_of_lt_of_le q (by decide : (0 : Int32) ≤ 1)) (Int32.not_lt.mpr q1)
        · exact absurd q (Int32.not_lt.mpr q3)
        · exact ⟨k, (nI_leI (a := 1) (by decide) (by omega)).mp q1, hk, rfl⟩
      rcases two_cases a3 with ⟨e1, e2⟩ | ⟨hv, e1, e2⟩
      · rw [e1, e2, bn_some, bn_some, if_pos rfl, if_pos rfl, x_no2, m_no2, bn_some, bn_some]
        exact ⟨_, _, rfl, rfl, rfl, RR_bump hR0 (by decide)⟩
      · rw [e1, e2, bn_some, bn_some, if_neg (show ¬ (1 : Int32) = 0 by decide), if_neg (show ¬ (1 : Int32) = 0 by decide)]
        obtain ⟨z, rfl⟩ := two_z hv
        obtain ⟨w5, w6, u1, u2, u3, u4, s', x, y⟩ := lots_loop hs hs' hh h3 hL m_refused z (fun (e37 : Int32 × Int32 × Int32 × Int32 × Int32 × Int32) => if nI (if z then 0 else 1) = 0 then (some (e37.1, e37.2.2.1, e37.2.2.2.1, e37.2.2.2.2.1, e37.2.2.2.2.2, refusals)) else (some (e37.2.1, e37.2.2.1, e37.2.2.2.1, e37.2.2.2.2.1, e37.2.2.2.2.2, refusals))) a 0 1000 a2 0 0 r_gone r_heaps r_fewestCells r_deed (by omega) (by omega)
        rw [← show (0 : Int32) = nI 0 from rfl] at x y
        rw [show (if z = true then (0 : Int32) else 0) = 0 by cases z <;> rfl] at y
        rw [x, y]
        cases z with
        | true => rw [if_pos (by rfl)]; exact ⟨_, _, rfl, rfl, rfl, hR0⟩
        | false => rw [if_neg (by decide)]; exact ⟨_, _, rfl, rfl, rfl, hR0⟩
    · rw [if_neg q3, if_neg q3, x_no6, m_no6, bn_some, bn_some]
      exact ⟨_, _, rfl, rfl, rfl, RR_bump hR0 (by decide)⟩
  · rw [if_neg q1, if_neg q1, x_no4, m_no4, bn_some, bn_some]
    exact ⟨_, _, rfl, rfl, rfl, RR_bump hR0 (by decide)⟩
