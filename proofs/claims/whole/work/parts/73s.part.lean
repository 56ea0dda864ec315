/-! parts of a whole: gcd, mean -/
def nW (n : Nat) : Int64 := Int64.ofNat n
theorem nW_toInt {n : Nat} (h : n < 2 ^ 63) : (nW n).toInt = (n : Int) := Int64.toInt_ofNat_of_lt h
theorem wide {n : Nat} (h : n < 2 ^ 31) : (nI n).toInt64 = nW n := by
  apply Int64.toInt_inj.mp
  rw [Int32.toInt_toInt64, nI_toInt h, nW_toInt (by omega)]
theorem nW_mul (a b : Nat) : nW a * nW b = nW (a * b) := (Int64.ofNat_mul a b).symm
theorem nW_add (a b : Nat) : nW a + nW b = nW (a + b) := (Int64.ofNat_add a b).symm
theorem nW_div {a d : Nat} (ha : a < 2 ^ 40) (h0 : 0 < d) (hd : d < 2 ^ 40) : nW a / nW d = nW (a / d) := by
  apply Int64.toInt_inj.mp
  have hq : a / d ≤ a := Nat.div_le_self a d
  rw [Int64.toInt_div, nW_toInt (by omega), nW_toInt (by omega), nW_toInt (by omega)]
  rw [Int.tdiv_eq_ediv_of_nonneg (by omega), ← Int.natCast_ediv]
  generalize a / d = q at hq ⊢
  exact Int.bmod_eq_of_le (by omega) (by omega)
theorem nW_sub {a b : Nat} (ha : a < 2 ^ 40) (h : b ≤ a) : nW a - nW b = nW (a - b) := by
  apply Int64.toInt_inj.mp
  rw [Int64.toInt_sub, nW_toInt (by omega), nW_toInt (by omega), nW_toInt (by omega), Int.bmod_eq_of_le (by omega) (by omega)]
  omega
theorem nW_rem {a d : Nat} (ha : a < 2 ^ 40) (h0 : 0 < d) (hd : d < 2 ^ 40) : jreml (nW a) (nW d) = nW (a % d) := by
  unfold jreml
  rw [nW_div ha h0 hd, nW_mul, nW_sub ha (Nat.div_mul_le_self a d)]
  exact congrArg nW (by have := Nat.div_add_mod' a d; omega)
theorem nW_0 {a : Nat} (ha : a < 2 ^ 40) : nW a = 0 ↔ a = 0 := by
  constructor
  · intro q
    have z : (nW a).toInt = (0 : Int64).toInt := congrArg Int64.toInt q
    rw [nW_toInt (by omega)] at z
    have : (0 : Int64).toInt = 0 := by decide
    omega
  · intro q; subst q; rfl
theorem cmp_0 {a : Nat} (ha : a < 2 ^ 40) : lg_cmp (nW a) (0 : Int64) = 0 ↔ a = 0 := by
  rw [← nW_0 ha]
  unfold lg_cmp
  have z : (0 : Int64).toInt = 0 := by decide
  by_cases q : nW a = 0
  · rw [q, if_neg (by decide), if_pos rfl]
    exact ⟨fun _ => rfl, fun _ => rfl⟩
  · have : nW a > 0 := by
      show (0 : Int64) < nW a
      rw [Int64.lt_iff_toInt_lt, nW_toInt (by omega), z]
      rw [nW_0 ha] at q
      omega
    rw [if_pos this]
    exact ⟨fun e => absurd e (by decide), fun e => absurd e q⟩
theorem half {y r : Nat} (h0 : 0 < r) (h : r < y) : 2 * (y % r) < y := by
  have h1 := Nat.mod_lt y h0
  have h2 := Nat.div_add_mod y r
  have h3 : 1 ≤ y / r := Nat.div_pos (by omega) h0
  have h4 : r * 1 ≤ r * (y / r) := Nat.mul_le_mul_left r h3
  omega
theorem x_gcd (K : Int32 → Option Int64) : ∀ (k x y n i : Nat), x < 2 ^ 20 → y < 2 ^ k → k ≤ 20 → i + 2 * k + 1 ≤ 64 → 2 * k + 1 < n → f_X5_partOf_8 K n (nI x) (nI y) (nI i) = K (nI (Nat.gcd y x)) := by
  intro k
  induction k with
  | zero =>
    intro x y n i hx hy hk hi hn
    obtain ⟨n, rfl⟩ := fuel hn
    obtain rfl : y = 0 := by omega
    rw [f_X5_partOf_8_s, if_neg (show ¬ (64 : Int32) ≤ nI i from nI_nle' (a := 64) (by decide) (by omega) (by omega)), if_pos (show nI 0 = (0 : Int32) from rfl), Nat.gcd_zero_left]
  | succ k ih =>
    intro x y n i hx hy hk hi hn
    have hp : 2 ^ (k + 1) ≤ 2 ^ 20 := Nat.pow_le_pow_right (by decide) hk
    have hp2 : 2 ^ (k + 1) = 2 * 2 ^ k := by rw [Nat.pow_succ]; omega
    obtain ⟨n, rfl⟩ := fuel hn
    rw [f_X5_partOf_8_s, if_neg (show ¬ (64 : Int32) ≤ nI i from nI_nle' (a := 64) (by decide) (by omega) (by omega)), ite_p (nI0_iff (by omega))]
    by_cases q : y = 0
    · rw [if_pos q, q, Nat.gcd_zero_left]
    · have nzy : ∀ y, y < 2 ^ 31 → y ≠ 0 → nz (nI y) = true := fun y hy q => by
        unfold nz
        rw [decide_eq_false (fun e => q ((nI0_iff (by omega)).mp e))]
        rfl
      rw [if_neg q, nzy y (by omega) q, ck_true, jrem_nI (by omega) (by omega) (by omega), nI_1, Nat.gcd_rec]
      have hr : x % y < y := Nat.mod_lt x (by omega)
      obtain ⟨n, rfl⟩ : ∃ k, n = k + 1 := ⟨n - 1, by omega⟩
      rw [f_X5_partOf_8_s, if_neg (show ¬ (64 : Int32) ≤ nI (i + 1) from nI_nle' (a := 64) (by decide) (by omega) (by omega)), ite_p (nI0_iff (by omega))]
      by_cases q2 : x % y = 0
      · rw [if_pos q2, q2, Nat.gcd_zero_left]
      · rw [if_neg q2, nzy _ (by omega) q2, ck_true, jrem_nI (by omega) (by omega) (by omega), nI_1, Nat.gcd_rec]
        have := half (by omega) hr
        exact ih (x % y) (y % (x % y)) n (i + 1 + 1) (by omega) (by omega) (by omega) (by omega) (by omega)
theorem m_gcd_loop : ∀ (k x y n : Nat), x < 2 ^ 20 → y < 2 ^ 20 → y ≤ k → k < n → f_X6_gcd_6 n (nW x) (nW y) = some (nW (Nat.gcd y x)) := by
  intro k
  induction k with
  | zero =>
    intro x y n hx hy hk hn
    obtain ⟨n, rfl⟩ := fuel hn
    obtain rfl : y = 0 := by omega
    rw [f_X6_gcd_6_s, if_pos ((cmp_0 (by omega)).mpr rfl), Nat.gcd_zero_left]
  | succ k ih =>
    intro x y n hx hy hk hn
    obtain ⟨n, rfl⟩ := fuel hn
    rw [f_X6_gcd_6_s, ite_p (cmp_0 (by omega))]
    by_cases q : y = 0
    · rw [if_pos q, q, Nat.gcd_zero_left]
    · have hr : x % y < y := Nat.mod_lt x (by omega)
      have nzy : nzl (nW y) = true := by
        unfold nzl
        rw [decide_eq_false (fun e => q ((nW_0 (by omega)).mp e))]
        rfl
      rw [if_neg q, nzy, ck_true, nW_rem (by omega) (by omega) (by omega), Nat.gcd_rec]
      exact ih y (x % y) n (by omega) (by omega) (by omega) (by omega)
theorem m_gcd_half : ∀ (k x y n : Nat), x < 2 ^ 20 → y < 2 ^ k → k ≤ 20 → 2 * k + 1 < n → f_X6_gcd_6 n (nW x) (nW y) = some (nW (Nat.gcd y x)) := by
  intro k
  induction k with
  | zero =>
    intro x y n hx hy hk hn
    obtain ⟨n, rfl⟩ := fuel hn
    obtain rfl : y = 0 := by omega
    rw [f_X6_gcd_6_s, if_pos ((cmp_0 (by omega)).mpr rfl), Nat.gcd_zero_left]
  | succ k ih =>
    intro x y n hx hy hk hn
    have hp : 2 ^ (k + 1) ≤ 2 ^ 20 := Nat.pow_le_pow_right (by decide) hk
    have hp2 : 2 ^ (k + 1) = 2 * 2 ^ k := by rw [Nat.pow_succ]; omega
    obtain ⟨n, rfl⟩ := fuel hn
    have nzy : ∀ y, y < 2 ^ 31 → y ≠ 0 → nzl (nW y) = true := fun y hy q => by
      unfold nzl
      rw [decide_eq_false (fun e => q ((nW_0 (by omega)).mp e))]
      rfl
    rw [f_X6_gcd_6_s, ite_p (cmp_0 (by omega))]
    by_cases q : y = 0
    · rw [if_pos q, q, Nat.gcd_zero_left]
    · have hr : x % y < y := Nat.mod_lt x (by omega)
      rw [if_neg q, nzy y (by omega) q, ck_true, nW_rem (by omega) (by omega) (by omega), Nat.gcd_rec]
      obtain ⟨n, rfl⟩ : ∃ k, n = k + 1 := ⟨n - 1, by omega⟩
      rw [f_X6_gcd_6_s, ite_p (cmp_0 (by omega))]
      by_cases q2 : x % y = 0
      · rw [if_pos q2, q2, Nat.gcd_zero_left]
      · rw [if_neg q2, nzy _ (by omega) q2, ck_true, nW_rem (by omega) (by omega) (by omega), Nat.gcd_rec]
        have := half (by omega) hr
        exact ih (x % y) (y % (x % y)) n (by omega) (by omega) (by omega) (by omega)
theorem m_gcd {x y : Nat} (hx : x < 2 ^ 20) (hy : y < 2 ^ 20) : f_X6_gcd (nW x) (nW y) = some (nW (Nat.gcd y x)) := by
  unfold f_X6_gcd
  exact m_gcd_half 20 x y 1000 hx hy (by decide) (by decide)
/-- what both answer of a many out of b -/
def prt (a b : Nat) (z : Bool) : Int64 := if a = 0 then nW (if z then 0 else 1) else nW ((if z then a else b) / Nat.gcd a b)
theorem x_part {a b : Nat} (ha : a < 2 ^ 20) (h0 : 1 ≤ b) (hb : b < 2 ^ 20) (z : Bool) : f_X5_partOf (nI a) (nI b) (nI (if z then 0 else 1)) = some (prt a b z) := by
  unfold f_X5_partOf
  have x := fun K => x_gcd K 20 b a 1000 0 hb ha (by decide) (by decide) (by decide)
  simp only [show nI 0 = (0 : Int32) from rfl] at x
  rw [x]
  have hg : 1 ≤ Nat.gcd a b := Nat.gcd_pos_of_pos_right a h0
  have hg2 : Nat.gcd a b ≤ b := Nat.gcd_le_right a h0
  have nzg : nz (nI (Nat.gcd a b)) = true := by
    unfold nz
    rw [decide_eq_false (fun e => by have := (nI0_iff (by omega)).mp e; omega)]
    rfl
  rw [if_pos (show (1 : Int32) ≤ nI (Nat.gcd a b) from nI_le' (a := 1) (by decide) (by omega) hg), nzg, ck_true, ck_true, div_nI (by omega) (by omega) (by omega), div_nI (by omega) (by omega) (by omega)]
  have da : a / Nat.gcd a b ≤ a := Nat.div_le_self _ _
  have db : b / Nat.gcd a b ≤ b := Nat.div_le_self _ _
  rw [wide (by omega), wide (by omega)]
  unfold prt
  by_cases q : a = 0
  · subst q
    rw [if_pos rfl, Nat.gcd_zero_left, Nat.zero_div, Nat.div_self (by omega)]
    cases z <;> rfl
  · rw [if_neg q]
    cases z <;> rfl
theorem m_part {a b : Nat} (ha : a < 2 ^ 20) (hb : b < 2 ^ 20) (h0 : a ≠ 0 → 1 ≤ b) (z : Bool) : f_X6_partOf (nW a) (nW b) (nI (if z then 0 else 1)) = some (prt a b z) := by
  unfold f_X6_partOf prt
  rw [ite_p (cmp_0 (by omega))]
  by_cases q : a = 0
  · rw [if_pos q, if_pos q, wide (by cases z <;> decide)]
  · have h0 := h0 q
    have hg : 1 ≤ Nat.gcd a b := Nat.gcd_pos_of_pos_right a h0
    have hg2 : Nat.gcd a b ≤ b := Nat.gcd_le_right a h0
    have nzg : nzl (nW (Nat.gcd a b)) = true := by
      unfold nzl
      rw [decide_eq_false (fun e => by have := (nW_0 (by omega)).mp e; omega)]
      rfl
    rw [if_neg q, if_neg q, jn_eq, m_gcd ha hb, bn_some, Nat.gcd_comm b a, nzg, ck_true]
    cases z
    · rw [if_neg (by decide), nW_div (by omega) (by omega) (by omega)]
      rfl
    · rw [if_pos (by rfl), nW_div (by omega) (by omega) (by omega)]
      rfl
theorem eq_mean {tolds : Int32} {hasImage : Int32} {n_heirs : Int32} {n_left : Int32} {n_bitten : Int32} {n_kinds : (Nat → Int32)} {n_figures : (Nat → Int32)} {k_heirs : Int32} {k_left : Int32} {k_bitten : Int32} {k_kinds : (Nat → Int32)} {k_figures : (Nat → Int32)} {t_heirs : Int32} {t_left : Int32} {t_bitten : Int32} {t_kinds : (Nat → Int32)} {t_figures : (Nat → Int32)} {r_gone : Int32} {r_heaps : Int32} {r_fewestCells : Int32} {r_deed : Int32} {c_ways : (Nat → Int32)} {c_fewest : (Nat → Int32)} {c_nextWays : (Nat → Int32)} {c_nextFewest : (Nat → Int32)} {x_length : Int32} {x_letters : (Nat → Int32)} {told : (Nat → Int32)} {refusals : (Nat → Int32)} {ends : (Nat → Int32)} {m_left : Int32} {m_bites : Int32} {m_many : Int32} {m_imageLeft : Int32} {m_imageBites : Int32} {m_imageMany : Int32} {m_wasLeft : Int32} {m_wasBites : Int32} {m_wasMany : Int32} {m_hasImage : Int32} {m_letterMany : Int32} {m_rowMany : Int32} {m_place : Int32} {m_seed : Int32} {m_kind : (Nat → Int32)} {m_figure : (Nat → Int32)} {m_imageKind : (Nat → Int32)} {m_imageFigure : (Nat → Int32)} {m_wasKind : (Nat → Int32)} {m_wasFigure : (Nat → Int32)} {m_letters : (Nat → Int32)} {m_row : (Nat → Int32)} {m_refused : (Nat → Int32)} {m_numbers : (Nat → Int32)} {m_counted : (Nat → Int32)} {m_few : (Nat → Int32)} (hR : RR tolds hasImage n_heirs n_left n_bitten n_kinds n_figures k_heirs k_left k_bitten k_kinds k_figures x_length x_letters told refusals m_left m_bites m_many m_imageLeft m_imageBites m_imageMany m_hasImage m_letterMany m_rowMany m_kind m_figure m_imageKind m_imageFigure m_letters m_row m_refused) (a1 : Int32) : ∃ (o1 : Int64 × Int32 × Int32 × Int32 × Int32 × (Nat → Int32)) (o2 : Int64 × (Nat → Int32)), f_X5_mean n_heirs n_left n_kinds n_figures r_gone r_heaps r_fewestCells r_deed refusals a1 = some o1 ∧ f_X6_mean m_left m_many m_kind m_figure m_refused a1 = some o2 ∧ o1.1 = o2.1 ∧ RR tolds hasImage n_heirs n_left n_bitten n_kinds n_figures k_heirs k_left k_bitten k_kinds k_figures x_length x_letters told o1.2.2.2.2.2 m_left m_bites m_many m_imageLeft m_imageBites m_imageMany m_hasImage m_letterMany m_rowMany m_kind m_figure m_imageKind m_imageFigure m_letters m_row o2.2 := by
  have hR0 := hR
  obtain ⟨⟨h, b, K, F, rfl, hL, rfl, rfl, hh, rfl, rfl, hb, hs, hs'⟩, hT, hW, hF, hI⟩ := hR
  unfold f_X5_mean f_X6_mean
  rcases two_cases a1 with ⟨e1, e2⟩ | ⟨hv, e1, e2⟩
  · unfold f_X6_noWide
    rw [e1, e2, bn_some, bn_some, if_pos rfl, if_pos rfl, x_no2, m_no2, bn_some, bn_some, bn_some]
    exact ⟨_, _, rfl, rfl, rfl, RR_bump hR0 (by decide)⟩
  · obtain ⟨z, rfl⟩ := two_z hv
    have lt := tot_le hs hh hL
    rw [e1, e2, bn_some, bn_some, if_neg (show ¬ (1 : Int32) = 0 by decide), if_neg (show ¬ (1 : Int32) = 0 by decide), x_sums hs hh hL, bn_some, m_sums hs' hh hL, bn_some, show (1 : Int32) = nI 1 from rfl, jmax_nI (by decide) (by omega), x_part (by omega) (by omega) (by omega), bn_some, wide (by omega), wide (by omega)]
    have h0 : tot K F h n_left ≠ 0 → 1 ≤ h := fun q => by
      by_cases w : h = 0
      · subst w; exact absurd rfl q
      · omega
    rw [m_part (by omega) (by omega) h0, bn_some]
    have e : prt (tot K F h n_left) (max 1 h) z = prt (tot K F h n_left) h z := by
      by_cases q : tot K F h n_left = 0
      · unfold prt; rw [if_pos q, if_pos q]
      · rw [Nat.max_eq_right (h0 q)]
    rw [e]
    exact ⟨_, _, rfl, rfl, rfl, hR0⟩
