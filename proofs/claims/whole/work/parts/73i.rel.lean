/-! the two states agree -/
def RN (L hn bn : Int32) (ks fs : Nat → Int32) (L' hn' bn' : Int32) (ks' fs' : Nat → Int32) : Prop := ∃ (h b : Nat) (K F : Nat → Nat), L = L' ∧ Cr L ∧ hn = nI h ∧ hn' = nI h ∧ h ≤ 5 ∧ bn = nI b ∧ bn' = nI b ∧ b ≤ 999 ∧ HS K F ks fs ∧ HS K F ks' fs'
def RT (tn rn : Int32) (td rw : Nat → Int32) : Prop := ∃ t : Nat, t ≤ 16 ∧ tn = nI t ∧ rn = nI t ∧ ∀ i, i < 16 → ∃ c : Nat, c ≤ 99 ∧ td i = nI c ∧ rw i = nI c
def RW (xn mn : Int32) (xl ml : Nat → Int32) : Prop := ∃ n : Nat, n ≤ 96 ∧ xn = nI n ∧ mn = nI n ∧ ∀ i, i < 96 → ∃ c : Nat, c < 256 ∧ xl i = nI c ∧ ml i = nI c
def RF (r r' : Nat → Int32) : Prop := ∀ i, i < 7 → r i = r' i
def RI (hi mi : Int32) (P : Prop) : Prop := (hi = 0 ∧ mi = 0) ∨ (hi = 1 ∧ mi = 1 ∧ P)
def RR (tolds : Int32) (hasImage : Int32) (n_heirs : Int32) (n_left : Int32) (n_bitten : Int32) (n_kinds : Nat → Int32) (n_figures : Nat → Int32) (k_heirs : Int32) (k_left : Int32) (k_bitten : Int32) (k_kinds : Nat → Int32) (k_figures : Nat → Int32) (x_length : Int32) (x_letters : Nat → Int32) (told : Nat → Int32) (refusals : Nat → Int32) (m_left : Int32) (m_bites : Int32) (m_many : Int32) (m_imageLeft : Int32) (m_imageBites : Int32) (m_imageMany : Int32) (m_hasImage : Int32) (m_letterMany : Int32) (m_rowMany : Int32) (m_kind : Nat → Int32) (m_figure : Nat → Int32) (m_imageKind : Nat → Int32) (m_imageFigure : Nat → Int32) (m_letters : Nat → Int32) (m_row : Nat → Int32) (m_refused : Nat → Int32) : Prop :=
  RN n_left n_heirs n_bitten n_kinds n_figures m_left m_many m_bites m_kind m_figure ∧ RT tolds m_rowMany told m_row ∧ RW x_length m_letterMany x_letters m_letters ∧ RF refusals m_refused ∧ RI hasImage m_hasImage (RN k_left k_heirs k_bitten k_kinds k_figures m_imageLeft m_imageMany m_imageBites m_imageKind m_imageFigure)
theorem HS_0 : HS (fun _ => 0) (fun _ => 0) (fun _ => 0) (fun _ => 0) := fun i _ => ⟨rfl, rfl, (by decide : 0 < 6), (by decide : 0 < 10)⟩
theorem RR_start : RR 0 0 0 33554431 0 (fun _ => 0) (fun _ => 0) 0 33554431 0 (fun _ => 0) (fun _ => 0) 0 (fun _ => 0) (fun _ => 0) (fun _ => 0) 33554431 0 0 0 0 0 0 0 0 (fun _ => 0) (fun _ => 0) (fun _ => 0) (fun _ => 0) (fun _ => 0) (fun _ => 0) (fun _ => 0) :=
  ⟨⟨0, 0, _, _, rfl, cr_all, rfl, rfl, by decide, rfl, rfl, by decide, HS_0, HS_0⟩, ⟨0, by decide, rfl, rfl, fun _ _ => ⟨0, by decide, rfl, rfl⟩⟩, ⟨0, by decide, rfl, rfl, fun _ _ => ⟨0, by decide, rfl, rfl⟩⟩, fun _ _ => rfl, Or.inl ⟨rfl, rfl⟩⟩
/-! refusals -/
def bump (r : Nat → Int32) (k : Nat) : Nat → Int32 := upd r k (r k + (1 : Int32))
theorem RF_bump {r r' : Nat → Int32} (h : RF r r') {k : Nat} (hk : k < 7) : RF (bump r k) (bump r' k) := fun i hi => by
  unfold bump upd
  split
  · rw [h k hk]
  · exact h i hi
theorem x_no (r : Nat → Int32) {c : Int32} {k : Nat} (hc : -c = nI k) (hk : k < 7) : f_X5_refused r c = some (c, bump r k) := by
  unfold f_X5_refused
  rw [hc, inb_nI hk (by decide), ck_true, ck_true, nI_clamp (by omega)]
  rfl
theorem m_no (r : Nat → Int32) {c : Int32} {k : Nat} (hc : -c = nI k) (hk : k < 7) : f_X6_no r c = some (c, bump r k) := by
  unfold f_X6_no
  rw [hc, inb_nI hk (by decide), ck_true, ck_true, nI_clamp (by omega)]
  rfl
theorem x_no1 (r : Nat → Int32) : f_X5_refused r (-1 : Int32) = some ((-1 : Int32), bump r 1) := x_no r (by decide) (by decide)
theorem x_no2 (r : Nat → Int32) : f_X5_refused r (-2 : Int32) = some ((-2 : Int32), bump r 2) := x_no r (by decide) (by decide)
theorem x_no3 (r : Nat → Int32) : f_X5_refused r (-3 : Int32) = some ((-3 : Int32), bump r 3) := x_no r (by decide) (by decide)
theorem x_no4 (r : Nat → Int32) : f_X5_refused r (-4 : Int32) = some ((-4 : Int32), bump r 4) := x_no r (by decide) (by decide)
theorem x_no6 (r : Nat → Int32) : f_X5_refused r (-6 : Int32) = some ((-6 : Int32), bump r 6) := x_no r (by decide) (by decide)
theorem m_no1 (r : Nat → Int32) : f_X6_no r (-1 : Int32) = some ((-1 : Int32), bump r 1) := m_no r (by decide) (by decide)
theorem m_no2 (r : Nat → Int32) : f_X6_no r (-2 : Int32) = some ((-2 : Int32), bump r 2) := m_no r (by decide) (by decide)
theorem m_no3 (r : Nat → Int32) : f_X6_no r (-3 : Int32) = some ((-3 : Int32), bump r 3) := m_no r (by decide) (by decide)
theorem m_no4 (r : Nat → Int32) : f_X6_no r (-4 : Int32) = some ((-4 : Int32), bump r 4) := m_no r (by decide) (by decide)
theorem m_no6 (r : Nat → Int32) : f_X6_no r (-6 : Int32) = some ((-6 : Int32), bump r 6) := m_no r (by decide) (by decide)
/-! arguments in their ranges -/
theorem rng (a : Int32) {n : Nat} (hn : n < 2 ^ 31 - 1) : a < 0 ∨ nI n < a ∨ ∃ j : Nat, j ≤ n ∧ a = nI j := by
  rcases pk_ix a (n := n + 1) (by omega) with h | h | ⟨j, h1, h2⟩
  · exact Or.inl h
  · refine Or.inr (Or.inl ?_)
    rw [Int32.le_iff_toInt_le, nI_toInt (by omega)] at h
    rw [Int32.lt_iff_toInt_lt, nI_toInt (by omega)]
    omega
  · exact Or.inr (Or.inr ⟨j, by omega, h2⟩)
theorem not_lt0 {j : Nat} (h : j < 2 ^ 31) : ¬ nI j < 0 := nI_pos h
theorem isIn_no1 {a b c : Int32} (h : a < b) : f_X6_isIn a b c = some (0 : Int32) := by unfold f_X6_isIn; rw [if_pos h]
theorem isIn_no2 {a b c : Int32} (h : c < a) : f_X6_isIn a b c = some (0 : Int32) := by
  unfold f_X6_isIn
  rw [if_pos h]
  split <;> rfl
theorem isIn_yes {j n : Nat} (h : j ≤ n) (hn : n < 2 ^ 31) : f_X6_isIn (nI j) (0 : Int32) (nI n) = some (1 : Int32) := by
  unfold f_X6_isIn
  rw [if_neg (not_lt0 (by omega)), if_neg (by rw [nI_ltI hn (by omega)]; omega)]
theorem two_cases (a : Int32) : (f_X5_isTwofold a = some (0 : Int32) ∧ f_X6_isIn a (0 : Int32) (1 : Int32) = some (0 : Int32)) ∨ ((a = 0 ∨ a = 1) ∧ f_X5_isTwofold a = some (1 : Int32) ∧ f_X6_isIn a (0 : Int32) (1 : Int32) = some (1 : Int32)) := by
  by_cases h0 : a = 0
  · subst h0; exact Or.inr ⟨Or.inl rfl, by decide, by decide⟩
  by_cases h1 : a = 1
  · subst h1; exact Or.inr ⟨Or.inr rfl, by decide, by decide⟩
  refine Or.inl ⟨by unfold f_X5_isTwofold; rw [if_neg h0, if_neg h1], ?_⟩
  rcases rng a (n := 1) (by decide) with h | h | ⟨j, hj, rfl⟩
  · exact isIn_no1 h
  · exact isIn_no2 h
  · exfalso
    have : j = 0 ∨ j = 1 := by omega
    rcases this with rfl | rfl
    · exact h0 rfl
    · exact h1 rfl
theorem cell_cases (a : Int32) : (f_X5_isCell a = some (0 : Int32) ∧ f_X6_isCell a = some (0 : Int32)) ∨ ∃ c : Nat, c < 25 ∧ a = nI c ∧ f_X5_isCell a = some (1 : Int32) ∧ f_X6_isCell a = some (1 : Int32) := by
  rcases rng a (n := 24) (by decide) with h | h | ⟨j, hj, rfl⟩
  · refine Or.inl ⟨by unfold f_X5_isCell; rw [if_pos h], ?_⟩
    unfold f_X6_isCell; rw [isIn_no1 h, bn_some]; rfl
  · refine Or.inl ⟨?_, by unfold f_X6_isCell; rw [isIn_no2 (c := (24 : Int32)) h, bn_some]; rfl⟩
    unfold f_X5_isCell
    rw [if_pos (show (25 : Int32) ≤ a from ?_)]
    · split <;> rfl
    · rw [Int32.lt_iff_toInt_lt, nI_toInt (by decide)] at h
      rw [Int32.le_iff_toInt_le]
      have : (25 : Int32).toInt = 25 := by decide
      omega
  · refine Or.inr ⟨j, by omega, rfl, ?_, ?_⟩
    · unfold f_X5_isCell
      rw [if_neg (not_lt0 (by omega)), if_neg (show ¬ (25 : Int32) ≤ nI j by show ¬ nI 25 ≤ nI j; rw [nI_leI (by decide) (by omega)]; omega)]
    · unfold f_X6_isCell
      rw [show (24 : Int32) = nI 24 from rfl, isIn_yes hj (by decide), bn_some]; rfl
theorem heir_cases {h : Nat} (hh : h ≤ 5) (a : Int32) : (f_X5_isHeir (nI h) a = some (0 : Int32) ∧ f_X6_isHeir (nI h) a = some (0 : Int32)) ∨ ∃ j : Nat, j < h ∧ a = nI j ∧ f_X5_isHeir (nI h) a = some (1 : Int32) ∧ f_X6_isHeir (nI h) a = some (1 : Int32) := by
  have e : (nI h - (1 : Int32)).toInt = (h : Int) - 1 := pk_sub_toInt (a := h) (b := 1) (by omega) (by decide)
  rcases pk_ix a (n := h) (by omega) with q | q | ⟨j, hj, rfl⟩
  · refine Or.inl ⟨by unfold f_X5_isHeir; rw [if_pos q], ?_⟩
    unfold f_X6_isHeir; rw [isIn_no1 q, bn_some]; rfl
  · refine Or.inl ⟨by unfold f_X5_isHeir; rw [if_pos q]; split <;> rfl, ?_⟩
    unfold f_X6_isHeir
    rw [isIn_no2, bn_some]
    · rfl
    · rw [Int32.le_iff_toInt_le, nI_toInt (by omega)] at q
      rw [Int32.lt_iff_toInt_lt, e]
      omega
  · refine Or.inr ⟨j, hj, rfl, ?_, ?_⟩
    · unfold f_X5_isHeir
      rw [if_neg (not_lt0 (by omega)), if_neg (show ¬ nI h ≤ nI j by rw [nI_leI (by omega) (by omega)]; omega)]
    · unfold f_X6_isHeir
      rw [show (1 : Int32) = nI 1 from rfl, pk_sub (by omega), isIn_yes (by omega) (by omega), bn_some]; rfl
