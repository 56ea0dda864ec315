/-- the two states agree (what scratch they hold apart) -/
def RR (tolds : Int32) (hasImage : Int32) (n_heirs : Int32) (n_left : Int32) (n_bitten : Int32) (n_kinds : Nat → Int32) (n_figures : Nat → Int32) (k_heirs : Int32) (k_left : Int32) (k_bitten : Int32) (k_kinds : Nat → Int32) (k_figures : Nat → Int32) (x_length : Int32) (x_letters : Nat → Int32) (told : Nat → Int32) (refusals : Nat → Int32) (m_left : Int32) (m_bites : Int32) (m_many : Int32) (m_imageLeft : Int32) (m_imageBites : Int32) (m_imageMany : Int32) (m_hasImage : Int32) (m_letterMany : Int32) (m_rowMany : Int32) (m_kind : Nat → Int32) (m_figure : Nat → Int32) (m_imageKind : Nat → Int32) (m_imageFigure : Nat → Int32) (m_letters : Nat → Int32) (m_row : Nat → Int32) (m_refused : Nat → Int32) : Prop :=
  (n_left = m_left ∧ n_heirs = m_many ∧ n_bitten = m_bites ∧ hasImage = m_hasImage ∧ x_length = m_letterMany ∧ tolds = m_rowMany) ∧
  (∀ i, i < 5 → n_kinds i = m_kind i ∧ n_figures i = m_figure i) ∧
  (∀ i, i < 7 → refusals i = m_refused i) ∧
  (∀ i, i < 96 → x_letters i = m_letters i) ∧ (∀ i, i < 16 → told i = m_row i) ∧
  (hasImage = 0 ∨ hasImage = 1) ∧
  (hasImage = 1 → k_left = m_imageLeft ∧ k_heirs = m_imageMany ∧ k_bitten = m_imageBites ∧ ∀ i, i < 5 → k_kinds i = m_imageKind i ∧ k_figures i = m_imageFigure i) ∧
  (0 ≤ n_left.toInt ∧ n_left.toInt < 33554432 ∧ 0 ≤ n_heirs.toInt ∧ n_heirs.toInt ≤ 5 ∧ 0 ≤ n_bitten.toInt ∧ n_bitten.toInt ≤ 999 ∧ 0 ≤ tolds.toInt ∧ tolds.toInt ≤ 16 ∧ 0 ≤ x_length.toInt ∧ x_length.toInt ≤ 96) ∧
  (∀ i, i < 5 → 0 ≤ (n_kinds i).toInt ∧ (n_kinds i).toInt < 6 ∧ 0 ≤ (n_figures i).toInt ∧ (n_figures i).toInt < 10) ∧
  (hasImage = 1 → (0 ≤ k_left.toInt ∧ k_left.toInt < 33554432 ∧ 0 ≤ k_heirs.toInt ∧ k_heirs.toInt ≤ 5 ∧ 0 ≤ k_bitten.toInt ∧ k_bitten.toInt ≤ 999) ∧ ∀ i, i < 5 → 0 ≤ (k_kinds i).toInt ∧ (k_kinds i).toInt < 6 ∧ 0 ≤ (k_figures i).toInt ∧ (k_figures i).toInt < 10) ∧
  (∀ i, i < 96 → 0 ≤ (x_letters i).toInt ∧ (x_letters i).toInt ≤ 255) ∧ (∀ i, i < 16 → 0 ≤ (told i).toInt ∧ (told i).toInt ≤ 99)
theorem RR_start : RR 0 0 0 33554431 0 (fun _ => 0) (fun _ => 0) 0 33554431 0 (fun _ => 0) (fun _ => 0) 0 (fun _ => 0) (fun _ => 0) (fun _ => 0) 33554431 0 0 0 0 0 0 0 0 (fun _ => 0) (fun _ => 0) (fun _ => 0) (fun _ => 0) (fun _ => 0) (fun _ => 0) (fun _ => 0) := by
  refine ⟨by decide, ?_, ?_, ?_, ?_, by decide, ?_, by decide, ?_, ?_, ?_, ?_⟩ <;> simp
