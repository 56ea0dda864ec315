def wX (ad : Nat → Nat) (kc : Nat → Nat) (cI : ClassId) (tolds : Int32) (hasImage : Int32) (n_heirs : Int32) (n_left : Int32) (n_bitten : Int32) (n_kinds : (Nat → Int32)) (n_figures : (Nat → Int32)) (k_heirs : Int32) (k_left : Int32) (k_bitten : Int32) (k_kinds : (Nat → Int32)) (k_figures : (Nat → Int32)) (t_heirs : Int32) (t_left : Int32) (t_bitten : Int32) (t_kinds : (Nat → Int32)) (t_figures : (Nat → Int32)) (r_gone : Int32) (r_heaps : Int32) (r_fewestCells : Int32) (r_deed : Int32) (c_ways : (Nat → Int32)) (c_fewest : (Nat → Int32)) (c_nextWays : (Nat → Int32)) (c_nextFewest : (Nat → Int32)) (x_length : Int32) (x_letters : (Nat → Int32)) (told : (Nat → Int32)) (refusals : (Nat → Int32)) (ends : (Nat → Int32)) : va_W := [((ad 0), .inr (4, [.ref (ad 1), .ref (ad 4), .ref (ad 7), .ref (ad 10), .ref (ad 11), .ref (ad 12), .ref (ad 14), .ref (ad 15), .ref (ad 16), .int tolds, .int hasImage])), ((ad 1), .inr (0, [.ref (ad 2), .ref (ad 3), .int n_heirs, .int n_left, .int n_bitten])), ((ad 2), .inl (cI, 5, .inl n_kinds)), ((ad 3), .inl (cI, 5, .inl n_figures)), ((ad 4), .inr (0, [.ref (ad 5), .ref (ad 6), .int k_heirs, .int k_left, .int k_bitten])), ((ad 5), .inl (cI, 5, .inl k_kinds)), ((ad 6), .inl (cI, 5, .inl k_figures)), ((ad 7), .inr (0, [.ref (ad 8), .ref (ad 9), .int t_heirs, .int t_left, .int t_bitten])), ((ad 8), .inl (cI, 5, .inl t_kinds)), ((ad 9), .inl (cI, 5, .inl t_figures)), ((ad 10), .inr (2, [.int r_gone, .int r_heaps, .int r_fewestCells, .int r_deed])), ((ad 11), .inr (1, [.ref (kc 0), .ref (kc 1), .ref (kc 2), .ref (kc 3)])), ((kc 0), .inl (cI, 64, .inl c_ways)), ((kc 1), .inl (cI, 64, .inl c_fewest)), ((kc 2), .inl (cI, 64, .inl c_nextWays)), ((kc 3), .inl (cI, 64, .inl c_nextFewest)), ((ad 12), .inr (3, [.ref (ad 13), .int x_length])), ((ad 13), .inl (cI, 96, .inl x_letters)), ((ad 14), .inl (cI, 16, .inl told)), ((ad 15), .inl (cI, 7, .inl refusals)), ((ad 16), .inl (cI, 4, .inl ends))]
def wM (ad : Nat → Nat) (cI : ClassId) (m_left : Int32) (m_bites : Int32) (m_many : Int32) (m_imageLeft : Int32) (m_imageBites : Int32) (m_imageMany : Int32) (m_wasLeft : Int32) (m_wasBites : Int32) (m_wasMany : Int32) (m_hasImage : Int32) (m_letterMany : Int32) (m_rowMany : Int32) (m_place : Int32) (m_seed : Int32) (m_kind : (Nat → Int32)) (m_figure : (Nat → Int32)) (m_imageKind : (Nat → Int32)) (m_imageFigure : (Nat → Int32)) (m_wasKind : (Nat → Int32)) (m_wasFigure : (Nat → Int32)) (m_letters : (Nat → Int32)) (m_row : (Nat → Int32)) (m_refused : (Nat → Int32)) (m_numbers : (Nat → Int32)) (m_counted : (Nat → Int32)) (m_few : (Nat → Int32)) : va_W := [((ad 0), .inr (5, [.int m_left, .int m_bites, .int m_many, .int m_imageLeft, .int m_imageBites, .int m_imageMany, .int m_wasLeft, .int m_wasBites, .int m_wasMany, .ref (ad 1), .ref (ad 2), .ref (ad 3), .ref (ad 4), .ref (ad 5), .ref (ad 6), .int m_hasImage, .ref (ad 7), .ref (ad 8), .ref (ad 9), .int m_letterMany, .int m_rowMany, .int m_place, .ref (ad 10), .ref (ad 11), .ref (ad 12), .int m_seed])), ((ad 1), .inl (cI, 5, .inl m_kind)), ((ad 2), .inl (cI, 5, .inl m_figure)), ((ad 3), .inl (cI, 5, .inl m_imageKind)), ((ad 4), .inl (cI, 5, .inl m_imageFigure)), ((ad 5), .inl (cI, 5, .inl m_wasKind)), ((ad 6), .inl (cI, 5, .inl m_wasFigure)), ((ad 7), .inl (cI, 96, .inl m_letters)), ((ad 8), .inl (cI, 16, .inl m_row)), ((ad 9), .inl (cI, 7, .inl m_refused)), ((ad 10), .inl (cI, 2, .inl m_numbers)), ((ad 11), .inl (cI, 3328, .inl m_counted)), ((ad 12), .inl (cI, 3328, .inl m_few))]
def wCore (b0 : Nat) (b1 : Nat) (b2 : Nat) (cI : ClassId) (o_heirs : Int32) (o_left : Int32) (o_bitten : Int32) (o_kinds : (Nat → Int32)) (o_figures : (Nat → Int32)) : va_W := [(b0, .inr (0, [.ref b1, .ref b2, .int o_heirs, .int o_left, .int o_bitten])), (b1, .inl (cI, 5, .inl o_kinds)), (b2, .inl (cI, 5, .inl o_figures))]
def wCore2 (b0 : Nat) (b1 : Nat) (b2 : Nat) (b3 : Nat) (b4 : Nat) (b5 : Nat) (cI : ClassId) (o_heirs : Int32) (o_left : Int32) (o_bitten : Int32) (o_kinds : (Nat → Int32)) (o_figures : (Nat → Int32)) (q_heirs : Int32) (q_left : Int32) (q_bitten : Int32) (q_kinds : (Nat → Int32)) (q_figures : (Nat → Int32)) : va_W := [(b0, .inr (0, [.ref b1, .ref b2, .int o_heirs, .int o_left, .int o_bitten])), (b1, .inl (cI, 5, .inl o_kinds)), (b2, .inl (cI, 5, .inl o_figures)), (b3, .inr (0, [.ref b4, .ref b5, .int q_heirs, .int q_left, .int q_bitten])), (b4, .inl (cI, 5, .inl q_kinds)), (b5, .inl (cI, 5, .inl q_figures))]
def wReading (b0 : Nat) (cI : ClassId) (r_gone : Int32) (r_heaps : Int32) (r_fewestCells : Int32) (r_deed : Int32) : va_W := [(b0, .inr (2, [.int r_gone, .int r_heaps, .int r_fewestCells, .int r_deed]))]
def wCover (b0 : Nat) (kc : Nat → Nat) (cI : ClassId) (c_ways : (Nat → Int32)) (c_fewest : (Nat → Int32)) (c_nextWays : (Nat → Int32)) (c_nextFewest : (Nat → Int32)) : va_W := [(b0, .inr (1, [.ref (kc 0), .ref (kc 1), .ref (kc 2), .ref (kc 3)])), ((kc 0), .inl (cI, 64, .inl c_ways)), ((kc 1), .inl (cI, 64, .inl c_fewest)), ((kc 2), .inl (cI, 64, .inl c_nextWays)), ((kc 3), .inl (cI, 64, .inl c_nextFewest))]
def wText (b0 : Nat) (b1 : Nat) (cI : ClassId) (x_length : Int32) (x_letters : (Nat → Int32)) : va_W := [(b0, .inr (3, [.ref b1, .int x_length])), (b1, .inl (cI, 96, .inl x_letters))]
def wTextCore (b0 : Nat) (b1 : Nat) (b2 : Nat) (b3 : Nat) (b4 : Nat) (cI : ClassId) (x_length : Int32) (x_letters : (Nat → Int32)) (o_heirs : Int32) (o_left : Int32) (o_bitten : Int32) (o_kinds : (Nat → Int32)) (o_figures : (Nat → Int32)) : va_W := [(b0, .inr (3, [.ref b1, .int x_length])), (b1, .inl (cI, 96, .inl x_letters)), (b2, .inr (0, [.ref b3, .ref b4, .int o_heirs, .int o_left, .int o_bitten])), (b3, .inl (cI, 5, .inl o_kinds)), (b4, .inl (cI, 5, .inl o_figures))]
def sw (kc : Nat → Nat) : Nat → Nat := fun i => kc (if i = 0 then 2 else if i = 1 then 3 else if i = 2 then 0 else if i = 3 then 1 else i)
theorem ic_0 : Int32.ofInt (0) = (0 : Int32) := by decide
theorem ic_5 : Int32.ofInt (5) = (5 : Int32) := by decide
theorem ic_1 : Int32.ofInt (1) = (1 : Int32) := by decide
theorem ic_3 : Int32.ofInt (3) = (3 : Int32) := by decide
theorem bp_64 : (Int8.ofInt (64)).toInt32 = (64 : Int32) := by decide
theorem sp_1000 : (Int16.ofInt (1000)).toInt32 = (1000 : Int32) := by decide
theorem ic_4 : Int32.ofInt (4) = (4 : Int32) := by decide
theorem bp_25 : (Int8.ofInt (25)).toInt32 = (25 : Int32) := by decide
theorem ic_m1 : Int32.ofInt (-1) = (-1 : Int32) := by decide
theorem bp_m9 : (Int8.ofInt (-9)).toInt32 = (-9 : Int32) := by decide
theorem bp_96 : (Int8.ofInt (96)).toInt32 = (96 : Int32) := by decide
theorem bp_48 : (Int8.ofInt (48)).toInt32 = (48 : Int32) := by decide
theorem bp_10 : (Int8.ofInt (10)).toInt32 = (10 : Int32) := by decide
theorem sp_255 : (Int16.ofInt (255)).toInt32 = (255 : Int32) := by decide
theorem bp_m6 : (Int8.ofInt (-6)).toInt32 = (-6 : Int32) := by decide
theorem bp_m2 : (Int8.ofInt (-2)).toInt32 = (-2 : Int32) := by decide
theorem bp_100 : (Int8.ofInt (100)).toInt32 = (100 : Int32) := by decide
theorem bp_99 : (Int8.ofInt (99)).toInt32 = (99 : Int32) := by decide
theorem bp_20 : (Int8.ofInt (20)).toInt32 = (20 : Int32) := by decide
theorem bp_m3 : (Int8.ofInt (-3)).toInt32 = (-3 : Int32) := by decide
theorem sp_256 : (Int16.ofInt (256)).toInt32 = (256 : Int32) := by decide
theorem bp_24 : (Int8.ofInt (24)).toInt32 = (24 : Int32) := by decide
theorem ic_2 : Int32.ofInt (2) = (2 : Int32) := by decide
theorem sp_14336 : (Int16.ofInt (14336)).toInt32 = (14336 : Int32) := by decide
theorem bp_m4 : (Int8.ofInt (-4)).toInt32 = (-4 : Int32) := by decide
theorem bp_57 : (Int8.ofInt (57)).toInt32 = (57 : Int32) := by decide
theorem bp_59 : (Int8.ofInt (59)).toInt32 = (59 : Int32) := by decide
theorem sp_999 : (Int16.ofInt (999)).toInt32 = (999 : Int32) := by decide
theorem sp_m1000 : (Int16.ofInt (-1000)).toInt32 = (-1000 : Int32) := by decide
theorem sp_m2000 : (Int16.ofInt (-2000)).toInt32 = (-2000 : Int32) := by decide
theorem bp_9 : (Int8.ofInt (9)).toInt32 = (9 : Int32) := by decide
theorem bp_40 : (Int8.ofInt (40)).toInt32 = (40 : Int32) := by decide
theorem sp_128 : (Int16.ofInt (128)).toInt32 = (128 : Int32) := by decide
theorem sp_3328 : (Int16.ofInt (3328)).toInt32 = (3328 : Int32) := by decide
theorem sp_3200 : (Int16.ofInt (3200)).toInt32 = (3200 : Int32) := by decide
theorem lc_0 : Int64.ofNat ((0 : Fin 2) : Nat) = (0 : Int64) := by decide
theorem lc_1 : Int64.ofNat ((1 : Fin 2) : Nat) = (1 : Int64) := by decide
theorem bp_6 : (Int8.ofInt (6)).toInt32 = (6 : Int32) := by decide
theorem bp_16 : (Int8.ofInt (16)).toInt32 = (16 : Int32) := by decide
theorem bp_11 : (Int8.ofInt (11)).toInt32 = (11 : Int32) := by decide
theorem bp_8 : (Int8.ofInt (8)).toInt32 = (8 : Int32) := by decide
theorem bp_63 : (Int8.ofInt (63)).toInt32 = (63 : Int32) := by decide
theorem bp_75 : (Int8.ofInt (75)).toInt32 = (75 : Int32) := by decide
