/-! fewest: the reference's side -/
theorem m_gd {K F : Nat → Nat} {nk nf : Nat → Int32} (hs : HS K F nk nf) {j t : Nat} (hj : j < 5) (ht : t ≤ 40) {L : Int32} (hL : Cr L) : (bn (f_X6_shareOf nk nf L (nI j)) (fun (r34 : Int32) => if r34 < nI t then (some (0 : Int32)) else (some (1 : Int32)))) = some (nI (if gd K F j t L then 1 else 0)) := by
  rw [m_shareOf hs hj hL, bn_some, gd_ite hs hj ht hL]
  cases gd K F j t L <;> rfl
theorem m_so0 {K F : Nat → Nat} {nk nf : Nat → Int32} (hs : HS K F nk nf) {j t : Nat} (hj : j < 5) (ht : t ≤ 40) {L : Int32} (hL : Cr L) : f_X6_isSoBy_0 nk nf L (nI j) (nI t) (0 : Int32) = some (nI (if gd K F j t L then 1 else 0)) := by
  unfold f_X6_isSoBy_0
  rw [if_pos rfl]
  exact m_gd hs hj ht hL
theorem m_so1_in {K F : Nat → Nat} {nk nf : Nat → Int32} (hs : HS K F nk nf) {j t : Nat} (hj : j < 5) (ht : t ≤ 40) {L : Int32} (hL : Cr L) {s : Nat} (hsp : s < 4) (k : Unit → Option Int32) : ∀ (m c n : Nat), c + m = 25 → m < n → f_X6_isSoBy_1_33 L (nI j) (nI t) (1 : Int32) (nI s) nk nf k n (nI c) = match sF (p1 K F j t L) m (25 * s + c) with | some _ => some (1 : Int32) | none => k () := by
  intro m
  induction m with
  | zero =>
    intro c n hi hn
    obtain ⟨n, rfl⟩ := fuel hn
    obtain rfl : c = 25 := by omega
    rw [f_X6_isSoBy_1_33_s, if_pos (by decide)]
    rfl
  | succ m ih =>
    intro c n hi hn
    obtain ⟨n, rfl⟩ := fuel hn
    have hB : 25 * s + c < 100 := by omega
    have cm := m_canBite hB L
    have cx := (ce_x (25 * s + c) hB).2
    rw [show (25 * s + c) / 25 = s by omega, show (25 * s + c) % 25 = c by omega] at cm cx
    rw [f_X6_isSoBy_1_33_s, if_neg (show ¬ (25 : Int32) ≤ nI c from nI_nle' (a := 25) (by decide) (by omega) (by omega)), cm, bn_some, nI_1, sF_s]
    have I := ih (c + 1) n (by omega) (by omega)
    rw [show 25 * s + (c + 1) = 25 * s + c + 1 by omega] at I
    unfold p1
    cases hc : canB (25 * s + c) L with
    | false =>
      rw [if_pos (show nI (if false = true then 1 else 0) = 0 from rfl), Bool.false_and, if_neg (show ¬ false = true by decide)]
      exact I
    | true =>
      rw [if_neg (show ¬ nI (if true = true then 1 else 0) = 0 by decide), cx, bn_some, ← bh_can hc, show (1 : Int32) - 1 = 0 by decide, m_so0 hs hj ht (cr_bh hL), bn_some, Bool.true_and]
      cases gd K F j t (bh (25 * s + c) L) with
      | false =>
        rw [if_pos (show nI (if false = true then 1 else 0) = 0 from rfl), if_neg (show ¬ false = true by decide)]
        exact I
      | true =>
        rw [if_neg (show ¬ nI (if true = true then 1 else 0) = 0 by decide), if_pos rfl]
theorem m_so1_out {K F : Nat → Nat} {nk nf : Nat → Int32} (hs : HS K F nk nf) {j t : Nat} (hj : j < 5) (ht : t ≤ 40) {L : Int32} (hL : Cr L) : ∀ (m s n : Nat), s + m = 4 → m < n → f_X6_isSoBy_1_24 L (nI j) (nI t) (1 : Int32) nk nf n (nI s) = match sF (p1 K F j t L) (25 * m) (25 * s) with | some _ => some (1 : Int32) | none => some (0 : Int32) := by
  intro m
  induction m with
  | zero =>
    intro s n hi hn
    obtain ⟨n, rfl⟩ := fuel hn
    obtain rfl : s = 4 := by omega
    rw [f_X6_isSoBy_1_24_s, if_pos (by decide)]
    rfl
  | succ m ih =>
    intro s n hi hn
    obtain ⟨n, rfl⟩ := fuel hn
    have z := m_so1_in hs hj ht hL (show s < 4 by omega) (fun (e11 : Unit) => f_X6_isSoBy_1_24 L (nI j) (nI t) (1 : Int32) nk nf n ((nI s) + (1 : Int32))) 25 0 1000 rfl (by decide)
    rw [show nI 0 = (0 : Int32) from rfl, Nat.add_zero, nI_1] at z
    rw [f_X6_isSoBy_1_24_s, if_neg (show ¬ (4 : Int32) ≤ nI s from nI_nle' (a := 4) (by decide) (by omega) (by omega)), nI_1, z, show 25 * (m + 1) = 25 + 25 * m by omega, sF_split _ 25 (25 * m) (25 * s)]
    cases sF (p1 K F j t L) 25 (25 * s) with
    | some b => rfl
    | none => exact ih (s + 1) n (by omega) (by omega)
theorem m_so1 {K F : Nat → Nat} {nk nf : Nat → Int32} (hs : HS K F nk nf) {j t : Nat} (hj : j < 5) (ht : t ≤ 40) {L : Int32} (hL : Cr L) : f_X6_isSoBy_1 nk nf L (nI j) (nI t) (1 : Int32) = some (nI (if so1 K F j t L then 1 else 0)) := by
  unfold f_X6_isSoBy_1
  rw [if_neg (show ¬ (1 : Int32) = 0 by decide)]
  have z := m_so1_out hs hj ht hL 4 0 1000 rfl (by decide)
  rw [show nI 0 = (0 : Int32) from rfl] at z
  rw [z]
  unfold so1
  show (match sF (p1 K F j t L) 100 0 with | some _ => some (1 : Int32) | none => some (0 : Int32)) = _
  cases sF (p1 K F j t L) 100 0 <;> rfl
theorem m_so1z {K F : Nat → Nat} {nk nf : Nat → Int32} (hs : HS K F nk nf) {j t : Nat} (hj : j < 5) (ht : t ≤ 40) {L : Int32} (hL : Cr L) : f_X6_isSoBy_1 nk nf L (nI j) (nI t) (0 : Int32) = some (nI (if gd K F j t L then 1 else 0)) := by
  unfold f_X6_isSoBy_1
  rw [if_pos rfl]
  exact m_gd hs hj ht hL
/-- the reference's test with e bites to go, e = 1 or 2 -/
def pe (K F : Nat → Nat) (j t : Nat) (e : Nat) (L : Int32) (b : Nat) : Bool := if e = 1 then p1 K F j t L b else p2 K F j t L b
theorem m_so1e {K F : Nat → Nat} {nk nf : Nat → Int32} (hs : HS K F nk nf) {j t : Nat} (hj : j < 5) (ht : t ≤ 40) {L : Int32} (hL : Cr L) {e : Nat} (he : e = 1 ∨ e = 2) : f_X6_isSoBy_1 nk nf L (nI j) (nI t) (nI e - (1 : Int32)) = some (nI (if (if e = 1 then gd K F j t L else so1 K F j t L) then 1 else 0)) := by
  rcases he with rfl | rfl
  · rw [show nI 1 - (1 : Int32) = 0 by decide, m_so1z hs hj ht hL]; rfl
  · rw [show nI 2 - (1 : Int32) = 1 by decide, m_so1 hs hj ht hL]; rfl
theorem m_so2_in {K F : Nat → Nat} {nk nf : Nat → Int32} (hs : HS K F nk nf) {j t : Nat} (hj : j < 5) (ht : t ≤ 40) {L : Int32} (hL : Cr L) {e : Nat} (he : e = 1 ∨ e = 2) {s : Nat} (hsp : s < 4) (k : Unit → Option Int32) : ∀ (m c n : Nat), c + m = 25 → m < n → f_X6_isSoBy_2_33 L (nI j) (nI t) (nI e) (nI s) nk nf k n (nI c) = match sF (pe K F j t e L) m (25 * s + c) with | some _ => some (1 : Int32) | none => k () := by
  intro m
  induction m with
  | zero =>
    intro c n hi hn
    obtain ⟨n, rfl⟩ := fuel hn
    obtain rfl : c = 25 := by omega
    rw [f_X6_isSoBy_2_33_s, if_pos (by decide)]
    rfl
  | succ m ih =>
    intro c n hi hn
    obtain ⟨n, rfl⟩ := fuel hn
    have hB : 25 * s + c < 100 := by omega
    have cm := m_canBite hB L
    have cx := (ce_x (25 * s + c) hB).2
    rw [show (25 * s + c) / 25 = s by omega, show (25 * s + c) % 25 = c by omega] at cm cx
    rw [f_X6_isSoBy_2_33_s, if_neg (show ¬ (25 : Int32) ≤ nI c from nI_nle' (a := 25) (by decide) (by omega) (by omega)), cm, bn_some, nI_1, sF_s]
    have I := ih (c + 1) n (by omega) (by omega)
    rw [show 25 * s + (c + 1) = 25 * s + c + 1 by omega] at I
    have ep : pe K F j t e L (25 * s + c) = (canB (25 * s + c) L && (if e = 1 then gd K F j t (bh (25 * s + c) L) else so1 K F j t (bh (25 * s + c) L))) := by
      unfold pe p1 p2
      rcases he with rfl | rfl <;> rfl
    rw [ep]
    cases hc : canB (25 * s + c) L with
    | false =>
      rw [if_pos (show nI (if false = true then 1 else 0) = 0 from rfl), Bool.false_and, if_neg (show ¬ false = true by decide)]
      exact I
    | true =>
      rw [if_neg (show ¬ nI (if true = true then 1 else 0) = 0 by decide), cx, bn_some, ← bh_can hc, m_so1e hs hj ht (cr_bh hL) he, bn_some, Bool.true_and]
      cases (if e = 1 then gd K F j t (bh (25 * s + c) L) else so1 K F j t (bh (25 * s + c) L)) with
      | false =>
        rw [if_pos (show nI (if false = true then 1 else 0) = 0 from rfl), if_neg (show ¬ false = true by decide)]
        exact I
      | true =>
        rw [if_neg (show ¬ nI (if true = true then 1 else 0) = 0 by decide), if_pos rfl]
theorem m_so2_out {K F : Nat → Nat} {nk nf : Nat → Int32} (hs : HS K F nk nf) {j t : Nat} (hj : j < 5) (ht : t ≤ 40) {L : Int32} (hL : Cr L) {e : Nat} (he : e = 1 ∨ e = 2) : ∀ (m s n : Nat), s + m = 4 → m < n → f_X6_isSoBy_2_24 L (nI j) (nI t) (nI e) nk nf n (nI s) = match sF (pe K F j t e L) (25 * m) (25 * s) with | some _ => some (1 : Int32) | none => some (0 : Int32) := by
  intro m
  induction m with
  | zero =>
    intro s n hi hn
    obtain ⟨n, rfl⟩ := fuel hn
    obtain rfl : s = 4 := by omega
    rw [f_X6_isSoBy_2_24_s, if_pos (by decide)]
    rfl
  | succ m ih =>
    intro s n hi hn
    obtain ⟨n, rfl⟩ := fuel hn
    have z := m_so2_in hs hj ht hL he (show s < 4 by omega) (fun (e11 : Unit) => f_X6_isSoBy_2_24 L (nI j) (nI t) (nI e) nk nf n ((nI s) + (1 : Int32))) 25 0 1000 rfl (by decide)
    rw [show nI 0 = (0 : Int32) from rfl, Nat.add_zero, nI_1] at z
    rw [f_X6_isSoBy_2_24_s, if_neg (show ¬ (4 : Int32) ≤ nI s from nI_nle' (a := 4) (by decide) (by omega) (by omega)), nI_1, z, show 25 * (m + 1) = 25 + 25 * m by omega, sF_split _ 25 (25 * m) (25 * s)]
    cases sF (pe K F j t e L) 25 (25 * s) with
    | some b => rfl
    | none => exact ih (s + 1) n (by omega) (by omega)
theorem m_so2 {K F : Nat → Nat} {nk nf : Nat → Int32} (hs : HS K F nk nf) {j t : Nat} (hj : j < 5) (ht : t ≤ 40) {L : Int32} (hL : Cr L) {e : Nat} (he : e = 1 ∨ e = 2) : f_X6_isSoBy_2 nk nf L (nI j) (nI t) (nI e) = some (nI (if (sF (pe K F j t e L) 100 0).isSome then 1 else 0)) := by
  unfold f_X6_isSoBy_2
  rw [if_neg (show ¬ nI e = (0 : Int32) from fun q => by have := (nI0_iff (by omega)).mp q; omega)]
  have z := m_so2_out hs hj ht hL he 4 0 1000 rfl (by decide)
  rw [show nI 0 = (0 : Int32) from rfl] at z
  rw [z]
  show (match sF (pe K F j t e L) 100 0 with | some _ => some (1 : Int32) | none => some (0 : Int32)) = _
  cases sF (pe K F j t e L) 100 0 <;> rfl
theorem m_so2z {K F : Nat → Nat} {nk nf : Nat → Int32} (hs : HS K F nk nf) {j t : Nat} (hj : j < 5) (ht : t ≤ 40) {L : Int32} (hL : Cr L) : f_X6_isSoBy_2 nk nf L (nI j) (nI t) (0 : Int32) = some (nI (if gd K F j t L then 1 else 0)) := by
  unfold f_X6_isSoBy_2
  rw [if_pos rfl]
  exact m_gd hs hj ht hL
theorem m_so2e {K F : Nat → Nat} {nk nf : Nat → Int32} (hs : HS K F nk nf) {j t : Nat} (hj : j < 5) (ht : t ≤ 40) {L : Int32} (hL : Cr L) {e : Nat} (he : e = 1 ∨ e = 2) : f_X6_isSoBy_2 nk nf L (nI j) (nI t) (nI e - (1 : Int32)) = some (nI (if (if e = 1 then gd K F j t L else so1 K F j t L) then 1 else 0)) := by
  rcases he with rfl | rfl
  · rw [show nI 1 - (1 : Int32) = 0 by decide, m_so2z hs hj ht hL]; rfl
  · have z := m_so2 hs hj ht hL (e := 1) (Or.inl rfl)
    rw [show nI 2 - (1 : Int32) = nI 1 by decide, z]
    rfl
theorem m_fs_in {K F : Nat → Nat} {nk nf : Nat → Int32} (hs : HS K F nk nf) {j t : Nat} (hj : j < 5) (ht : t ≤ 40) {L : Int32} (hL : Cr L) {e : Nat} (he : e = 1 ∨ e = 2) {s : Nat} (hsp : s < 4) (k : Unit → Option Int32) : ∀ (m c n : Nat), c + m = 25 → m < n → f_X6_firstSo_12 (nI j) (nI t) (nI e) (nI s) L nk nf k n (nI c) = match sF (pe K F j t e L) m (25 * s + c) with | some b => some (eM (some b)) | none => k () := by
  intro m
  induction m with
  | zero =>
    intro c n hi hn
    obtain ⟨n, rfl⟩ := fuel hn
    obtain rfl : c = 25 := by omega
    rw [f_X6_firstSo_12_s, if_pos (by decide)]
    rfl
  | succ m ih =>
    intro c n hi hn
    obtain ⟨n, rfl⟩ := fuel hn
    have hB : 25 * s + c < 100 := by omega
    have cm := m_canBite hB L
    have cx := (ce_x (25 * s + c) hB).2
    rw [show (25 * s + c) / 25 = s by omega, show (25 * s + c) % 25 = c by omega] at cm cx
    rw [f_X6_firstSo_12_s, if_neg (show ¬ (25 : Int32) ≤ nI c from nI_nle' (a := 25) (by decide) (by omega) (by omega)), cm, bn_some, nI_1, sF_s]
    have I := ih (c + 1) n (by omega) (by omega)
    rw [show 25 * s + (c + 1) = 25 * s + c + 1 by omega] at I
    have ep : pe K F j t e L (25 * s + c) = (canB (25 * s + c) L && (if e = 1 then gd K F j t (bh (25 * s + c) L) else so1 K F j t (bh (25 * s + c) L))) := by
      unfold pe p1 p2
      rcases he with rfl | rfl <;> rfl
    rw [ep]
    cases hc : canB (25 * s + c) L with
    | false =>
      rw [if_pos (show nI (if false = true then 1 else 0) = 0 from rfl), Bool.false_and, if_neg (show ¬ false = true by decide)]
      exact I
    | true =>
      rw [if_neg (show ¬ nI (if true = true then 1 else 0) = 0 by decide), cx, bn_some, ← bh_can hc, m_so2e hs hj ht (cr_bh hL) he, bn_some, Bool.true_and]
      cases (if e = 1 then gd K F j t (bh (25 * s + c) L) else so1 K F j t (bh (25 * s + c) L)) with
      | false =>
        rw [if_pos (show nI (if false = true then 1 else 0) = 0 from rfl), if_neg (show ¬ false = true by decide)]
        exact I
      | true =>
        rw [if_neg (show ¬ nI (if true = true then 1 else 0) = 0 by decide), if_pos rfl, show (100 : Int32) = nI 100 from rfl, pk_mul, nI_add]
        show _ = some (nI (100 * ((25 * s + c) / 25) + (25 * s + c) % 25))
        rw [show (25 * s + c) / 25 = s by omega, show (25 * s + c) % 25 = c by omega]
theorem m_fs_out {K F : Nat → Nat} {nk nf : Nat → Int32} (hs : HS K F nk nf) {j t : Nat} (hj : j < 5) (ht : t ≤ 40) {L : Int32} (hL : Cr L) {e : Nat} (he : e = 1 ∨ e = 2) : ∀ (m s n : Nat), s + m = 4 → m < n → f_X6_firstSo_3 (nI j) (nI t) (nI e) L nk nf n (nI s) = some (eM (sF (pe K F j t e L) (25 * m) (25 * s))) := by
  intro m
  induction m with
  | zero =>
    intro s n hi hn
    obtain ⟨n, rfl⟩ := fuel hn
    obtain rfl : s = 4 := by omega
    rw [f_X6_firstSo_3_s, if_pos (by decide)]
    rfl
  | succ m ih =>
    intro s n hi hn
    obtain ⟨n, rfl⟩ := fuel hn
    have z := m_fs_in hs hj ht hL he (show s < 4 by omega) (fun (e11 : Unit) => f_X6_firstSo_3 (nI j) (nI t) (nI e) L nk nf n ((nI s) + (1 : Int32))) 25 0 1000 rfl (by decide)
    rw [show nI 0 = (0 : Int32) from rfl, Nat.add_zero, nI_1] at z
    rw [f_X6_firstSo_3_s, if_neg (show ¬ (4 : Int32) ≤ nI s from nI_nle' (a := 4) (by decide) (by omega) (by omega)), nI_1, z, show 25 * (m + 1) = 25 + 25 * m by omega, sF_split _ 25 (25 * m) (25 * s)]
    cases sF (pe K F j t e L) 25 (25 * s) with
    | some b => rfl
    | none => exact ih (s + 1) n (by omega) (by omega)
theorem m_fs {K F : Nat → Nat} {nk nf : Nat → Int32} (hs : HS K F nk nf) {j t : Nat} (hj : j < 5) (ht : t ≤ 40) {L : Int32} (hL : Cr L) {e : Nat} (he : e = 1 ∨ e = 2) : f_X6_firstSo L nk nf (nI j) (nI t) (nI e) = some (eM (sF (pe K F j t e L) 100 0)) := m_fs_out hs hj ht hL he 4 0 1000 rfl (by decide)
