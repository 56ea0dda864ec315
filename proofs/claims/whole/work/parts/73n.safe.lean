/-! safe, can -/
theorem fuel {m n : Nat} (h : m < n) : ∃ k, n = k + 1 := ⟨n - 1, by omega⟩
def sameF (f : Nat → Nat) (g : Nat → Nat) : Nat → Nat → Bool
  | 0, _ => true
  | m + 1, i => if f i = g i then sameF f g m (i + 1) else false
theorem x_same_loop {K F : Nat → Nat} {nk nf : Nat → Int32} (hs : HS K F nk nf) {h : Nat} (hh : h ≤ 5) {L M : Int32} (hL : Cr L) (hM : Cr M) : ∀ (m i n : Nat) (g1 g2 g3 g4 : Int32), i + m = h → m < n → ∃ u1 u2 u3 u4, f_X5_changesNobody_2 M (nI h) L nk nf n (nI i) g1 g2 g3 g4 = some (nI (if sameF (fun j => sh K F j M) (fun j => sh K F j L) m i then 1 else 0), u1, u2, u3, u4) := by
  intro m
  induction m with
  | zero =>
    intro i n g1 g2 g3 g4 hi hn
    obtain ⟨n, rfl⟩ := fuel hn
    obtain rfl : i = h := by omega
    rw [f_X5_changesNobody_2_s, if_pos (Int32.le_refl _)]
    exact ⟨_, _, _, _, rfl⟩
  | succ m ih =>
    intro i n g1 g2 g3 g4 hi hn
    obtain ⟨n, rfl⟩ := fuel hn
    have l1 := sh_le hs (show i < 5 by omega) hL
    have l2 := sh_le hs (show i < 5 by omega) hM
    rw [f_X5_changesNobody_2_s, if_neg (nI_nle' (by omega) (by omega) (by omega)), x_shareOf hs (by omega) hM, bn_some, x_shareOf hs (by omega) hL, bn_some]
    unfold sameF
    by_cases q : sh K F i M = sh K F i L
    · rw [if_pos (congrArg nI q), if_pos q, nI_1]
      exact ih (i + 1) n _ _ _ _ (by omega) (by omega)
    · rw [if_neg (nI_neq (a := sh K F i M) (b := sh K F i L) (by omega) (by omega) q), if_neg q]
      exact ⟨_, _, _, _, rfl⟩
def saf (K F : Nat → Nat) (h : Nat) (L : Int32) (b : Nat) : Bool := canB b L && sameF (fun j => sh K F j (bh b L)) (fun j => sh K F j L) h 0
theorem x_safe_loop {K F : Nat → Nat} {nk nf : Nat → Int32} (hs : HS K F nk nf) {h : Nat} (hh : h ≤ 5) {L : Int32} (hL : Cr L) : ∀ (m i n : Nat) (g1 g2 g3 g4 : Int32), i + m = 100 → m < n → ∃ u1 u2 u3 u4, f_X5_safe_4 (nI h) L nk nf n (nI (fb_ct (saf K F h L) i)) (nI i) g1 g2 g3 g4 = some (nI (fb_ct (saf K F h L) 100), u1, u2, u3, u4) := by
  intro m
  induction m with
  | zero =>
    intro i n g1 g2 g3 g4 hi hn
    obtain ⟨n, rfl⟩ := fuel hn
    obtain rfl : i = 100 := by omega
    rw [f_X5_safe_4_s, if_pos (by decide)]
    exact ⟨_, _, _, _, rfl⟩
  | succ m ih =>
    intro i n g1 g2 g3 g4 hi hn
    obtain ⟨n, rfl⟩ := fuel hn
    rw [f_X5_safe_4_s, if_neg (show ¬ (100 : Int32) ≤ nI i from nI_nle' (a := 100) (by decide) (by omega) (by omega)), x_behind (by omega), bn_some]
    have st := fb_ct_succ (saf K F h L) i
    cases hc : canB i L with
    | false =>
      rw [if_pos (bh_cant hc), bn_some, nI_1]
      have z : saf K F h L i = false := by unfold saf; rw [hc]; rfl
      rw [z] at st
      rw [show nI (fb_ct (saf K F h L) i) = nI (fb_ct (saf K F h L) (i + 1)) from congrArg nI (by rw [st]; rfl)]
      exact ih (i + 1) n _ _ _ _ (by omega) (by omega)
    | true =>
      obtain ⟨u1, u2, u3, u4, e⟩ := x_same_loop hs hh hL (cr_bh (b := i) hL) h 0 1000 g1 g2 g3 g4 (by omega) (by omega)
      have e' : f_X5_changesNobody (nI h) L nk nf g1 g2 g3 g4 (bh i L) = some (nI (if sameF (fun j => sh K F j (bh i L)) (fun j => sh K F j L) h 0 then 1 else 0), u1, u2, u3, u4) := by
        unfold f_X5_changesNobody
        exact e
      rw [if_neg (bh_ne hc), e', bn_some]
      have z : saf K F h L i = sameF (fun j => sh K F j (bh i L)) (fun j => sh K F j L) h 0 := by unfold saf; rw [hc]; rfl
      rw [z] at st
      cases q : sameF (fun j => sh K F j (bh i L)) (fun j => sh K F j L) h 0 with
      | false =>
        rw [q] at st
        rw [if_pos (by rfl), bn_some, nI_1]
        rw [show nI (fb_ct (saf K F h L) i) = nI (fb_ct (saf K F h L) (i + 1)) from congrArg nI (by rw [st]; rfl)]
        exact ih (i + 1) n _ _ _ _ (by omega) (by omega)
      | true =>
        rw [q] at st
        rw [if_neg (show ¬ nI (if true = true then 1 else 0) = 0 by decide), bn_some, nI_1, nI_1]
        rw [show nI (fb_ct (saf K F h L) i + 1) = nI (fb_ct (saf K F h L) (i + 1)) from congrArg nI (by rw [st]; rfl)]
        exact ih (i + 1) n _ _ _ _ (by omega) (by omega)
theorem m_safe_in0 {h : Nat} (hh : h ≤ 5) (s c L : Int32) (nk nf : Nat → Int32) (k : Int32 → Option Int32) (n i : Nat) : f_X6_safe_31 s c L (nI h) nk nf k (n + 1) 0 (nI i) = k 0 := by
  rw [f_X6_safe_31_s]
  by_cases q : nI h ≤ nI i
  · rw [if_pos q]
  · rw [if_neg q, if_pos rfl]
theorem m_safe_in {K F : Nat → Nat} {nk nf : Nat → Int32} (hs : HS K F nk nf) {h : Nat} (hh : h ≤ 5) {L : Int32} (hL : Cr L) {s c : Nat} (hsp : s < 4) (hc : c < 25) (hcan : canB (25 * s + c) L = true) (k : Int32 → Option Int32) : ∀ (m i n : Nat), i + m = h → m < n → f_X6_safe_31 (nI s) (nI c) L (nI h) nk nf k n 1 (nI i) = k (nI (if sameF (fun j => sh K F j (bh (25 * s + c) L)) (fun j => sh K F j L) m i then 1 else 0)) := by
  intro m
  induction m with
  | zero =>
    intro i n hi hn
    obtain ⟨n, rfl⟩ := fuel hn
    obtain rfl : i = h := by omega
    rw [f_X6_safe_31_s, if_pos (Int32.le_refl _)]
    rfl
  | succ m ih =>
    intro i n hi hn
    obtain ⟨n, rfl⟩ := fuel hn
    have hB : 25 * s + c < 100 := by omega
    have hM : Cr (bh (25 * s + c) L) := cr_bh hL
    have l1 := sh_le hs (show i < 5 by omega) hL
    have l2 := sh_le hs (show i < 5 by omega) hM
    have cx := (ce_x (25 * s + c) hB).2
    rw [show (25 * s + c) / 25 = s by omega, show (25 * s + c) % 25 = c by omega] at cx
    rw [f_X6_safe_31_s, if_neg (nI_nle' (by omega) (by omega) (by omega)), if_neg (show ¬ (1 : Int32) = 0 by decide), cx, bn_some, ← bh_can hcan, m_shareOf hs (by omega) hM, bn_some, m_shareOf hs (by omega) hL, bn_some, jn_eq, nI_1]
    unfold sameF
    by_cases q : sh K F i (bh (25 * s + c) L) = sh K F i L
    · rw [if_pos (congrArg nI q), if_pos q]
      exact ih (i + 1) n (by omega) (by omega)
    · rw [if_neg (nI_neq (a := sh K F i (bh (25 * s + c) L)) (b := sh K F i L) (by omega) (by omega) q), if_neg q]
      obtain ⟨n, rfl⟩ : ∃ k, n = k + 1 := ⟨n - 1, by omega⟩
      rw [m_safe_in0 hh]
      rfl
theorem m_safe_mid {K F : Nat → Nat} {nk nf : Nat → Int32} (hs : HS K F nk nf) {h : Nat} (hh : h ≤ 5) {L : Int32} (hL : Cr L) {s : Nat} (hsp : s < 4) (k : Int32 → Option Int32) : ∀ (m c n : Nat), c + m = 25 → m < n → f_X6_safe_11 (nI s) L (nI h) nk nf k n (nI (fb_ct (saf K F h L) (25 * s + c))) (nI c) = k (nI (fb_ct (saf K F h L) (25 * (s + 1)))) := by
  intro m
  induction m with
  | zero =>
    intro c n hi hn
    obtain ⟨n, rfl⟩ := fuel hn
    obtain rfl : c = 25 := by omega
    rw [f_X6_safe_11_s, if_pos (by decide), show 25 * (s + 1) = 25 * s + 25 by omega]
  | succ m ih =>
    intro c n hi hn
    obtain ⟨n, rfl⟩ := fuel hn
    have hB : 25 * s + c < 100 := by omega
    have cm := m_canBite hB L
    rw [show (25 * s + c) / 25 = s by omega, show (25 * s + c) % 25 = c by omega] at cm
    have st := fb_ct_succ (saf K F h L) (25 * s + c)
    rw [f_X6_safe_11_s, if_neg (show ¬ (25 : Int32) ≤ nI c from nI_nle' (a := 25) (by decide) (by omega) (by omega)), cm, bn_some]
    cases hc : canB (25 * s + c) L with
    | false =>
      rw [show (1000 : Nat) = 999 + 1 from rfl, show nI (if false = true then 1 else 0) = (0 : Int32) from rfl, show (0 : Int32) = nI 0 from rfl, show nI 0 = (0 : Int32) from rfl]
      have z0 := m_safe_in0 hh (nI s) (nI c) L nk nf (fun (e14 : Int32) => jn (if e14 = 0 then (((0 : Int32) : Int32)) else (((1 : Int32) : Int32))) (fun (j15 : Int32) => f_X6_safe_11 (nI s) L (nI h) nk nf k n ((nI (fb_ct (saf K F h L) (25 * s + c))) + j15) ((nI c) + (1 : Int32)))) 999 0
      rw [show nI 0 = (0 : Int32) from rfl] at z0
      rw [z0, jn_eq, if_pos rfl, nI_1, show (0 : Int32) = nI 0 from rfl, nI_add]
      have z : saf K F h L (25 * s + c) = false := by unfold saf; rw [hc]; rfl
      rw [z] at st
      rw [show nI (fb_ct (saf K F h L) (25 * s + c) + 0) = nI (fb_ct (saf K F h L) (25 * s + (c + 1))) from congrArg nI (by rw [show 25 * s + (c + 1) = 25 * s + c + 1 by omega, st]; rfl)]
      exact ih (c + 1) n (by omega) (by omega)
    | true =>
      have z1 := m_safe_in hs hh hL hsp (show c < 25 by omega) hc (fun (e14 : Int32) => jn (if e14 = 0 then (((0 : Int32) : Int32)) else (((1 : Int32) : Int32))) (fun (j15 : Int32) => f_X6_safe_11 (nI s) L (nI h) nk nf k n ((nI (fb_ct (saf K F h L) (25 * s + c))) + j15) ((nI c) + (1 : Int32)))) h 0 1000 (by omega) (by omega)
      rw [show nI 0 = (0 : Int32) from rfl] at z1
      rw [show nI (if true = true then 1 else 0) = (1 : Int32) from rfl, z1, jn_eq, nI_1]
      have z : saf K F h L (25 * s + c) = sameF (fun j => sh K F j (bh (25 * s + c) L)) (fun j => sh K F j L) h 0 := by unfold saf; rw [hc]; rfl
      rw [z] at st
      cases q : sameF (fun j => sh K F j (bh (25 * s + c) L)) (fun j => sh K F j L) h 0 with
      | false =>
        rw [q] at st
        rw [if_pos (by rfl), show ∀ x : Nat, nI x + (0 : Int32) = nI (x + 0) from fun x => nI_add x 0]
        rw [show nI (fb_ct (saf K F h L) (25 * s + c) + 0) = nI (fb_ct (saf K F h L) (25 * s + (c + 1))) from congrArg nI (by rw [show 25 * s + (c + 1) = 25 * s + c + 1 by omega, st]; rfl)]
        exact ih (c + 1) n (by omega) (by omega)
      | true =>
        rw [q] at st
        rw [if_neg (by decide), nI_1]
        rw [show nI (fb_ct (saf K F h L) (25 * s + c) + 1) = nI (fb_ct (saf K F h L) (25 * s + (c + 1))) from congrArg nI (by rw [show 25 * s + (c + 1) = 25 * s + c + 1 by omega, st]; rfl)]
        exact ih (c + 1) n (by omega) (by omega)
theorem m_safe_out {K F : Nat → Nat} {nk nf : Nat → Int32} (hs : HS K F nk nf) {h : Nat} (hh : h ≤ 5) {L : Int32} (hL : Cr L) : ∀ (m s n : Nat), s + m = 4 → m < n → f_X6_safe_4 L (nI h) nk nf n (nI (fb_ct (saf K F h L) (25 * s))) (nI s) = some (nI (fb_ct (saf K F h L) 100)) := by
  intro m
  induction m with
  | zero =>
    intro s n hi hn
    obtain ⟨n, rfl⟩ := fuel hn
    obtain rfl : s = 4 := by omega
    rw [f_X6_safe_4_s, if_pos (by decide)]
  | succ m ih =>
    intro s n hi hn
    obtain ⟨n, rfl⟩ := fuel hn
    rw [f_X6_safe_4_s, if_neg (show ¬ (4 : Int32) ≤ nI s from nI_nle' (a := 4) (by decide) (by omega) (by omega))]
    have z := m_safe_mid hs hh hL (show s < 4 by omega) (fun (e31 : Int32) => f_X6_safe_4 L (nI h) nk nf n e31 ((nI s) + (1 : Int32))) 25 0 1000 rfl (by decide)
    rw [show nI 0 = (0 : Int32) from rfl, Nat.add_zero] at z
    rw [z, nI_1]
    exact ih (s + 1) n (by omega) (by omega)
theorem eq_safe {tolds : Int32} {hasImage : Int32} {n_heirs : Int32} {n_left : Int32} {n_bitten : Int32} {n_kinds : (Nat → Int32)} {n_figures : (Nat → Int32)} {k_heirs : Int32} {k_left : Int32} {k_bitten : Int32} {k_kinds : (Nat → Int32)} {k_figures : (Nat → Int32)} {t_heirs : Int32} {t_left : Int32} {t_bitten : Int32} {t_kinds : (Nat → Int32)} {t_figures : (Nat → Int32)} {r_gone : Int32} {r_heaps : Int32} {r_fewestCells : Int32} {r_deed : Int32} {c_ways : (Nat → Int32)} {c_fewest : (Nat → Int32)} {c_nextWays : (Nat → Int32)} {c_nextFewest : (Nat → Int32)} {x_length : Int32} {x_letters : (Nat → Int32)} {told : (Nat → Int32)} {refusals : (Nat → Int32)} {ends : (Nat → Int32)} {m_left : Int32} {m_bites : Int32} {m_many : Int32} {m_imageLeft : Int32} {m_imageBites : Int32} {m_imageMany : Int32} {m_wasLeft : Int32} {m_wasBites : Int32} {m_wasMany : Int32} {m_hasImage : Int32} {m_letterMany : Int32} {m_rowMany : Int32} {m_place : Int32} {m_seed : Int32} {m_kind : (Nat → Int32)} {m_figure : (Nat → Int32)} {m_imageKind : (Nat → Int32)} {m_imageFigure : (Nat → Int32)} {m_wasKind : (Nat → Int32)} {m_wasFigure : (Nat → Int32)} {m_letters : (Nat → Int32)} {m_row : (Nat → Int32)} {m_refused : (Nat → Int32)} {m_numbers : (Nat → Int32)} {m_counted : (Nat → Int32)} {m_few : (Nat → Int32)} (hR : RR tolds hasImage n_heirs n_left n_bitten n_kinds n_figures k_heirs k_left k_bitten k_kinds k_figures x_length x_letters told refusals m_left m_bites m_many m_imageLeft m_imageBites m_imageMany m_hasImage m_letterMany m_rowMany m_kind m_figure m_imageKind m_imageFigure m_letters m_row m_refused) : ∃ (o1 : Int32 × Int32 × Int32 × Int32 × Int32) (o2 : Int32), f_X5_safe n_heirs n_left n_kinds n_figures r_gone r_heaps r_fewestCells r_deed = some o1 ∧ f_X6_safe m_left m_many m_kind m_figure = some o2 ∧ o1.1 = o2 ∧ RR tolds hasImage n_heirs n_left n_bitten n_kinds n_figures k_heirs k_left k_bitten k_kinds k_figures x_length x_letters told refusals m_left m_bites m_many m_imageLeft m_imageBites m_imageMany m_hasImage m_letterMany m_rowMany m_kind m_figure m_imageKind m_imageFigure m_letters m_row m_refused := by
  have hR0 := hR
  obtain ⟨⟨h, b, K, F, rfl, hL, rfl, rfl, hh, rfl, rfl, hb, hs, hs'⟩, hT, hW, hF, hI⟩ := hR
  unfold f_X5_safe f_X6_safe
  obtain ⟨u1, u2, u3, u4, x⟩ := x_safe_loop hs hh hL 100 0 1000 r_gone r_heaps r_fewestCells r_deed rfl (by decide)
  have y := m_safe_out hs' hh hL 4 0 1000 rfl (by decide)
  have z0 : nI (fb_ct (saf K F h n_left) 0) = (0 : Int32) := rfl
  rw [z0, show nI 0 = (0 : Int32) from rfl] at x
  rw [Nat.mul_zero, z0, show nI 0 = (0 : Int32) from rfl] at y
  rw [x, y]
  exact ⟨_, _, rfl, rfl, rfl, hR0⟩
/-! can -/
def cnp (w : Option Nat) (L : Int32) (b : Nat) : Bool := (match w with | none => true | some s => decide (b / 25 = s)) && canB b L
theorem x_can_loop {w : Option Nat} {L : Int32} (r : Nat → Int32) {hi0 : Nat} (hh : hi0 ≤ 100) (lo : Nat) (hw : ∀ b, lo ≤ b → b < hi0 → cnp w L b = canB b L) : ∀ (m i n : Nat), lo ≤ i → i + m = hi0 → m < n → f_X5_can_50 (nI hi0) L r n (nI (fb_ct (cnp w L) i)) (nI i) = some (nI (fb_ct (cnp w L) hi0), r) := by
  intro m
  induction m with
  | zero =>
    intro i n hl hi hn
    obtain ⟨n, rfl⟩ := fuel hn
    obtain rfl : i = hi0 := by omega
    rw [f_X5_can_50_s, if_pos (Int32.le_refl _)]
  | succ m ih =>
    intro i n hl hi hn
    obtain ⟨n, rfl⟩ := fuel hn
    have st := fb_ct_succ (cnp w L) i
    rw [hw i hl (by omega)] at st
    rw [f_X5_can_50_s, if_neg (nI_nle' (by omega) (by omega) (by omega)), x_behind (by omega), bn_some, jn_eq, ite_p (bh_eq_iff), nI_1, nI_1]
    have e : (if canB i L = false then nI (fb_ct (cnp w L) i) else nI (fb_ct (cnp w L) i + 1)) = nI (fb_ct (cnp w L) (i + 1)) := by
      rw [st]
      cases canB i L <;> rfl
    rw [e]
    exact ih (i + 1) n (by omega) (by omega) (by omega)
def cw (w : Option Nat) : Int32 := match w with | none => -1 | some s => nI s
theorem m_can_in {w : Option Nat} (hw : ∀ s, w = some s → s < 4) {L : Int32} {s : Nat} (hsp : s < 4) (k : Int32 → Option (Int32 × (Nat → Int32))) : ∀ (m c n : Nat), c + m = 25 → m < n → f_X6_can_28 (cw w) (nI s) L k n (nI (fb_ct (cnp w L) (25 * s + c))) (nI c) = k (nI (fb_ct (cnp w L) (25 * (s + 1)))) := by
  intro m
  induction m with
  | zero =>
    intro c n hi hn
    obtain ⟨n, rfl⟩ := fuel hn
    obtain rfl : c = 25 := by omega
    rw [f_X6_can_28_s, if_pos (by decide), show 25 * (s + 1) = 25 * s + 25 by omega]
  | succ m ih =>
    intro c n hi hn
    obtain ⟨n, rfl⟩ := fuel hn
    have hB : 25 * s + c < 100 := by omega
    have cm := m_canBite hB L
    rw [show (25 * s + c) / 25 = s by omega, show (25 * s + c) % 25 = c by omega] at cm
    have st := fb_ct_succ (cnp w L) (25 * s + c)
    rw [f_X6_can_28_s, if_neg (show ¬ (25 : Int32) ≤ nI c from nI_nle' (a := 25) (by decide) (by omega) (by omega)), cm, bn_some]
    have one : (if nI (if canB (25 * s + c) L then 1 else 0) = 0 then some (0 : Int32) else some 1) = some (nI (if canB (25 * s + c) L then 1 else 0)) := by cases canB (25 * s + c) L <;> rfl
    rw [one]
    have e : (if cw w < 0 then some (nI (if canB (25 * s + c) L then 1 else 0)) else if nI s = cw w then some (nI (if canB (25 * s + c) L then 1 else 0)) else some (0 : Int32)) = some (nI (if cnp w L (25 * s + c) then 1 else 0)) := by
      cases w with
      | none => rw [if_pos (show cw none < 0 by decide)]; unfold cnp; simp
      | some s' =>
        have := hw s' rfl
        rw [if_neg (show ¬ cw (some s') < 0 from not_lt0 (by omega))]
        unfold cnp
        by_cases q : s = s'
        · subst q
          rw [if_pos (show nI s = cw (some s) from rfl)]
          simp [show (25 * s + c) / 25 = s by omega]
        · rw [if_neg (show ¬ nI s = cw (some s') from nI_neq (by omega) (by omega) q)]
          simp [show (25 * s + c) / 25 = s by omega, q]
          rfl
    rw [e, bn_some, nI_add, nI_1, ← st]
    exact ih (c + 1) n (by omega) (by omega)
theorem m_can_out {w : Option Nat} (hw : ∀ s, w = some s → s < 4) {L : Int32} (r : Nat → Int32) : ∀ (m s n : Nat), s + m = 4 → m < n → f_X6_can_20 (cw w) L r n (nI (fb_ct (cnp w L) (25 * s))) (nI s) = some (nI (fb_ct (cnp w L) 100), r) := by
  intro m
  induction m with
  | zero =>
    intro s n hi hn
    obtain ⟨n, rfl⟩ := fuel hn
    obtain rfl : s = 4 := by omega
    rw [f_X6_can_20_s, if_pos (by decide)]
  | succ m ih =>
    intro s n hi hn
    obtain ⟨n, rfl⟩ := fuel hn
    rw [f_X6_can_20_s, if_neg (show ¬ (4 : Int32) ≤ nI s from nI_nle' (a := 4) (by decide) (by omega) (by omega))]
    have z := m_can_in hw (show s < 4 by omega) (L := L) (fun (e14 : Int32) => f_X6_can_20 (cw w) L r n e14 ((nI s) + (1 : Int32))) 25 0 1000 rfl (by decide)
    rw [show nI 0 = (0 : Int32) from rfl, Nat.add_zero] at z
    rw [z, nI_1]
    exact ih (s + 1) n (by omega) (by omega)
theorem eq_can {tolds : Int32} {hasImage : Int32} {n_heirs : Int32} {n_left : Int32} {n_bitten : Int32} {n_kinds : (Nat → Int32)} {n_figures : (Nat → Int32)} {k_heirs : Int32} {k_left : Int32} {k_bitten : Int32} {k_kinds : (Nat → Int32)} {k_figures : (Nat → Int32)} {t_heirs : Int32} {t_left : Int32} {t_bitten : Int32} {t_kinds : (Nat → Int32)} {t_figures : (Nat → Int32)} {r_gone : Int32} {r_heaps : Int32} {r_fewestCells : Int32} {r_deed : Int32} {c_ways : (Nat → Int32)} {c_fewest : (Nat → Int32)} {c_nextWays : (Nat → Int32)} {c_nextFewest : (Nat → Int32)} {x_length : Int32} {x_letters : (Nat → Int32)} {told : (Nat → Int32)} {refusals : (Nat → Int32)} {ends : (Nat → Int32)} {m_left : Int32} {m_bites : Int32} {m_many : Int32} {m_imageLeft : Int32} {m_imageBites : Int32} {m_imageMany : Int32} {m_wasLeft : Int32} {m_wasBites : Int32} {m_wasMany : Int32} {m_hasImage : Int32} {m_letterMany : Int32} {m_rowMany : Int32} {m_place : Int32} {m_seed : Int32} {m_kind : (Nat → Int32)} {m_figure : (Nat → Int32)} {m_imageKind : (Nat → Int32)} {m_imageFigure : (Nat → Int32)} {m_wasKind : (Nat → Int32)} {m_wasFigure : (Nat → Int32)} {m_letters : (Nat → Int32)} {m_row : (Nat → Int32)} {m_refused : (Nat → Int32)} {m_numbers : (Nat → Int32)} {m_counted : (Nat → Int32)} {m_few : (Nat → Int32)} (hR : RR tolds hasImage n_heirs n_left n_bitten n_kinds n_figures k_heirs k_left k_bitten k_kinds k_figures x_length x_letters told refusals m_left m_bites m_many m_imageLeft m_imageBites m_imageMany m_hasImage m_letterMany m_rowMany m_kind m_figure m_imageKind m_imageFigure m_letters m_row m_refused) (a1 : Int32) : ∃ (o1 : Int32 × (Nat → Int32)) (o2 : Int32 × (Nat → Int32)), f_X5_can n_left refusals a1 = some o1 ∧ f_X6_can m_left m_refused a1 = some o2 ∧ o1.1 = o2.1 ∧ RR tolds hasImage n_heirs n_left n_bitten n_kinds n_figures k_heirs k_left k_bitten k_kinds k_figures x_length x_letters told o1.2 m_left m_bites m_many m_imageLeft m_imageBites m_imageMany m_hasImage m_letterMany m_rowMany m_kind m_figure m_imageKind m_imageFigure m_letters m_row o2.2 := by
  have hR0 := hR
  obtain ⟨⟨h, b, K, F, rfl, hL, rfl, rfl, hh, rfl, rfl, hb, hs, hs'⟩, hT, hW, hF, hI⟩ := hR
  unfold f_X5_can f_X6_can
  have m1 : (-1 : Int32).toInt = -1 := by decide
  have y : ∀ w : Option Nat, (∀ s, w = some s → s < 4) → f_X6_can_20 (cw w) n_left m_refused 1000 0 0 = some (nI (fb_ct (cnp w n_left) 100), m_refused) := fun w hw => m_can_out hw m_refused 4 0 1000 rfl (by decide)
  rcases rng a1 (n := 3) (by decide) with q | q | ⟨s, hs4, rfl⟩
  · by_cases q1 : a1 = -1
    · subst q1
      rw [if_neg (by decide), if_pos (by decide), jn_eq, jn_eq, if_neg (by decide), if_neg (by decide), show f_X6_isIn (-1 : Int32) (-1 : Int32) (3 : Int32) = some (1 : Int32) by decide, bn_some, if_neg (by decide)]
      have x := x_can_loop (w := none) (L := n_left) refusals (hi0 := 100) (by decide) 0 (fun b _ _ => by unfold cnp; simp) 100 0 1000 (by decide) rfl (by decide)
      have y1 := y none (fun s e => by cases e)
      rw [show cw none = (-1 : Int32) from rfl] at y1
      rw [show nI (fb_ct (cnp none n_left) 0) = (0 : Int32) from rfl, show nI 0 = (0 : Int32) from rfl, show nI 100 = (100 : Int32) from rfl] at x
      rw [x, y1]
      exact ⟨_, _, rfl, rfl, rfl, hR0⟩
    · have q2 : a1 < -1 := by
        rw [Int32.lt_iff_toInt_lt] at q ⊢
        have z : (0 : Int32).toInt = 0 := by decide
        have : a1.toInt ≠ -1 := fun e => q1 (Int32.toInt_inj.mp (by rw [e, m1]))
        omega
      rw [if_pos q2, isIn_no1 q2, bn_some, if_pos rfl, x_no2, m_no2, bn_some, bn_some]
      exact ⟨_, _, rfl, rfl, rfl, RR_bump hR0 (by decide)⟩
  · have z2 : (nI 3).toInt = 3 := by decide
    have z1 : (4 : Int32).toInt = 4 := by decide
    rw [if_neg (show ¬ a1 < -1 from fun z => by rw [Int32.lt_iff_toInt_lt] at q z; omega), if_neg (show ¬ a1 < 4 from fun z => by rw [Int32.lt_iff_toInt_lt] at q z; omega), isIn_no2 (show (3 : Int32) < a1 from q), bn_some, if_pos rfl, x_no2, m_no2, bn_some, bn_some]
    exact ⟨_, _, rfl, rfl, rfl, RR_bump hR0 (by decide)⟩
  · have ns : ¬ nI s < -1 := fun z => by rw [Int32.lt_iff_toInt_lt, nI_toInt (by omega)] at z; omega
    have is1 : f_X6_isIn (nI s) (-1 : Int32) (3 : Int32) = some (1 : Int32) := by
      unfold f_X6_isIn
      rw [if_neg ns, if_neg (show ¬ (3 : Int32) < nI s from nI_nlt2 (a := 3) (by decide) (by omega) hs4)]
    rw [if_neg ns, if_pos (show nI s < 4 from nI_lt2 (b := 4) (by omega) (by decide) (by omega)), jn_eq, jn_eq, if_pos (nI_ge0 (by omega)), if_pos (nI_ge0 (by omega)), is1, bn_some, if_neg (by decide), show (25 : Int32) = nI 25 from rfl, pk_mul, nI_add]
    have x := x_can_loop (w := some s) (L := n_left) refusals (hi0 := s * 25 + 25) (by omega) (s * 25) (fun b h1 h2 => by unfold cnp; simp [show b / 25 = s by omega]) 25 (s * 25) 1000 (by omega) (by omega) (by decide)
    have y1 := y (some s) (fun s' e => by cases e; omega)
    have z0 : fb_ct (cnp (some s) n_left) (s * 25) = 0 := fb_ct_zero.mpr (fun k hk => by unfold cnp; simp [show ¬ k / 25 = s by omega])
    have z1 : fb_ct (cnp (some s) n_left) 100 = fb_ct (cnp (some s) n_left) (s * 25 + 25) := by
      have sp := fb_ct_split (cnp (some s) n_left) (s * 25 + 25) (100 - (s * 25 + 25))
      rw [show s * 25 + 25 + (100 - (s * 25 + 25)) = 100 by omega] at sp
      rw [sp, (fb_ct_zero (p := fun k => cnp (some s) n_left (s * 25 + 25 + k))).mpr (fun k hk => by unfold cnp; simp [show ¬ (s * 25 + 25 + k) / 25 = s by omega])]
      rfl
    rw [z0] at x
    rw [show cw (some s) = nI s from rfl, z1] at y1
    rw [show nI 0 = (0 : Int32) from rfl] at x
    rw [x, y1]
    exact ⟨_, _, rfl, rfl, rfl, hR0⟩
