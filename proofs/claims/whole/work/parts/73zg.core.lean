/-! core: both loops -/
theorem m_laysBack {K F : Nat → Nat} {wk wf : Nat → Int32} (hs : HS K F wk wf) (c1 c2 c3 : Int32) : ∀ (m i n : Nat) (gk gf : Nat → Int32), i + m = 5 → m < n → (∀ j, j < i → gk j = nI (K j) ∧ gf j = nI (F j)) → ∃ hk hf, f_X6_laysBack_26 c1 c2 c3 wk wf n (nI i) gk gf = some (c1, c2, c3, hk, hf) ∧ HS K F hk hf := by
  intro m
  induction m with
  | zero =>
    intro i n gk gf hi hn hg
    obtain ⟨n, rfl⟩ := fuel hn
    obtain rfl : i = 5 := by omega
    rw [f_X6_laysBack_26_s, if_pos (by decide)]
    exact ⟨gk, gf, rfl, fun j hj => ⟨(hg j hj).1, (hg j hj).2, (hs j hj).2.2⟩⟩
  | succ m ih =>
    intro i n gk gf hi hn hg
    obtain ⟨n, rfl⟩ := fuel hn
    rw [f_X6_laysBack_26_s, if_neg (show ¬ (5 : Int32) ≤ nI i from nI_nle' (a := 5) (by decide) (by omega) (by omega)), inb_nI (show i < 5 by omega) (by decide), ck_true, ck_true, ck_true, ck_true, nI_clamp (by omega), nI_1]
    refine ih (i + 1) n _ _ (by omega) (by omega) (fun j hj => ?_)
    unfold upd
    by_cases q : j = i
    · subst q
      rw [if_pos rfl, if_pos rfl]
      exact ⟨(hs j (by omega)).1, (hs j (by omega)).2.1⟩
    · rw [if_neg q, if_neg q]
      exact hg j (by omega)
theorem m_lays {K F : Nat → Nat} {nk nf : Nat → Int32} (hs : HS K F nk nf) (c1 c2 c3 : Int32) : ∀ (m i n : Nat) (gk gf : Nat → Int32), i + m = 5 → m < n → (∀ j, j < i → gk j = nI (K j) ∧ gf j = nI (F j)) → ∃ hk hf, f_X6_lays_26 c1 c2 c3 nk nf n (nI i) gk gf = some (c1, c2, c3, hk, hf) ∧ HS K F hk hf := by
  intro m
  induction m with
  | zero =>
    intro i n gk gf hi hn hg
    obtain ⟨n, rfl⟩ := fuel hn
    obtain rfl : i = 5 := by omega
    rw [f_X6_lays_26_s, if_pos (by decide)]
    exact ⟨gk, gf, rfl, fun j hj => ⟨(hg j hj).1, (hg j hj).2, (hs j hj).2.2⟩⟩
  | succ m ih =>
    intro i n gk gf hi hn hg
    obtain ⟨n, rfl⟩ := fuel hn
    rw [f_X6_lays_26_s, if_neg (show ¬ (5 : Int32) ≤ nI i from nI_nle' (a := 5) (by decide) (by omega) (by omega)), inb_nI (show i < 5 by omega) (by decide), ck_true, ck_true, ck_true, ck_true, nI_clamp (by omega), nI_1]
    refine ih (i + 1) n _ _ (by omega) (by omega) (fun j hj => ?_)
    unfold upd
    by_cases q : j = i
    · subst q
      rw [if_pos rfl, if_pos rfl]
      exact ⟨(hs j (by omega)).1, (hs j (by omega)).2.1⟩
    · rw [if_neg q, if_neg q]
      exact hg j (by omega)
theorem f2000 : ∀ y, y < 97 → ¬ (-2000 : Int32) - nI y = (-9 : Int32) ∧ (-2000 : Int32) - nI y < 0 := by decide +kernel
theorem f1000 : ∀ y, y < 97 → ¬ (-1000 : Int32) - nI y = (-9 : Int32) ∧ (-1000 : Int32) - nI y < 0 := by decide +kernel
abbrev MO : Type := Int32 × Int32 × Int32 × Int32 × Int32 × Int32 × Int32 × Int32 × Int32 × (Nat → Int32) × (Nat → Int32) × (Nat → Int32) × (Nat → Int32) × (Nat → Int32)
theorem core_do {N : Nat} {a : Nat → Nat} {xl ml : Nat → Int32} (hx : LT N a xl) (hm : LT N a ml) {K0 F0 : Nat → Nat} {wk wf : Nat → Int32} (hw : HS K0 F0 wk wf) (wl wb wm : Int32) (k : (Int32 × Int32 × Int32 × Int32 × Int32 × (Nat → Int32) × (Nat → Int32) × (Nat → Int32)) → Option MO) : ∀ f p nX nM cn (xo mo : XS) (nums : Nat → Int32), scan N a f p = none → p < N → N - p < nX → N - p < nM → RNx xo mo →
    (∃ (xo' mo' : XS) (pl : Int32) (nums' : Nat → Int32), f_X5_trialOfText_34 (nI N) xl nX (nI cn) (nI p) xo.1 xo.2.1 xo.2.2.1 xo.2.2.2.1 xo.2.2.2.2 = some (nI (cn + cntS N a f p), xo') ∧ f_X6_core_55 wl wb wm (nI N) wk wf ml k nM (-9 : Int32) mo.1 mo.2.1 mo.2.2.1 (nI p) mo.2.2.2.1 mo.2.2.2.2 nums = k ((-9 : Int32), mo'.1, mo'.2.1, mo'.2.2.1, pl, mo'.2.2.2.1, mo'.2.2.2.2, nums') ∧ RNx xo' mo') ∨
    (∃ (y : Nat) (xo' : XS) (pl : Int32) (hk hf nums' : Nat → Int32), y < 97 ∧ f_X5_trialOfText_34 (nI N) xl nX (nI cn) (nI p) xo.1 xo.2.1 xo.2.2.1 xo.2.2.2.1 xo.2.2.2.2 = some ((-2000 : Int32) - nI y, xo') ∧ f_X6_core_55 wl wb wm (nI N) wk wf ml k nM (-9 : Int32) mo.1 mo.2.1 mo.2.2.1 (nI p) mo.2.2.2.1 mo.2.2.2.2 nums = k ((-2000 : Int32) - nI y, wl, wb, wm, pl, hk, hf, nums') ∧ HS K0 F0 hk hf) := by
  have hN := hx.1
  intro f
  induction f with
  | zero => intro p nX nM cn xo mo nums hsc; cases hsc
  | succ f ih =>
    intro p nX nM cn xo mo nums hsc hp hnX hnM R
    obtain ⟨nX, rfl⟩ := fuel hnX
    obtain ⟨nM, rfl⟩ := fuel hnM
    cases ok : okS N a p with
    | false =>
      unfold scan at hsc
      rw [ok, if_neg (by decide)] at hsc
      cases hsc
    | true =>
      obtain ⟨l0, mm⟩ := okS_m ok
      have f6 := fm_lt (a p)
      have l5 := lnF_le _ f6
      have pm : p + MM N a p ≤ N := (mt_le N a p (fm (a p)) (lnF (fm (a p))) 0).2.2 (by omega)
      obtain ⟨nums', er, hv⟩ := m_read hm hp nums
      rw [ok] at er
      obtain ⟨b, xo', mo', ex, em, hR⟩ := step hx hp ok (hv ok) R
      have hd : f_X6_here (nI N) (nI p) ml = some (nI (a p)) := by rw [m_here hm (by omega), (LT_let hm hp).1]
      have xs : f_X5_trialOfText_34 (nI N) xl (nX + 1) (nI cn) (nI p) xo.1 xo.2.1 xo.2.2.1 xo.2.2.2.1 xo.2.2.2.2 = (if nI (if b then 1 else 0) = 0 then (some ((-2000 : Int32) - nI p, xo'.1, xo'.2.1, xo'.2.2.1, xo'.2.2.2.1, xo'.2.2.2.2)) else f_X5_trialOfText_34 (nI N) xl nX (nI (cn + 1)) (nI (p + lnF (fm (a p)))) xo'.1 xo'.2.1 xo'.2.2.1 xo'.2.2.2.1 xo'.2.2.2.2) := by
        rw [f_X5_trialOfText_34_s, if_neg (nI_nle' (by omega) (by omega) hp), ex, bn_some]
        cases b with
        | false => rfl
        | true =>
          rw [if_neg (show ¬ nI (if true = true then 1 else 0) = 0 by decide), if_neg (show ¬ nI (if true = true then 1 else 0) = 0 by decide), x_form hx hp, bn_some, ltJ6 _ (by omega), ck_true, x_len _ f6, bn_some, nI_1, show (1 : Int32) = nI 1 from rfl, jmax_nI (by decide) (by omega), Nat.max_eq_right (by omega), nI_add]
      have ms : f_X6_core_55 wl wb wm (nI N) wk wf ml k (nM + 1) (-9 : Int32) mo.1 mo.2.1 mo.2.2.1 (nI p) mo.2.2.2.1 mo.2.2.2.2 nums = (if nI (if b then 1 else 0) = 0 then (bn (f_X6_laysBack wl wb wm mo'.2.2.2.1 mo'.2.2.2.2 wk wf) (fun (r17 : Int32 × Int32 × Int32 × (Nat → Int32) × (Nat → Int32)) => f_X6_core_55 wl wb wm (nI N) wk wf ml k nM ((-2000 : Int32) - nI p) r17.1 r17.2.1 r17.2.2.1 (nI (p + MM N a p)) r17.2.2.2.1 r17.2.2.2.2 nums')) else (f_X6_core_55 wl wb wm (nI N) wk wf ml k nM (-9 : Int32) mo'.1 mo'.2.1 mo'.2.2.1 (nI (p + MM N a p)) mo'.2.2.2.1 mo'.2.2.2.2 nums')) := by
        rw [f_X6_core_55_s, if_pos rfl, if_neg (nI_nle' (by omega) (by omega) hp), hd, bn_some, er, bn_some, em, bn_some]
      rw [xs, ms]
      cases b with
      | false =>
        right
        obtain ⟨hk, hf, el, hl⟩ := m_laysBack hw wl wb wm 5 0 1000 mo'.2.2.2.1 mo'.2.2.2.2 rfl (by decide) (fun j hj => absurd hj (Nat.not_lt_zero j))
        have el' : f_X6_laysBack wl wb wm mo'.2.2.2.1 mo'.2.2.2.2 wk wf = some (wl, wb, wm, hk, hf) := el
        rw [if_pos (show nI (if false = true then 1 else 0) = 0 from rfl), if_pos (show nI (if false = true then 1 else 0) = 0 from rfl), el', bn_some]
        obtain ⟨nM, rfl⟩ : ∃ q, nM = q + 1 := ⟨nM - 1, by omega⟩
        rw [f_X6_core_55_s, if_neg (f2000 p (by omega)).1]
        exact ⟨p, xo', _, hk, hf, nums', by omega, rfl, rfl, hl⟩
      | true =>
        have R' := hR rfl
        rw [if_neg (show ¬ nI (if true = true then 1 else 0) = 0 by decide), if_neg (show ¬ nI (if true = true then 1 else 0) = 0 by decide), mm]
        unfold scan at hsc
        rw [ok, if_pos rfl] at hsc
        have ce : cntS N a (f + 1) p = if p + lnF (fm (a p)) < N then 1 + cntS N a f (p + lnF (fm (a p))) else 1 := by
          show (if okS N a p = true then _ else _) = _
          rw [ok, if_pos rfl]
        rw [ce]
        by_cases w : p + lnF (fm (a p)) < N
        · rw [if_pos w] at hsc
          rw [if_pos w, ← Nat.add_assoc]
          exact ih (p + lnF (fm (a p))) nX nM (cn + 1) xo' mo' nums' hsc w (by omega) (by omega) R'
        · left
          have en : p + lnF (fm (a p)) = N := by omega
          obtain ⟨nX, rfl⟩ : ∃ q, nX = q + 1 := ⟨nX - 1, by omega⟩
          obtain ⟨nM, rfl⟩ : ∃ q, nM = q + 1 := ⟨nM - 1, by omega⟩
          rw [if_neg w, en, f_X5_trialOfText_34_s, if_pos (Int32.le_refl _), f_X6_core_55_s, if_pos rfl, if_pos (Int32.le_refl _)]
          exact ⟨xo', mo', _, nums', rfl, rfl, R'⟩
def scV (o : Option Nat) : Int32 := match o with | none => (-9 : Int32) | some y => (-1000 : Int32) - nI y
theorem core_read {N : Nat} {a : Nat → Nat} {ml : Nat → Int32} (hm : LT N a ml) (k : (Int32 × Int32 × Int32 × (Nat → Int32)) → Option MO) : ∀ f p n cn (nums : Nat → Int32), p < N → N - p ≤ f → N - p < n → ∃ (pl : Int32) (nums' : Nat → Int32), f_X6_core_10 (nI N) ml k n (nI cn) (-9 : Int32) (nI p) nums = k (nI (cn + cntS N a f p), scV (scan N a f p), pl, nums') := by
  have hN := hm.1
  intro f
  induction f with
  | zero => intro p n cn nums hp hf hn; omega
  | succ f ih =>
    intro p n cn nums hp hf hn
    obtain ⟨n, rfl⟩ := fuel hn
    have f6 := fm_lt (a p)
    have l5 := lnF_le _ f6
    have pm : p + MM N a p ≤ N := (mt_le N a p (fm (a p)) (lnF (fm (a p))) 0).2.2 (by omega)
    obtain ⟨nums', er, _⟩ := m_read hm hp nums
    rw [f_X6_core_10_s, er, bn_some, jn_eq, nI_1]
    unfold scan cntS
    cases ok : okS N a p with
    | false =>
      rw [if_pos (show nI (if false = true then 1 else 0) = 0 from rfl), if_neg (f1000 _ (by omega)).1, if_neg (show ¬ false = true by decide), if_neg (show ¬ false = true by decide)]
      exact ⟨_, nums', rfl⟩
    | true =>
      obtain ⟨l0, mm⟩ := okS_m ok
      rw [if_neg (show ¬ nI (if true = true then 1 else 0) = 0 by decide), if_pos (show (-9 : Int32) = (-9 : Int32) from rfl), if_pos (show true = true from rfl), if_pos (show true = true from rfl), mm, ite_p (nI_ltI (by omega) (by omega))]
      by_cases w : p + lnF (fm (a p)) < N
      · rw [if_pos w, if_pos w, if_pos w, ← Nat.add_assoc]
        exact ih (p + lnF (fm (a p))) n (cn + 1) nums' w (by omega) (by omega)
      · rw [if_neg w, if_neg w, if_neg w]
        exact ⟨_, nums', rfl⟩
theorem scan_le {N : Nat} {a : Nat → Nat} : ∀ f p y, p ≤ N → scan N a f p = some y → y ≤ N
  | 0, p, y, hp, e => by cases e; exact hp
  | f + 1, p, y, hp, e => by
    unfold scan at e
    split at e
    · split at e
      · rename_i w
        exact scan_le f _ y (by omega) e
      · cases e
    · cases e
      exact (mt_le N a p (fm (a p)) (lnF (fm (a p))) 0).2.2 (by omega)
theorem RW_LT {xn mn : Int32} {xl ml : Nat → Int32} (h : RW xn mn xl ml) : ∃ (N : Nat) (a : Nat → Nat), xn = nI N ∧ mn = nI N ∧ LT N a xl ∧ LT N a ml := by
  obtain ⟨n, hn, e1, e2, hl⟩ := h
  have cl : ∀ i, i < 96 → (xl i).toNatClampNeg < 256 ∧ xl i = nI (xl i).toNatClampNeg ∧ ml i = nI (xl i).toNatClampNeg := fun i hi => by
    obtain ⟨c, h1, h2, h3⟩ := hl i hi
    rw [h2, nI_clamp (by omega)]
    exact ⟨h1, rfl, h3⟩
  exact ⟨n, fun i => (xl i).toNatClampNeg, e1, e2, ⟨hn, fun i hi => ⟨(cl i hi).1, (cl i hi).2.1⟩⟩, ⟨hn, fun i hi => ⟨(cl i hi).1, (cl i hi).2.2⟩⟩⟩
theorem core_55_end {v2 : Int32} (hv : ¬ v2 = (-9 : Int32)) (wl wb wm lm : Int32) (wk wf ml : Nat → Int32) (k : (Int32 × Int32 × Int32 × Int32 × Int32 × (Nat → Int32) × (Nat → Int32) × (Nat → Int32)) → Option MO) (l b m p : Int32) (mk mf nums : Nat → Int32) : f_X6_core_55 wl wb wm lm wk wf ml k 1000 v2 l b m p mk mf nums = k (v2, l, b, m, p, mk, mf, nums) := by
  rw [show (1000 : Nat) = 999 + 1 from rfl, f_X6_core_55_s, if_neg hv]
theorem eq_core {tolds : Int32} {hasImage : Int32} {n_heirs : Int32} {n_left : Int32} {n_bitten : Int32} {n_kinds : (Nat → Int32)} {n_figures : (Nat → Int32)} {k_heirs : Int32} {k_left : Int32} {k_bitten : Int32} {k_kinds : (Nat → Int32)} {k_figures : (Nat → Int32)} {t_heirs : Int32} {t_left : Int32} {t_bitten : Int32} {t_kinds : (Nat → Int32)} {t_figures : (Nat → Int32)} {r_gone : Int32} {r_heaps : Int32} {r_fewestCells : Int32} {r_deed : Int32} {c_ways : (Nat → Int32)} {c_fewest : (Nat → Int32)} {c_nextWays : (Nat → Int32)} {c_nextFewest : (Nat → Int32)} {x_length : Int32} {x_letters : (Nat → Int32)} {told : (Nat → Int32)} {refusals : (Nat → Int32)} {ends : (Nat → Int32)} {m_left : Int32} {m_bites : Int32} {m_many : Int32} {m_imageLeft : Int32} {m_imageBites : Int32} {m_imageMany : Int32} {m_wasLeft : Int32} {m_wasBites : Int32} {m_wasMany : Int32} {m_hasImage : Int32} {m_letterMany : Int32} {m_rowMany : Int32} {m_place : Int32} {m_seed : Int32} {m_kind : (Nat → Int32)} {m_figure : (Nat → Int32)} {m_imageKind : (Nat → Int32)} {m_imageFigure : (Nat → Int32)} {m_wasKind : (Nat → Int32)} {m_wasFigure : (Nat → Int32)} {m_letters : (Nat → Int32)} {m_row : (Nat → Int32)} {m_refused : (Nat → Int32)} {m_numbers : (Nat → Int32)} {m_counted : (Nat → Int32)} {m_few : (Nat → Int32)} (hR : RR tolds hasImage n_heirs n_left n_bitten n_kinds n_figures k_heirs k_left k_bitten k_kinds k_figures x_length x_letters told refusals m_left m_bites m_many m_imageLeft m_imageBites m_imageMany m_hasImage m_letterMany m_rowMany m_kind m_figure m_imageKind m_imageFigure m_letters m_row m_refused) : ∃ (o1 : Int32 × Int32 × Int32 × Int32 × (Nat → Int32) × (Nat → Int32) × Int32 × Int32 × Int32 × (Nat → Int32) × (Nat → Int32) × Int32) (o2 : Int32 × Int32 × Int32 × Int32 × Int32 × Int32 × Int32 × Int32 × Int32 × (Nat → Int32) × (Nat → Int32) × (Nat → Int32) × (Nat → Int32) × (Nat → Int32)), f_X5_core n_heirs n_left n_bitten n_kinds n_figures t_heirs t_left t_bitten t_kinds t_figures x_length x_letters = some o1 ∧ f_X6_core m_left m_bites m_many m_letterMany m_kind m_figure m_wasKind m_wasFigure m_letters m_numbers = some o2 ∧ o1.1 = o2.1 ∧ RR tolds hasImage o1.2.1 o1.2.2.1 o1.2.2.2.1 o1.2.2.2.2.1 o1.2.2.2.2.2.1 k_heirs k_left k_bitten k_kinds k_figures o1.2.2.2.2.2.2.2.2.2.2.2 x_letters told refusals o2.2.1 o2.2.2.1 o2.2.2.2.1 m_imageLeft m_imageBites m_imageMany m_hasImage o2.2.2.2.2.2.2.2.1 m_rowMany o2.2.2.2.2.2.2.2.2.2.1 o2.2.2.2.2.2.2.2.2.2.2.1 m_imageKind m_imageFigure m_letters m_row m_refused := by
  obtain ⟨⟨h, b, K, F, rfl, hL, rfl, rfl, hh, rfl, rfl, hb, hs, hs'⟩, hT, hW, hF, hI⟩ := hR
  have hW0 := hW
  obtain ⟨n, hn, _, _, hl⟩ := hW0
  obtain ⟨N, a, rfl, rfl, hx, hm⟩ := RW_LT hW
  have hN := hx.1
  have hW' : RW (0 : Int32) (0 : Int32) x_letters m_letters := ⟨0, by decide, rfl, rfl, hl⟩
  have hNow : RN n_left (nI h) (nI b) n_kinds n_figures n_left (nI h) (nI b) m_kind m_figure := ⟨h, b, K, F, rfl, hL, rfl, rfl, hh, rfl, rfl, hb, hs, hs'⟩
  obtain ⟨wk, wf, ew, hw⟩ := m_lays hs' n_left (nI b) (nI h) 5 0 1000 m_wasKind m_wasFigure rfl (by decide) (fun j hj => absurd hj (Nat.not_lt_zero j))
  have ew' : f_X6_lays n_left (nI b) (nI h) m_kind m_figure m_wasKind m_wasFigure = some (n_left, nI b, nI h, wk, wf) := ew
  unfold f_X5_core f_X5_trialOfText f_X6_core f_X0_becomes
  by_cases hN0 : N = 0
  · subst hN0
    have x0 : f_X4_misfit (nI 0) x_letters = some (nI 0) := by
      unfold f_X4_misfit
      rw [show (1000 : Nat) = 999 + 1 from rfl, f_X4_misfit_4_s, if_pos (show nI 0 ≤ (0 : Int32) by decide), if_pos (show nI 0 ≤ (0 : Int32) by decide)]
    have m0 : ∀ k : (Int32 × Int32 × Int32 × (Nat → Int32)) → Option MO, f_X6_core_10 (nI 0) m_letters k 1000 (0 : Int32) (-9 : Int32) (0 : Int32) m_numbers = k ((0 : Int32) + 1, (-1000 : Int32) - nI 0, nI 0, m_numbers) := fun k => by
      have r0 : f_X6_readsStatement (nI 0) (0 : Int32) m_letters m_numbers = some ((0 : Int32), nI 0, m_numbers) := m_read_end hm m_numbers
      rw [show (1000 : Nat) = 999 + 1 from rfl, f_X6_core_10_s, r0, bn_some, jn_eq, if_pos rfl, if_neg (f1000 0 (by decide)).1]
    rw [x0, bn_some, if_neg (show ¬ nI 0 = (-1 : Int32) by decide), bn_some, if_pos (f1000 0 (by decide)).2, bn_some, m0, ew', bn_some, show (1000 : Nat) = 999 + 1 from rfl, f_X6_core_55_s, if_neg (f1000 0 (by decide)).1, if_neg (f1000 0 (by decide)).1]
    exact ⟨_, _, rfl, rfl, rfl, hNow, hT, hW', hF, hI⟩
  · have h0 : 0 < N := by omega
    have xm := x_misfit hx h0
    obtain ⟨pl, nums', er⟩ := core_read hm (fun (e8 : Int32 × Int32 × Int32 × (Nat → Int32)) => bn (f_X6_lays n_left (nI b) (nI h) m_kind m_figure m_wasKind m_wasFigure) (fun (r9 : Int32 × Int32 × Int32 × (Nat → Int32) × (Nat → Int32)) => f_X6_core_55 r9.1 r9.2.1 r9.2.2.1 (nI N) r9.2.2.2.1 r9.2.2.2.2 m_letters (fun (e23 : Int32 × Int32 × Int32 × Int32 × Int32 × (Nat → Int32) × (Nat → Int32) × (Nat → Int32)) => if e23.1 = (-9 : Int32) then (some (e8.1, e23.2.1, e23.2.2.1, e23.2.2.2.1, r9.1, r9.2.1, r9.2.2.1, (0 : Int32), e23.2.2.2.2.1, e23.2.2.2.2.2.1, e23.2.2.2.2.2.2.1, r9.2.2.2.1, r9.2.2.2.2, e23.2.2.2.2.2.2.2)) else (some (e23.1, e23.2.1, e23.2.2.1, e23.2.2.2.1, r9.1, r9.2.1, r9.2.2.1, (0 : Int32), e23.2.2.2.2.1, e23.2.2.2.2.2.1, e23.2.2.2.2.2.2.1, r9.2.2.2.1, r9.2.2.2.2, e23.2.2.2.2.2.2.2))) 1000 e8.2.1 n_left (nI b) (nI h) (0 : Int32) m_kind m_figure e8.2.2.2)) 96 0 1000 0 m_numbers h0 (by omega) (by omega)
    have er' := er
    rw [show nI 0 = (0 : Int32) from rfl] at er'
    cases sc : scan N a 96 0 with
    | some y =>
      have y96 := scan_le 96 0 y (by omega) sc
      rw [sc, show scV (some y) = (-1000 : Int32) - nI y from rfl] at er'
      rw [er', ew', bn_some]
      rw [sc] at xm
      have xm' : f_X4_misfit (nI N) x_letters = some (nI y) := xm
      rw [xm', bn_some, if_neg (show ¬ nI y = (-1 : Int32) from fun q => by
        have e : (nI y).toInt = (-1 : Int32).toInt := congrArg Int32.toInt q
        rw [nI_toInt (by omega)] at e
        have : (-1 : Int32).toInt = -1 := by decide
        omega), bn_some, if_pos (f1000 y (by omega)).2, bn_some, bn_some, core_55_end (v2 := (-1000 : Int32) - nI y) (f1000 y (by omega)).1, if_neg (f1000 y (by omega)).1]
      exact ⟨_, _, rfl, rfl, rfl, hNow, hT, hW', hF, hI⟩
    | none =>
      rw [sc, show scV none = (-9 : Int32) from rfl] at er'
      rw [er', ew', bn_some]
      rw [sc] at xm
      have xm' : f_X4_misfit (nI N) x_letters = some (-1 : Int32) := xm
      rw [xm', bn_some, if_pos rfl, bn_some]
      have R0 : RNx (nI h, n_left, nI b, va_cpy n_kinds t_kinds 0 0 5, va_cpy n_figures t_figures 0 0 5) (n_left, nI b, nI h, m_kind, m_figure) := ⟨h, b, K, F, rfl, hL, rfl, rfl, hh, rfl, rfl, hb, HS_cpy hs, hs'⟩
      rcases core_do hx hm hw n_left (nI b) (nI h) (fun (e23 : Int32 × Int32 × Int32 × Int32 × Int32 × (Nat → Int32) × (Nat → Int32) × (Nat → Int32)) => if e23.1 = (-9 : Int32) then (some (nI (0 + cntS N a 96 0), e23.2.1, e23.2.2.1, e23.2.2.2.1, n_left, nI b, nI h, (0 : Int32), e23.2.2.2.2.1, e23.2.2.2.2.2.1, e23.2.2.2.2.2.2.1, wk, wf, e23.2.2.2.2.2.2.2)) else (some (e23.1, e23.2.1, e23.2.2.1, e23.2.2.2.1, n_left, nI b, nI h, (0 : Int32), e23.2.2.2.2.1, e23.2.2.2.2.2.1, e23.2.2.2.2.2.2.1, wk, wf, e23.2.2.2.2.2.2.2))) 96 0 1000 1000 0 _ _ nums' sc h0 (by omega) (by omega) R0 with ⟨xo', mo', pl', nums2, ex, em, R'⟩ | ⟨y, xo', pl', hk, hf, nums2, hy, ex, em, hl'⟩
      · simp only at ex em
        rw [show nI 0 = (0 : Int32) from rfl] at ex em
        obtain ⟨th, tl, tb, tk, tf⟩ := xo'
        obtain ⟨ml', mb', mn', mk', mf'⟩ := mo'
        obtain ⟨h', b', K', F', e1, hL', e2, e3, hh', e4, e5, hb', hs1, hs2⟩ := R'
        simp only at e1 hL' e2 e3 e4 e5 hs1 hs2 em
        subst e1 e2 e3 e4 e5
        have cle : ∀ f p, cntS N a f p ≤ f := fun f => by
          induction f with
          | zero => intro p; exact Nat.le_refl _
          | succ f ih =>
            intro p
            unfold cntS
            split
            · split
              · have := ih (p + lnF (fm (a p))); omega
              · omega
            · omega
        have c96 := cle 96 0
        rw [ex, bn_some, if_neg (show ¬ nI (0 + cntS N a 96 0) < 0 from not_lt0 (by omega)), bn_some, bn_some, em, if_pos trivial]
        exact ⟨_, _, rfl, rfl, rfl, ⟨h', b', K', F', rfl, hL', rfl, rfl, hh', rfl, rfl, hb', HS_cpy hs1, hs2⟩, hT, hW', hF, hI⟩
      · simp only at ex em
        rw [show nI 0 = (0 : Int32) from rfl] at ex em
        rw [ex, bn_some, if_pos (f2000 y hy).2, bn_some, em, if_neg (f2000 y hy).1]
        exact ⟨_, _, rfl, rfl, rfl, ⟨h, b, K, F, rfl, hL, rfl, rfl, hh, rfl, rfl, hb, hs, hl'⟩, hT, hW', hF, hI⟩
