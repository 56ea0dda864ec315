/-! bridge: both loops -/
def gM (L : Int32) (fo : Option Nat) (z : Int32) : Int32 := match fo with | none => z | some c => nI (st L c)
theorem x_mid_loop {L : Int32} (hL : Cr L) (z : Int32) : ∀ (m i n : Nat) (fo : Option Nat), i + m = 25 → m < n → Mid L 0 i fo → ∃ fo', f_X2_middleOf_7 L n (eR fo) (gM L fo z) (nI i) = some (eR fo') ∧ Mid L 0 25 fo' := by
  intro m
  induction m with
  | zero =>
    intro i n fo hi hn hm
    obtain ⟨n, rfl⟩ := fuel hn
    obtain rfl : i = 25 := by omega
    rw [f_X2_middleOf_7_s, if_pos (by decide)]
    exact ⟨fo, rfl, hm⟩
  | succ m ih =>
    intro i n fo hi hn hm
    obtain ⟨n, rfl⟩ := fuel hn
    have hi25 : i < 25 := by omega
    have up := Mid_up (Nat.zero_le i) hm
    have b1 := st_le (L := L) hi25
    have xs : f_X2_stepsToAll (nI i) L = some (nI (st L i)) := x_steps hi25
    rw [f_X2_middleOf_7_s, if_neg (show ¬ (25 : Int32) ≤ nI i from nI_nle' (a := 25) (by decide) (by omega) (by omega)), ite_p (and_bit0 hi25), nI_1, xs, bn_some]
    cases h : bt L i with
    | false =>
      rw [h, if_neg (by decide)] at up
      rw [if_pos rfl, bn_some]
      exact ih (i + 1) n fo (by omega) (by omega) up
    | true =>
      rw [h, if_pos rfl] at up
      rw [if_neg (show ¬ true = false by decide)]
      cases fo with
      | none =>
        rw [if_pos (show eR none = (-9 : Int32) from rfl), bn_some]
        exact ih (i + 1) n (some i) (by omega) (by omega) up
      | some c =>
        have hc : c < 25 := by have := hm.2.1; omega
        have b2 := st_le (L := L) hc
        rw [if_neg (show ¬ eR (some c) = (-9 : Int32) from fun q => by
          have := (eR_neg (fo := some c) (fun b e => by cases e; omega)).mp q
          cases this), show gM L (some c) z = nI (st L c) from rfl, ite_le_nI (by omega) (by omega)]
        by_cases q : st L c ≤ st L i
        · have up' : Mid L 0 (i + 1) (some c) := by
            have u2 : Mid L 0 (i + 1) (if st L c ≤ st L i then some c else some i) := up
            rw [if_pos q] at u2; exact u2
          rw [if_pos q, bn_some]
          exact ih (i + 1) n (some c) (by omega) (by omega) up'
        · have up' : Mid L 0 (i + 1) (some i) := by
            have u2 : Mid L 0 (i + 1) (if st L c ≤ st L i then some c else some i) := up
            rw [if_neg q] at u2; exact u2
          rw [if_neg q, bn_some]
          exact ih (i + 1) n (some i) (by omega) (by omega) up'
def Lst (L : Int32) (m : Nat) (fo : Option Nat) : Prop := match fo with
  | none => ∀ k, m ≤ k → k < 25 → br L k = false
  | some c => m ≤ c ∧ c < 25 ∧ br L c = true ∧ ∀ k, m ≤ k → k < c → br L k = false
theorem Lst_down {L : Int32} {m : Nat} (hm : m < 25) {fo : Option Nat} (h : Lst L (m + 1) fo) : Lst L m (if br L m then some m else fo) := by
  cases hb : br L m with
  | true => rw [if_pos rfl]; exact ⟨Nat.le_refl _, hm, hb, fun k h1 h2 => by omega⟩
  | false =>
    rw [if_neg (by decide)]
    cases fo with
    | none =>
      intro k h1 h2
      by_cases w : k = m
      · rw [w]; exact hb
      · exact h k (by omega) h2
    | some c =>
      refine ⟨by have := h.1; omega, h.2.1, h.2.2.1, fun k h1 h2 => ?_⟩
      by_cases w : k = m
      · rw [w]; exact hb
      · exact h.2.2.2 k (by omega) h2
def vv (m : Nat) : Int32 := nI m - 1
theorem vv_s (m : Nat) : vv (m + 1) = nI m := by unfold vv; exact pk_sub (a := m + 1) (b := 1) (by omega)
theorem vv_d (m : Nat) : nI m + (-1 : Int32) = vv m := by unfold vv; rw [Int32.sub_eq_add_neg]
def pkD (L : Int32) (m : Nat) (g : Option Nat) : Option Nat := match g with | none => some m | some c => if st L c < st L m then some c else some m
theorem m_bridge_loop {L : Int32} (hL : Cr L) (k : Int32 × Int32 × Int32 → Option (Int32 × (Nat → Int32))) : ∀ (m n : Nat) (f g : Option Nat), m ≤ 25 → m < n → Lst L m f → Mid L m 25 g → ∃ f' g', f_X6_bridge_29 L k n (nI (fb_ct (br L) 25 - fb_ct (br L) m)) (eR f) (eR g) (vv m) = k (nI (fb_ct (br L) 25), eR f', eR g') ∧ Lst L 0 f' ∧ Mid L 0 25 g' := by
  intro m
  induction m with
  | zero =>
    intro n f g hm hn hf hg
    obtain ⟨n, rfl⟩ := fuel hn
    rw [f_X6_bridge_29_s, if_pos (show vv 0 < 0 by decide)]
    exact ⟨f, g, rfl, hf, hg⟩
  | succ m ih =>
    intro n f g hm hn hf hg
    obtain ⟨n, rfl⟩ := fuel hn
    have h25 : m < 25 := by omega
    have n1 := nh_le hL
    have n2 := nh_le (cr_wo (c := m) hL)
    have b1 := st_le (L := L) h25
    have ld := Lst_down h25 hf
    have md := Mid_down h25 hg
    have ct := fb_ct_succ (br L) m
    have mono := fb_ct_mono (br L) (show m + 1 ≤ 25 by omega)
    have ew : f_X6_heaps (L &&& (jshl (1 : Int32) (nI m) ^^^ (-1 : Int32))) = some (nI (nh (wo m L))) := m_heaps (cr_wo (c := m) hL)
    have el : f_X6_heaps L = some (nI (nh L)) := m_heaps hL
    have ms : f_X6_stepsFrom L (nI m) = some (nI (st L m)) := m_steps hL h25
    rw [f_X6_bridge_29_s, vv_s, if_neg (not_lt0 (by omega)), m_has hL (by omega), bn_some, ew, bn_some, el, bn_some, jn_eq, jn_eq, jn_eq, ms, bn_some, vv_d, ite_le_nI (by omega) (by omega)]
    cases h : bt L m with
    | false =>
      have hb : br L m = false := by unfold br; rw [h]; rfl
      rw [hb, if_neg (by decide)] at ld
      rw [h, if_neg (by decide)] at md
      rw [hb] at ct
      rw [if_pos (show nI (if false = true then 1 else 0) = 0 from rfl), bn_some, show fb_ct (br L) (m + 1) = fb_ct (br L) m from ct]
      exact ih n f g (by omega) (by omega) ld md
    | true =>
      rw [h, if_pos rfl] at md
      rw [if_neg (show ¬ nI (if true = true then 1 else 0) = 0 by decide)]
      have mid : (if eR g < 0 then some (nI m) else bn (f_X6_stepsFrom L (eR g)) (fun (r19 : Int32) => if r19 < nI (st L m) then some (eR g) else some (nI m))) = some (eR (pkD L m g)) := by
        cases g with
        | none => rw [if_pos (show eR none < 0 by decide)]; rfl
        | some c =>
          have hc : c < 25 := hg.2.1
          have b2 := st_le (L := L) hc
          have mc : f_X6_stepsFrom L (nI c) = some (nI (st L c)) := m_steps hL hc
          rw [if_neg (show ¬ eR (some c) < 0 from not_lt0 (by omega)), show eR (some c) = nI c from rfl, mc, bn_some, ite_p (nI_ltI (by omega) (by omega))]
          show _ = some (eR (if st L c < st L m then some c else some m))
          by_cases q : st L c < st L m
          · rw [if_pos q, if_pos q]; rfl
          · rw [if_neg q, if_neg q]; rfl
      have md2 : Mid L m 25 (pkD L m g) := by cases g; exact md; exact md
      rw [mid, bn_some, bn_some]
      by_cases q : nh (wo m L) ≤ nh L
      · have hb : br L m = false := by unfold br; rw [h]; simp [q]
        rw [hb, if_neg (by decide)] at ld
        rw [hb] at ct
        rw [if_pos q, if_pos rfl, if_pos rfl, show ∀ x : Nat, nI x + (0 : Int32) = nI (x + 0) from fun x => nI_add x 0, Nat.add_zero, show fb_ct (br L) (m + 1) = fb_ct (br L) m from ct]
        exact ih n f _ (by omega) (by omega) ld md2
      · have hb : br L m = true := by unfold br; rw [h]; simp; omega
        rw [hb, if_pos rfl] at ld
        rw [hb] at ct
        have ct' : fb_ct (br L) (m + 1) = fb_ct (br L) m + 1 := ct
        rw [if_neg q, if_neg (show ¬ (1 : Int32) = 0 by decide), if_neg (show ¬ (1 : Int32) = 0 by decide), nI_1, show fb_ct (br L) 25 - fb_ct (br L) (m + 1) + 1 = fb_ct (br L) 25 - fb_ct (br L) m by omega]
        exact ih n (some m) _ (by omega) (by omega) ld md2
theorem eq_bridge {tolds : Int32} {hasImage : Int32} {n_heirs : Int32} {n_left : Int32} {n_bitten : Int32} {n_kinds : (Nat → Int32)} {n_figures : (Nat → Int32)} {k_heirs : Int32} {k_left : Int32} {k_bitten : Int32} {k_kinds : (Nat → Int32)} {k_figures : (Nat → Int32)} {t_heirs : Int32} {t_left : Int32} {t_bitten : Int32} {t_kinds : (Nat → Int32)} {t_figures : (Nat → Int32)} {r_gone : Int32} {r_heaps : Int32} {r_fewestCells : Int32} {r_deed : Int32} {c_ways : (Nat → Int32)} {c_fewest : (Nat → Int32)} {c_nextWays : (Nat → Int32)} {c_nextFewest : (Nat → Int32)} {x_length : Int32} {x_letters : (Nat → Int32)} {told : (Nat → Int32)} {refusals : (Nat → Int32)} {ends : (Nat → Int32)} {m_left : Int32} {m_bites : Int32} {m_many : Int32} {m_imageLeft : Int32} {m_imageBites : Int32} {m_imageMany : Int32} {m_wasLeft : Int32} {m_wasBites : Int32} {m_wasMany : Int32} {m_hasImage : Int32} {m_letterMany : Int32} {m_rowMany : Int32} {m_place : Int32} {m_seed : Int32} {m_kind : (Nat → Int32)} {m_figure : (Nat → Int32)} {m_imageKind : (Nat → Int32)} {m_imageFigure : (Nat → Int32)} {m_wasKind : (Nat → Int32)} {m_wasFigure : (Nat → Int32)} {m_letters : (Nat → Int32)} {m_row : (Nat → Int32)} {m_refused : (Nat → Int32)} {m_numbers : (Nat → Int32)} {m_counted : (Nat → Int32)} {m_few : (Nat → Int32)} (hR : RR tolds hasImage n_heirs n_left n_bitten n_kinds n_figures k_heirs k_left k_bitten k_kinds k_figures x_length x_letters told refusals m_left m_bites m_many m_imageLeft m_imageBites m_imageMany m_hasImage m_letterMany m_rowMany m_kind m_figure m_imageKind m_imageFigure m_letters m_row m_refused) (a1 : Int32) : ∃ (o1 : Int32 × (Nat → Int32)) (o2 : Int32 × (Nat → Int32)), f_X5_bridge n_left refusals a1 = some o1 ∧ f_X6_bridge m_left m_refused a1 = some o2 ∧ o1.1 = o2.1 ∧ RR tolds hasImage n_heirs n_left n_bitten n_kinds n_figures k_heirs k_left k_bitten k_kinds k_figures x_length x_letters told o1.2 m_left m_bites m_many m_imageLeft m_imageBites m_imageMany m_hasImage m_letterMany m_rowMany m_kind m_figure m_imageKind m_imageFigure m_letters m_row o2.2 := by
  have hR0 := hR
  obtain ⟨⟨h, b, K, F, rfl, hL, rfl, rfl, hh, rfl, rfl, hb, hs, hs'⟩, hT, hW, hF, hI⟩ := hR
  unfold f_X5_bridge f_X6_bridge
  rw [show f_X6_isIn a1 (0 : Int32) (2 : Int32) = f_X6_isIn a1 (0 : Int32) (nI 2) from rfl]
  rcases rng a1 (n := 2) (by decide) with q | q | ⟨s, hs3, rfl⟩
  · rw [if_pos q, isIn_no1 q, bn_some, if_pos rfl, x_no2, m_no2, bn_some, bn_some]
    exact ⟨_, _, rfl, rfl, rfl, RR_bump hR0 (by decide)⟩
  · have f := gt_ge (by decide) q
    rw [if_neg f.2.1, if_neg (show ¬ a1 ≤ 2 from f.2.2.2.1 2 (by decide)), isIn_no2 q, bn_some, if_pos rfl, x_no2, m_no2, bn_some, bn_some]
    exact ⟨_, _, rfl, rfl, rfl, RR_bump hR0 (by decide)⟩
  · obtain ⟨f', g', y, hf, hg⟩ := m_bridge_loop hL (fun (e26 : Int32 × Int32 × Int32) => if nI s = 0 then (some (e26.1, m_refused)) else (if nI s = (1 : Int32) then (some (e26.2.1, m_refused)) else (some (e26.2.2, m_refused)))) 25 1000 none none (by decide) (by decide) (fun k h1 h2 => by omega) (fun k h1 h2 => by omega)
    rw [Nat.sub_self, show nI 0 = (0 : Int32) from rfl, show eR none = (-9 : Int32) from rfl, show vv 25 = (24 : Int32) by decide] at y
    rw [if_neg (not_lt0 (by omega)), if_pos (show nI s ≤ (2 : Int32) from nI_le' (b := 2) (by omega) (by decide) hs3), isIn_yes hs3 (by decide), bn_some, if_neg (show ¬ (1 : Int32) = 0 by decide), y]
    obtain ⟨B, xb, cB, bB⟩ := x_bridges hL
    have hj3 : s = 0 ∨ s = 1 ∨ s = 2 := by omega
    rcases hj3 with rfl | rfl | rfl
    · rw [if_neg (show ¬ nI 0 = (2 : Int32) by decide), xb, bn_some, if_pos (show nI 0 = (0 : Int32) from rfl), if_pos (show nI 0 = (0 : Int32) from rfl), x_bits cB, bn_some]
      exact ⟨_, _, rfl, rfl, congrArg nI (fb_ct_cong bB), hR0⟩
    · rw [if_neg (show ¬ nI 1 = (2 : Int32) by decide), xb, bn_some, if_neg (show ¬ nI 1 = (0 : Int32) by decide), if_neg (show ¬ nI 1 = (0 : Int32) by decide), if_pos (show nI 1 = (1 : Int32) from rfl)]
      by_cases z : B = 0
      · rw [if_pos z]
        refine ⟨_, _, rfl, rfl, ?_, hR0⟩
        cases f' with
        | none => rfl
        | some c =>
          have := bB c hf.2.1
          rw [z, b_0, hf.2.2.1] at this
          cases this
      · obtain ⟨c, hc⟩ := ex_least cB z
        rw [if_neg z, x_leastCell hc, bn_some]
        refine ⟨_, _, rfl, rfl, ?_, hR0⟩
        have hbr : br n_left c = true := by rw [← bB c hc.1]; exact hc.2.1
        cases f' with
        | none =>
          have := hf c (Nat.zero_le c) hc.1
          rw [hbr] at this; cases this
        | some d =>
          show nI c = nI d
          rcases Nat.lt_trichotomy c d with w | w | w
          · have := hf.2.2.2 c (Nat.zero_le c) w
            rw [hbr] at this; cases this
          · rw [w]
          · have := hc.2.2 d w
            rw [bB d hf.2.1, hf.2.2.1] at this; cases this
    · obtain ⟨m', xm, hm⟩ := x_mid_loop hL (0 : Int32) 25 0 1000 none rfl (by decide) (fun k h1 h2 => by omega)
      have xm' : f_X2_middleOf n_left = some (eR m') := xm
      rw [if_pos (show nI 2 = (2 : Int32) from rfl), xm', bn_some, if_neg (show ¬ nI 2 = (0 : Int32) by decide), if_neg (show ¬ nI 2 = (1 : Int32) by decide)]
      exact ⟨_, _, rfl, rfl, congrArg eR (Mid_one hm hg), hR0⟩
