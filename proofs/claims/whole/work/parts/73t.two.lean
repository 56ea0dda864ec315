/-! two -/
theorem less1 (x : Int32) : x - (1 : Int32) = (-x) ^^^ (-1 : Int32) := by
  apply Int32.toBitVec_inj.mp
  rw [Int32.toBitVec_sub, Int32.toBitVec_xor, Int32.toBitVec_neg]
  show x.toBitVec - 1#32 = (-x.toBitVec) ^^^ BitVec.allOnes 32
  rw [BitVec.xor_allOnes, BitVec.not_neg]
theorem and_less {L : Int32} {c : Nat} (h : isL L c) (hL : Cr L) : L &&& (L - (1 : Int32)) = wo c L := by
  refine cr_ext (cr_and _ hL) (cr_wo hL) (fun i hi => ?_)
  rw [bt_wo h.1 hi, less1, b_and, bt_not (by omega), bt_neg L i (by omega)]
  cases hb : bt L i with
  | false => rfl
  | true =>
    have e : (∃ j, j < i ∧ bt L j = true) ↔ ¬ i = c := by
      constructor
      · rintro ⟨j, hj, h1⟩ rfl
        rw [h.2.2 j hj] at h1
        cases h1
      · intro q
        have hc : c ≤ i := by
          rcases Nat.lt_or_ge i c with w | w
          · rw [h.2.2 i w] at hb; cases hb
          · exact w
        exact ⟨c, by omega, h.2.1⟩
    simp only [e]
    by_cases q : i = c <;> simp [q]
theorem ce_one : ∀ b, b < 25 → ce b = jshl (1 : Int32) (nI b) := by decide +kernel
theorem canB_one {b : Nat} (hb : b < 25) (L : Int32) : canB b L = bt L b := by
  unfold canB
  rw [ce_one b hb]
  cases h : bt L b with
  | true =>
    have := one_and hb h
    rw [decide_eq_true (one_ne hb), decide_eq_true ((sub_iff _ _).mpr (by rw [Int32.and_comm]; exact this))]
    rfl
  | false =>
    have := one_and0 hb h
    rw [decide_eq_false (p := jshl (1 : Int32) (nI b) &&& (L ^^^ (-1 : Int32)) = 0) (fun q => by
      have z := (sub_iff _ _).mp q
      rw [Int32.and_comm, this] at z
      exact one_ne hb z.symm), Bool.and_false]
def fbF (L : Int32) : Nat → Nat → Option Nat
  | 0, _ => none
  | m + 1, i => if canB i L then some i else fbF L m (i + 1)
theorem fbF_ok (L : Int32) : ∀ (m i : Nat) (b : Nat), fbF L m i = some b → i ≤ b ∧ b < i + m ∧ canB b L = true
  | 0, _, _, h => by cases h
  | m + 1, i, b, h => by
    unfold fbF at h
    by_cases q : canB i L = true
    · rw [if_pos q] at h; cases h; exact ⟨by omega, by omega, q⟩
    · rw [if_neg q] at h
      have := fbF_ok L m (i + 1) b h
      exact ⟨by omega, by omega, this.2.2⟩
theorem fbF_hit (L : Int32) {c : Nat} (hc : canB c L = true) : ∀ (m i : Nat), i ≤ c → c < i + m → (∀ j, i ≤ j → j < c → canB j L = false) → fbF L m i = some c
  | 0, i, h1, h2, _ => by omega
  | m + 1, i, h1, h2, h3 => by
    unfold fbF
    by_cases q : i = c
    · subst q; rw [if_pos hc]
    · rw [if_neg (by rw [h3 i (by omega) (by omega)]; decide)]
      exact fbF_hit L hc m (i + 1) (by omega) (by omega) (fun j h4 h5 => h3 j (by omega) h5)
theorem fbF_none (L : Int32) : ∀ (m i : Nat), (∀ j, j < i + m → canB j L = false) → fbF L m i = none
  | 0, _, _ => rfl
  | m + 1, i, h => by
    unfold fbF
    rw [if_neg (by rw [h i (by omega)]; decide)]
    exact fbF_none L m (i + 1) (fun j hj => h j (by omega))
theorem fbF_s (L : Int32) (m i : Nat) : fbF L (m + 1) i = if canB i L then some i else fbF L m (i + 1) := rfl
theorem fbF_split (L : Int32) : ∀ (a b i : Nat), fbF L (a + b) i = match fbF L a i with | some c => some c | none => fbF L b (i + a)
  | 0, b, i => by rw [Nat.zero_add]; rfl
  | a + 1, b, i => by
    rw [Nat.add_right_comm, fbF_s, fbF_s]
    by_cases q : canB i L = true
    · rw [if_pos q, if_pos q]
    · rw [if_neg q, if_neg q, fbF_split L a b (i + 1), show i + 1 + a = i + (a + 1) by omega]
theorem m_fb_in (L : Int32) {s : Nat} (hs : s < 4) (k : Unit → Option Int32) : ∀ (m c n : Nat), c + m = 25 → m < n → f_X6_firstBite_9 L (nI s) k n (nI c) = match fbF L m (25 * s + c) with | some b => some (eM (some b)) | none => k () := by
  intro m
  induction m with
  | zero =>
    intro c n hi hn
    obtain ⟨n, rfl⟩ := fuel hn
    obtain rfl : c = 25 := by omega
    rw [f_X6_firstBite_9_s, if_pos (by decide)]
    rfl
  | succ m ih =>
    intro c n hi hn
    obtain ⟨n, rfl⟩ := fuel hn
    have hB : 25 * s + c < 100 := by omega
    have cm := m_canBite hB L
    rw [show (25 * s + c) / 25 = s by omega, show (25 * s + c) % 25 = c by omega] at cm
    rw [f_X6_firstBite_9_s, if_neg (show ¬ (25 : Int32) ≤ nI c from nI_nle' (a := 25) (by decide) (by omega) (by omega)), cm, bn_some, nI_1]
    unfold fbF
    cases hc : canB (25 * s + c) L with
    | true =>
      rw [if_neg (show ¬ nI (if true = true then 1 else 0) = 0 by decide), if_pos rfl, show (100 : Int32) = nI 100 from rfl, pk_mul, nI_add]
      show _ = some (nI (100 * ((25 * s + c) / 25) + (25 * s + c) % 25))
      rw [show (25 * s + c) / 25 = s by omega, show (25 * s + c) % 25 = c by omega]
    | false =>
      rw [if_pos (show nI (if false = true then 1 else 0) = 0 from rfl), if_neg (by decide)]
      exact ih (c + 1) n (by omega) (by omega)
theorem m_fb_out (L : Int32) : ∀ (m s n : Nat), s + m = 4 → m < n → f_X6_firstBite_2 L n (nI s) = some (eM (fbF L (25 * m) (25 * s))) := by
  intro m
  induction m with
  | zero =>
    intro s n hi hn
    obtain ⟨n, rfl⟩ := fuel hn
    obtain rfl : s = 4 := by omega
    rw [f_X6_firstBite_2_s, if_pos (by decide)]
    rfl
  | succ m ih =>
    intro s n hi hn
    obtain ⟨n, rfl⟩ := fuel hn
    have z := m_fb_in L (show s < 4 by omega) (fun (e6 : Unit) => f_X6_firstBite_2 L n ((nI s) + (1 : Int32))) 25 0 1000 rfl (by decide)
    rw [show nI 0 = (0 : Int32) from rfl, Nat.add_zero, nI_1] at z
    rw [f_X6_firstBite_2_s, if_neg (show ¬ (4 : Int32) ≤ nI s from nI_nle' (a := 4) (by decide) (by omega) (by omega)), nI_1, z, show 25 * (m + 1) = 25 + 25 * m by omega, fbF_split L 25 (25 * m) (25 * s)]
    cases fbF L 25 (25 * s) with
    | some b => rfl
    | none => exact ih (s + 1) n (by omega) (by omega)
theorem m_fb (L : Int32) : f_X6_firstBite L = some (eM (fbF L 100 0)) := m_fb_out L 4 0 1000 rfl (by decide)
theorem canB_zero {b : Nat} : canB b 0 = false := by
  cases h : canB b 0 with
  | false => rfl
  | true =>
    have := canB_ne h
    rw [Int32.zero_and] at this
    exact absurd this.2.symm this.1
theorem fb_aft {L : Int32} (hL : Cr L) : aft (fbF L 100 0) L = L &&& (L - (1 : Int32)) := by
  by_cases q : L = 0
  · subst q
    rw [fbF_none 0 100 0 (fun j _ => canB_zero)]
    decide
  · obtain ⟨c, h⟩ := ex_least hL q
    have hc : canB c L = true := by rw [canB_one h.1]; exact h.2.1
    rw [fbF_hit L hc 100 0 (by omega) (by have := h.1; omega) (fun j _ hj => by rw [canB_one (by have := h.1; omega)]; exact h.2.2 j hj), and_less h hL]
    show bh c L = _
    rw [bh_can hc, ce_one c h.1]
    rfl
def ch (K F : Nat → Nat) (j z : Nat) (L : Int32) : Int32 := if z = 0 then aft (BF (1 : Int32) (sh K F j) L) L else L &&& (L - (1 : Int32))
theorem cr_ch {K F : Nat → Nat} {j z : Nat} {L : Int32} (hL : Cr L) : Cr (ch K F j z L) := by unfold ch; split; exact cr_aft hL; exact cr_and _ hL
theorem x_chosen {K F : Nat → Nat} {nk nf : Nat → Int32} (hs : HS K F nk nf) {j : Nat} (hj : j < 5) {L : Int32} (hL : Cr L) {z : Nat} (hz : z < 2) (g1 g2 g3 g4 : Int32) : ∃ u1 u2 u3 u4, f_X5_chosen nk nf g1 g2 g3 g4 (nI j) (nI z) L = some (ch K F j z L, u1, u2, u3, u4) := by
  unfold f_X5_chosen ch
  rw [ite_p (nI0_iff (by omega))]
  by_cases q : z = 0
  · obtain ⟨u1, u2, u3, u4, e⟩ := x_further hs hj hL (1 : Int32)
    rw [if_pos q, if_pos q, e, bn_some, x_behind_e (fun b e => BF_ok e), bn_some]
    exact ⟨_, _, _, _, rfl⟩
  · rw [if_neg q, if_neg q]
    exact ⟨_, _, _, _, rfl⟩
theorem m_pick {K F : Nat → Nat} {nk nf : Nat → Int32} (hs : HS K F nk nf) {j : Nat} (hj : j < 5) {L : Int32} (hL : Cr L) {z : Nat} (hz : z < 2) : ∃ fo : Option Nat, (if nI z = 0 then bn (f_X6_biteFor nk nf L (nI j) (1 : Int32)) (fun r4 => some r4) else bn (f_X6_firstBite L) (fun r2 => some r2)) = some (eM fo) ∧ f_X6_after L (eM fo) = some (ch K F j z L) := by
  unfold ch
  rw [ite_p (nI0_iff (by omega))]
  by_cases q : z = 0
  · rw [if_pos q, if_pos q, m_biteFor hs hj hL, bn_some]
    exact ⟨_, rfl, m_after (fun b e => BF_ok e)⟩
  · rw [if_neg q, if_neg q, m_fb, bn_some]
    refine ⟨_, rfl, ?_⟩
    rw [m_after (fun b e => ⟨by have := fbF_ok L 100 0 b e; omega, (fbF_ok L 100 0 b e).2.2⟩), fb_aft hL]
theorem m_both {K F : Nat → Nat} {nk nf : Nat → Int32} (hs : HS K F nk nf) {w j1 j2 : Nat} (hw : w < 5) (h1 : j1 < 5) (h2 : j2 < 5) {L : Int32} (hL : Cr L) {z1 z2 : Nat} (hz1 : z1 < 2) (hz2 : z2 < 2) : f_X6_shareBoth L nk nf (nI w) (nI j1) (nI z1) (nI j2) (nI z2) = some (nI (sh K F w (ch K F j2 z2 (ch K F j1 z1 L)))) := by
  obtain ⟨fo, e, f⟩ := m_pick hs h1 hL hz1
  have hM : Cr (ch K F j1 z1 L) := cr_ch hL
  unfold f_X6_shareBoth
  rw [e, bn_some, f, bn_some, ite_p (nI0_iff (by omega))]
  generalize ch K F j1 z1 L = M at hM
  have hN : Cr (ch K F j2 z2 M) := cr_ch hM
  obtain ⟨fo2, e2, f2⟩ := m_pick hs h2 hM hz2
  rw [ite_p (nI0_iff (by omega))] at e2
  by_cases q : z2 = 0
  · rw [if_pos q] at e2
    have e3 : f_X6_biteFor nk nf M (nI j2) (1 : Int32) = some (eM fo2) := by
      rw [m_biteFor hs h2 hM, bn_some] at e2
      rw [m_biteFor hs h2 hM, e2]
    rw [if_pos q, e3, bn_some, f2, bn_some, m_shareOf hs hw hN, bn_some]
  · rw [if_neg q] at e2
    have e3 : f_X6_firstBite M = some (eM fo2) := by
      rw [m_fb, bn_some] at e2
      rw [m_fb, e2]
    rw [if_neg q, e3, bn_some, f2, bn_some, m_shareOf hs hw hN, bn_some]
def en (K F : Nat → Nat) (a b : Nat) (L : Int32) (i : Nat) : Int32 := ch K F b (i % 2) (ch K F a (i / 2) L)
theorem cr_en {K F : Nat → Nat} {a b i : Nat} {L : Int32} (hL : Cr L) : Cr (en K F a b L i) := cr_ch (cr_ch hL)
theorem x_two_ends {K F : Nat → Nat} {nk nf : Nat → Int32} (hs : HS K F nk nf) {a b : Nat} (ha : a < 5) (hb : b < 5) {L : Int32} (hL : Cr L) (k : Int32 × Int32 × Int32 × Int32 × (Nat → Int32) → Option (Int32 × Int32 × Int32 × Int32 × Int32 × (Nat → Int32) × (Nat → Int32))) : ∀ (m i n : Nat) (g1 g2 g3 g4 : Int32) (es : Nat → Int32), i + m = 4 → m < n → (∀ j, j < i → es j = en K F a b L j) → ∃ u1 u2 u3 u4 es', f_X5_two_17 (nI a) (nI b) L nk nf k n (nI i) g1 g2 g3 g4 es = k (u1, u2, u3, u4, es') ∧ ∀ j, j < 4 → es' j = en K F a b L j := by
  intro m
  induction m with
  | zero =>
    intro i n g1 g2 g3 g4 es hi hn he
    obtain ⟨n, rfl⟩ := fuel hn
    obtain rfl : i = 4 := by omega
    rw [f_X5_two_17_s, if_pos (by decide)]
    exact ⟨_, _, _, _, _, rfl, he⟩
  | succ m ih =>
    intro i n g1 g2 g3 g4 es hi hn he
    obtain ⟨n, rfl⟩ := fuel hn
    obtain ⟨u1, u2, u3, u4, e⟩ := x_chosen hs ha hL (z := i / 2) (by omega) g1 g2 g3 g4
    obtain ⟨w1, w2, w3, w4, f⟩ := x_chosen hs hb (cr_ch (K := K) (F := F) (j := a) (z := i / 2) hL) (z := i % 2) (by omega) u1 u2 u3 u4
    rw [f_X5_two_17_s, if_neg (show ¬ (4 : Int32) ≤ nI i from nI_nle' (a := 4) (by decide) (by omega) (by omega)), show (2 : Int32) = nI 2 from rfl, div_nI (by omega) (by decide) (by decide), e, bn_some, jrem_nI (by omega) (by decide) (by decide), f, bn_some, inb_nI (by omega) (by decide), ck_true, nI_clamp (by omega), nI_1]
    refine ih (i + 1) n _ _ _ _ _ (by omega) (by omega) (fun j hj => ?_)
    unfold upd
    by_cases q : j = i
    · rw [if_pos q, q]; rfl
    · rw [if_neg q]; exact he j (by omega)
theorem flip2 : ∀ i, i < 4 → nI i ^^^ (2 : Int32) = nI (2 * (1 - i / 2) + i % 2) := by decide
theorem flip1 : ∀ i, i < 4 → nI i ^^^ (1 : Int32) = nI (2 * (i / 2) + (1 - i % 2)) := by decide
theorem two_loop {K F : Nat → Nat} {nk nf nk' nf' : Nat → Int32} (hs : HS K F nk nf) (hs' : HS K F nk' nf') {a b : Nat} (ha : a < 5) (hb : b < 5) {L : Int32} (hL : Cr L) (r r' es : Nat → Int32) (he : ∀ j, j < 4 → es j = en K F a b L j) : ∀ (m i n : Nat) (g1 g2 g3 g4 : Int32), i + m = 4 → m < n → ∃ v u1 u2 u3 u4, f_X5_two_59 (nI a) (nI b) nk nf r es (fun (e29 : Int32 × Int32 × Int32 × Int32 × Int32) => some (((10 : Int32) * (e29.1 / (2 : Int32))) + (jrem e29.1 (2 : Int32)), e29.2.1, e29.2.2.1, e29.2.2.2.1, e29.2.2.2.2, r, es)) n (nI i) g1 g2 g3 g4 = some (v, u1, u2, u3, u4, r, es) ∧ f_X6_two_17 (nI a) (nI b) L nk' nf' r' n (nI i) = some (v, r') := by
  intro m
  induction m with
  | zero =>
    intro i n g1 g2 g3 g4 hi hn
    obtain ⟨n, rfl⟩ := fuel hn
    obtain rfl : i = 4 := by omega
    rw [f_X5_two_59_s, f_X6_two_17_s, if_pos (by decide), if_pos (by decide)]
    exact ⟨_, _, _, _, _, rfl, rfl⟩
  | succ m ih =>
    intro i n g1 g2 g3 g4 hi hn
    obtain ⟨n, rfl⟩ := fuel hn
    have lt : ¬ (4 : Int32) ≤ nI i := nI_nle' (a := 4) (by decide) (by omega) (by omega)
    have p2 : 2 * (1 - i / 2) + i % 2 < 4 := by omega
    have p1 : 2 * (i / 2) + (1 - i % 2) < 4 := by omega
    have d2 : nI i / (2 : Int32) = nI (i / 2) := div_nI (d := 2) (by omega) (by decide) (by decide)
    have r2 : jrem (nI i) (2 : Int32) = nI (i % 2) := jrem_nI (d := 2) (by omega) (by decide) (by decide)
    have s2 : (1 : Int32) - nI (i / 2) = nI (1 - i / 2) := pk_sub (a := 1) (by omega)
    have t2 : (1 : Int32) - nI (i % 2) = nI (1 - i % 2) := pk_sub (a := 1) (by omega)
    have E0 : ch K F b (i % 2) (ch K F a (i / 2) L) = en K F a b L i := rfl
    have E2 : ch K F b (i % 2) (ch K F a (1 - i / 2) L) = en K F a b L (2 * (1 - i / 2) + i % 2) := by
      unfold en
      rw [show (2 * (1 - i / 2) + i % 2) / 2 = 1 - i / 2 by omega, show (2 * (1 - i / 2) + i % 2) % 2 = i % 2 by omega]
    have E1 : ch K F b (1 - i % 2) (ch K F a (i / 2) L) = en K F a b L (2 * (i / 2) + (1 - i % 2)) := by
      unfold en
      rw [show (2 * (i / 2) + (1 - i % 2)) / 2 = i / 2 by omega, show (2 * (i / 2) + (1 - i % 2)) % 2 = 1 - i % 2 by omega]
    have c : ∀ i, Cr (en K F a b L i) := fun i => cr_en hL
    rw [f_X5_two_59_s, f_X6_two_17_s, if_neg lt, if_neg lt, d2, r2, s2, t2, flip2 i (by omega), flip1 i (by omega), inb_nI (by omega) (by decide), inb_nI p2 (by decide), inb_nI p1 (by decide), ck_true, ck_true, nI_clamp (by omega), nI_clamp (by omega), nI_clamp (by omega), he i (by omega), he _ p2, he _ p1, x_shareOf hs ha (c _), bn_some, x_shareOf hs ha (c _), bn_some, jn_eq, m_both hs' ha ha hb hL (by omega) (by omega), bn_some, m_both hs' ha ha hb hL (by omega) (by omega), bn_some, E0, E2, nI_1]
    generalize hA : nI (sh K F a (en K F a b L i)) = A
    generalize hB : nI (sh K F a (en K F a b L (2 * (1 - i / 2) + i % 2))) = B
    by_cases q : A < B
    · rw [if_pos q, if_pos rfl, if_pos q]
      exact ih (i + 1) n _ _ _ _ (by omega) (by omega)
    · rw [if_neg q, if_neg (show ¬ (1 : Int32) = 0 by decide), if_neg q, ck_true, x_shareOf hs hb (c _), bn_some, ck_true, x_shareOf hs hb (c _), bn_some, m_both hs' hb ha hb hL (by omega) (by omega), bn_some, m_both hs' hb ha hb hL (by omega) (by omega), bn_some, E0, E1]
      by_cases w : nI (sh K F b (en K F a b L i)) < nI (sh K F b (en K F a b L (2 * (i / 2) + (1 - i % 2))))
      · rw [if_pos w, if_pos w]
        exact ih (i + 1) n _ _ _ _ (by omega) (by omega)
      · rw [if_neg w, if_neg w]
        refine ⟨_, _, _, _, _, rfl, ?_⟩
        show some (_, r') = some ((10 : Int32) * (nI i / (2 : Int32)) + jrem (nI i) (2 : Int32), r')
        rw [d2, r2]
theorem eq_two {tolds : Int32} {hasImage : Int32} {n_heirs : Int32} {n_left : Int32} {n_bitten : Int32} {n_kinds : (Nat → Int32)} {n_figures : (Nat → Int32)} {k_heirs : Int32} {k_left : Int32} {k_bitten : Int32} {k_kinds : (Nat → Int32)} {k_figures : (Nat → Int32)} {t_heirs : Int32} {t_left : Int32} {t_bitten : Int32} {t_kinds : (Nat → Int32)} {t_figures : (Nat → Int32)} {r_gone : Int32} {r_heaps : Int32} {r_fewestCells : Int32} {r_deed : Int32} {c_ways : (Nat → Int32)} {c_fewest : (Nat → Int32)} {c_nextWays : (Nat → Int32)} {c_nextFewest : (Nat → Int32)} {x_length : Int32} {x_letters : (Nat → Int32)} {told : (Nat → Int32)} {refusals : (Nat → Int32)} {ends : (Nat → Int32)} {m_left : Int32} {m_bites : Int32} {m_many : Int32} {m_imageLeft : Int32} {m_imageBites : Int32} {m_imageMany : Int32} {m_wasLeft : Int32} {m_wasBites : Int32} {m_wasMany : Int32} {m_hasImage : Int32} {m_letterMany : Int32} {m_rowMany : Int32} {m_place : Int32} {m_seed : Int32} {m_kind : (Nat → Int32)} {m_figure : (Nat → Int32)} {m_imageKind : (Nat → Int32)} {m_imageFigure : (Nat → Int32)} {m_wasKind : (Nat → Int32)} {m_wasFigure : (Nat → Int32)} {m_letters : (Nat → Int32)} {m_row : (Nat → Int32)} {m_refused : (Nat → Int32)} {m_numbers : (Nat → Int32)} {m_counted : (Nat → Int32)} {m_few : (Nat → Int32)} (hR : RR tolds hasImage n_heirs n_left n_bitten n_kinds n_figures k_heirs k_left k_bitten k_kinds k_figures x_length x_letters told refusals m_left m_bites m_many m_imageLeft m_imageBites m_imageMany m_hasImage m_letterMany m_rowMany m_kind m_figure m_imageKind m_imageFigure m_letters m_row m_refused) (a1 : Int32) (a2 : Int32) : ∃ (o1 : Int32 × Int32 × Int32 × Int32 × Int32 × (Nat → Int32) × (Nat → Int32)) (o2 : Int32 × (Nat → Int32)), f_X5_two n_heirs n_left n_kinds n_figures r_gone r_heaps r_fewestCells r_deed refusals ends a1 a2 = some o1 ∧ f_X6_two m_left m_many m_kind m_figure m_refused a1 a2 = some o2 ∧ o1.1 = o2.1 ∧ RR tolds hasImage n_heirs n_left n_bitten n_kinds n_figures k_heirs k_left k_bitten k_kinds k_figures x_length x_letters told o1.2.2.2.2.2.1 m_left m_bites m_many m_imageLeft m_imageBites m_imageMany m_hasImage m_letterMany m_rowMany m_kind m_figure m_imageKind m_imageFigure m_letters m_row o2.2 := by
  have hR0 := hR
  obtain ⟨⟨h, b, K, F, rfl, hL, rfl, rfl, hh, rfl, rfl, hb, hs, hs'⟩, hT, hW, hF, hI⟩ := hR
  unfold f_X5_two f_X6_two
  rcases areTwo_cases hh a1 a2 with ⟨e1, e2⟩ | ⟨i, j, hi, hj, hij, rfl, rfl, e1, e2⟩
  · rw [e1, e2, bn_some, bn_some, if_pos rfl, if_pos rfl, x_no1, m_no1, bn_some, bn_some]
    exact ⟨_, _, rfl, rfl, rfl, RR_bump hR0 (by decide)⟩
  · rw [e1, e2, bn_some, bn_some, if_neg (show ¬ (1 : Int32) = 0 by decide), if_neg (show ¬ (1 : Int32) = 0 by decide)]
    obtain ⟨u1, u2, u3, u4, es, x, he⟩ := x_two_ends hs (show i < 5 by omega) (show j < 5 by omega) hL (fun (e10 : Int32 × Int32 × Int32 × Int32 × (Nat → Int32)) => f_X5_two_59 (nI i) (nI j) n_kinds n_figures refusals e10.2.2.2.2 (fun (e29 : Int32 × Int32 × Int32 × Int32 × Int32) => some (((10 : Int32) * (e29.1 / (2 : Int32))) + (jrem e29.1 (2 : Int32)), e29.2.1, e29.2.2.1, e29.2.2.2.1, e29.2.2.2.2, refusals, e10.2.2.2.2)) 1000 (0 : Int32) e10.1 e10.2.1 e10.2.2.1 e10.2.2.2.1) 4 0 1000 r_gone r_heaps r_fewestCells r_deed ends rfl (by decide) (fun j hj => absurd hj (Nat.not_lt_zero j))
    obtain ⟨v, w1, w2, w3, w4, y, z⟩ := two_loop hs hs' (show i < 5 by omega) (show j < 5 by omega) hL refusals m_refused es he 4 0 1000 u1 u2 u3 u4 rfl (by decide)
    rw [show nI 0 = (0 : Int32) from rfl] at x y z
    rw [x, z, y]
    exact ⟨_, _, rfl, rfl, rfl, hR0⟩
