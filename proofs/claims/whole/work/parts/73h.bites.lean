/-! heirs and bites -/
def HS (K F : Nat → Nat) (nk nf : Nat → Int32) : Prop := ∀ i, i < 5 → nk i = nI (K i) ∧ nf i = nI (F i) ∧ K i < 6 ∧ F i < 10
def sh (K F : Nat → Nat) (h : Nat) (L : Int32) : Nat := shN (K h) (F h) L
theorem inb_nI {i n : Nat} (h : i < n) (hn : n < 2 ^ 31) : inb (nI i) n = true := in_inb (vp_in_nI h hn)
theorem sh_le {K F : Nat → Nat} {nk nf : Nat → Int32} (hs : HS K F nk nf) {h : Nat} (hh : h < 5) {L : Int32} (hL : Cr L) : sh K F h L ≤ 80 := shN_le hL (hs h hh).2.2.2
theorem x_readShare {K F : Nat → Nat} {nk nf : Nat → Int32} (hs : HS K F nk nf) {h : Nat} (hh : h < 5) {L : Int32} (hL : Cr L) : f_X5_readShare nk nf (gone L) (nI (nh L)) (dd L) (nI h) = some (nI (sh K F h L)) := by
  obtain ⟨h1, h2, h3, h4⟩ := hs h hh
  unfold f_X5_readShare
  rw [inb_nI hh (by decide), ck_true, ck_true, nI_clamp (by omega), h1, h2, x_shareBy hL h3 h4, bn_some]
  rfl
theorem x_shareOf {K F : Nat → Nat} {nk nf : Nat → Int32} (hs : HS K F nk nf) {h : Nat} (hh : h < 5) {L : Int32} (hL : Cr L) : f_X5_shareOf nk nf (nI h) L = some (nI (sh K F h L), gone L, nI (nh L), nI (fw L), dd L) := by
  unfold f_X5_shareOf
  rw [x_reads hL, bn_some, x_readShare hs hh hL, bn_some]
theorem m_shareOf {K F : Nat → Nat} {nk nf : Nat → Int32} (hs : HS K F nk nf) {h : Nat} (hh : h < 5) {L : Int32} (hL : Cr L) : f_X6_shareOf nk nf L (nI h) = some (nI (sh K F h L)) := by
  obtain ⟨h1, h2, h3, h4⟩ := hs h hh
  unfold f_X6_shareOf
  rw [inb_nI hh (by decide), ck_true, ck_true, nI_clamp (by omega), h1, h2, m_shareBy hL h3 h4, bn_some]
  rfl
/-! one bite -/
def ce (b : Nat) : Int32 := match f_X2_cellsOf (nI (b / 25)) (nI (b % 25)) with | some x => x | none => 0
theorem ce_x : ∀ b, b < 100 → f_X2_cellsOf (nI (b / 25)) (nI (b % 25)) = some (ce b) ∧ f_X6_bite (nI (b / 25)) (nI (b % 25)) = some (ce b) := by decide +kernel
theorem ce_cr0 : ∀ b, b < 100 → ∀ i, i < 32 → 25 ≤ i → bt (ce b) i = false := by decide +kernel
theorem ce_cr {b : Nat} (hb : b < 100) : Cr (ce b) := fun i hi => by
  rcases Nat.lt_or_ge i 32 with q | q
  · exact ce_cr0 b hb i q hi
  · exact b_big q
def canB (b : Nat) (L : Int32) : Bool := decide (ce b ≠ 0) && decide (ce b &&& (L ^^^ (-1 : Int32)) = 0)
def bh (b : Nat) (L : Int32) : Int32 := if L &&& ce b = ce b then L &&& (ce b ^^^ (-1 : Int32)) else L
theorem sub_iff (x L : Int32) : x &&& (L ^^^ (-1 : Int32)) = 0 ↔ L &&& x = x := by
  constructor
  · intro h
    apply b_ext; intro i hi
    have q : bt (x &&& (L ^^^ (-1 : Int32))) i = false := by rw [h, b_0]
    rw [bt_andn hi] at q
    rw [b_and]
    revert q; cases bt x i <;> cases bt L i <;> simp
  · intro h
    apply b_ext; intro i hi
    have q : bt (L &&& x) i = bt x i := by rw [h]
    rw [b_and] at q
    rw [bt_andn hi, b_0]
    revert q; cases bt x i <;> cases bt L i <;> simp
theorem and_not_zero (L : Int32) : L &&& ((0 : Int32) ^^^ (-1 : Int32)) = L := by
  apply b_ext; intro i hi; rw [bt_andn hi, b_0]; simp
theorem bh_cant {b : Nat} {L : Int32} (h : canB b L = false) : bh b L = L := by
  unfold bh
  by_cases q : ce b = 0
  · rw [q, and_not_zero]; split <;> rfl
  · rw [if_neg]
    intro z
    rw [← sub_iff] at z
    unfold canB at h
    rw [decide_eq_true q, decide_eq_true z] at h
    cases h
theorem canB_ne {b : Nat} {L : Int32} (h : canB b L = true) : ce b ≠ 0 ∧ L &&& ce b = ce b := by
  unfold canB at h
  obtain ⟨h1, h2⟩ := (Bool.and_eq_true _ _).mp h
  exact ⟨of_decide_eq_true h1, (sub_iff _ _).mp (of_decide_eq_true h2)⟩
theorem bh_can {b : Nat} {L : Int32} (h : canB b L = true) : bh b L = L &&& (ce b ^^^ (-1 : Int32)) := by unfold bh; rw [if_pos (canB_ne h).2]
theorem bh_ne {b : Nat} {L : Int32} (h : canB b L = true) : bh b L ≠ L := fun e => by
  obtain ⟨h1, h2⟩ := canB_ne h
  rw [bh_can h] at e
  refine h1 (b_ext (fun i hi => ?_))
  have q1 : bt (L &&& (ce b ^^^ (-1 : Int32))) i = bt L i := by rw [e]
  have q2 : bt (L &&& ce b) i = bt (ce b) i := by rw [h2]
  rw [bt_andn hi] at q1
  rw [b_and] at q2
  rw [b_0]
  revert q1 q2; cases bt L i <;> cases bt (ce b) i <;> simp
theorem bh_eq_iff {b : Nat} {L : Int32} : bh b L = L ↔ canB b L = false := by
  constructor
  · intro h
    cases q : canB b L
    · rfl
    · exact absurd h (bh_ne q)
  · exact bh_cant
theorem cr_bh {b : Nat} {L : Int32} (hL : Cr L) : Cr (bh b L) := by unfold bh; split; exact cr_and _ hL; exact hL
theorem x_behind {b : Nat} (hb : b < 100) (L : Int32) : f_X2_behind (nI b) L = some (bh b L) := by
  unfold f_X2_behind
  rw [if_pos (nI_pos' (by omega)), show (25 : Int32) = nI 25 from rfl, div_nI (by omega) (by decide) (by decide), jrem_nI (by omega) (by decide) (by decide), (ce_x b hb).1, bn_some]
  unfold bh
  split <;> rfl
theorem x_behind_no (L : Int32) : f_X2_behind (-1 : Int32) L = some L := by
  unfold f_X2_behind
  rw [if_neg (by decide)]
theorem m_canBite {b : Nat} (hb : b < 100) (L : Int32) : f_X6_canBite L (nI (b / 25)) (nI (b % 25)) = some (nI (if canB b L then 1 else 0)) := by
  unfold f_X6_canBite
  rw [(ce_x b hb).2, bn_some, bn_some]
  unfold canB
  by_cases q : ce b = 0
  · rw [if_pos q, decide_eq_false (fun z => z q)]; rfl
  · rw [if_neg q, decide_eq_true q, Bool.true_and]
    by_cases z : ce b &&& (L ^^^ (-1 : Int32)) = 0
    · rw [if_pos z, decide_eq_true z]; rfl
    · rw [if_neg z, decide_eq_false z]; rfl
/-! the best bite -/
def bestF (sg : Int32) (f : Int32 → Nat) (L : Int32) : Nat → Nat → Option Nat → Int32 → Option Nat × Int32
  | 0, _, fo, be => (fo, be)
  | m + 1, i, fo, be => if canB i L = true ∧ be < sg * nI (f (bh i L)) then bestF sg f L m (i + 1) (some i) (sg * nI (f (bh i L))) else bestF sg f L m (i + 1) fo be
theorem bestF_add (sg : Int32) (f : Int32 → Nat) (L : Int32) : ∀ (a b i : Nat) (fo : Option Nat) (be : Int32), bestF sg f L (a + b) i fo be = bestF sg f L b (i + a) (bestF sg f L a i fo be).1 (bestF sg f L a i fo be).2
  | 0, b, i, fo, be => by rw [Nat.zero_add]; rfl
  | a + 1, b, i, fo, be => by
    rw [show a + 1 + b = (a + b) + 1 by omega]
    show (if _ then bestF sg f L (a + b) (i + 1) _ _ else bestF sg f L (a + b) (i + 1) _ _) = bestF sg f L b (i + (a + 1)) (if _ then bestF sg f L a (i + 1) _ _ else bestF sg f L a (i + 1) _ _).1 (if _ then bestF sg f L a (i + 1) _ _ else bestF sg f L a (i + 1) _ _).2
    rw [show i + (a + 1) = i + 1 + a by omega]
    split
    · exact bestF_add sg f L a b (i + 1) _ _
    · exact bestF_add sg f L a b (i + 1) _ _
theorem bestF_ok (sg : Int32) (f : Int32 → Nat) (L : Int32) : ∀ (m i : Nat) (fo : Option Nat) (be : Int32), i + m ≤ 100 → (∀ b, fo = some b → b < 100 ∧ canB b L = true) → ∀ b, (bestF sg f L m i fo be).1 = some b → b < 100 ∧ canB b L = true
  | 0, _, _, _, _, h, b, q => h b q
  | m + 1, i, fo, be, hi, h, b, q => by
    unfold bestF at q
    split at q
    · rename_i hc
      exact bestF_ok sg f L m (i + 1) _ _ (by omega) (fun b' e => by cases e; exact ⟨by omega, hc.1⟩) b q
    · exact bestF_ok sg f L m (i + 1) _ _ (by omega) h b q
def BF (sg : Int32) (f : Int32 → Nat) (L : Int32) : Option Nat := (bestF sg f L 100 0 none (sg * nI (f L))).1
theorem BF_ok {sg : Int32} {f : Int32 → Nat} {L : Int32} {b : Nat} (h : BF sg f L = some b) : b < 100 ∧ canB b L = true := bestF_ok sg f L 100 0 none _ (by omega) (fun b e => by cases e) b h
def eX (fo : Option Nat) : Int32 := match fo with | none => -1 | some b => nI b
def eM (fo : Option Nat) : Int32 := match fo with | none => -9 | some b => nI (100 * (b / 25) + b % 25)
theorem x_further_loop {K F : Nat → Nat} {nk nf : Nat → Int32} (hs : HS K F nk nf) {h : Nat} (hh : h < 5) {L : Int32} (hL : Cr L) (sg : Int32) : ∀ (m i n : Nat) (fo : Option Nat) (be g1 g2 g3 g4 : Int32), i + m = 100 → m < n → ∃ u1 u2 u3 u4, f_X5_furthestBite_16 (nI h) L sg nk nf n (eX fo) be (nI i) g1 g2 g3 g4 = some (eX (bestF sg (sh K F h) L m i fo be).1, u1, u2, u3, u4) := by
  intro m
  induction m with
  | zero =>
    intro i n fo be g1 g2 g3 g4 hi hn
    obtain ⟨n, rfl⟩ : ∃ k, n = k + 1 := ⟨n - 1, by omega⟩
    obtain rfl : i = 100 := by omega
    exact ⟨g1, g2, g3, g4, by rw [f_X5_furthestBite_16_s, if_pos (by decide)]; rfl⟩
  | succ m ih =>
    intro i n fo be g1 g2 g3 g4 hi hn
    obtain ⟨n, rfl⟩ : ∃ k, n = k + 1 := ⟨n - 1, by omega⟩
    rw [f_X5_furthestBite_16_s, if_neg (by show ¬ nI 100 ≤ nI i; rw [nI_leI (by omega) (by omega)]; omega), x_behind (by omega), bn_some]
    unfold bestF
    cases hc : canB i L with
    | false =>
      rw [if_pos (bh_cant hc), bn_some, nI_1, if_neg (fun q => by cases q.1)]
      exact ih (i + 1) n fo be _ _ _ _ (by omega) (by omega)
    | true =>
      rw [if_neg (bh_ne hc), x_shareOf hs hh (cr_bh hL), bn_some]
      by_cases q : be < sg * nI (sh K F h (bh i L))
      · rw [if_neg (Int32.not_le.mpr q), bn_some, nI_1, if_pos ⟨rfl, q⟩]
        exact ih (i + 1) n (some i) _ _ _ _ _ (by omega) (by omega)
      · rw [if_pos (Int32.not_lt.mp q), bn_some, nI_1, if_neg (fun z => q z.2)]
        exact ih (i + 1) n fo be _ _ _ _ (by omega) (by omega)
theorem x_further {K F : Nat → Nat} {nk nf : Nat → Int32} (hs : HS K F nk nf) {h : Nat} (hh : h < 5) {L : Int32} (hL : Cr L) (sg : Int32) : ∃ u1 u2 u3 u4, f_X5_furthestBite nk nf (nI h) L sg = some (eX (BF sg (sh K F h) L), u1, u2, u3, u4) := by
  unfold f_X5_furthestBite
  rw [x_shareOf hs hh hL, bn_some]
  exact x_further_loop hs hh hL sg 100 0 1000 none _ _ _ _ _ rfl (by decide)
theorem m_biteFor_in {K F : Nat → Nat} {nk nf : Nat → Int32} (hs : HS K F nk nf) {h : Nat} (hh : h < 5) {L : Int32} (hL : Cr L) (sg : Int32) {s : Nat} (hsp : s < 4) (k : Int32 × Int32 → Option Int32) : ∀ (m c n : Nat) (fo : Option Nat) (be : Int32), c + m = 25 → m < n → f_X6_biteFor_26 L (nI h) sg (nI s) nk nf k n (eM fo) be (nI c) = k (eM (bestF sg (sh K F h) L m (25 * s + c) fo be).1, (bestF sg (sh K F h) L m (25 * s + c) fo be).2) := by
  intro m
  induction m with
  | zero =>
    intro c n fo be hi hn
    obtain ⟨n, rfl⟩ : ∃ k, n = k + 1 := ⟨n - 1, by omega⟩
    obtain rfl : c = 25 := by omega
    rw [f_X6_biteFor_26_s, if_pos (by decide)]; rfl
  | succ m ih =>
    intro c n fo be hi hn
    obtain ⟨n, rfl⟩ : ∃ k, n = k + 1 := ⟨n - 1, by omega⟩
    have hb : 25 * s + c < 100 := by omega
    have hcan := m_canBite hb L
    have hbt := (ce_x (25 * s + c) hb).2
    rw [show (25 * s + c) / 25 = s by omega, show (25 * s + c) % 25 = c by omega] at hcan hbt
    rw [f_X6_biteFor_26_s, if_neg (by show ¬ nI 25 ≤ nI c; rw [nI_leI (by omega) (by omega)]; omega), hcan, bn_some, hbt]
    unfold bestF
    cases hc : canB (25 * s + c) L with
    | false =>
      rw [if_pos (by rfl), bn_some, nI_1, if_neg (fun q => by cases q.1)]
      exact ih (c + 1) n fo be (by omega) (by omega)
    | true =>
      rw [if_neg (by decide), bn_some, ← bh_can hc, m_shareOf hs hh (cr_bh hL), bn_some]
      by_cases q : be < sg * nI (sh K F h (bh (25 * s + c) L))
      · rw [if_pos q, bn_some, nI_1, if_pos ⟨rfl, q⟩]
        have := ih (c + 1) n (some (25 * s + c)) (sg * nI (sh K F h (bh (25 * s + c) L))) (by omega) (by omega)
        rw [show eM (some (25 * s + c)) = (100 : Int32) * nI s + nI c from by
          show nI _ = _
          rw [show (25 * s + c) / 25 = s by omega, show (25 * s + c) % 25 = c by omega, show (100 : Int32) = nI 100 from rfl, pk_mul, nI_add]] at this
        exact this
      · rw [if_neg q, bn_some, nI_1, if_neg (fun z => q z.2)]
        exact ih (c + 1) n fo be (by omega) (by omega)
theorem m_biteFor_out {K F : Nat → Nat} {nk nf : Nat → Int32} (hs : HS K F nk nf) {h : Nat} (hh : h < 5) {L : Int32} (hL : Cr L) (sg : Int32) : ∀ (m s n : Nat) (fo : Option Nat) (be : Int32), s + m = 4 → m < n → f_X6_biteFor_17 L (nI h) sg nk nf n (eM fo) be (nI s) = some (eM (bestF sg (sh K F h) L (25 * m) (25 * s) fo be).1) := by
  intro m
  induction m with
  | zero =>
    intro s n fo be hi hn
    obtain ⟨n, rfl⟩ : ∃ k, n = k + 1 := ⟨n - 1, by omega⟩
    obtain rfl : s = 4 := by omega
    rw [f_X6_biteFor_17_s, if_pos (by decide)]; rfl
  | succ m ih =>
    intro s n fo be hi hn
    obtain ⟨n, rfl⟩ : ∃ k, n = k + 1 := ⟨n - 1, by omega⟩
    rw [f_X6_biteFor_17_s, if_neg (by show ¬ nI 4 ≤ nI s; rw [nI_leI (by omega) (by omega)]; omega)]
    refine Eq.trans (m_biteFor_in hs hh hL sg (by omega) _ 25 0 1000 fo be rfl (by decide)) ?_
    rw [show 25 * (m + 1) = 25 + 25 * m by omega, bestF_add, show 25 * s + 25 = 25 * (s + 1) by omega, nI_1, Nat.add_zero]
    exact ih (s + 1) n _ _ (by omega) (by omega)
theorem m_biteFor {K F : Nat → Nat} {nk nf : Nat → Int32} (hs : HS K F nk nf) {h : Nat} (hh : h < 5) {L : Int32} (hL : Cr L) (sg : Int32) : f_X6_biteFor nk nf L (nI h) sg = some (eM (BF sg (sh K F h) L)) := by
  unfold f_X6_biteFor
  rw [m_shareOf hs hh hL, bn_some]
  exact m_biteFor_out hs hh hL sg 4 0 1000 none _ rfl (by decide)
def aft (fo : Option Nat) (L : Int32) : Int32 := match fo with | none => L | some b => bh b L
theorem m_after {fo : Option Nat} {L : Int32} (h : ∀ b, fo = some b → b < 100 ∧ canB b L = true) : f_X6_after L (eM fo) = some (aft fo L) := by
  unfold f_X6_after
  cases fo with
  | none => rw [if_neg (by decide)]; rfl
  | some b =>
    obtain ⟨hb, hc⟩ := h b rfl
    have : 100 * (b / 25) + b % 25 < 400 := by omega
    show (if 0 ≤ nI (100 * (b / 25) + b % 25) then _ else _) = _
    rw [if_pos (nI_pos' (by omega))]
    show bn (f_X6_bite (nI (100 * (b / 25) + b % 25) / 100) (jrem (nI (100 * (b / 25) + b % 25)) 100)) _ = _
    rw [show (100 : Int32) = nI 100 from rfl, div_nI (by omega) (by decide) (by decide), jrem_nI (by omega) (by decide) (by decide), show (100 * (b / 25) + b % 25) / 100 = b / 25 by omega, show (100 * (b / 25) + b % 25) % 100 = b % 25 by omega, (ce_x b hb).2, bn_some, ← bh_can hc]
    rfl
theorem x_behind_e {fo : Option Nat} {L : Int32} (h : ∀ b, fo = some b → b < 100 ∧ canB b L = true) : f_X2_behind (eX fo) L = some (aft fo L) := by
  cases fo with
  | none => exact x_behind_no L
  | some b => exact x_behind (h b rfl).1 L
theorem cr_aft {fo : Option Nat} {L : Int32} (hL : Cr L) : Cr (aft fo L) := by cases fo; exact hL; exact cr_bh hL
theorem eX_none {fo : Option Nat} (h : ∀ b, fo = some b → b < 100) : eX fo = (-1 : Int32) ↔ fo = none := by
  cases fo with
  | none => exact ⟨fun _ => rfl, fun _ => rfl⟩
  | some b => exact ⟨fun q => by
      have := h b rfl
      have e : (nI b).toInt = (-1 : Int32).toInt := congrArg Int32.toInt q
      rw [nI_toInt (by omega)] at e
      have : (-1 : Int32).toInt = -1 := by decide
      omega, fun q => by cases q⟩
theorem eM_neg {fo : Option Nat} (h : ∀ b, fo = some b → b < 100) : eM fo < 0 ↔ fo = none := by
  cases fo with
  | none => exact ⟨fun _ => rfl, fun _ => by decide⟩
  | some b => exact ⟨fun q => absurd q (nI_pos (by have := h b rfl; omega)), fun q => by cases q⟩
