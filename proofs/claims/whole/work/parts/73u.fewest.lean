/-! fewest -/
def sF (p : Nat → Bool) : Nat → Nat → Option Nat
  | 0, _ => none
  | m + 1, i => if p i then some i else sF p m (i + 1)
theorem sF_s (p : Nat → Bool) (m i : Nat) : sF p (m + 1) i = if p i then some i else sF p m (i + 1) := rfl
theorem sF_split (p : Nat → Bool) : ∀ (a b i : Nat), sF p (a + b) i = match sF p a i with | some c => some c | none => sF p b (i + a)
  | 0, b, i => by rw [Nat.zero_add]; rfl
  | a + 1, b, i => by
    rw [Nat.add_right_comm, sF_s, sF_s]
    by_cases q : p i = true
    · rw [if_pos q, if_pos q]
    · rw [if_neg q, if_neg q, sF_split p a b (i + 1), show i + 1 + a = i + (a + 1) by omega]
theorem sF_some (p : Nat → Bool) : ∀ (m i b : Nat), sF p m i = some b → i ≤ b ∧ b < i + m ∧ p b = true ∧ ∀ j, i ≤ j → j < b → p j = false
  | 0, _, _, h => by cases h
  | m + 1, i, b, h => by
    rw [sF_s] at h
    by_cases q : p i = true
    · rw [if_pos q] at h; cases h; exact ⟨by omega, by omega, q, fun j h1 h2 => by omega⟩
    · rw [if_neg q] at h
      have t := sF_some p m (i + 1) b h
      refine ⟨by omega, by omega, t.2.2.1, fun j h1 h2 => ?_⟩
      by_cases w : j = i
      · rw [w]; simpa using q
      · exact t.2.2.2 j (by omega) h2
theorem sF_none (p : Nat → Bool) : ∀ (m i : Nat), sF p m i = none → ∀ j, i ≤ j → j < i + m → p j = false
  | 0, i, _, j, h1, h2 => by omega
  | m + 1, i, h, j, h1, h2 => by
    rw [sF_s] at h
    by_cases q : p i = true
    · rw [if_pos q] at h; cases h
    · rw [if_neg q] at h
      by_cases w : j = i
      · rw [w]; simpa using q
      · exact sF_none p m (i + 1) h j (by omega) (by omega)
theorem sF_cong {p q : Nat → Bool} : ∀ (m i : Nat), (∀ j, i ≤ j → j < i + m → p j = q j) → sF p m i = sF q m i
  | 0, _, _ => rfl
  | m + 1, i, h => by
    rw [sF_s, sF_s, h i (by omega) (by omega), sF_cong m (i + 1) (fun j h1 h2 => h j (by omega) (by omega))]
def gd (K F : Nat → Nat) (j t : Nat) (L : Int32) : Bool := decide (t ≤ sh K F j L)
def p1 (K F : Nat → Nat) (j t : Nat) (L : Int32) (b : Nat) : Bool := canB b L && gd K F j t (bh b L)
def so1 (K F : Nat → Nat) (j t : Nat) (L : Int32) : Bool := (sF (p1 K F j t L) 100 0).isSome
def p2 (K F : Nat → Nat) (j t : Nat) (L : Int32) (b : Nat) : Bool := canB b L && so1 K F j t (bh b L)
theorem gd_ite {K F : Nat → Nat} {nk nf : Nat → Int32} (hs : HS K F nk nf) {j t : Nat} (hj : j < 5) (ht : t ≤ 40) {L : Int32} (hL : Cr L) {α : Type} (a b : α) : (if nI (sh K F j L) < nI t then a else b) = if gd K F j t L then b else a := by
  have := sh_le hs hj hL
  unfold gd
  by_cases q : t ≤ sh K F j L
  · rw [if_neg (nI_nlt2 (by omega) (by omega) q), if_pos (by simp [q])]
  · rw [if_pos (nI_lt2 (by omega) (by omega) (by omega)), if_neg (by simp [q])]
/-! the class's searches -/
theorem x_fbt_loop {K F : Nat → Nat} {nk nf : Nat → Int32} (hs : HS K F nk nf) {j t : Nat} (hj : j < 5) (ht : t ≤ 40) {L : Int32} (hL : Cr L) : ∀ (m i n : Nat) (g1 g2 g3 g4 : Int32), i + m = 100 → m < n → ∃ u1 u2 u3 u4, f_X5_firstBiteTo_4 (nI j) (nI t) L nk nf n (nI i) g1 g2 g3 g4 = some (eX (sF (p1 K F j t L) m i), u1, u2, u3, u4) := by
  intro m
  induction m with
  | zero =>
    intro i n g1 g2 g3 g4 hi hn
    obtain ⟨n, rfl⟩ := fuel hn
    obtain rfl : i = 100 := by omega
    rw [f_X5_firstBiteTo_4_s, if_pos (by decide)]
    exact ⟨_, _, _, _, rfl⟩
  | succ m ih =>
    intro i n g1 g2 g3 g4 hi hn
    obtain ⟨n, rfl⟩ := fuel hn
    rw [f_X5_firstBiteTo_4_s, if_neg (show ¬ (100 : Int32) ≤ nI i from nI_nle' (a := 100) (by decide) (by omega) (by omega)), x_behind (by omega), bn_some, nI_1, sF_s]
    unfold p1
    cases hc : canB i L with
    | false =>
      rw [if_pos (bh_cant hc), Bool.false_and, if_neg (by decide)]
      exact ih (i + 1) n _ _ _ _ (by omega) (by omega)
    | true =>
      rw [if_neg (bh_ne hc), x_shareOf hs hj (cr_bh hL), bn_some, Bool.true_and, gd_ite hs hj ht (cr_bh hL)]
      by_cases q : gd K F j t (bh i L) = true
      · rw [if_pos q, if_pos q]
        exact ⟨_, _, _, _, rfl⟩
      · rw [if_neg q, if_neg q]
        exact ih (i + 1) n _ _ _ _ (by omega) (by omega)
theorem x_fbt {K F : Nat → Nat} {nk nf : Nat → Int32} (hs : HS K F nk nf) {j t : Nat} (hj : j < 5) (ht : t ≤ 40) {L : Int32} (hL : Cr L) {i : Nat} (hi : i ≤ 100) (g1 g2 g3 g4 : Int32) : ∃ u1 u2 u3 u4, f_X5_firstBiteTo nk nf g1 g2 g3 g4 (nI j) (nI t) L (nI i) = some (eX (sF (p1 K F j t L) (100 - i) i), u1, u2, u3, u4) := by
  unfold f_X5_firstBiteTo
  exact x_fbt_loop hs hj ht hL (100 - i) i 1000 g1 g2 g3 g4 (by omega) (by omega)
def q2 (K F : Nat → Nat) (j t : Nat) (L : Int32) (b : Nat) : Bool := canB b L && (sF (p1 K F j t (bh b L)) (100 - (b + 1)) (b + 1)).isSome
theorem x_ftb_loop {K F : Nat → Nat} {nk nf : Nat → Int32} (hs : HS K F nk nf) {j t : Nat} (hj : j < 5) (ht : t ≤ 40) {L : Int32} (hL : Cr L) : ∀ (m i n : Nat) (g1 g2 g3 g4 : Int32), i + m = 100 → m < n → ∃ u1 u2 u3 u4, f_X5_firstOfTwoBitesTo_2 (nI j) (nI t) L nk nf n (nI i) g1 g2 g3 g4 = some (eX (sF (q2 K F j t L) m i), u1, u2, u3, u4) := by
  intro m
  induction m with
  | zero =>
    intro i n g1 g2 g3 g4 hi hn
    obtain ⟨n, rfl⟩ := fuel hn
    obtain rfl : i = 100 := by omega
    rw [f_X5_firstOfTwoBitesTo_2_s, if_pos (by decide)]
    exact ⟨_, _, _, _, rfl⟩
  | succ m ih =>
    intro i n g1 g2 g3 g4 hi hn
    obtain ⟨n, rfl⟩ := fuel hn
    rw [f_X5_firstOfTwoBitesTo_2_s, if_neg (show ¬ (100 : Int32) ≤ nI i from nI_nle' (a := 100) (by decide) (by omega) (by omega)), x_behind (by omega), bn_some, nI_1, sF_s]
    unfold q2
    cases hc : canB i L with
    | false =>
      rw [if_pos (bh_cant hc), Bool.false_and, if_neg (by decide)]
      exact ih (i + 1) n _ _ _ _ (by omega) (by omega)
    | true =>
      obtain ⟨u1, u2, u3, u4, e⟩ := x_fbt hs hj ht (cr_bh (b := i) hL) (i := i + 1) (by omega) g1 g2 g3 g4
      rw [if_neg (bh_ne hc), e, bn_some, Bool.true_and]
      have lt := sF_some (p1 K F j t (bh i L)) (100 - (i + 1)) (i + 1)
      cases hf : sF (p1 K F j t (bh i L)) (100 - (i + 1)) (i + 1) with
      | none =>
        rw [if_pos (show eX none = (-1 : Int32) from rfl), if_neg (by decide)]
        exact ih (i + 1) n _ _ _ _ (by omega) (by omega)
      | some c =>
        have := lt c hf
        rw [if_neg (show ¬ eX (some c) = (-1 : Int32) from fun q => by
          have := (eX_none (fo := some c) (fun b' e => by cases e; omega)).mp q
          cases this), if_pos (by rfl)]
        exact ⟨_, _, _, _, rfl⟩
/-! two bites commute -/
theorem bh_sub {b : Nat} {L : Int32} {i : Nat} (h : bt (bh b L) i = true) (hi : i < 32) : bt L i = true := by
  unfold bh at h
  split at h
  · rw [bt_andn hi] at h
    simp only [Bool.and_eq_true] at h
    exact h.1
  · exact h
theorem canB_iff {b : Nat} {L : Int32} (hb : b < 100) : canB b L = true ↔ ce b ≠ 0 ∧ ∀ i, i < 32 → bt (ce b) i = true → bt L i = true := by
  unfold canB
  rw [Bool.and_eq_true, decide_eq_true_iff, decide_eq_true_iff, sub_iff]
  refine and_congr Iff.rfl ⟨fun h i hi q => ?_, fun h => b_ext (fun i hi => ?_)⟩
  · rw [← h, b_and] at q
    simp only [Bool.and_eq_true] at q
    exact q.1
  · rw [b_and]
    cases q : bt (ce b) i with
    | false => rw [Bool.and_false]
    | true => rw [h i hi q]; rfl
theorem comm2 {a b : Nat} (ha : a < 100) (hb : b < 100) {L : Int32} (h1 : canB a L = true) (h2 : canB b (bh a L) = true) : canB b L = true ∧ canB a (bh b L) = true ∧ bh a (bh b L) = bh b (bh a L) ∧ a ≠ b := by
  have A := (canB_iff ha).mp h1
  have B := (canB_iff hb).mp h2
  have e1 := bh_can h1
  have k1 : canB b L = true := (canB_iff hb).mpr ⟨B.1, fun i hi q => bh_sub (B.2 i hi q) hi⟩
  have e2 := bh_can k1
  have dis : ∀ i, i < 32 → bt (ce b) i = true → bt (ce a) i = false := fun i hi q => by
    have := B.2 i hi q
    rw [e1, bt_andn hi] at this
    simp only [Bool.and_eq_true, Bool.not_eq_true'] at this
    exact this.2
  have k2 : canB a (bh b L) = true := (canB_iff ha).mpr ⟨A.1, fun i hi q => by
    rw [e2, bt_andn hi, A.2 i hi q]
    cases w : bt (ce b) i with
    | false => rfl
    | true => rw [dis i hi w] at q; cases q⟩
  refine ⟨k1, k2, ?_, fun e => ?_⟩
  · rw [bh_can k2, bh_can h2, e1, e2]
    exact b_ext (fun i hi => by rw [bt_andn hi, bt_andn hi, bt_andn hi, bt_andn hi, Bool.and_assoc, Bool.and_assoc, Bool.and_comm (!bt (ce b) i)])
  · subst e
    refine A.1 (b_ext (fun i hi => ?_))
    rw [b_0]
    cases w : bt (ce a) i with
    | false => rfl
    | true => have := dis i hi w; rw [w] at this; cases this
theorem first_two (K F : Nat → Nat) (j t : Nat) (L : Int32) : sF (q2 K F j t L) 100 0 = sF (p2 K F j t L) 100 0 := by
  have imp : ∀ b, b < 100 → q2 K F j t L b = true → p2 K F j t L b = true := fun b hb h => by
    unfold q2 at h; unfold p2 so1
    rw [Bool.and_eq_true] at h ⊢
    refine ⟨h.1, ?_⟩
    cases e : sF (p1 K F j t (bh b L)) 100 0 with
    | some c => rfl
    | none =>
      cases e2 : sF (p1 K F j t (bh b L)) (100 - (b + 1)) (b + 1) with
      | none => rw [e2] at h; exact absurd h.2 (by decide)
      | some c =>
        have s := sF_some _ _ _ _ e2
        have n := sF_none _ _ _ e c (by omega) (by omega)
        rw [s.2.2.1] at n; cases n
  cases e : sF (p2 K F j t L) 100 0 with
  | none =>
    cases e2 : sF (q2 K F j t L) 100 0 with
    | none => rfl
    | some c =>
      have s := sF_some _ _ _ _ e2
      have n := sF_none _ _ _ e c (by omega) (by omega)
      rw [imp c (by omega) s.2.2.1] at n; cases n
  | some b =>
    have s := sF_some _ _ _ _ e
    have hb : b < 100 := by omega
    have hp := s.2.2.1
    unfold p2 so1 at hp
    rw [Bool.and_eq_true] at hp
    obtain ⟨c, hc⟩ := Option.isSome_iff_exists.mp hp.2
    have sc := sF_some _ _ _ _ hc
    have hc1 := sc.2.2.1
    unfold p1 at hc1
    rw [Bool.and_eq_true] at hc1
    have cm := comm2 hb (show c < 100 by omega) hp.1 hc1.1
    have hlt : b < c := by
      rcases Nat.lt_trichotomy b c with w | w | w
      · exact w
      · exact absurd w cm.2.2.2
      · exfalso
        have f := s.2.2.2 c (by omega) w
        have : p2 K F j t L c = true := by
          unfold p2 so1
          rw [Bool.and_eq_true]
          refine ⟨cm.1, ?_⟩
          cases e3 : sF (p1 K F j t (bh c L)) 100 0 with
          | some d => rfl
          | none =>
            have n := sF_none _ _ _ e3 b (by omega) (by omega)
            unfold p1 at n
            rw [cm.2.1, cm.2.2.1, hc1.2] at n
            cases n
        rw [this] at f; cases f
    have hq : q2 K F j t L b = true := by
      unfold q2
      rw [Bool.and_eq_true]
      refine ⟨hp.1, ?_⟩
      cases e3 : sF (p1 K F j t (bh b L)) (100 - (b + 1)) (b + 1) with
      | some d => rfl
      | none =>
        have n := sF_none _ _ _ e3 c (by omega) (by omega)
        rw [sc.2.2.1] at n; cases n
    cases e2 : sF (q2 K F j t L) 100 0 with
    | none =>
      have n := sF_none _ _ _ e2 b (by omega) (by omega)
      rw [hq] at n; cases n
    | some d =>
      have sd := sF_some _ _ _ _ e2
      have : d = b := by
        rcases Nat.lt_trichotomy d b with w | w | w
        · have := s.2.2.2 d (by omega) w
          rw [imp d (by omega) sd.2.2.1] at this; cases this
        · exact w
        · have := sd.2.2.2 b (by omega) w
          rw [hq] at this; cases this
      rw [this]
