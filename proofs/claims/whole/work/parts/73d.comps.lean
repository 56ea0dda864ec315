/-! the least cell of a set -/
def isL (r : Int32) (c : Nat) : Prop := c < 25 ∧ bt r c = true ∧ ∀ j, j < c → bt r j = false
theorem ex_least {r : Int32} (hr : Cr r) (hne : r ≠ 0) : ∃ c, isL r c := by
  obtain ⟨i, hi, hb⟩ := cr_ne_zero hr hne
  obtain ⟨c, h1, h2, h3⟩ := fb_first (p := fun j => bt r j = true) ⟨i, hi, hb⟩
  exact ⟨c, h1, h2, fun j hj => by cases q : bt r j; rfl; exact absurd q (h3 j hj)⟩
theorem bt_neg (r : Int32) (i : Nat) (hi : i < 32) : bt (-r) i = (bt r i ^^ decide (∃ j, j < i ∧ bt r j = true)) := by
  unfold bt
  rw [Int32.toBitVec_neg, BitVec.getLsbD_neg]
  simp [hi]
theorem low_eq {r : Int32} {c : Nat} (h : isL r c) : r &&& (-r) = jshl (1 : Int32) (nI c) := by
  obtain ⟨hc, hb, hl⟩ := h
  apply b_ext
  intro i hi
  rw [b_and, bt_neg r i hi, bt_one (by omega) hi]
  rcases Nat.lt_trichotomy i c with q | q | q
  · rw [hl i q, Bool.false_and, decide_eq_false (by omega)]
  · subst q
    rw [hb, decide_eq_false (fun ⟨j, h1, h2⟩ => by rw [hl j h1] at h2; cases h2)]
    simp
  · rw [decide_eq_true (⟨c, q, hb⟩ : ∃ j, j < i ∧ bt r j = true), decide_eq_false (by omega : ¬ i = c)]
    cases bt r i <;> rfl
theorem one_and {r : Int32} {c : Nat} (hc : c < 25) (h : bt r c = true) : jshl (1 : Int32) (nI c) &&& r = jshl (1 : Int32) (nI c) := by
  apply b_ext; intro i hi
  rw [b_and, bt_one (by omega) hi]
  by_cases e : i = c
  · subst e; rw [h, Bool.and_true]
  · rw [decide_eq_false e, Bool.false_and]
theorem one_ne {c : Nat} (hc : c < 25) : jshl (1 : Int32) (nI c) ≠ 0 := fun h => by
  have := bt_one (k := c) (i := c) (by omega) (by omega)
  rw [h, b_0] at this
  simp at this
theorem one_and0 {r : Int32} {c : Nat} (hc : c < 25) (h : bt r c = false) : jshl (1 : Int32) (nI c) &&& r = 0 := by
  apply b_ext; intro i hi
  rw [b_and, bt_one (by omega) hi, b_0]
  by_cases e : i = c
  · subst e; rw [h, Bool.and_false]
  · rw [decide_eq_false e, Bool.false_and]
theorem m_has {x : Int32} (hx : Cr x) {k : Nat} (hk : k < 32) : f_X6_has x (nI k) = some (nI (if bt x k then 1 else 0)) := by
  unfold f_X6_has
  rw [shr_bit hx hk]
  cases bt x k <;> rfl
theorem m_least_loop {r : Int32} (hr : Cr r) {c : Nat} (h : isL r c) : ∀ (m i n : Nat), i + m = c → m < n → f_X6_leastOf_2 r n (nI i) = some (nI c) := by
  obtain ⟨hc, hb, hl⟩ := h
  intro m
  induction m with
  | zero =>
    intro i n hi hn
    obtain ⟨n, rfl⟩ : ∃ k, n = k + 1 := ⟨n - 1, by omega⟩
    obtain rfl : i = c := by omega
    rw [f_X6_leastOf_2_s, m_has hr (by omega), hb]
    rfl
  | succ m ih =>
    intro i n hi hn
    obtain ⟨n, rfl⟩ : ∃ k, n = k + 1 := ⟨n - 1, by omega⟩
    rw [f_X6_leastOf_2_s, m_has hr (by omega), hl i (by omega)]
    show f_X6_leastOf_2 r n (nI i + 1) = _
    rw [nI_1]
    exact ih (i + 1) n (by omega) (by omega)
theorem m_leastOf {r : Int32} (hr : Cr r) {c : Nat} (h : isL r c) : f_X6_leastOf r = some (nI c) := m_least_loop hr h c 0 1000 (by omega) (by have := h.1; omega)
/-! the heaps of a set, in order -/
def hd1 (r : Int32) : Int32 := fl r (r &&& (-r) &&& r)
def rs1 (r : Int32) : Int32 := r &&& (hd1 r ^^^ (-1 : Int32))
theorem x_heap1 (r : Int32) : f_X2_heapOf (r &&& (-r)) r = some (hd1 r) := x_heapOf _ _
theorem rs1_def (r : Int32) : r &&& (hd1 r ^^^ (-1 : Int32)) = rs1 r := rfl
def cpN : Nat → Int32 → List Int32
  | 0, _ => []
  | n + 1, r => if r = 0 then [] else hd1 r :: cpN n (rs1 r)
theorem cr_rs1 {r : Int32} (hr : Cr r) : Cr (rs1 r) := cr_and _ hr
theorem hd1_eq {r : Int32} {c : Nat} (h : isL r c) : hd1 r = fl r (jshl (1 : Int32) (nI c)) := by
  unfold hd1; rw [low_eq h, one_and h.1 h.2.1]
theorem cr_fl' {S h : Int32} (hS : Cr S) (hh : Cr h) : Cr (fl S h) := cr_fl hS 25 h hh
theorem cr_hd1 {r : Int32} (hr : Cr r) : Cr (hd1 r) := cr_fl' hr (cr_and2 _ hr)
theorem hd1_has {r : Int32} {c : Nat} (h : isL r c) : bt (hd1 r) c = true := by
  rw [hd1_eq h]; exact sb_fl _ 25 _ c h.1 (by rw [bt_one (by have := h.1; omega) (by have := h.1; omega)]; simp)
theorem hd1_sub {r : Int32} (hr : Cr r) : sb (hd1 r) r := fl_sub 25 _ (fun i hi q => by rw [b_and] at q; exact ((Bool.and_eq_true _ _).mp q).2)
theorem hd1_pos {r : Int32} (hr : Cr r) (hne : r ≠ 0) : 1 ≤ pc (hd1 r) := by
  obtain ⟨c, h⟩ := ex_least hr hne
  exact fb_ct_pos.mpr ⟨c, h.1, hd1_has h⟩
theorem rs1_sub (r : Int32) : sb (rs1 r) r := fun i hi q => by unfold rs1 at q; rw [b_and] at q; exact ((Bool.and_eq_true _ _).mp q).1
theorem rs1_lt {r : Int32} (hr : Cr r) (hne : r ≠ 0) : pc (rs1 r) < pc r := by
  obtain ⟨c, h⟩ := ex_least hr hne
  refine pc_lt (cr_rs1 hr) hr (rs1_sub r) (fun e => ?_)
  have q : bt (rs1 r) c = bt r c := by rw [e]
  unfold rs1 at q
  rw [bt_andn (by have := h.1; omega), hd1_has h, h.2.1] at q
  cases q
theorem cp_any : ∀ (n m : Nat) (r : Int32), Cr r → pc r ≤ n → pc r ≤ m → cpN n r = cpN m r
  | 0, m, r, hr, hn, hm => by
    have : r = 0 := (pc_zero hr).mp (by omega)
    subst this
    cases m <;> simp [cpN]
  | n + 1, 0, r, hr, hn, hm => by
    have : r = 0 := (pc_zero hr).mp (by omega)
    subst this
    simp [cpN]
  | n + 1, m + 1, r, hr, hn, hm => by
    unfold cpN
    by_cases h : r = 0
    · rw [if_pos h, if_pos h]
    · rw [if_neg h, if_neg h, cp_any n m (rs1 r) (cr_rs1 hr) (by have := rs1_lt hr h; omega) (by have := rs1_lt hr h; omega)]
def cps (r : Int32) : List Int32 := cpN 25 r
theorem cps_zero : cps 0 = [] := rfl
theorem cps_ne {r : Int32} (hr : Cr r) (hne : r ≠ 0) : cps r = hd1 r :: cps (rs1 r) := by
  show (if r = 0 then [] else hd1 r :: cpN 24 (rs1 r)) = _
  rw [if_neg hne, cp_any 24 25 (rs1 r) (cr_rs1 hr) (by have := rs1_lt hr hne; have := pc_le r; omega) (by have := pc_le (rs1 r); omega)]
  rfl
/-- by the cells that are left -/
theorem cps_ind {P : Int32 → Prop} (h0 : P 0) (hs : ∀ r, Cr r → r ≠ 0 → P (rs1 r) → P r) : ∀ (n : Nat) (r : Int32), Cr r → pc r ≤ n → P r
  | 0, r, hr, hn => by rw [(pc_zero hr).mp (by omega)]; exact h0
  | n + 1, r, hr, hn => by
    by_cases h : r = 0
    · rw [h]; exact h0
    · exact hs r hr h (cps_ind h0 hs n (rs1 r) (cr_rs1 hr) (by have := rs1_lt hr h; omega))
theorem cps_cr {r : Int32} (hr : Cr r) : ∀ h ∈ cps r, Cr h ∧ 1 ≤ pc h := by
  refine cps_ind (P := fun r => ∀ h ∈ cps r, Cr h ∧ 1 ≤ pc h) (fun h q => by rw [cps_zero] at q; cases q) (fun r hr hne ih h q => ?_) 25 r hr (pc_le r)
  rw [cps_ne hr hne] at q
  rcases List.mem_cons.mp q with rfl | q
  · exact ⟨cr_hd1 hr, hd1_pos hr hne⟩
  · exact ih h q
/-! within a set that hangs together with nothing else of S -/
def clo (S r : Int32) : Prop := sb r S ∧ ∀ i, i < 25 → bt (bs r) i = true → bt S i = true → bt r i = true
theorem clo_self (S : Int32) : clo S S := ⟨sb_refl S, fun _ _ _ h => h⟩
theorem clo_gr {S r h : Int32} (hS : Cr S) (hr : Cr r) (hh : Cr h) (hc : clo S r) (hs : sb h r) : gr S h = gr r h := by
  refine cr_ext (cr_gr hh hS) (cr_gr hh hr) (fun i hi => ?_)
  rw [bt_gr, bt_gr]
  cases hb : bt (bs h) i with
  | false => simp
  | true =>
    have hbr := bs_mono hh hr hs i hi hb
    have h1 := hc.1 i hi
    have h2 := hc.2 i hi hbr
    revert h1 h2
    cases bt S i <;> cases bt r i <;> simp
theorem clo_fl {S r : Int32} (hS : Cr S) (hr : Cr r) (hc : clo S r) : ∀ (n : Nat) (h : Int32), Cr h → sb h r → flN n S h = flN n r h
  | 0, _, _, _ => rfl
  | n + 1, h, hh, hs => by
    unfold flN
    rw [clo_gr hS hr hh hc hs]
    split
    · rfl
    · exact clo_fl hS hr hc n _ (cr_gr hh hr) (gr_sub hs)
/-- a closed set less one of its heaps is closed -/
theorem clo_less {S r h : Int32} (hS : Cr S) (hr : Cr r) (hh : Cr h) (hc : clo S r) (hf : gr S h = h) : clo S (r &&& (h ^^^ (-1 : Int32))) := by
  refine ⟨fun i hi q => hc.1 i hi (by rw [b_and] at q; exact ((Bool.and_eq_true _ _).mp q).1), fun i hi hb hSi => ?_⟩
  have hd : Cr (r &&& (h ^^^ (-1 : Int32))) := cr_and _ hr
  have hri : bt r i = true := hc.2 i hi (bs_mono hd hr (fun j hj q => by rw [b_and] at q; exact ((Bool.and_eq_true _ _).mp q).1) i hi hb) hSi
  rw [bt_andn (by omega), hri, Bool.true_and]
  cases hhi : bt h i with
  | false => rfl
  | true =>
    exfalso
    obtain ⟨j, hj, ha, hbj⟩ := (bt_bs hd hi).mp hb
    rw [bt_andn (by omega)] at hbj
    obtain ⟨hrj, hnj⟩ := (Bool.and_eq_true _ _).mp hbj
    have hbj2 : bt (bs h) j = true := (bt_bs hh hj).mpr ⟨i, hi, by rw [adj_symm]; exact ha, hhi⟩
    have q : bt (gr S h) j = true := by rw [bt_gr, hbj2, hc.1 j hj hrj]; simp
    rw [hf] at q
    rw [q] at hnj
    cases hnj
theorem clo_hd {S r : Int32} (hS : Cr S) (hr : Cr r) (hc : clo S r) {c : Nat} (h : isL r c) : fl S (jshl (1 : Int32) (nI c)) = hd1 r := by
  rw [hd1_eq h]
  exact clo_fl hS hr hc 25 _ (cr_one h.1) (fun i hi q => by
    rw [bt_one (by have := h.1; omega) (by omega), decide_eq_true_eq] at q
    subst q; exact h.2.1)
theorem clo_rs {S r : Int32} (hS : Cr S) (hr : Cr r) (hc : clo S r) (hne : r ≠ 0) : clo S (rs1 r) := by
  obtain ⟨c, h⟩ := ex_least hr hne
  refine clo_less hS hr (cr_hd1 hr) hc ?_
  rw [← clo_hd hS hr hc h]
  exact fl_fixed hS (cr_one h.1)
/-- the reference's heap of the least cell of a closed rest -/
theorem m_heap_least {S r : Int32} (hS : Cr S) (hr : Cr r) (hc : clo S r) {c : Nat} (h : isL r c) : f_X6_heapOf S (nI c) = some (hd1 r) := by
  rw [m_heapOf hS, one_and h.1 (hc.1 c h.1 h.2.1), clo_hd hS hr hc h]
theorem m_heaps_loop {S : Int32} (hS : Cr S) : ∀ (k : Nat) (r : Int32) (n cnt : Nat), Cr r → clo S r → pc r ≤ k → k < n → f_X6_heaps_4 S n (nI cnt) r = some (nI (cnt + (cps r).length)) := by
  intro k
  induction k with
  | zero =>
    intro r n cnt hr hc hk hn
    obtain ⟨n, rfl⟩ : ∃ k, n = k + 1 := ⟨n - 1, by omega⟩
    have : r = 0 := (pc_zero hr).mp (by omega)
    subst this
    rw [f_X6_heaps_4_s, if_pos rfl]; rfl
  | succ k ih =>
    intro r n cnt hr hc hk hn
    obtain ⟨n, rfl⟩ : ∃ k, n = k + 1 := ⟨n - 1, by omega⟩
    rw [f_X6_heaps_4_s]
    by_cases h0 : r = 0
    · rw [if_pos h0, h0]; rfl
    · rw [if_neg h0]
      obtain ⟨c, h⟩ := ex_least hr h0
      rw [m_leastOf hr h]
      show bn (f_X6_heapOf S (nI c)) _ = _
      rw [m_heap_least hS hr hc h]
      show f_X6_heaps_4 S n (nI cnt + 1) (rs1 r) = _
      rw [nI_1, ih (rs1 r) n (cnt + 1) (cr_rs1 hr) (clo_rs hS hr hc h0) (by have := rs1_lt hr h0; omega) (by omega), cps_ne hr h0, List.length_cons]
      congr 2; omega
theorem m_heaps {S : Int32} (hS : Cr S) : f_X6_heaps S = some (nI (cps S).length) := by
  have := m_heaps_loop hS 25 S 1000 0 hS (clo_self S) (pc_le S) (by decide)
  rw [Nat.zero_add] at this
  exact this
theorem x_heapsOf_loop : ∀ (m i n cnt : Nat) (r : Int32), Cr r → i + m = 25 → pc r ≤ m → m < n → f_X2_heapsOf_6 n (nI cnt) r (nI i) = some (nI (cnt + (cps r).length)) := by
  intro m
  induction m with
  | zero =>
    intro i n cnt r hr hi hp hn
    obtain ⟨n, rfl⟩ : ∃ k, n = k + 1 := ⟨n - 1, by omega⟩
    obtain rfl : i = 25 := by omega
    have : r = 0 := (pc_zero hr).mp (by omega)
    subst this
    rw [f_X2_heapsOf_6_s, if_pos (by decide)]; rfl
  | succ m ih =>
    intro i n cnt r hr hi hp hn
    obtain ⟨n, rfl⟩ : ∃ k, n = k + 1 := ⟨n - 1, by omega⟩
    rw [f_X2_heapsOf_6_s, if_neg (by show ¬ nI 25 ≤ nI i; rw [nI_leI (by omega) (by omega)]; omega)]
    by_cases h0 : r = 0
    · rw [if_pos h0, h0]; rfl
    · rw [if_neg h0, x_heapOf]
      show f_X2_heapsOf_6 n (nI cnt + 1) (rs1 r) (nI i + 1) = _
      rw [nI_1, nI_1, ih (i + 1) n (cnt + 1) (rs1 r) (cr_rs1 hr) (by omega) (by have := rs1_lt hr h0; omega) (by omega), cps_ne hr h0, List.length_cons]
      congr 2; omega
theorem x_heapsOf {r : Int32} (hr : Cr r) : f_X2_heapsOf r = some (nI (cps r).length) := by
  have := x_heapsOf_loop 25 0 1000 0 r hr rfl (pc_le r) (by decide)
  rw [Nat.zero_add] at this
  exact this
