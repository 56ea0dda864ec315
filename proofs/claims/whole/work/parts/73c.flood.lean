/-! the cells beside a set, heaps, all heaps of a set -/
def bs (x : Int32) : Int32 := (((jshr (x &&& (-1082402 : Int32)) (1 : Int32)) ||| (jshl (x &&& (-17318417 : Int32)) (1 : Int32))) ||| (jshr x (5 : Int32))) ||| ((jshl x (5 : Int32)) &&& (33554431 : Int32))
theorem x_besides (x : Int32) : f_X2_besides x = some (bs x) := rfl
def adj (i j : Nat) : Bool := (decide (j = i + 1) && decide (i % 5 ≠ 4)) || (decide (i = j + 1) && decide (j % 5 ≠ 4)) || decide (j = i + 5) || decide (i = j + 5)
theorem adj_symm (i j : Nat) : adj i j = adj j i := by
  unfold adj
  rw [Bool.or_comm (decide (j = i + 1) && decide (i % 5 ≠ 4)), Bool.or_assoc, Bool.or_comm (decide (j = i + 5)), ← Bool.or_assoc]
theorem k_fc : ∀ i, i < 31 → bt (-1082402 : Int32) (1 + i) = decide (¬ (i % 5 = 4 ∧ i < 24)) := by decide +kernel
theorem k_lc : ∀ i, i < 25 → bt (-17318417 : Int32) i = decide (i % 5 ≠ 4) := by decide +kernel
theorem bt_bs0 {x : Int32} (hx : Cr x) {i : Nat} (hi : i < 25) : bt (bs x) i = ((decide (i % 5 ≠ 4) && bt x (1 + i)) || (decide (1 ≤ i ∧ (i - 1) % 5 ≠ 4) && bt x (i - 1)) || bt x (5 + i) || (decide (5 ≤ i) && bt x (i - 5))) := by
  unfold bs
  rw [b_or, b_or, b_or, show (1 : Int32) = nI 1 from rfl, show (5 : Int32) = nI 5 from rfl, bt_jshr (cr_and _ hx) (by decide) (by omega), bt_jshl (by decide) (by omega), bt_jshr hx (by decide) (by omega), b_and, b_and, b_and, bt_jshl (by decide) (by omega), bt_all hi, k_fc i (by omega), Bool.and_true]
  have e1 : (bt x (1 + i) && decide (¬ (i % 5 = 4 ∧ i < 24))) = (decide (i % 5 ≠ 4) && bt x (1 + i)) := by
    by_cases h : i = 24
    · subst h; rw [hx (1 + 24) (by omega)]; simp
    · rw [Bool.and_comm]
      congr 1
      exact decide_eq_decide.mpr ⟨fun q h4 => q ⟨h4, by omega⟩, fun q h4 => q h4.1⟩
  have e2 : (decide (1 ≤ i) && (bt x (i - 1) && bt (-17318417 : Int32) (i - 1))) = (decide (1 ≤ i ∧ (i - 1) % 5 ≠ 4) && bt x (i - 1)) := by
    rw [k_lc (i - 1) (by omega)]
    by_cases h : 1 ≤ i
    · simp [h, Bool.and_comm]
    · simp [h]
  rw [e1, e2]
theorem bt_bs {x : Int32} (hx : Cr x) {i : Nat} (hi : i < 25) : bt (bs x) i = true ↔ ∃ j, j < 25 ∧ adj i j = true ∧ bt x j = true := by
  rw [bt_bs0 hx hi]
  constructor
  · intro h
    simp only [Bool.or_eq_true, Bool.and_eq_true, decide_eq_true_eq] at h
    have key : ∀ j, bt x j = true → j < 25 := fun j q => Nat.lt_of_not_le (fun h9 => by rw [hx j h9] at q; cases q)
    rcases h with ((⟨h1, h2⟩ | ⟨h1, h2⟩) | h2) | ⟨h1, h2⟩
    · exact ⟨1 + i, key _ h2, by simp [adj]; omega, h2⟩
    · exact ⟨i - 1, key _ h2, by simp [adj]; omega, h2⟩
    · exact ⟨5 + i, key _ h2, by simp [adj]; omega, h2⟩
    · exact ⟨i - 5, key _ h2, by simp [adj]; omega, h2⟩
  · rintro ⟨j, hj, ha, hb⟩
    simp only [adj, Bool.or_eq_true, Bool.and_eq_true, decide_eq_true_eq] at ha
    simp only [Bool.or_eq_true, Bool.and_eq_true, decide_eq_true_eq]
    rcases ha with ((⟨h1, h2⟩ | ⟨h1, h2⟩) | h1) | h1
    · exact Or.inl (Or.inl (Or.inl ⟨h2, by rw [show 1 + i = j by omega]; exact hb⟩))
    · exact Or.inl (Or.inl (Or.inr ⟨⟨by omega, by rw [show i - 1 = j by omega]; exact h2⟩, by rw [show i - 1 = j by omega]; exact hb⟩))
    · exact Or.inl (Or.inr (by rw [show 5 + i = j by omega]; exact hb))
    · exact Or.inr ⟨by omega, by rw [show i - 5 = j by omega]; exact hb⟩
theorem cr_jshr {x : Int32} (hx : Cr x) {k : Nat} (hk : k < 32) : Cr (jshr x (nI k)) := by
  intro i hi
  rcases Nat.lt_or_ge i 32 with q | q
  · rw [bt_jshr hx hk q, hx _ (by omega)]
  · exact b_big q
theorem cr_bs {x : Int32} (hx : Cr x) : Cr (bs x) := by
  refine cr_or (cr_or (cr_or (cr_jshr (cr_and _ hx) (k := 1) (by decide)) ?_) (cr_jshr hx (k := 5) (by decide))) (cr_and2 _ cr_all)
  intro i hi
  rcases Nat.lt_or_ge i 32 with q | q
  · show bt (jshl _ (nI 1)) i = false
    rw [bt_jshl (by decide) q, b_and]
    by_cases h : i = 25
    · subst h; rw [show bt (-17318417 : Int32) (25 - 1) = false from by decide +kernel, Bool.and_false, Bool.and_false]
    · rw [hx (i - 1) (by omega), Bool.false_and, Bool.and_false]
  · exact b_big q
/-! the reference's -/
theorem m_beside_loop (k : Int32 → Option Int32) : f_X6_besideOf_4 k 1000 0 0 = k 1082401 := by
  rw [f_X6_besideOf_4_s, if_neg (by decide), f_X6_besideOf_4_s, if_neg (by decide), f_X6_besideOf_4_s, if_neg (by decide), f_X6_besideOf_4_s, if_neg (by decide), f_X6_besideOf_4_s, if_neg (by decide), f_X6_besideOf_4_s, if_pos (by decide)]
  exact congrArg k (by decide)
theorem k_fc2 : ∀ i, i < 31 → bt ((1082401 : Int32) ^^^ (-nI 1)) (1 + i) = decide (¬ (i % 5 = 4 ∧ i < 24)) := by decide +kernel
theorem k_lc2 : ∀ i, i < 25 → bt ((jshl (1082401 : Int32) (4 : Int32)) ^^^ (-nI 1)) i = decide (i % 5 ≠ 4) := by decide +kernel
theorem m_beside {x : Int32} (hx : Cr x) : f_X6_besideOf x = some (bs x) := by
  unfold f_X6_besideOf
  rw [m_beside_loop]
  refine congrArg some (cr_ext (cr_and2 _ cr_all) (cr_bs hx) (fun i hi => ?_))
  rw [bt_bs0 hx hi, b_and, bt_all hi, Bool.and_true, b_or, b_or, b_or, show (1 : Int32) = nI 1 from rfl, show (5 : Int32) = nI 5 from rfl, bt_jshl (by decide) (by omega), bt_jshr hx (by decide) (by omega), bt_jshl (by decide) (by omega), bt_jshr (cr_and _ hx) (by decide) (by omega), b_and, b_and, k_fc2 i (by omega), k_lc2 (i - 1) (by omega)]
  have e1 : (bt x (1 + i) && decide (¬ (i % 5 = 4 ∧ i < 24))) = (decide (i % 5 ≠ 4) && bt x (1 + i)) := by
    by_cases h : i = 24
    · subst h; rw [hx (1 + 24) (by omega)]; simp
    · rw [Bool.and_comm]
      congr 1
      exact decide_eq_decide.mpr ⟨fun q h4 => q ⟨h4, by omega⟩, fun q h4 => q h4.1⟩
  have e2 : (decide (1 ≤ i) && (bt x (i - 1) && decide ((i - 1) % 5 ≠ 4))) = (decide (1 ≤ i ∧ (i - 1) % 5 ≠ 4) && bt x (i - 1)) := by
    by_cases h : 1 ≤ i
    · simp [h, Bool.and_comm]
    · simp [h]
  rw [e1, e2]
  generalize (decide (i % 5 ≠ 4) && bt x (1 + i)) = A
  generalize (decide (1 ≤ i ∧ (i - 1) % 5 ≠ 4) && bt x (i - 1)) = B
  generalize bt x (5 + i) = E
  generalize (decide (5 ≤ i) && bt x (i - 5)) = F
  cases A <;> cases B <;> cases E <;> cases F <;> rfl
/-! flood -/
def gr (S h : Int32) : Int32 := h ||| (bs h &&& S)
def flN : Nat → Int32 → Int32 → Int32
  | 0, _, h => h
  | n + 1, S, h => if gr S h = h then h else flN n S (gr S h)
def sb (x y : Int32) : Prop := ∀ i, i < 25 → bt x i = true → bt y i = true
theorem sb_refl (x : Int32) : sb x x := fun _ _ h => h
theorem sb_trans {x y z : Int32} (h : sb x y) (g : sb y z) : sb x z := fun i hi q => g i hi (h i hi q)
theorem sb_antisymm {x y : Int32} (hx : Cr x) (hy : Cr y) (h : sb x y) (g : sb y x) : x = y := cr_ext hx hy (fun i hi => by
  cases a : bt x i with
  | true => exact (h i hi a).symm
  | false => cases b : bt y i with
    | false => rfl
    | true => rw [g i hi b] at a; cases a)
theorem cr_gr {S h : Int32} (hh : Cr h) (hS : Cr S) : Cr (gr S h) := cr_or hh (cr_and2 _ hS)
theorem sb_gr (S h : Int32) : sb h (gr S h) := fun i _ q => by unfold gr; rw [b_or, q, Bool.true_or]
theorem bt_gr (S h : Int32) (i : Nat) : bt (gr S h) i = (bt h i || (bt (bs h) i && bt S i)) := by unfold gr; rw [b_or, b_and]
theorem bs_mono {x y : Int32} (hx : Cr x) (hy : Cr y) (h : sb x y) : sb (bs x) (bs y) := fun i hi q => by
  rw [bt_bs hx hi] at q
  obtain ⟨j, hj, h1, h2⟩ := q
  exact (bt_bs hy hi).mpr ⟨j, hj, h1, h j hj h2⟩
theorem pc_mono {x y : Int32} (h : sb x y) : pc x ≤ pc y := fb_ct_sub h
theorem pc_lt {x y : Int32} (hx : Cr x) (hy : Cr y) (h : sb x y) (hne : x ≠ y) : pc x < pc y := by
  have e : ∀ k, k < 25 → bt y k = (bt x k || bt (y &&& (x ^^^ (-1 : Int32))) k) := fun k hk => by
    rw [bt_andn (by omega)]
    have := h k hk
    revert this
    cases bt x k <;> cases bt y k <;> simp
  have e2 : pc y = pc x + pc (y &&& (x ^^^ (-1 : Int32))) := by
    show fb_ct _ 25 = _
    rw [fb_ct_cong e]
    exact fb_ct_or (fun k hk => by rw [bt_andn (by omega)]; cases bt x k <;> simp)
  have hp : pc (y &&& (x ^^^ (-1 : Int32))) ≠ 0 := fun q => by
    rw [pc_zero (cr_and _ hy)] at q
    refine hne (sb_antisymm hx hy h (fun i hi hb => ?_))
    have z : bt (y &&& (x ^^^ (-1 : Int32))) i = false := by rw [q, b_0]
    rw [bt_andn (by omega), hb] at z
    simpa using z
  omega
theorem gr_sub {S h : Int32} (hh : sb h S) : sb (gr S h) S := fun i hi q => by
  rw [bt_gr] at q
  rcases Bool.or_eq_true _ _ |>.mp q with q | q
  · exact hh i hi q
  · exact ((Bool.and_eq_true _ _).mp q).2
theorem cr_fl {S : Int32} (hS : Cr S) : ∀ (n : Nat) (h : Int32), Cr h → Cr (flN n S h)
  | 0, _, hh => hh
  | n + 1, h, hh => by
    unfold flN
    split
    · exact hh
    · exact cr_fl hS n _ (cr_gr hh hS)
theorem sb_fl (S : Int32) : ∀ (n : Nat) (h : Int32), sb h (flN n S h)
  | 0, h => sb_refl h
  | n + 1, h => by
    unfold flN
    split
    · exact sb_refl h
    · exact sb_trans (sb_gr S h) (sb_fl S n _)
theorem fl_sub {S : Int32} : ∀ (n : Nat) (h : Int32), sb h S → sb (flN n S h) S
  | 0, _, hh => hh
  | n + 1, h, hh => by
    unfold flN
    split
    · exact hh
    · exact fl_sub n _ (gr_sub hh)
theorem gr_pc {S h : Int32} (hh : Cr h) (hS : Cr S) (hne : gr S h ≠ h) : pc h < pc (gr S h) := pc_lt hh (cr_gr hh hS) (sb_gr S h) (fun e => hne e.symm)
theorem fl_succ {S : Int32} (hS : Cr S) : ∀ (n : Nat) (h : Int32), Cr h → 25 - pc h ≤ n → flN (n + 1) S h = flN n S h
  | 0, h, hh, hp => by
    show (if gr S h = h then h else gr S h) = h
    split
    · rfl
    · rename_i hne
      have := gr_pc hh hS hne
      have := pc_le (gr S h)
      omega
  | n + 1, h, hh, hp => by
    show (if gr S h = h then h else flN (n + 1) S (gr S h)) = (if gr S h = h then h else flN n S (gr S h))
    split
    · rfl
    · rename_i hne
      have := gr_pc hh hS hne
      exact fl_succ hS n _ (cr_gr hh hS) (by omega)
theorem fl_eq {S : Int32} (hS : Cr S) {h : Int32} (hh : Cr h) {n : Nat} (hn : 25 - pc h ≤ n) : ∀ k, flN (n + k) S h = flN n S h
  | 0 => rfl
  | k + 1 => (fl_succ hS (n + k) h hh (by omega)).trans (fl_eq hS hh hn k)
theorem fl_any {S : Int32} (hS : Cr S) {h : Int32} (hh : Cr h) {n m : Nat} (hn : 25 - pc h ≤ n) (hm : 25 - pc h ≤ m) : flN n S h = flN m S h := by
  rcases Nat.le_total n m with q | q
  · obtain ⟨k, rfl⟩ := Nat.exists_eq_add_of_le q; exact (fl_eq hS hh hn k).symm
  · obtain ⟨k, rfl⟩ := Nat.exists_eq_add_of_le q; exact fl_eq hS hh hm k
theorem fl_fix {S : Int32} (hS : Cr S) : ∀ (n : Nat) (h : Int32), Cr h → 25 - pc h ≤ n → gr S (flN n S h) = flN n S h
  | 0, h, hh, hp => by
    show gr S h = h
    apply Classical.byContradiction
    intro hne
    have := gr_pc hh hS hne
    have := pc_le (gr S h)
    omega
  | n + 1, h, hh, hp => by
    show gr S (if gr S h = h then h else flN n S (gr S h)) = (if gr S h = h then h else flN n S (gr S h))
    split
    · assumption
    · rename_i hne
      have := gr_pc hh hS hne
      exact fl_fix hS n _ (cr_gr hh hS) (by omega)
theorem bs_zero : bs 0 = 0 := by decide
theorem gr_zero (S : Int32) : gr S 0 = 0 := by
  apply b_ext; intro i hi; rw [bt_gr, bs_zero, b_0]; rfl
theorem fl_zero (S : Int32) : ∀ n, flN n S 0 = 0
  | 0 => rfl
  | n + 1 => by unfold flN; rw [if_pos (gr_zero S)]
/-- a heap: from the cells h, within S -/
def fl (S h : Int32) : Int32 := flN 25 S h
theorem fl_fixed {S h : Int32} (hS : Cr S) (hh : Cr h) : gr S (fl S h) = fl S h := fl_fix hS 25 h hh (by omega)
theorem x_heap_loop (S : Int32) : ∀ (m i n : Nat) (h : Int32), i + m = 25 → m < n → f_X2_heapOf_6 S n h (nI i) = some (flN m S h) := by
  intro m
  induction m with
  | zero =>
    intro i n h hi hn
    obtain ⟨n, rfl⟩ : ∃ k, n = k + 1 := ⟨n - 1, by omega⟩
    obtain rfl : i = 25 := by omega
    rw [f_X2_heapOf_6_s, if_pos (by decide)]
    rfl
  | succ m ih =>
    intro i n h hi hn
    obtain ⟨n, rfl⟩ : ∃ k, n = k + 1 := ⟨n - 1, by omega⟩
    rw [f_X2_heapOf_6_s, if_neg (by show ¬ nI 25 ≤ nI i; rw [nI_leI (by omega) (by omega)]; omega)]
    show (if gr S h = h then some h else f_X2_heapOf_6 S n (gr S h) (nI i + 1)) = some (if gr S h = h then h else flN m S (gr S h))
    split
    · rfl
    · rw [nI_1]; exact ih (i + 1) n (gr S h) (by omega) (by omega)
theorem x_heapOf (a S : Int32) : f_X2_heapOf a S = some (fl S (a &&& S)) := x_heap_loop S 25 0 1000 (a &&& S) rfl (by decide)
theorem gr_more {S h : Int32} : h ||| ((bs h &&& S) &&& (h ^^^ (-1 : Int32))) = gr S h := by
  apply b_ext; intro i hi
  rw [b_or, bt_andn hi, b_and, bt_gr]
  cases bt h i <;> cases bt (bs h) i <;> cases bt S i <;> rfl
theorem more_zero {S h : Int32} (hz : (bs h &&& S) &&& (h ^^^ (-1 : Int32)) = 0) : gr S h = h := by
  rw [← gr_more, hz]
  apply b_ext; intro i hi; rw [b_or, b_0, Bool.or_false]
theorem more_ne {S h : Int32} (hz : (bs h &&& S) &&& (h ^^^ (-1 : Int32)) ≠ 0) (hh : Cr h) (hS : Cr S) : gr S h ≠ h := by
  intro e
  refine hz (b_ext (fun i hi => ?_))
  have q : bt (gr S h) i = bt h i := by rw [e]
  rw [bt_gr] at q
  rw [bt_andn hi, b_and, b_0]
  revert q
  cases bt h i <;> cases bt (bs h) i <;> cases bt S i <;> simp
theorem m_heap_loop {S : Int32} (hS : Cr S) : ∀ (n : Nat) (h more : Int32), Cr h → more ≠ 0 → 1 ≤ pc h → 27 - pc h ≤ n → f_X6_heapOf_8 S n h more = some (fl S h) := by
  intro n
  induction n with
  | zero => intro h more hh hm hp hn; have := pc_le h; omega
  | succ n ih =>
    intro h more hh hm hp hn
    rw [f_X6_heapOf_8_s, if_neg hm, m_beside hh]
    show f_X6_heapOf_8 S n (h ||| ((bs h &&& S) &&& (h ^^^ (-1 : Int32)))) ((bs h &&& S) &&& (h ^^^ (-1 : Int32))) = _
    rw [gr_more]
    have hpl := pc_le h
    by_cases hz : (bs h &&& S) &&& (h ^^^ (-1 : Int32)) = 0
    · rw [hz, more_zero hz]
      obtain ⟨n, rfl⟩ : ∃ k, n = k + 1 := ⟨n - 1, by omega⟩
      rw [f_X6_heapOf_8_s, if_pos rfl]
      show some h = some (if gr S h = h then h else _)
      rw [if_pos (more_zero hz)]
    · have hne := more_ne hz hh hS
      have hlt := gr_pc hh hS hne
      have hpg := pc_le (gr S h)
      rw [ih _ _ (cr_gr hh hS) hz (by omega) (by omega)]
      refine congrArg some ?_
      show flN 25 S (gr S h) = (if gr S h = h then h else flN 24 S (gr S h))
      rw [if_neg hne]
      exact fl_any hS (cr_gr hh hS) (by omega) (by omega)
theorem m_heapOf0 {S h : Int32} (hS : Cr S) (hh : Cr h) : f_X6_heapOf_8 S 1000 h h = some (fl S h) := by
  by_cases hz : h = 0
  · subst hz
    rw [f_X6_heapOf_8_s, if_pos rfl]
    exact congrArg some (fl_zero S 25).symm
  · have : pc h ≠ 0 := fun q => hz ((pc_zero hh).mp q)
    exact m_heap_loop hS 1000 h h hh hz (by omega) (by omega)
theorem m_heapOf {S : Int32} (hS : Cr S) (c : Int32) : f_X6_heapOf S c = some (fl S (jshl (1 : Int32) c &&& S)) := m_heapOf0 hS (cr_and2 _ hS)
