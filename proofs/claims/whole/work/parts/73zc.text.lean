/-! core: the letters of a text, and the forms of statements -/
def ltr (N : Nat) (a : Nat → Nat) (p : Nat) : Int32 := if p < N then nI (a p) else -1
def LT (N : Nat) (a : Nat → Nat) (xl : Nat → Int32) : Prop := N ≤ 96 ∧ ∀ i, i < 96 → a i < 256 ∧ xl i = nI (a i)
theorem x_letter {N : Nat} {a : Nat → Nat} {xl : Nat → Int32} (h : LT N a xl) {p : Nat} (hp : p < 200) : f_X4_letterAt (nI N) xl (nI p) = some (ltr N a p) := by
  obtain ⟨hN, ha⟩ := h
  unfold f_X4_letterAt ltr
  rw [if_neg (not_lt0 (by omega)), ite_p (nI_leI (by omega) (by omega))]
  by_cases q : p < N
  · rw [if_neg (by omega), if_pos q, inb_nI (show p < 96 by omega) (by decide), ck_true, nI_clamp (by omega), (ha p (by omega)).2]
  · rw [if_pos (by omega), if_neg q]
theorem m_here {N : Nat} {a : Nat → Nat} {ml : Nat → Int32} (h : LT N a ml) {p : Nat} (hp : p < 200) : f_X6_here (nI N) (nI p) ml = some (ltr N a p) := by
  obtain ⟨hN, ha⟩ := h
  unfold f_X6_here ltr
  rw [ite_p (nI_leI (by omega) (by omega))]
  by_cases q : p < N
  · rw [if_neg (by omega), if_pos q, inb_nI (show p < 96 by omega) (by decide), ck_true, nI_clamp (by omega), (ha p (by omega)).2]
  · rw [if_pos (by omega), if_neg q]
def fm (c : Nat) : Nat := if c = 98 then 1 else if c = 104 then 0 else if c = 108 then 2 else if c = 110 then 4 else if c = 114 then 3 else 5
def dueF (f : Nat) : List Nat := [[104, 75, 57, 59], [98, 57, 57, 57, 59], [108, 57, 57, 59], [114, 57, 59], [110, 59]].getD f []
def lnF (f : Nat) : Nat := (dueF f).length
def dig (x : Nat) : Bool := decide (48 ≤ x) && decide (x ≤ 57)
def kd (x : Nat) : Nat := if x = 110 then 0 else if x = 101 then 1 else if x = 119 then 2 else if x = 108 then 3 else if x = 112 then 4 else if x = 107 then 5 else 9
def suD (d x : Nat) : Bool := if d = 75 then decide (kd x < 6) else if d = 57 then dig x else decide (x = d)
def suF (f t x : Nat) : Bool := if t < lnF f then suD ((dueF f).getD t 0) x else false
theorem fm_lt (c : Nat) : fm c < 6 := by
  unfold fm
  repeat' split
  all_goals decide
theorem lnF_le : ∀ f, f < 6 → lnF f ≤ 5 := by decide
theorem ltJ6 : ∀ f, f < 7 → ltJ f = true := by decide
theorem x_len : ∀ f, f < 6 → f_J0_length_8abf5 f = some (nI (lnF f)) := by decide +kernel
theorem x_due : ∀ f, f < 6 → ∀ t, t < lnF f → f_J0_charAt_5068e f (nI t) = some (nI ((dueF f).getD t 0)) := by decide +kernel
theorem x_kind0 : ∀ x, x < 256 → f_J0_indexOf_0f7a4 6 (((nI x).toUInt32 % 65536).toInt32) = some (if kd x < 6 then nI (kd x) else -1) := by decide +kernel
theorem due_lt : ∀ f, f < 6 → ∀ t, t < lnF f → (dueF f).getD t 0 < 256 := by decide
theorem x_suits {f t x : Nat} (hf : f < 6) (ht : t < 100) (hx : x < 256) : f_X4_suits f (nI t) (nI x) = some (nI (if suF f t x then 1 else 0)) := by
  unfold f_X4_suits suF
  have l5 := lnF_le f hf
  rw [ltJ6 f (by omega), ck_true, if_neg (not_lt0 (by omega)), x_len f hf, bn_some, ite_p (nI_ltI (by omega) (by omega))]
  by_cases q : t < lnF f
  · have d256 := due_lt f hf t q
    rw [if_pos q, if_pos q, x_due f hf t q, bn_some]
    generalize (dueF f).getD t 0 = d at d256
    unfold suD
    rw [ite_p (show (nI d = (75 : Int32)) ↔ d = 75 from nI_eq (b := 75) (by omega) (by decide)), ite_p (show (nI d = (57 : Int32)) ↔ d = 57 from nI_eq (b := 57) (by omega) (by decide))]
    by_cases d1 : d = 75
    · rw [if_pos d1, if_pos d1, x_kind0 x hx, bn_some]
      by_cases k : kd x < 6
      · rw [if_pos k, if_neg (not_lt0 (by omega)), decide_eq_true k]; rfl
      · rw [if_neg k, if_pos (by decide), decide_eq_false k]; rfl
    · rw [if_neg d1, if_neg d1]
      by_cases d2 : d = 57
      · rw [if_pos d2, if_pos d2, ite_p (show (nI x < (48 : Int32)) ↔ x < 48 from nI_ltI (b := 48) (by omega) (by decide)), ite_p (show ((57 : Int32) < nI x) ↔ 57 < x from nI_ltI (a := 57) (by decide) (by omega))]
        unfold dig
        by_cases x1 : x < 48
        · rw [if_pos x1, decide_eq_false (by omega)]; rfl
        · rw [if_neg x1, decide_eq_true (by omega)]
          by_cases x2 : 57 < x
          · rw [if_pos x2, decide_eq_false (by omega)]; rfl
          · rw [if_neg x2, decide_eq_true (by omega)]; rfl
      · rw [if_neg d2, if_neg d2, ite_p (nI_eq (a := x) (b := d) (by omega) (by omega))]
        by_cases x1 : x = d
        · rw [if_pos x1, decide_eq_true x1]; rfl
        · rw [if_neg x1, decide_eq_false x1]; rfl
  · rw [if_neg q, if_neg q]; rfl
theorem fm_ite {c : Nat} (hc : c < 256) {α : Type} (a b d e f g : α) : (if nI c = (98 : Int32) then a else (if nI c = (104 : Int32) then b else (if nI c = (108 : Int32) then d else (if nI c = (110 : Int32) then e else (if nI c = (114 : Int32) then f else g))))) = (if c = 98 then a else if c = 104 then b else if c = 108 then d else if c = 110 then e else if c = 114 then f else g) := by
  rw [ite_p (show (nI c = (98 : Int32)) ↔ c = 98 from nI_eq (b := 98) (by omega) (by decide)), ite_p (show (nI c = (104 : Int32)) ↔ c = 104 from nI_eq (b := 104) (by omega) (by decide)), ite_p (show (nI c = (108 : Int32)) ↔ c = 108 from nI_eq (b := 108) (by omega) (by decide)), ite_p (show (nI c = (110 : Int32)) ↔ c = 110 from nI_eq (b := 110) (by omega) (by decide)), ite_p (show (nI c = (114 : Int32)) ↔ c = 114 from nI_eq (b := 114) (by omega) (by decide))]
theorem LT_let {N : Nat} {a : Nat → Nat} {xl : Nat → Int32} (h : LT N a xl) {p : Nat} (hp : p < N) : ltr N a p = nI (a p) ∧ a p < 256 := ⟨by unfold ltr; rw [if_pos hp], (h.2 p (by have := h.1; omega)).1⟩
theorem x_form {N : Nat} {a : Nat → Nat} {xl : Nat → Int32} (h : LT N a xl) {p : Nat} (hp : p < N) : f_X4_formAt (nI N) xl (nI p) = some (fm (a p)) := by
  unfold f_X4_formAt
  have hN := h.1
  obtain ⟨e, l⟩ := LT_let h hp
  rw [x_letter h (by omega), bn_some, e, fm_ite l]
  unfold fm
  repeat' split
  all_goals rfl
/-! how far a statement goes, and the first place at which the text fails -/
def mt (N : Nat) (a : Nat → Nat) (p f : Nat) : Nat → Nat → Nat
  | 0, t => t
  | d + 1, t => if (decide (p + t < N) && suF f t (a (p + t))) = true then mt N a p f d (t + 1) else t
def MM (N : Nat) (a : Nat → Nat) (p : Nat) : Nat := mt N a p (fm (a p)) (lnF (fm (a p))) 0
def okS (N : Nat) (a : Nat → Nat) (p : Nat) : Bool := decide (0 < lnF (fm (a p))) && decide (MM N a p = lnF (fm (a p)))
def scan (N : Nat) (a : Nat → Nat) : Nat → Nat → Option Nat
  | 0, p => some p
  | f + 1, p => if okS N a p = true then (if p + lnF (fm (a p)) < N then scan N a f (p + lnF (fm (a p))) else none) else some (p + MM N a p)
def cntS (N : Nat) (a : Nat → Nat) : Nat → Nat → Nat
  | 0, _ => 0
  | f + 1, p => if okS N a p = true then (if p + lnF (fm (a p)) < N then 1 + cntS N a f (p + lnF (fm (a p))) else 1) else 1
theorem mt_le (N : Nat) (a : Nat → Nat) (p f : Nat) : ∀ d t, t ≤ mt N a p f d t ∧ mt N a p f d t ≤ t + d ∧ (p + t ≤ N → p + mt N a p f d t ≤ N)
  | 0, t => ⟨Nat.le_refl _, Nat.le_refl _, fun h => h⟩
  | d + 1, t => by
    unfold mt
    split
    · rename_i h
      have h1 := of_decide_eq_true ((Bool.and_eq_true _ _).mp h).1
      have I := mt_le N a p f d (t + 1)
      exact ⟨by omega, by omega, fun _ => I.2.2 (by omega)⟩
    · exact ⟨Nat.le_refl _, by omega, fun h => h⟩
def kX (N : Nat) (e14 : Int32) : Option Int32 := if nI N ≤ 0 then some (nI N) else if e14 = nI N then some (-1 : Int32) else some (nI N)
theorem x_mis_in (K : Int32 → Option Int32) {N : Nat} {a : Nat → Nat} {xl : Nat → Int32} (h : LT N a xl) {p : Nat} (hp : p < N) : ∀ d t n, t + (d + 1) = lnF (fm (a p)) → p + t ≤ N → N - (p + t) < n → (∃ n', N - (p + lnF (fm (a p))) < n' ∧ mt N a p (fm (a p)) (d + 1) t = lnF (fm (a p)) ∧ f_X4_misfit_4 (nI N) xl K n (nI p) (nI (p + t)) = f_X4_misfit_4 (nI N) xl K n' (nI (p + lnF (fm (a p)))) (nI (p + lnF (fm (a p))))) ∨ (mt N a p (fm (a p)) (d + 1) t < lnF (fm (a p)) ∧ f_X4_misfit_4 (nI N) xl K n (nI p) (nI (p + t)) = if p + mt N a p (fm (a p)) (d + 1) t < N then some (nI (p + mt N a p (fm (a p)) (d + 1) t)) else K (nI p)) := by
  have hN := h.1
  have f6 := fm_lt (a p)
  have l5 := lnF_le _ f6
  intro d
  induction d with
  | zero =>
    intro t n ht hpt hn
    obtain ⟨n, rfl⟩ := fuel hn
    rw [f_X4_misfit_4_s, ite_p (nI_leI (by omega) (by omega))]
    by_cases q : p + t < N
    · obtain ⟨e1, e2⟩ := h.2 (p + t) (by omega)
      rw [if_neg (by omega), x_form h hp, bn_some, inb_nI (show p + t < 96 by omega) (by decide), ck_true, nI_clamp (by omega), e2, pk_sub (by omega), show p + t - p = t by omega, x_suits f6 (by omega) e1, bn_some]
      cases w : suF (fm (a p)) t (a (p + t)) with
      | false =>
        right
        have m : mt N a p (fm (a p)) (0 + 1) t = t := by unfold mt; rw [w, Bool.and_false]; rfl
        rw [m, if_pos q]
        exact ⟨by omega, if_pos rfl⟩
      | true =>
        left
        have m : mt N a p (fm (a p)) (0 + 1) t = t + 1 := by unfold mt; rw [w, decide_eq_true q]; rfl
        refine ⟨n, by omega, by omega, ?_⟩
        rw [if_neg (show ¬ nI (if true = true then 1 else 0) = 0 by decide), ltJ6 _ (by omega), ck_true, x_len _ f6, bn_some, jn_eq, show (1 : Int32) = nI 1 from rfl, pk_sub (by omega), nI_add, if_pos (by rw [show t = lnF (fm (a p)) - 1 by omega]), show p + t + 1 = p + lnF (fm (a p)) by omega]
    · right
      have m : mt N a p (fm (a p)) (0 + 1) t = t := by unfold mt; rw [decide_eq_false q]; rfl
      rw [m, if_pos (by omega), if_neg q]
      exact ⟨by omega, rfl⟩
  | succ d ih =>
    intro t n ht hpt hn
    obtain ⟨n, rfl⟩ := fuel hn
    rw [f_X4_misfit_4_s, ite_p (nI_leI (by omega) (by omega))]
    by_cases q : p + t < N
    · obtain ⟨e1, e2⟩ := h.2 (p + t) (by omega)
      rw [if_neg (by omega), x_form h hp, bn_some, inb_nI (show p + t < 96 by omega) (by decide), ck_true, nI_clamp (by omega), e2, pk_sub (by omega), show p + t - p = t by omega, x_suits f6 (by omega) e1, bn_some]
      cases w : suF (fm (a p)) t (a (p + t)) with
      | false =>
        right
        have m : mt N a p (fm (a p)) (d + 1 + 1) t = t := by unfold mt; rw [w, Bool.and_false]; rfl
        rw [m, if_pos q]
        exact ⟨by omega, if_pos rfl⟩
      | true =>
        have m : mt N a p (fm (a p)) (d + 1 + 1) t = mt N a p (fm (a p)) (d + 1) (t + 1) := by
          show (if _ then _ else _) = _
          rw [w, decide_eq_true q]; rfl
        rw [if_neg (show ¬ nI (if true = true then 1 else 0) = 0 by decide), ltJ6 _ (by omega), ck_true, x_len _ f6, bn_some, jn_eq, show (1 : Int32) = nI 1 from rfl, pk_sub (show 1 ≤ lnF (fm (a p)) by omega), nI_add, if_neg (nI_neq (a := t) (b := lnF (fm (a p)) - 1) (by omega) (by omega) (by omega)), m]
        exact ih (t + 1) n (by omega) (by omega) (by omega)
    · right
      have m : mt N a p (fm (a p)) (d + 1 + 1) t = t := by unfold mt; rw [decide_eq_false q]; rfl
      rw [m, if_pos (by omega), if_neg q]
      exact ⟨by omega, rfl⟩
theorem x_mis {N : Nat} {a : Nat → Nat} {xl : Nat → Int32} (h : LT N a xl) : ∀ f p n, p < N → N - p ≤ f → N - p < n → f_X4_misfit_4 (nI N) xl (kX N) n (nI p) (nI p) = match scan N a f p with | none => some (-1 : Int32) | some y => some (nI y) := by
  have hN := h.1
  intro f
  induction f with
  | zero => intro p n hp hf hn; omega
  | succ f ih =>
    intro p n hp hf hn
    have f6 := fm_lt (a p)
    have l5 := lnF_le _ f6
    have ml := mt_le N a p (fm (a p)) (lnF (fm (a p))) 0
    have kp : kX N (nI p) = some (nI N) := by
      unfold kX
      rw [if_neg (show ¬ nI N ≤ 0 from nI_nle' (b := 0) (by omega) (by decide) (by omega)), if_neg (nI_neq (by omega) (by omega) (by omega))]
    have kn : kX N (nI N) = some (-1 : Int32) := by
      unfold kX
      rw [if_neg (show ¬ nI N ≤ 0 from nI_nle' (b := 0) (by omega) (by decide) (by omega)), if_pos rfl]
    unfold scan
    by_cases z : lnF (fm (a p)) = 0
    · have ok : okS N a p = false := by unfold okS; rw [decide_eq_false (by omega)]; rfl
      have m0 : MM N a p = 0 := by have := ml.2.1; unfold MM; omega
      obtain ⟨n, rfl⟩ := fuel hn
      obtain ⟨e1, e2⟩ := h.2 p (by omega)
      have sf : suF (fm (a p)) 0 (a p) = false := by unfold suF; rw [if_neg (by omega)]
      rw [ok, if_neg (by decide), m0, f_X4_misfit_4_s, if_neg (nI_nle' (by omega) (by omega) hp), x_form h hp, bn_some, inb_nI (show p < 96 by omega) (by decide), ck_true, nI_clamp (by omega), e2, pk_sub (Nat.le_refl p), Nat.sub_self, x_suits f6 (by decide) e1, bn_some, sf, if_pos (show nI (if false = true then 1 else 0) = 0 from rfl)]
      rfl
    · obtain ⟨d, hd⟩ : ∃ d, 0 + (d + 1) = lnF (fm (a p)) := ⟨lnF (fm (a p)) - 1, by omega⟩
      have e0 : MM N a p = mt N a p (fm (a p)) (d + 1) 0 := by unfold MM; rw [← hd, Nat.zero_add]
      have I := x_mis_in (kX N) h hp d 0 n hd (by omega) (by omega)
      simp only [Nat.add_zero, ← e0] at I
      have pm : p + MM N a p ≤ N := ml.2.2 (by omega)
      rcases I with ⟨n', hn', m, e⟩ | ⟨m, e⟩
      · have ok : okS N a p = true := by unfold okS; rw [decide_eq_true (by omega), decide_eq_true m]; rfl
        rw [ok, if_pos rfl, e]
        by_cases w : p + lnF (fm (a p)) < N
        · rw [if_pos w]
          exact ih (p + lnF (fm (a p))) n' w (by omega) hn'
        · rw [if_neg w]
          obtain ⟨n', rfl⟩ := fuel hn'
          have en : p + lnF (fm (a p)) = N := by omega
          rw [en, f_X4_misfit_4_s, if_pos (Int32.le_refl _), kn]
      · have ok : okS N a p = false := by unfold okS; rw [decide_eq_false (show ¬ MM N a p = lnF (fm (a p)) by omega), Bool.and_false]
        rw [ok, if_neg (by decide), e]
        by_cases w : p + MM N a p < N
        · rw [if_pos w]
        · rw [if_neg w, kp, show p + MM N a p = N by omega]
theorem x_misfit {N : Nat} {a : Nat → Nat} {xl : Nat → Int32} (h : LT N a xl) (h0 : 0 < N) : f_X4_misfit (nI N) xl = match scan N a 96 0 with | none => some (-1 : Int32) | some y => some (nI y) := x_mis h 96 0 1000 h0 (by have := h.1; omega) (by have := h.1; omega)
