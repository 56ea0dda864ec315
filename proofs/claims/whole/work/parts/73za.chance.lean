/-! chance: sums over cells and pairs of cells -/
def ctR (p : Nat → Bool) : Nat → Nat → Nat
  | 0, _ => 0
  | m + 1, i => nb (p i) + ctR p m (i + 1)
theorem ctR_all (p : Nat → Bool) : ∀ (m i : Nat), fb_ct p i + ctR p m i = fb_ct p (i + m)
  | 0, i => rfl
  | m + 1, i => by
    have := ctR_all p m (i + 1)
    rw [fb_ct_succ] at this
    show fb_ct p i + (nb (p i) + ctR p m (i + 1)) = _
    rw [show i + (m + 1) = i + 1 + m by omega, ← this]
    unfold nb
    omega
theorem ctR_cong {p q : Nat → Bool} : ∀ (m i : Nat), (∀ k, i ≤ k → k < i + m → p k = q k) → ctR p m i = ctR q m i
  | 0, _, _ => rfl
  | m + 1, i, h => by
    show nb (p i) + ctR p m (i + 1) = nb (q i) + ctR q m (i + 1)
    rw [h i (by omega) (by omega), ctR_cong m (i + 1) (fun k h1 h2 => h k (by omega) (by omega))]
theorem ctR_end (p : Nat → Bool) (m i : Nat) : ctR p (m + 1) i = ctR p m i + nb (p (i + m)) := by
  have a := ctR_all p m i
  have b := ctR_all p (m + 1) i
  rw [show i + (m + 1) = i + m + 1 by omega, fb_ct_succ] at b
  unfold nb
  omega
def smR (f : Nat → Nat) : Nat → Nat → Nat
  | 0, _ => 0
  | m + 1, i => f i + smR f m (i + 1)
theorem smR_all (f : Nat → Nat) : ∀ (m i : Nat), fb_sm f i + smR f m i = fb_sm f (i + m)
  | 0, i => rfl
  | m + 1, i => by
    have := smR_all f m (i + 1)
    rw [fb_sm_succ] at this
    show fb_sm f i + (f i + smR f m (i + 1)) = _
    rw [show i + (m + 1) = i + 1 + m by omega, ← this]
    omega
theorem dbl {S : Nat → Nat → Bool} (hs : ∀ c d, S c d = S d c) (h0 : ∀ c, S c c = false) : ∀ n, fb_sm (fun c => fb_ct (S c) n) n = 2 * fb_sm (fun c => ctR (S c) (n - (c + 1)) (c + 1)) n
  | 0 => rfl
  | n + 1 => by
    have I := dbl hs h0 n
    have e1 : fb_sm (fun c => fb_ct (S c) (n + 1)) n = fb_sm (fun c => fb_ct (S c) n) n + fb_ct (S n) n := by
      rw [← sm_ct, ← fb_sm_add]
      exact fb_sm_cong (fun k _ => by rw [fb_ct_succ, hs k n]; rfl)
    have e2 : fb_sm (fun c => ctR (S c) (n + 1 - (c + 1)) (c + 1)) n = fb_sm (fun c => ctR (S c) (n - (c + 1)) (c + 1)) n + fb_ct (S n) n := by
      rw [← sm_ct, ← fb_sm_add]
      exact fb_sm_cong (fun k hk => by
        rw [show n + 1 - (k + 1) = (n - (k + 1)) + 1 by omega, ctR_end, show k + 1 + (n - (k + 1)) = n by omega, hs k n])
    rw [fb_sm_succ, fb_sm_succ, e1, e2, fb_ct_succ, h0 n, Nat.sub_self, I]
    show _ + (fb_ct (S n) n + 0) = 2 * (_ + 0)
    omega
theorem wo_comm (c d : Nat) (L : Int32) : wo d (wo c L) = wo c (wo d L) := by
  unfold wo
  rw [Int32.and_assoc, Int32.and_assoc, Int32.and_comm (jshl (1 : Int32) (nI c) ^^^ (-1 : Int32))]
theorem pc_wo {L : Int32} {c : Nat} (hc : c < 25) (h : bt L c = true) : pc (wo c L) + 1 = pc L := by
  have := fb_ct_upd (bt L) false hc
  rw [h] at this
  have e : pc (wo c L) = fb_ct (fun k => if k = c then false else bt L k) 25 := fb_ct_cong (fun k hk => by
    rw [bt_wo hc hk]
    by_cases q : k = c
    · simp [q]
    · simp [q])
  rw [e]
  exact this
def w1 (K F : Nat → Nat) (j v : Nat) (L : Int32) (c : Nat) : Bool := bt L c && gd K F j v (wo c L)
def W1 (K F : Nat → Nat) (j v : Nat) (L : Int32) : Nat := fb_ct (w1 K F j v L) 25
def X1 (K F : Nat → Nat) (j v : Nat) (L : Int32) : Nat := if L = 0 then nb (gd K F j v L) else W1 K F j v L
def w2 (K F : Nat → Nat) (j v : Nat) (L : Int32) (c : Nat) : Nat := if bt L c then X1 K F j v (wo c L) else 0
def pr2 (K F : Nat → Nat) (j v : Nat) (L : Int32) (c : Nat) : Nat := if bt L c then ctR (w1 K F j v (wo c L)) (25 - (c + 1)) (c + 1) else 0
def S2 (K F : Nat → Nat) (j v : Nat) (L : Int32) (c d : Nat) : Bool := ((bt L c && bt L d) && !decide (d = c)) && gd K F j v (wo d (wo c L))
theorem S2_w {K F : Nat → Nat} {j v : Nat} {L : Int32} {c d : Nat} (hc : c < 25) (hd : d < 25) : S2 K F j v L c d = (bt L c && w1 K F j v (wo c L) d) := by
  unfold S2 w1
  rw [bt_wo hc hd, Bool.and_assoc, Bool.and_assoc, Bool.and_assoc]
theorem pairs_two {K F : Nat → Nat} {j v : Nat} {L : Int32} (h2 : 2 ≤ pc L) : fb_sm (w2 K F j v L) 25 = 2 * fb_sm (pr2 K F j v L) 25 := by
  have e1 : fb_sm (w2 K F j v L) 25 = fb_sm (fun c => fb_ct (S2 K F j v L c) 25) 25 := fb_sm_cong (fun c hc => by
    unfold w2
    rw [fb_ct_cong (fun d hd => S2_w hc hd)]
    cases h : bt L c with
    | false =>
      rw [if_neg (by decide)]
      exact (fb_ct_zero.mpr (fun d _ => Bool.false_and _)).symm
    | true =>
      rw [if_pos rfl]
      unfold X1
      rw [if_neg]
      · exact fb_ct_cong (fun d _ => (Bool.true_and _).symm)
      · intro q
        have := pc_wo hc h
        rw [q, show pc 0 = 0 from (pc_zero cr_0).mpr rfl] at this
        omega)
  have e2 : fb_sm (pr2 K F j v L) 25 = fb_sm (fun c => ctR (S2 K F j v L c) (25 - (c + 1)) (c + 1)) 25 := fb_sm_cong (fun c hc => by
    unfold pr2
    rw [ctR_cong (25 - (c + 1)) (c + 1) (fun d h1 h2 => S2_w hc (show d < 25 by omega))]
    cases h : bt L c with
    | false =>
      rw [if_neg (by decide)]
      have z : ∀ m i, ctR (fun d => false && w1 K F j v (wo c L) d) m i = 0 := by
        intro m
        induction m with
        | zero => intro i; rfl
        | succ m ih => intro i; show nb _ + _ = 0; rw [ih]; rfl
      exact (z _ _).symm
    | true =>
      rw [if_pos rfl]
      exact ctR_cong _ _ (fun d _ _ => (Bool.true_and _).symm))
  rw [e1, e2]
  refine dbl (fun c d => ?_) (fun c => ?_) 25
  · unfold S2
    rw [wo_comm c d, Bool.and_comm (bt L c), show decide (d = c) = decide (c = d) from decide_eq_decide.mpr ⟨Eq.symm, Eq.symm⟩]
  · unfold S2
    rw [decide_eq_true rfl, Bool.not_true, Bool.and_false, Bool.false_and]
theorem pairs_one {K F : Nat → Nat} {j v : Nat} {L : Int32} (hL : Cr L) (h1 : pc L = 1) : fb_sm (w2 K F j v L) 25 = W1 K F j v L := by
  unfold W1
  rw [← sm_ct]
  refine fb_sm_cong (fun c hc => ?_)
  unfold w2 w1
  cases h : bt L c with
  | false => rfl
  | true =>
    have := pc_wo hc h
    have z : wo c L = 0 := (pc_zero (cr_wo hL)).mp (by omega)
    rw [if_pos rfl, Bool.true_and]
    unfold X1
    rw [if_pos z]
theorem gd_bit (K F : Nat → Nat) (j v : Nat) (L : Int32) : nb (gd K F j v L) ≤ 1 := nb_le _
theorem W1_le (K F : Nat → Nat) (j v : Nat) (L : Int32) : W1 K F j v L ≤ 25 := fb_ct_le _ _
theorem X1_le (K F : Nat → Nat) (j v : Nat) (L : Int32) : X1 K F j v L ≤ 25 := by
  unfold X1
  have := W1_le K F j v L
  have := gd_bit K F j v L
  split <;> omega
theorem w2_le (K F : Nat → Nat) (j v : Nat) (L : Int32) : fb_sm (w2 K F j v L) 25 ≤ 25 * 25 := fb_sm_bound (fun c _ => by
  unfold w2
  have := X1_le K F j v (wo c L)
  split <;> omega)
theorem prt_two (a b : Nat) (z : Bool) : prt (2 * a) (2 * b) z = prt a b z := by
  unfold prt
  by_cases h : a = 0
  · subst h; rfl
  · rw [if_neg (by omega), if_neg h, Nat.gcd_mul_left]
    cases z
    · show nW (2 * b / (2 * Nat.gcd a b)) = nW (b / Nat.gcd a b)
      rw [Nat.mul_div_mul_left _ _ (by decide)]
    · show nW (2 * a / (2 * Nat.gcd a b)) = nW (a / Nat.gcd a b)
      rw [Nat.mul_div_mul_left _ _ (by decide)]
