/-! ways: one layer and the next, on both sides -/
def VR (c : Nat) (xf mf : Int32) : Prop := (xf = (1000 : Int32) ∧ mf = (1000000000 : Int32)) ∨ ∃ k : Nat, k ≤ c ∧ xf = nI k ∧ mf = nI k
def LR (c : Nat) (w f mc mf : Nat → Int32) : Prop := ∀ s, s < 64 → w s = mc (128 * c + s) ∧ VR c (f s) (mf (128 * c + s))
def HI (c : Nat) (mf : Nat → Int32) : Prop := ∀ s, 64 ≤ s → s < 128 → mf (128 * c + s) = (1000000000 : Int32)
def UT (c : Nat) (mc mf : Nat → Int32) : Prop := ∀ i, 128 * c ≤ i → i < 3328 → mc i = 0 ∧ mf i = (1000000000 : Int32)
def RC (c : Nat) (f : Nat → Int32) : Prop := ∃ k : Nat, k ≤ c ∧ f 0 = nI k
def PR (c : Nat) (w f nw nf mc mf : Nat → Int32) : Prop := LR c w f mc mf ∧ HI c mf ∧ LR (c + 1) nw nf mc mf ∧ HI (c + 1) mf ∧ UT (c + 2) mc mf
theorem VR_min {c k : Nat} (hc : c ≤ 25) (hk : k ≤ c) {xf mf : Int32} (h : VR c xf mf) : ∃ j, j ≤ c ∧ jmin xf (nI k) = nI j ∧ jmin mf (nI k) = nI j := by
  rcases h with ⟨rfl, rfl⟩ | ⟨j, hj, rfl, rfl⟩
  · exact ⟨k, hk, by rw [show (1000 : Int32) = nI 1000 from rfl, jmin_nI (by decide) (by omega), Nat.min_eq_right (by omega)], by rw [show (1000000000 : Int32) = nI 1000000000 from rfl, jmin_nI (by decide) (by omega), Nat.min_eq_right (by omega)]⟩
  · exact ⟨min j k, by omega, jmin_nI (by omega) (by omega), jmin_nI (by omega) (by omega)⟩
theorem comes {c t k : Nat} (hc : c < 25) (ht : t < 64) (hk : k ≤ c + 1) {w f nw nf mc mf : Nat → Int32} (P : PR c w f nw nf mc mf) (more : Int32) : ∃ nw' nf' mc' mf', f_X1_comesTo nw nf (nI t) more (nI k) = some (nw', nf') ∧ f_X6_comesTo mc mf (nI (c + 1)) (nI t) more (nI k) = some (mc', mf') ∧ PR c w f nw' nf' mc' mf' ∧ (RC (c + 1) nf → RC (c + 1) nf') ∧ (t = 0 → RC (c + 1) nf') := by
  obtain ⟨P1, P2, P3, P4, P5⟩ := P
  obtain ⟨j, hj, j1, j2⟩ := VR_min (by omega) hk (P3 t ht).2
  have ex : f_X1_comesTo nw nf (nI t) more (nI k) = some (upd nw t (jrem (nw t + more) (1000003 : Int32)), upd nf t (nI j)) := by
    unfold f_X1_comesTo
    rw [if_neg (not_lt0 (by omega)), if_pos (show nI t < (64 : Int32) from nI_lt2 (b := 64) (by omega) (by decide) ht), inb_nI ht (by decide), ck_true, ck_true, ck_true, ck_true, nI_clamp (by omega), j1]
  have em : f_X6_comesTo mc mf (nI (c + 1)) (nI t) more (nI k) = some (upd mc (128 * (c + 1) + t) (jrem (nw t + more) (1000003 : Int32)), upd mf (128 * (c + 1) + t) (nI j)) := by
    unfold f_X6_comesTo
    rw [show (128 : Int32) = nI 128 from rfl, pk_mul, nI_add, inb_nI (show 128 * (c + 1) + t < 3328 by omega) (by decide), ck_true, ck_true, ck_true, least_eq, bn_some, ck_true, nI_clamp (by omega), j2, (P3 t ht).1]
  have u : ∀ (g : Nat → Int32) (i j : Nat) (v : Int32), j ≠ i → upd g i v j = g j := fun g i j v q => by unfold upd; rw [if_neg q]
  have us : ∀ (g : Nat → Int32) (i : Nat) (v : Int32), upd g i v i = v := fun g i v => by unfold upd; rw [if_pos rfl]
  refine ⟨_, _, _, _, ex, em, ⟨fun s hs => ?_, fun s h1 h2 => ?_, fun s hs => ?_, fun s h1 h2 => ?_, fun i h1 h2 => ?_⟩, fun r => ?_, fun z => ?_⟩
  · rw [u _ _ _ _ (show 128 * c + s ≠ 128 * (c + 1) + t by omega), u _ _ _ _ (show 128 * c + s ≠ 128 * (c + 1) + t by omega)]
    exact P1 s hs
  · rw [u _ _ _ _ (show 128 * c + s ≠ 128 * (c + 1) + t by omega)]
    exact P2 s h1 h2
  · by_cases q : s = t
    · subst q
      rw [us, us, us, us]
      exact ⟨rfl, Or.inr ⟨j, hj, rfl, rfl⟩⟩
    · rw [u _ _ _ _ q, u _ _ _ _ q, u _ _ _ _ (show 128 * (c + 1) + s ≠ 128 * (c + 1) + t by omega), u _ _ _ _ (show 128 * (c + 1) + s ≠ 128 * (c + 1) + t by omega)]
      exact P3 s hs
  · rw [u _ _ _ _ (show 128 * (c + 1) + s ≠ 128 * (c + 1) + t by omega)]
    exact P4 s h1 h2
  · rw [u _ _ _ _ (show i ≠ 128 * (c + 1) + t by omega), u _ _ _ _ (show i ≠ 128 * (c + 1) + t by omega)]
    exact P5 i h1 h2
  · by_cases q : t = 0
    · subst q; exact ⟨j, hj, us _ _ _⟩
    · obtain ⟨k', h1, h2⟩ := r
      exact ⟨k', h1, by rw [u _ _ _ _ (fun e => q e.symm)]; exact h2⟩
  · subst z; exact ⟨j, hj, us _ _ _⟩
/-! ways: the shapes of one state -/
def ay (s : Nat) : Nat := [1, 3, 33, 99].getD s 0
theorem ay_x : ∀ b, b < 100 → ce b = 0 ∨ jshr (ce b) (nI (b % 25)) = nI (ay (b / 25)) := by decide +kernel
theorem ay_n : ∀ s, s < 4 → ∀ t, t < 64 → jshr (nI t ||| nI (ay s)) (1 : Int32) = nI ((t ||| ay s) / 2) ∧ (t ||| ay s) / 2 < 64 := by decide +kernel
theorem ay_1 : ∀ s, s < 4 → ¬ nI (ay s) = (0 : Int32) := by decide
theorem half_t : ∀ t, t < 64 → jshr (nI t) (1 : Int32) = nI (t / 2) := by decide +kernel
theorem gap_iff {b : Nat} (hb : b < 100) (L : Int32) : ce b &&& (gap L ^^^ (-1 : Int32)) = 0 ↔ ce b &&& L = 0 := by
  have key : ∀ i, i < 32 → bt (ce b &&& (gap L ^^^ (-1 : Int32))) i = bt (ce b &&& L) i := fun i hi => by
    rw [bt_andn hi, b_and]
    unfold gap
    rw [bt_andn hi]
    rcases Nat.lt_or_ge i 25 with q | q
    · rw [bt_all q]; cases bt (ce b) i <;> cases bt L i <;> rfl
    · rw [ce_cr hb i q]; rfl
  have e : ce b &&& (gap L ^^^ (-1 : Int32)) = ce b &&& L := b_ext key
  rw [e]
theorem bt_gap {L : Int32} {c : Nat} (hc : c < 25) : bt (gap L) c = !bt L c := by unfold gap; rw [bt_andn (by omega), bt_all hc, Bool.true_and]
theorem ways_shapes {L : Int32} (hL : Cr L) {c t k : Nat} (hc : c < 25) (ht : t < 64) (hk : k ≤ c) (ev : bt (nI t) 0 = false) (hg : bt L c = false) {w f : Nat → Int32} (hf : f t = nI k) (K : ((Nat → Int32) × (Nat → Int32)) → Option (Int32 × (Nat → Int32) × (Nat → Int32) × (Nat → Int32))) : ∀ (m s n n' : Nat) (nw nf mc mf : Nat → Int32), s + m = 4 → m < n → m < n' → PR c w f nw nf mc mf → mf (128 * c + t) = nI k → ∃ nw' nf' mc' mf', f_X1_goesOn_37 (nI t) (nI c) L w f n (nI s) nw nf = some (nw', nf') ∧ f_X6_ways_159 (gap L) (nI c) (nI t) (nI (128 * c + t)) K n' (nI s) mc mf = K (mc', mf') ∧ PR c w f nw' nf' mc' mf' ∧ (RC (c + 1) nf → RC (c + 1) nf') ∧ (s = 0 → t = 0 → RC (c + 1) nf') := by
  intro m
  induction m with
  | zero =>
    intro s n n' nw nf mc mf hs hn hn' P hm
    obtain ⟨n, rfl⟩ := fuel hn
    obtain ⟨n', rfl⟩ := fuel hn'
    obtain rfl : s = 4 := by omega
    rw [f_X1_goesOn_37_s, if_pos (by decide), f_X6_ways_159_s, if_pos (by decide)]
    exact ⟨nw, nf, mc, mf, rfl, rfl, P, id, fun q => by omega⟩
  | succ m ih =>
    intro s n n' nw nf mc mf hs hn hn' P hm
    obtain ⟨n, rfl⟩ := fuel hn
    obtain ⟨n', rfl⟩ := fuel hn'
    have hb : 25 * s + c < 100 := by omega
    have cx := ce_x (25 * s + c) hb
    have cm := m_canBite hb (gap L)
    have cy := ay_x (25 * s + c) hb
    rw [show (25 * s + c) / 25 = s by omega, show (25 * s + c) % 25 = c by omega] at cx cm cy
    have h0 : f_X6_has (nI t) (0 : Int32) = some (0 : Int32) := by
      have := m_has (x := nI t) (cr_nI (by omega)) (k := 0) (by decide)
      rw [ev] at this
      exact this
    have hgc : f_X6_has (gap L) (nI c) = some (1 : Int32) := by
      have := m_has (cr_gap L) (k := c) (by omega)
      rw [bt_gap hc, hg] at this
      exact this
    rw [f_X1_goesOn_37_s, if_neg (show ¬ (4 : Int32) ≤ nI s from nI_nle' (a := 4) (by decide) (by omega) (by omega)), cx.1, bn_some, f_X6_ways_159_s, if_neg (show ¬ (4 : Int32) ≤ nI s from nI_nle' (a := 4) (by decide) (by omega) (by omega)), hgc, bn_some, if_neg (show ¬ (1 : Int32) = 0 by decide), h0, bn_some, if_pos rfl, cm, bn_some]
    have skip : canB (25 * s + c) (gap L) = false → (s = 0 → False) → ∃ nw' nf' mc' mf', f_X1_goesOn_37 (nI t) (nI c) L w f n (nI s + 1) nw nf = some (nw', nf') ∧ f_X6_ways_159 (gap L) (nI c) (nI t) (nI (128 * c + t)) K n' (nI s + 1) mc mf = K (mc', mf') ∧ PR c w f nw' nf' mc' mf' ∧ (RC (c + 1) nf → RC (c + 1) nf') ∧ (s = 0 → t = 0 → RC (c + 1) nf') := fun _ z => by
      obtain ⟨nw', nf', mc', mf', i1, i2, i3, i4, i5⟩ := ih (s + 1) n n' nw nf mc mf (by omega) (by omega) (by omega) P hm
      rw [nI_1]
      exact ⟨nw', nf', mc', mf', i1, i2, i3, i4, fun q => (z q).elim⟩
    have s0 : s = 0 → ce (25 * s + c) ≠ 0 ∧ ce (25 * s + c) &&& L = 0 := fun q => by
      subst q
      rw [show 25 * 0 + c = c by omega, ce_one c hc]
      exact ⟨one_ne hc, one_and0 hc hg⟩
    by_cases z : ce (25 * s + c) = 0
    · have cf : canB (25 * s + c) (gap L) = false := by unfold canB; rw [decide_eq_false (fun q => q z)]; rfl
      rw [if_pos z, bn_some, cf, if_pos (show nI (if false = true then 1 else 0) = 0 from rfl), bn_some, if_pos rfl, bn_some]
      exact skip cf (fun q => (s0 q).1 z)
    · by_cases g : ce (25 * s + c) &&& L = 0
      · have ct : canB (25 * s + c) (gap L) = true := by
          unfold canB
          rw [decide_eq_true z, decide_eq_true ((gap_iff hb L).mpr g)]; rfl
        have y : jshr (ce (25 * s + c)) (nI c) = nI (ay s) := by
          rcases cy with q | q
          · exact absurd q z
          · exact q
        rw [if_neg z, if_pos g, y, ct, if_neg (show ¬ nI (if true = true then 1 else 0) = 0 by decide), cx.2, bn_some, y, bn_some, if_neg (ay_1 s (by omega))]
        by_cases o : nI (ay s) &&& nI t = 0
        · obtain ⟨n1, n2⟩ := ay_n s (by omega) t ht
          obtain ⟨nw1, nf1, mc1, mf1, c1, c2, P1, r1, r2⟩ := comes (t := (t ||| ay s) / 2) (k := k + 1) hc n2 (by omega) P (w t)
          have hm1 : mf1 (128 * c + t) = nI k := by
            rcases (P1.1 t ht).2 with ⟨q1, q2⟩ | ⟨k2, q1, q2, q3⟩
            · rw [hf] at q1
              exact absurd q1 (nI_neq (b := 1000) (by omega) (by decide) (by omega))
            · rw [q3, ← q2, hf]
          obtain ⟨nw', nf', mc', mf', i1, i2, i3, i4, i5⟩ := ih (s + 1) n n' nw1 nf1 mc1 mf1 (by omega) (by omega) (by omega) P1 hm1
          rw [if_pos o, if_pos o, inb_nI ht (by decide), ck_true, ck_true, inb_nI (show 128 * c + t < 3328 by omega) (by decide), ck_true, ck_true, nI_clamp (show t < 2 ^ 31 by omega), nI_clamp (show 128 * c + t < 2 ^ 31 by omega), hf, hm, n1, nI_1, nI_1, ← (P.1 t ht).1, c1, bn_some, bn_some]
          rw [nI_1, c2, bn_some, bn_some]
          refine ⟨nw', nf', mc', mf', i1, i2, i3, fun q => i4 (r1 q), fun q1 q2 => i4 (r2 ?_)⟩
          subst q1 q2
          decide
        · rw [if_neg o, if_neg o, bn_some, bn_some, nI_1]
          obtain ⟨nw', nf', mc', mf', i1, i2, i3, i4, i5⟩ := ih (s + 1) n n' nw nf mc mf (by omega) (by omega) (by omega) P hm
          refine ⟨nw', nf', mc', mf', i1, i2, i3, i4, fun q1 q2 => ?_⟩
          subst q1 q2
          exact absurd (by decide) o
      · have cf : canB (25 * s + c) (gap L) = false := by
          unfold canB
          rw [decide_eq_false (fun q => g ((gap_iff hb L).mp q)), Bool.and_false]
        rw [if_neg z, if_neg g, bn_some, cf, if_pos (show nI (if false = true then 1 else 0) = 0 from rfl), bn_some, if_pos rfl, bn_some]
        exact skip cf (fun q => g (s0 q).2)
