/-! core: the class's numbers of a statement that is as it must be -/
theorem Dg_f {N : Nat} {a : Nat → Nat} {k : Nat} (d : Dg N a k = true) : k < N ∧ 48 ≤ a k ∧ a k ≤ 57 := by
  obtain ⟨q, w⟩ := (Bool.and_eq_true _ _).mp d
  obtain ⟨w1, w2⟩ := (Bool.and_eq_true _ _).mp w
  exact ⟨of_decide_eq_true q, of_decide_eq_true w1, of_decide_eq_true w2⟩
theorem x_digit {N : Nat} {a : Nat → Nat} {xl : Nat → Int32} (h : LT N a xl) {k : Nat} (d : Dg N a k = true) : f_X4_digitAt (nI N) xl (nI k) = some (nI (a k - 48)) := by
  obtain ⟨q, w1, w2⟩ := Dg_f d
  have hN := h.1
  unfold f_X4_digitAt
  rw [x_letter h (by omega), bn_some, (LT_let h q).1]
  exact congrArg some (pk_sub (b := 48) w1)
theorem x_number {N : Nat} {a : Nat → Nat} {xl : Nat → Int32} (h : LT N a xl) {k : Nat} (d : Dg N a k = true) (d' : Dg N a (k + 1) = true) : f_X4_numberAt (nI N) xl (nI k) = some (nI (10 * (a k - 48) + (a (k + 1) - 48))) := by
  unfold f_X4_numberAt
  rw [x_digit h d, bn_some, nI_1, x_digit h d', bn_some, show (10 : Int32) = nI 10 from rfl, pk_mul, nI_add]
theorem x_kindAt {N : Nat} {a : Nat → Nat} {xl : Nat → Int32} (h : LT N a xl) {k : Nat} (d : Kk N a k = true) : f_X4_kindAt (nI N) xl (nI k) = some (nI (kd (a k))) := by
  obtain ⟨q, w⟩ := (Bool.and_eq_true _ _).mp d
  have q := of_decide_eq_true q
  have w := of_decide_eq_true w
  have hN := h.1
  obtain ⟨e, l⟩ := LT_let h q
  unfold f_X4_kindAt
  rw [x_letter h (by omega), bn_some, e, x_kind0 _ l, if_pos w, bn_some]
theorem okS_m {N : Nat} {a : Nat → Nat} {p : Nat} (ok : okS N a p = true) : 0 < lnF (fm (a p)) ∧ MM N a p = lnF (fm (a p)) := by
  obtain ⟨q, w⟩ := (Bool.and_eq_true _ _).mp ok
  exact ⟨of_decide_eq_true q, of_decide_eq_true w⟩
theorem ok_b {N : Nat} {a : Nat → Nat} {p : Nat} (ok : okS N a p = true) (hp : p < N) (hc : a p = 98) : Dg N a (p + 1) = true ∧ Dg N a (p + 2) = true ∧ Dg N a (p + 3) = true := by
  obtain ⟨f, mm⟩ := MM_b hp hc
  have m := (okS_m ok).2
  rw [mm, f] at m
  cases d1 : Dg N a (p + 1)
  · rw [d1] at m; exact absurd (show (1 : Nat) = 5 from m) (by decide)
  · cases d2 : Dg N a (p + 2)
    · rw [d1, d2] at m; exact absurd (show (2 : Nat) = 5 from m) (by decide)
    · cases d3 : Dg N a (p + 3)
      · rw [d1, d2, d3] at m; exact absurd (show (3 : Nat) = 5 from m) (by decide)
      · exact ⟨rfl, rfl, rfl⟩
theorem ok_h {N : Nat} {a : Nat → Nat} {p : Nat} (ok : okS N a p = true) (hp : p < N) (hc : a p = 104) : Kk N a (p + 1) = true ∧ Dg N a (p + 2) = true := by
  obtain ⟨f, mm⟩ := MM_h hp hc
  have m := (okS_m ok).2
  rw [mm, f] at m
  cases d1 : Kk N a (p + 1)
  · rw [d1] at m; exact absurd (show (1 : Nat) = 4 from m) (by decide)
  · cases d2 : Dg N a (p + 2)
    · rw [d1, d2] at m; exact absurd (show (2 : Nat) = 4 from m) (by decide)
    · exact ⟨rfl, rfl⟩
theorem ok_l {N : Nat} {a : Nat → Nat} {p : Nat} (ok : okS N a p = true) (hp : p < N) (hc : a p = 108) : Dg N a (p + 1) = true ∧ Dg N a (p + 2) = true := by
  obtain ⟨f, mm⟩ := MM_l hp hc
  have m := (okS_m ok).2
  rw [mm, f] at m
  cases d1 : Dg N a (p + 1)
  · rw [d1] at m; exact absurd (show (1 : Nat) = 4 from m) (by decide)
  · cases d2 : Dg N a (p + 2)
    · rw [d1, d2] at m; exact absurd (show (2 : Nat) = 4 from m) (by decide)
    · exact ⟨rfl, rfl⟩
theorem ok_r {N : Nat} {a : Nat → Nat} {p : Nat} (ok : okS N a p = true) (hp : p < N) (hc : a p = 114) : Dg N a (p + 1) = true := by
  obtain ⟨f, mm⟩ := MM_r hp hc
  have m := (okS_m ok).2
  rw [mm, f] at m
  cases d1 : Dg N a (p + 1)
  · rw [d1] at m; exact absurd (show (1 : Nat) = 3 from m) (by decide)
  · rfl
/-! one statement done, on both sides -/
abbrev XS : Type := Int32 × Int32 × Int32 × (Nat → Int32) × (Nat → Int32)
def RNx (xo mo : XS) : Prop := RN xo.2.1 xo.1 xo.2.2.1 xo.2.2.2.1 xo.2.2.2.2 mo.1 mo.2.2.1 mo.2.1 mo.2.2.2.1 mo.2.2.2.2
def StepS (N : Nat) (a : Nat → Nat) (xl : Nat → Int32) (p : Nat) (nums : Nat → Int32) (xo mo : XS) : Prop := ∃ (b : Bool) (xo' mo' : XS), f_X4_doesStatement (nI N) xl xo.1 xo.2.1 xo.2.2.1 xo.2.2.2.1 xo.2.2.2.2 (nI p) = some (nI (if b then 1 else 0), xo') ∧ f_X6_isDone mo.1 mo.2.1 mo.2.2.1 mo.2.2.2.1 mo.2.2.2.2 nums (nI (a p)) = some (nI (if b then 1 else 0), mo') ∧ (b = true → RNx xo' mo')
theorem cells_out : ∀ s, s < 10 → ∀ c, c < 100 → (s < 4 ∧ c < 25) ∨ f_X2_cellsOf (nI s) (nI c) = some (0 : Int32) := by decide +kernel
theorem cell_lt (c : Nat) (hc : c < 1000) : f_X5_isCell (nI c) = some (nI (if c < 25 then 1 else 0)) ∧ f_X6_isCell (nI c) = some (nI (if c < 25 then 1 else 0)) := by
  unfold f_X5_isCell f_X6_isCell f_X6_isIn
  rw [if_neg (not_lt0 (by omega)), if_neg (not_lt0 (by omega)), ite_p (show ((25 : Int32) ≤ nI c) ↔ 25 ≤ c from nI_leI (a := 25) (by decide) (by omega)), ite_p (show ((24 : Int32) < nI c) ↔ 24 < c from nI_ltI (a := 24) (by decide) (by omega))]
  by_cases q : c < 25
  · rw [if_neg (show ¬ 25 ≤ c by omega), if_neg (show ¬ 24 < c by omega), if_pos q]
    exact ⟨rfl, rfl⟩
  · rw [if_pos (show 25 ≤ c by omega), if_pos (show 24 < c by omega), if_neg q]
    exact ⟨rfl, rfl⟩
theorem z0 : (0 : Int32).toNatClampNeg = 0 := by decide
theorem z1 : (1 : Int32).toNatClampNeg = 1 := by decide
theorem i02 : inb (0 : Int32) 2 = true := by decide
theorem i12 : inb (1 : Int32) 2 = true := by decide
theorem step_b {N : Nat} {a : Nat → Nat} {xl : Nat → Int32} (hx : LT N a xl) {p : Nat} (hp : p < N) (ok : okS N a p = true) (hc : a p = 98) {nums : Nat → Int32} (v0 : nums 0 = nI (n0S a p)) (v1 : nums 1 = nI (n1S a p)) {xo mo : XS} (R : RNx xo mo) : StepS N a xl p nums xo mo := by
  obtain ⟨th, tl, tb, tk, tf⟩ := xo
  obtain ⟨ml, mb, mn, mk, mf⟩ := mo
  obtain ⟨h, b, K, F, e1, hL, e2, e3, hh, e4, e5, hb, hs, hs'⟩ := R
  simp only at e1 hL e2 e3 e4 e5 hs hs'
  subst e1 e2 e3 e4 e5
  obtain ⟨d1, d2, d3⟩ := ok_b ok hp hc
  obtain ⟨q1, q2, q3⟩ := Dg_f d1
  obtain ⟨r1, r2, r3⟩ := Dg_f d2
  obtain ⟨s1, s2, s3⟩ := Dg_f d3
  have hN := hx.1
  have n0 : n0S a p = a (p + 1) - 48 := by unfold n0S; rw [hc]; rfl
  have n1 : n1S a p = 10 * (a (p + 2) - 48) + (a (p + 3) - 48) := by unfold n1S; rw [hc]; rfl
  rw [n0] at v0
  rw [n1] at v1
  have xd := x_digit hx d1
  have xn := x_number hx d2 (show Dg N a (p + 2 + 1) = true from d3)
  rw [show 10 * (a (p + 2) - 48) + (a (p + 2 + 1) - 48) = 10 * (a (p + 2) - 48) + (a (p + 3) - 48) from rfl] at xn
  have sl : a (p + 1) - 48 < 10 := by omega
  have cl : 10 * (a (p + 2) - 48) + (a (p + 3) - 48) < 100 := by omega
  generalize a (p + 1) - 48 = s at *
  generalize 10 * (a (p + 2) - 48) + (a (p + 3) - 48) = c at *
  have sx : f_X4_doesStatement (nI N) xl (nI h) tl (nI b) tk tf (nI p) = bn (f_X0_takesBite tl (nI b) (nI s) (nI c)) (fun (r7 : Int32 × Int32 × Int32) => ck (isb r7.1) (some (r7.1, nI h, r7.2.1, r7.2.2, tk, tf))) := by
    unfold f_X4_doesStatement
    rw [x_letter hx (by omega), bn_some, (LT_let hx hp).1, if_pos (show nI (a p) = (98 : Int32) by rw [hc]; rfl), nI_1, xd, bn_some, show nI p + (2 : Int32) = nI (p + 2) from nI_add p 2, xn, bn_some]
  have sm : f_X6_isDone tl (nI b) (nI h) mk mf nums (nI (a p)) = (if (4 : Int32) ≤ nI s then (some ((0 : Int32), tl, nI b, nI h, mk, mf)) else (bn (f_X6_isCell (nI c)) (fun (r3 : Int32) => if r3 = 0 then (some ((0 : Int32), tl, nI b, nI h, mk, mf)) else (bn (f_X6_canBite tl (nI s) (nI c)) (fun (r5 : Int32) => if r5 = 0 then (some ((0 : Int32), tl, nI b, nI h, mk, mf)) else (bn (f_X6_bite (nI s) (nI c)) (fun (r7 : Int32) => bn (f_X6_bitesOff tl (nI b) r7) (fun (r9 : Int32 × Int32) => some ((1 : Int32), r9.1, r9.2, nI h, mk, mf))))))))) := by
    unfold f_X6_isDone
    rw [i02, i12, ck_true, ck_true, if_pos (show nI (a p) = (98 : Int32) by rw [hc]; rfl), z0, z1, v0, v1]
  have fail : (s < 4 ∧ c < 25 → canB (25 * s + c) tl = false) → f_X0_takesBite tl (nI b) (nI s) (nI c) = some ((0 : Int32), tl, nI b) → StepS N a xl p nums (nI h, tl, nI b, tk, tf) (tl, nI b, nI h, mk, mf) := fun hcb tb0 => by
    refine ⟨false, (nI h, tl, nI b, tk, tf), (tl, nI b, nI h, mk, mf), ?_, ?_, fun q => by cases q⟩
    · rw [sx, tb0, bn_some, show isb (0 : Int32) = true from by decide, ck_true]
      rfl
    · rw [sm]
      by_cases s4 : s < 4
      · rw [if_neg (show ¬ (4 : Int32) ≤ nI s from nI_nle' (a := 4) (by decide) (by omega) s4), (cell_lt c (by omega)).2, bn_some]
        by_cases c25 : c < 25
        · have cm := m_canBite (b := 25 * s + c) (by omega) tl
          rw [show (25 * s + c) / 25 = s by omega, show (25 * s + c) % 25 = c by omega, hcb ⟨s4, c25⟩] at cm
          rw [if_pos c25, if_neg (show ¬ nI 1 = (0 : Int32) by decide), cm, bn_some, if_pos (show nI (if false = true then 1 else 0) = 0 from rfl)]
          rfl
        · rw [if_neg c25, if_pos (show nI 0 = (0 : Int32) from rfl)]
          rfl
      · rw [if_pos (show (4 : Int32) ≤ nI s from nI_le' (a := 4) (by decide) (by omega) (by omega))]
        rfl
  rcases cells_out s sl c cl with ⟨s4, c25⟩ | z
  · have hB : 25 * s + c < 100 := by omega
    have cx := ce_x (25 * s + c) hB
    have cm := m_canBite hB tl
    rw [show (25 * s + c) / 25 = s by omega, show (25 * s + c) % 25 = c by omega] at cx cm
    cases hcb : canB (25 * s + c) tl with
    | true =>
      have g := canB_ne hcb
      have jm : jmin (999 : Int32) (nI b + 1) = nI (min 999 (b + 1)) := by
        rw [nI_1]
        exact jmin_nI (a := 999) (by decide) (by omega)
      rw [hcb] at cm
      refine ⟨true, (nI h, tl &&& (ce (25 * s + c) ^^^ (-1 : Int32)), nI (min 999 (b + 1)), tk, tf), (tl &&& (ce (25 * s + c) ^^^ (-1 : Int32)), nI (min 999 (b + 1)), nI h, mk, mf), ?_, ?_, fun _ => ?_⟩
      · rw [sx]
        unfold f_X0_takesBite
        rw [cx.1, bn_some, if_neg g.1, if_pos g.2, bn_some, show isb (1 : Int32) = true from by decide, ck_true, jm]
        rfl
      · rw [sm, if_neg (show ¬ (4 : Int32) ≤ nI s from nI_nle' (a := 4) (by decide) (by omega) s4), (cell_lt c (by omega)).2, bn_some, if_pos c25, if_neg (show ¬ nI 1 = (0 : Int32) by decide), cm, bn_some, if_neg (show ¬ nI (if true = true then 1 else 0) = 0 by decide), cx.2, bn_some]
        unfold f_X6_bitesOff
        rw [least_eq, bn_some, bn_some, jm]
        rfl
      · exact ⟨h, min 999 (b + 1), K, F, rfl, cr_and _ hL, rfl, rfl, hh, rfl, rfl, by omega, hs, hs'⟩
    | false =>
      refine fail (fun _ => hcb) ?_
      unfold f_X0_takesBite
      rw [cx.1, bn_some]
      by_cases z : ce (25 * s + c) = 0
      · rw [if_pos z]
      · rw [if_neg z, if_neg (fun y => by
          have : canB (25 * s + c) tl = true := by
            unfold canB
            rw [decide_eq_true z, decide_eq_true ((sub_iff _ _).mpr y)]
            rfl
          rw [hcb] at this; cases this)]
  · by_cases sc : s < 4 ∧ c < 25
    · have cx := ce_x (25 * s + c) (by omega)
      rw [show (25 * s + c) / 25 = s by omega, show (25 * s + c) % 25 = c by omega, z] at cx
      have z' : ce (25 * s + c) = 0 := (Option.some.inj cx.1).symm
      refine fail (fun _ => by unfold canB; rw [decide_eq_false (fun q => q z')]; rfl) ?_
      unfold f_X0_takesBite
      rw [z, bn_some, if_pos rfl]
    · refine fail (fun q => absurd q sc) ?_
      unfold f_X0_takesBite
      rw [z, bn_some, if_pos rfl]
theorem step_h {N : Nat} {a : Nat → Nat} {xl : Nat → Int32} (hx : LT N a xl) {p : Nat} (hp : p < N) (ok : okS N a p = true) (hc : a p = 104) {nums : Nat → Int32} (v0 : nums 0 = nI (n0S a p)) (v1 : nums 1 = nI (n1S a p)) {xo mo : XS} (R : RNx xo mo) : StepS N a xl p nums xo mo := by
  obtain ⟨th, tl, tb, tk, tf⟩ := xo
  obtain ⟨ml, mb, mn, mk, mf⟩ := mo
  obtain ⟨h, b, K, F, e1, hL, e2, e3, hh, e4, e5, hb, hs, hs'⟩ := R
  simp only at e1 hL e2 e3 e4 e5 hs hs'
  subst e1 e2 e3 e4 e5
  obtain ⟨d1, d2⟩ := ok_h ok hp hc
  obtain ⟨r1, r2, r3⟩ := Dg_f d2
  have hN := hx.1
  have k6 : kd (a (p + 1)) < 6 := of_decide_eq_true ((Bool.and_eq_true _ _).mp d1).2
  have n0 : n0S a p = kd (a (p + 1)) := by unfold n0S; rw [hc]; rfl
  have n1 : n1S a p = a (p + 2) - 48 := by unfold n1S; rw [hc]; rfl
  rw [n0] at v0
  rw [n1] at v1
  have xk := x_kindAt hx d1
  have xd := x_digit hx d2
  have sx : f_X4_doesStatement (nI N) xl (nI h) tl (nI b) tk tf (nI p) = bn (f_X0_takesHeir (nI h) tk tf (nI (kd (a (p + 1)))) (nI (a (p + 2) - 48))) (fun (r15 : Int32 × Int32 × (Nat → Int32) × (Nat → Int32)) => ck (isb r15.1) (some (r15.1, r15.2.1, tl, nI b, r15.2.2.1, r15.2.2.2))) := by
    unfold f_X4_doesStatement
    rw [x_letter hx (by omega), bn_some, (LT_let hx hp).1, if_neg (show ¬ nI (a p) = (98 : Int32) by rw [hc]; decide), if_pos (show nI (a p) = (104 : Int32) by rw [hc]; rfl), nI_1, xk, bn_some, show nI p + (2 : Int32) = nI (p + 2) from nI_add p 2, xd, bn_some]
  have sm : f_X6_isDone tl (nI b) (nI h) mk mf nums (nI (a p)) = (if nI h = (5 : Int32) then (some ((0 : Int32), tl, nI b, nI h, mk, mf)) else (ck (inb (nI h) 5) (ck (inb (nI h) 5) (some ((1 : Int32), tl, nI b, nI h + (1 : Int32), upd mk (nI h).toNatClampNeg (nI (kd (a (p + 1)))), upd mf (nI h).toNatClampNeg (nI (a (p + 2) - 48))))))) := by
    unfold f_X6_isDone
    rw [i02, i12, ck_true, ck_true, if_neg (show ¬ nI (a p) = (98 : Int32) by rw [hc]; decide), if_pos (show nI (a p) = (104 : Int32) by rw [hc]; rfl), z0, z1, v0, v1]
  by_cases q : h < 5
  · refine ⟨true, (nI (h + 1), tl, nI b, upd tk h (nI (kd (a (p + 1)))), upd tf h (nI (a (p + 2) - 48))), (tl, nI b, nI (h + 1), upd mk h (nI (kd (a (p + 1)))), upd mf h (nI (a (p + 2) - 48))), ?_, ?_, fun _ => ?_⟩
    · rw [sx]
      unfold f_X0_takesHeir
      rw [if_pos (show nI h < (5 : Int32) from nI_lt2 (b := 5) (by omega) (by decide) q), inb_nI q (by decide), ck_true, ck_true, bn_some, show isb (1 : Int32) = true from by decide, ck_true, nI_1, nI_clamp (by omega)]
      rfl
    · rw [sm, if_neg (show ¬ nI h = (5 : Int32) from nI_neq (b := 5) (by omega) (by decide) (by omega)), inb_nI q (by decide), ck_true, ck_true, nI_1, nI_clamp (by omega)]
      rfl
    · exact ⟨h + 1, b, _, _, rfl, hL, rfl, rfl, by omega, rfl, rfl, hb, HS_upd hs k6 (by omega), HS_upd hs' k6 (by omega)⟩
  · obtain rfl : h = 5 := by omega
    refine ⟨false, (nI 5, tl, nI b, tk, tf), (tl, nI b, nI 5, mk, mf), ?_, ?_, fun q => by cases q⟩
    · rw [sx]
      unfold f_X0_takesHeir
      rw [if_neg (show ¬ nI 5 < (5 : Int32) by decide), bn_some, show isb (0 : Int32) = true from by decide, ck_true]
      rfl
    · rw [sm, if_pos (show nI 5 = (5 : Int32) from rfl)]
      rfl
theorem step_l {N : Nat} {a : Nat → Nat} {xl : Nat → Int32} (hx : LT N a xl) {p : Nat} (hp : p < N) (ok : okS N a p = true) (hc : a p = 108) {nums : Nat → Int32} (v0 : nums 0 = nI (n0S a p)) {xo mo : XS} (R : RNx xo mo) : StepS N a xl p nums xo mo := by
  obtain ⟨th, tl, tb, tk, tf⟩ := xo
  obtain ⟨ml, mb, mn, mk, mf⟩ := mo
  obtain ⟨h, b, K, F, e1, hL, e2, e3, hh, e4, e5, hb, hs, hs'⟩ := R
  simp only at e1 hL e2 e3 e4 e5 hs hs'
  subst e1 e2 e3 e4 e5
  obtain ⟨d1, d2⟩ := ok_l ok hp hc
  obtain ⟨q1, q2, q3⟩ := Dg_f d1
  obtain ⟨r1, r2, r3⟩ := Dg_f d2
  have hN := hx.1
  have n0 : n0S a p = 10 * (a (p + 1) - 48) + (a (p + 2) - 48) := by unfold n0S; rw [hc]; rfl
  rw [n0] at v0
  have xn := x_number hx d1 (show Dg N a (p + 1 + 1) = true from d2)
  rw [show 10 * (a (p + 1) - 48) + (a (p + 1 + 1) - 48) = 10 * (a (p + 1) - 48) + (a (p + 2) - 48) from rfl] at xn
  have cl : 10 * (a (p + 1) - 48) + (a (p + 2) - 48) < 100 := by omega
  generalize 10 * (a (p + 1) - 48) + (a (p + 2) - 48) = c at *
  have cc := cell_lt c (by omega)
  have sx : f_X4_doesStatement (nI N) xl (nI h) tl (nI b) tk tf (nI p) = bn (f_X0_mends tl (nI c)) (fun (r21 : Int32 × Int32) => ck (isb r21.1) (some (r21.1, nI h, r21.2, nI b, tk, tf))) := by
    unfold f_X4_doesStatement
    rw [x_letter hx (by omega), bn_some, (LT_let hx hp).1, if_neg (show ¬ nI (a p) = (98 : Int32) by rw [hc]; decide), if_neg (show ¬ nI (a p) = (104 : Int32) by rw [hc]; decide), if_pos (show nI (a p) = (108 : Int32) by rw [hc]; rfl), nI_1, xn, bn_some]
  have sm : f_X6_isDone tl (nI b) (nI h) mk mf nums (nI (a p)) = (bn (f_X6_isCell (nI c)) (fun (r19 : Int32) => if r19 = 0 then (some ((0 : Int32), tl, nI b, nI h, mk, mf)) else (some ((1 : Int32), tl ||| (jshl (1 : Int32) (nI c)), nI b, nI h, mk, mf)))) := by
    unfold f_X6_isDone
    rw [i02, i12, ck_true, ck_true, if_neg (show ¬ nI (a p) = (98 : Int32) by rw [hc]; decide), if_neg (show ¬ nI (a p) = (104 : Int32) by rw [hc]; decide), if_pos (show nI (a p) = (108 : Int32) by rw [hc]; rfl), z0, v0]
  unfold f_X0_mends at sx
  rw [cc.1, bn_some] at sx
  rw [cc.2, bn_some] at sm
  by_cases q : c < 25
  · rw [if_pos q, if_neg (show ¬ nI 1 = (0 : Int32) by decide), bn_some, show isb (1 : Int32) = true from by decide, ck_true] at sx
    rw [if_pos q, if_neg (show ¬ nI 1 = (0 : Int32) by decide)] at sm
    exact ⟨true, _, _, sx, sm, fun _ => ⟨h, b, K, F, rfl, cr_add hL q, rfl, rfl, hh, rfl, rfl, hb, hs, hs'⟩⟩
  · rw [if_neg q, if_pos (show nI 0 = (0 : Int32) from rfl), bn_some, show isb (0 : Int32) = true from by decide, ck_true] at sx
    rw [if_neg q, if_pos (show nI 0 = (0 : Int32) from rfl)] at sm
    exact ⟨false, _, _, sx, sm, fun q => by cases q⟩
theorem step_r {N : Nat} {a : Nat → Nat} {xl : Nat → Int32} (hx : LT N a xl) {p : Nat} (hp : p < N) (ok : okS N a p = true) (hc : a p = 114) {nums : Nat → Int32} (v0 : nums 0 = nI (n0S a p)) {xo mo : XS} (R : RNx xo mo) : StepS N a xl p nums xo mo := by
  obtain ⟨th, tl, tb, tk, tf⟩ := xo
  obtain ⟨ml, mb, mn, mk, mf⟩ := mo
  obtain ⟨h, b, K, F, e1, hL, e2, e3, hh, e4, e5, hb, hs, hs'⟩ := R
  simp only at e1 hL e2 e3 e4 e5 hs hs'
  subst e1 e2 e3 e4 e5
  have d1 := ok_r ok hp hc
  obtain ⟨q1, q2, q3⟩ := Dg_f d1
  have hN := hx.1
  have n0 : n0S a p = a (p + 1) - 48 := by unfold n0S; rw [hc]; rfl
  rw [n0] at v0
  have xd := x_digit hx d1
  have sl : a (p + 1) - 48 < 10 := by omega
  generalize a (p + 1) - 48 = s at *
  have sx : f_X4_doesStatement (nI N) xl (nI h) tl (nI b) tk tf (nI p) = bn (f_X0_turnsBy tl (nI s)) (fun (r31 : Int32 × Int32) => ck (isb r31.1) (some (r31.1, nI h, r31.2, nI b, tk, tf))) := by
    unfold f_X4_doesStatement
    rw [x_letter hx (by omega), bn_some, (LT_let hx hp).1, if_neg (show ¬ nI (a p) = (98 : Int32) by rw [hc]; decide), if_neg (show ¬ nI (a p) = (104 : Int32) by rw [hc]; decide), if_neg (show ¬ nI (a p) = (108 : Int32) by rw [hc]; decide), if_neg (show ¬ nI (a p) = (110 : Int32) by rw [hc]; decide), if_pos (show nI (a p) = (114 : Int32) by rw [hc]; rfl), nI_1, xd, bn_some]
  have sm : f_X6_isDone tl (nI b) (nI h) mk mf nums (nI (a p)) = (bn (f_X6_isIn (nI s) (1 : Int32) (3 : Int32)) (fun (r23 : Int32) => if r23 = 0 then (some ((0 : Int32), tl, nI b, nI h, mk, mf)) else (bn (f_X6_turnedBy tl (nI s)) (fun (r25 : Int32) => some ((1 : Int32), r25, nI b, nI h, mk, mf))))) := by
    unfold f_X6_isDone
    rw [i02, i12, ck_true, ck_true, if_neg (show ¬ nI (a p) = (98 : Int32) by rw [hc]; decide), if_neg (show ¬ nI (a p) = (104 : Int32) by rw [hc]; decide), if_neg (show ¬ nI (a p) = (108 : Int32) by rw [hc]; decide), if_pos (show nI (a p) = (114 : Int32) by rw [hc]; rfl), z0, v0]
  by_cases w : 1 ≤ s ∧ s ≤ 3
  · have ii : f_X6_isIn (nI s) (1 : Int32) (3 : Int32) = some (1 : Int32) := by
      unfold f_X6_isIn
      rw [if_neg (show ¬ nI s < (1 : Int32) from nI_nlt2 (b := 1) (by omega) (by decide) w.1), if_neg (show ¬ (3 : Int32) < nI s from nI_nlt2 (a := 3) (by decide) (by omega) w.2)]
    rw [x_turns w.1 w.2 hL, bn_some, show isb (1 : Int32) = true from by decide, ck_true] at sx
    rw [ii, bn_some, if_neg (show ¬ (1 : Int32) = 0 by decide), m_turns w.2 hL, bn_some] at sm
    exact ⟨true, _, _, sx, sm, fun _ => ⟨h, b, K, F, rfl, cr_trN s hL, rfl, rfl, hh, rfl, rfl, hb, hs, hs'⟩⟩
  · have ii : f_X6_isIn (nI s) (1 : Int32) (3 : Int32) = some (0 : Int32) ∧ f_X0_turnsBy tl (nI s) = some ((0 : Int32), tl) := by
      unfold f_X6_isIn f_X0_turnsBy
      by_cases w1 : s < 1
      · rw [if_pos (show nI s < (1 : Int32) from nI_lt2 (b := 1) (by omega) (by decide) w1), if_pos (show nI s < (1 : Int32) from nI_lt2 (b := 1) (by omega) (by decide) w1)]
        exact ⟨rfl, rfl⟩
      · rw [if_neg (show ¬ nI s < (1 : Int32) from nI_nlt2 (b := 1) (by omega) (by decide) (by omega)), if_neg (show ¬ nI s < (1 : Int32) from nI_nlt2 (b := 1) (by omega) (by decide) (by omega)), if_pos (show (3 : Int32) < nI s from nI_lt2 (a := 3) (by decide) (by omega) (by omega)), if_neg (show ¬ nI s ≤ (3 : Int32) from nI_nle' (b := 3) (by omega) (by decide) (by omega))]
        exact ⟨rfl, rfl⟩
    rw [ii.2, bn_some, show isb (0 : Int32) = true from by decide, ck_true] at sx
    rw [ii.1, bn_some, if_pos rfl] at sm
    exact ⟨false, _, _, sx, sm, fun q => by cases q⟩
theorem step_n {N : Nat} {a : Nat → Nat} {xl : Nat → Int32} (hx : LT N a xl) {p : Nat} (hp : p < N) (hc : a p = 110) {nums : Nat → Int32} {xo mo : XS} (R : RNx xo mo) : StepS N a xl p nums xo mo := by
  obtain ⟨th, tl, tb, tk, tf⟩ := xo
  obtain ⟨ml, mb, mn, mk, mf⟩ := mo
  obtain ⟨h, b, K, F, e1, hL, e2, e3, hh, e4, e5, hb, hs, hs'⟩ := R
  simp only at e1 hL e2 e3 e4 e5 hs hs'
  subst e1 e2 e3 e4 e5
  have hN := hx.1
  have sx : f_X4_doesStatement (nI N) xl (nI h) tl (nI b) tk tf (nI p) = some ((1 : Int32), nI h, (33554431 : Int32), (0 : Int32), tk, tf) := by
    unfold f_X4_doesStatement f_X0_renews
    rw [x_letter hx (by omega), bn_some, (LT_let hx hp).1, if_neg (show ¬ nI (a p) = (98 : Int32) by rw [hc]; decide), if_neg (show ¬ nI (a p) = (104 : Int32) by rw [hc]; decide), if_neg (show ¬ nI (a p) = (108 : Int32) by rw [hc]; decide), if_pos (show nI (a p) = (110 : Int32) by rw [hc]; rfl), bn_some, show isb (1 : Int32) = true from by decide, ck_true]
  have sm : f_X6_isDone tl (nI b) (nI h) mk mf nums (nI (a p)) = some ((1 : Int32), (33554431 : Int32), (0 : Int32), nI h, mk, mf) := by
    unfold f_X6_isDone f_X6_allAgain
    rw [i02, i12, ck_true, ck_true, if_neg (show ¬ nI (a p) = (98 : Int32) by rw [hc]; decide), if_neg (show ¬ nI (a p) = (104 : Int32) by rw [hc]; decide), if_neg (show ¬ nI (a p) = (108 : Int32) by rw [hc]; decide), if_neg (show ¬ nI (a p) = (114 : Int32) by rw [hc]; decide), bn_some]
  exact ⟨true, _, _, sx, sm, fun _ => ⟨h, 0, K, F, rfl, cr_all, rfl, rfl, hh, rfl, rfl, by decide, hs, hs'⟩⟩
theorem step {N : Nat} {a : Nat → Nat} {xl : Nat → Int32} (hx : LT N a xl) {p : Nat} (hp : p < N) (ok : okS N a p = true) {nums : Nat → Int32} (hv : (fm (a p) < 4 → nums 0 = nI (n0S a p)) ∧ (fm (a p) < 2 → nums 1 = nI (n1S a p))) {xo mo : XS} (R : RNx xo mo) : StepS N a xl p nums xo mo := by
  by_cases c1 : a p = 98
  · have f : fm (a p) = 1 := by rw [c1]; rfl
    exact step_b hx hp ok c1 (hv.1 (by omega)) (hv.2 (by omega)) R
  by_cases c2 : a p = 104
  · have f : fm (a p) = 0 := by rw [c2]; rfl
    exact step_h hx hp ok c2 (hv.1 (by omega)) (hv.2 (by omega)) R
  by_cases c3 : a p = 108
  · have f : fm (a p) = 2 := by rw [c3]; rfl
    exact step_l hx hp ok c3 (hv.1 (by omega)) R
  by_cases c4 : a p = 110
  · exact step_n hx hp c4 R
  by_cases c5 : a p = 114
  · have f : fm (a p) = 3 := by rw [c5]; rfl
    exact step_r hx hp ok c5 (hv.1 (by omega)) R
  exfalso
  have f : fm (a p) = 5 := by unfold fm; rw [if_neg c1, if_neg c2, if_neg c3, if_neg c4, if_neg c5]
  have := (okS_m ok).1
  rw [f] at this
  exact absurd this (by decide)
