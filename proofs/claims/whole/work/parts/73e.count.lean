theorem nx_and (a b : Nat) : nI a &&& nI b = nI (a &&& b) := by
  apply Int32.toBitVec_inj.1
  show BitVec.ofNat 32 a &&& BitVec.ofNat 32 b = BitVec.ofNat 32 (a &&& b)
  apply BitVec.eq_of_getLsbD_eq
  intro i hi
  simp [hi]
/-! the JDK's count of bits -/
theorem and_dig (k : Nat) {a m : Nat} (ha : a < 2 ^ k) (hm : m < 2 ^ k) (y z : Nat) : (a + 2 ^ k * y) &&& (m + 2 ^ k * z) = (a &&& m) + 2 ^ k * (y &&& z) := by
  have e : ∀ b w : Nat, b + 2 ^ k * w = 2 ^ k * w + b := fun b w => Nat.add_comm _ _
  have ham : a &&& m < 2 ^ k := Nat.lt_of_le_of_lt Nat.and_le_left ha
  apply Nat.eq_of_testBit_eq
  intro i
  rw [Nat.testBit_and, e, e, e, Nat.testBit_two_pow_mul_add _ ha, Nat.testBit_two_pow_mul_add _ hm, Nat.testBit_two_pow_mul_add _ ham]
  split
  · rw [Nat.testBit_and]
  · rw [Nat.testBit_and]
theorem and_d4 {a m : Nat} (ha : a < 16) (hm : m < 16) (y z : Nat) : (a + 16 * y) &&& (m + 16 * z) = (a &&& m) + 16 * (y &&& z) := and_dig 4 ha hm y z
def D8 (a b c d e f g h : Nat) : Nat := a + 16 * (b + 16 * (c + 16 * (d + 16 * (e + 16 * (f + 16 * (g + 16 * h))))))
theorem and_D8 {a b c d e f g h a' b' c' d' e' f' g' h' : Nat} (h1 : a < 16) (h2 : b < 16) (h3 : c < 16) (h4 : d < 16) (h5 : e < 16) (h6 : f < 16) (h7 : g < 16) (k1 : a' < 16) (k2 : b' < 16) (k3 : c' < 16) (k4 : d' < 16) (k5 : e' < 16) (k6 : f' < 16) (k7 : g' < 16) :
    D8 a b c d e f g h &&& D8 a' b' c' d' e' f' g' h' = D8 (a &&& a') (b &&& b') (c &&& c') (d &&& d') (e &&& e') (f &&& f') (g &&& g') (h &&& h') := by
  unfold D8
  rw [and_d4 h1 k1, and_d4 h2 k2, and_d4 h3 k3, and_d4 h4 k4, and_d4 h5 k5, and_d4 h6 k6, and_d4 h7 k7]
def Pn (e : Nat) : Nat := e - ((e / 2) &&& 5)
def Qn (p : Nat) : Nat := (p &&& 3) + ((p / 4) &&& 3)
theorem t1 : ∀ e, e < 16 → ∀ l, l < 2 → ((e / 2 + 8 * l) &&& 5) = (e / 2) &&& 5 := by decide
theorem t1b : ∀ e, e < 16 → (e / 2) &&& 5 ≤ e := by decide
theorem t1c : ∀ e, e < 16 → Pn e < 16 := by decide
theorem t2 : ∀ p, p < 16 → ∀ l, l < 4 → ((p / 4 + 4 * l) &&& 3) = (p / 4) &&& 3 := by decide
def wn (e : Nat) : Nat := fb_ct (fun k => e.testBit k) 4
theorem t3 : ∀ e, e < 16 → Qn (Pn e) = wn e := by decide
theorem t3b : ∀ e, e < 16 → wn e ≤ 4 := by decide
def E1 (x : Int32) : Int32 := x - ((jushr x (1 : Int32)) &&& (1431655765 : Int32))
def E2 (x : Int32) : Int32 := (x &&& (858993459 : Int32)) + ((jushr x (2 : Int32)) &&& (858993459 : Int32))
def E3 (x : Int32) : Int32 := (x + (jushr x (4 : Int32))) &&& (252645135 : Int32)
def E4 (x : Int32) : Int32 := x + (jushr x (8 : Int32))
def E5 (x : Int32) : Int32 := (x + (jushr x (16 : Int32))) &&& (63 : Int32)
theorem j_ushr {n : Nat} (hn : n < 2 ^ 32) {k : Nat} (hk : k < 32) : jushr (nI n) (nI k) = nI (n / 2 ^ k) := pk_ushrN hn (nI k) k (s_u k hk)
theorem E1_D {a b c d e f g h : Nat} (h1 : a < 16) (h2 : b < 16) (h3 : c < 16) (h4 : d < 16) (h5 : e < 16) (h6 : f < 16) (h7 : g < 16) (h8 : h < 16) : E1 (nI (D8 a b c d e f g h)) = nI (D8 (Pn a) (Pn b) (Pn c) (Pn d) (Pn e) (Pn f) (Pn g) (Pn h)) := by
  unfold E1
  rw [show (1 : Int32) = nI 1 from rfl, j_ushr (by unfold D8; omega) (by decide), show (1431655765 : Int32) = nI (D8 5 5 5 5 5 5 5 5) from rfl, nx_and]
  have e1 : D8 a b c d e f g h / 2 ^ 1 = D8 (a / 2 + 8 * (b % 2)) (b / 2 + 8 * (c % 2)) (c / 2 + 8 * (d % 2)) (d / 2 + 8 * (e % 2)) (e / 2 + 8 * (f % 2)) (f / 2 + 8 * (g % 2)) (g / 2 + 8 * (h % 2)) (h / 2 + 8 * 0) := by unfold D8; omega
  rw [e1, and_D8 (by omega) (by omega) (by omega) (by omega) (by omega) (by omega) (by omega) (by decide) (by decide) (by decide) (by decide) (by decide) (by decide) (by decide), t1 a h1 _ (by omega), t1 b h2 _ (by omega), t1 c h3 _ (by omega), t1 d h4 _ (by omega), t1 e h5 _ (by omega), t1 f h6 _ (by omega), t1 g h7 _ (by omega), t1 h h8 _ (by decide)]
  have q1 := t1b a h1; have q2 := t1b b h2; have q3 := t1b c h3; have q4 := t1b d h4; have q5 := t1b e h5; have q6 := t1b f h6; have q7 := t1b g h7; have q8 := t1b h h8
  rw [pk_sub (by unfold D8; omega)]
  refine congrArg nI ?_
  unfold D8 Pn
  omega
theorem E2_D {a b c d e f g h : Nat} (h1 : a < 16) (h2 : b < 16) (h3 : c < 16) (h4 : d < 16) (h5 : e < 16) (h6 : f < 16) (h7 : g < 16) (h8 : h < 16) : E2 (nI (D8 a b c d e f g h)) = nI (D8 (Qn a) (Qn b) (Qn c) (Qn d) (Qn e) (Qn f) (Qn g) (Qn h)) := by
  unfold E2
  rw [show (2 : Int32) = nI 2 from rfl, j_ushr (by unfold D8; omega) (by decide), show (858993459 : Int32) = nI (D8 3 3 3 3 3 3 3 3) from rfl, nx_and, nx_and]
  have e1 : D8 a b c d e f g h / 2 ^ 2 = D8 (a / 4 + 4 * (b % 4)) (b / 4 + 4 * (c % 4)) (c / 4 + 4 * (d % 4)) (d / 4 + 4 * (e % 4)) (e / 4 + 4 * (f % 4)) (f / 4 + 4 * (g % 4)) (g / 4 + 4 * (h % 4)) (h / 4 + 4 * 0) := by unfold D8; omega
  rw [e1, and_D8 (by omega) (by omega) (by omega) (by omega) (by omega) (by omega) (by omega) (by decide) (by decide) (by decide) (by decide) (by decide) (by decide) (by decide), and_D8 (by omega) (by omega) (by omega) (by omega) (by omega) (by omega) (by omega) (by decide) (by decide) (by decide) (by decide) (by decide) (by decide) (by decide), t2 a h1 _ (by omega), t2 b h2 _ (by omega), t2 c h3 _ (by omega), t2 d h4 _ (by omega), t2 e h5 _ (by omega), t2 f h6 _ (by omega), t2 g h7 _ (by omega), t2 h h8 _ (by decide), nI_add]
  refine congrArg nI ?_
  unfold D8 Qn
  omega
theorem and15 : ∀ s, s < 16 → s &&& 15 = s := by decide
theorem and0' (s : Nat) : s &&& 0 = 0 := Nat.and_zero s
theorem E3_D {a b c d e f g h : Nat} (h1 : a ≤ 4) (h2 : b ≤ 4) (h3 : c ≤ 4) (h4 : d ≤ 4) (h5 : e ≤ 4) (h6 : f ≤ 4) (h7 : g ≤ 4) (h8 : h ≤ 4) : E3 (nI (D8 a b c d e f g h)) = nI (D8 (a + b) 0 (c + d) 0 (e + f) 0 (g + h) 0) := by
  unfold E3
  rw [show (4 : Int32) = nI 4 from rfl, j_ushr (by unfold D8; omega) (by decide), show (252645135 : Int32) = nI (D8 15 0 15 0 15 0 15 0) from rfl, nI_add, nx_and]
  have e1 : D8 a b c d e f g h + D8 a b c d e f g h / 2 ^ 4 = D8 (a + b) (b + c) (c + d) (d + e) (e + f) (f + g) (g + h) h := by unfold D8; omega
  rw [e1, and_D8 (by omega) (by omega) (by omega) (by omega) (by omega) (by omega) (by omega) (by decide) (by decide) (by decide) (by decide) (by decide) (by decide) (by decide), and15 _ (by omega), and15 _ (by omega), and15 _ (by omega), and15 _ (by omega), and0', and0', and0', and0']
theorem E45_D {p q r s : Nat} (h1 : p ≤ 8) (h2 : q ≤ 8) (h3 : r ≤ 8) (h4 : s ≤ 8) : E5 (E4 (nI (D8 p 0 q 0 r 0 s 0))) = nI (p + q + r + s) := by
  unfold E5 E4
  rw [show (8 : Int32) = nI 8 from rfl, show (16 : Int32) = nI 16 from rfl, j_ushr (by unfold D8; omega) (by decide), nI_add]
  have e1 : D8 p 0 q 0 r 0 s 0 + D8 p 0 q 0 r 0 s 0 / 2 ^ 8 = (p + q) + 256 * ((q + r) + 256 * ((r + s) + 256 * s)) := by unfold D8; omega
  rw [e1, j_ushr (by omega) (by decide), nI_add]
  have e2 : (p + q) + 256 * ((q + r) + 256 * ((r + s) + 256 * s)) + ((p + q) + 256 * ((q + r) + 256 * ((r + s) + 256 * s))) / 2 ^ 16 = (p + q + r + s) + 64 * (4 * ((q + r + s) + 256 * ((r + s) + 256 * s))) := by omega
  rw [e2, show (63 : Int32) = nI (63 + 64 * 0) from rfl, nx_and]
  have e3 := and_dig 6 (a := p + q + r + s) (m := 63) (by omega) (by decide) (4 * ((q + r + s) + 256 * ((r + s) + 256 * s))) 0
  rw [show (2 : Nat) ^ 6 = 64 from rfl] at e3
  rw [e3, Nat.and_zero, Nat.mul_zero, Nat.add_zero, show (63 : Nat) = 2 ^ 6 - 1 from rfl, Nat.and_two_pow_sub_one_eq_mod, Nat.mod_eq_of_lt (by omega)]
theorem count_D {a b c d e f g h : Nat} (h1 : a < 16) (h2 : b < 16) (h3 : c < 16) (h4 : d < 16) (h5 : e < 16) (h6 : f < 16) (h7 : g < 16) (h8 : h < 16) : f_J6_bitCount_0f7a4 (nI (D8 a b c d e f g h)) = some (nI (wn a + wn b + wn c + wn d + wn e + wn f + wn g + wn h)) := by
  show some (E5 (E4 (E3 (E2 (E1 (nI (D8 a b c d e f g h))))))) = _
  have q1 := t3b a h1; have q2 := t3b b h2; have q3 := t3b c h3; have q4 := t3b d h4; have q5 := t3b e h5; have q6 := t3b f h6; have q7 := t3b g h7; have q8 := t3b h h8
  rw [E1_D h1 h2 h3 h4 h5 h6 h7 h8, E2_D (t1c a h1) (t1c b h2) (t1c c h3) (t1c d h4) (t1c e h5) (t1c f h6) (t1c g h7) (t1c h h8), t3 a h1, t3 b h2, t3 c h3, t3 d h4, t3 e h5, t3 f h6, t3 g h7, t3 h h8, E3_D q1 q2 q3 q4 q5 q6 q7 q8, E45_D (by omega) (by omega) (by omega) (by omega)]
  refine congrArg (fun z => some (nI z)) ?_
  omega
theorem toN (x : Int32) : x = nI x.toBitVec.toNat := by
  apply Int32.toBitVec_inj.mp
  show x.toBitVec = BitVec.ofNat 32 x.toBitVec.toNat
  simp
theorem nib (N : Nat) (hN : N < 2 ^ 32) : N = D8 (N / 2 ^ 0 % 2 ^ 4) (N / 2 ^ 4 % 2 ^ 4) (N / 2 ^ 8 % 2 ^ 4) (N / 2 ^ 12 % 2 ^ 4) (N / 2 ^ 16 % 2 ^ 4) (N / 2 ^ 20 % 2 ^ 4) (N / 2 ^ 24 % 2 ^ 4) (N / 2 ^ 28 % 2 ^ 4) := by unfold D8; omega
theorem wn_bits (N j : Nat) (hN : N < 2 ^ 32) (hj : j + 4 ≤ 32) : wn (N / 2 ^ j % 2 ^ 4) = fb_ct (fun k => bt (nI N) (j + k)) 4 := by
  unfold wn
  refine fb_ct_cong (fun k hk => ?_)
  rw [bt_nI (by omega), Nat.testBit_mod_two_pow, Nat.testBit_div_two_pow, decide_eq_true hk, Bool.true_and, Nat.add_comm k j]
theorem x_bits {x : Int32} (hx : Cr x) : f_J6_bitCount_0f7a4 x = some (nI (pc x)) := by
  have hN : x.toBitVec.toNat < 2 ^ 32 := x.toBitVec.isLt
  have e := toN x
  generalize x.toBitVec.toNat = N at hN e
  have hpc : pc x = fb_ct (bt x) 32 := by
    rw [show 32 = 25 + 7 from rfl, fb_ct_split]
    have : fb_ct (fun k => bt x (25 + k)) 7 = 0 := fb_ct_zero.mpr (fun k _ => hx _ (by omega))
    rw [this]; rfl
  rw [hpc, e]
  conv => lhs; rw [nib N hN]
  rw [count_D (by omega) (by omega) (by omega) (by omega) (by omega) (by omega) (by omega) (by omega)]
  refine congrArg (fun z => some (nI z)) ?_
  rw [wn_bits N 0 hN (by decide), wn_bits N 4 hN (by decide), wn_bits N 8 hN (by decide), wn_bits N 12 hN (by decide), wn_bits N 16 hN (by decide), wn_bits N 20 hN (by decide), wn_bits N 24 hN (by decide), wn_bits N 28 hN (by decide)]
  rw [show 32 = 4 + (4 + (4 + (4 + (4 + (4 + (4 + 4)))))) from rfl]
  simp only [fb_ct_split, Nat.zero_add]
  have r : ∀ a b : Nat, (fun k => bt (nI N) (a + (b + k))) = fun k => bt (nI N) (a + b + k) := fun a b => funext fun k => by rw [Nat.add_assoc]
  simp only [← Nat.add_assoc]
