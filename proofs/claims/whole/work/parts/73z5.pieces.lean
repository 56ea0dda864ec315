/-! pieces -/
def lh (L : Int32) (i v : Nat) : Prop := (v = 0 ∧ ∀ k, k < i → bt L k = false) ∨ (0 < v ∧ v ≤ 25 ∧ (∃ k, k < i ∧ bt L k = true ∧ v = pc (fl L (jshl (1 : Int32) (nI k)))) ∧ ∀ k, k < i → bt L k = true → v ≤ pc (fl L (jshl (1 : Int32) (nI k))))
theorem m_lh_loop {L : Int32} (hL : Cr L) : ∀ (m i n v : Nat), i + m = 25 → m < n → lh L i v → ∃ v', f_X6_leastHeap_4 L n (nI v) (nI i) = some (nI v') ∧ lh L 25 v' := by
  intro m
  induction m with
  | zero =>
    intro i n v hi hn hv
    obtain ⟨n, rfl⟩ := fuel hn
    obtain rfl : i = 25 := by omega
    rw [f_X6_leastHeap_4_s, if_pos (by decide)]
    exact ⟨v, rfl, hv⟩
  | succ m ih =>
    intro i n v hi hn hv
    obtain ⟨n, rfl⟩ := fuel hn
    have h25 : i < 25 := by omega
    have hv25 : v ≤ 25 := by rcases hv with h | h; omega; exact h.2.1
    rw [f_X6_leastHeap_4_s, if_neg (show ¬ (25 : Int32) ≤ nI i from nI_nle' (a := 25) (by decide) (by omega) (by omega)), m_heapOf hL, bn_some, m_bits (cr_fl' hL (cr_and2 _ hL)), bn_some, jn_eq, nI_1]
    cases hb : bt L i with
    | false =>
      rw [one_and0 h25 hb, show fl L 0 = 0 from fl_zero L 25]
      rw [show pc 0 = 0 from (pc_zero cr_0).mpr rfl, if_pos (show nI 0 ≤ 0 by decide)]
      refine ih (i + 1) n v (by omega) (by omega) ?_
      rcases hv with ⟨h1, h2⟩ | ⟨h1, h2, ⟨k, k1, k2, k3⟩, h4⟩
      · exact Or.inl ⟨h1, fun k hk => by by_cases w : k = i; rw [w, hb]; exact h2 k (by omega)⟩
      · exact Or.inr ⟨h1, h2, ⟨k, by omega, k2, k3⟩, fun k hk q => by
          by_cases w : k = i
          · rw [w, hb] at q; cases q
          · exact h4 k (by omega) q⟩
    | true =>
      rw [one_and h25 hb]
      have pp : 1 ≤ pc (fl L (jshl (1 : Int32) (nI i))) := by
        have : bt (fl L (jshl (1 : Int32) (nI i))) i = true := sb_fl L 25 _ i h25 (by rw [bt_one' h25 h25]; simp)
        exact fb_ct_pos.mpr ⟨i, h25, this⟩
      have pq := pc_le (fl L (jshl (1 : Int32) (nI i)))
      show ∃ v', f_X6_leastHeap_4 L n (if nI (pc (fl L (jshl (1 : Int32) (nI i)))) ≤ 0 then nI v else if nI v = 0 then nI (pc (fl L (jshl (1 : Int32) (nI i)))) else if nI v ≤ nI (pc (fl L (jshl (1 : Int32) (nI i)))) then nI v else nI (pc (fl L (jshl (1 : Int32) (nI i))))) (nI (i + 1)) = some (nI v') ∧ lh L 25 v'
      rw [if_neg (show ¬ nI (pc (fl L (jshl (1 : Int32) (nI i)))) ≤ 0 from nI_nle' (b := 0) (by omega) (by decide) (by omega)), ite_p (nI0_iff (by omega)), ite_le_nI (by omega) (by omega)]
      rcases hv with ⟨h1, h2⟩ | ⟨h1, h2, ⟨k, k1, k2, k3⟩, h4⟩
      · rw [if_pos h1]
        refine ih (i + 1) n _ (by omega) (by omega) (Or.inr ⟨pp, pq, ⟨i, by omega, hb, rfl⟩, fun k hk q => ?_⟩)
        by_cases w : k = i
        · rw [w]; exact Nat.le_refl _
        · rw [h2 k (by omega)] at q; cases q
      · rw [if_neg (by omega)]
        by_cases z : v ≤ pc (fl L (jshl (1 : Int32) (nI i)))
        · rw [if_pos z]
          refine ih (i + 1) n _ (by omega) (by omega) (Or.inr ⟨h1, h2, ⟨k, by omega, k2, k3⟩, fun k hk q => ?_⟩)
          by_cases w : k = i
          · rw [w]; exact z
          · exact h4 k (by omega) q
        · rw [if_neg z]
          refine ih (i + 1) n _ (by omega) (by omega) (Or.inr ⟨pp, pq, ⟨i, by omega, hb, rfl⟩, fun k hk q => ?_⟩)
          by_cases w : k = i
          · rw [w]; exact Nat.le_refl _
          · have := h4 k (by omega) q; omega
theorem m_leastHeap {L : Int32} (hL : Cr L) : f_X6_leastHeap L = some (nI (fw L)) := by
  obtain ⟨v, e, h⟩ := m_lh_loop hL 25 0 1000 0 rfl (by decide) (Or.inl ⟨rfl, fun k hk => absurd hk (Nat.not_lt_zero k)⟩)
  have e' : f_X6_leastHeap L = some (nI v) := e
  rw [e']
  refine congrArg (fun x => some (nI x)) ?_
  by_cases hne : L = 0
  · subst hne
    rcases h with ⟨h1, _⟩ | ⟨_, _, ⟨k, _, q, _⟩, _⟩
    · rw [h1]; rfl
    · rw [b_0] at q; cases q
  · have F := fw_min hL hne
    have A := cps_all hL 25 L hL (pc_le L) (clo_self L)
    rcases h with ⟨_, h2⟩ | ⟨h1, h2, ⟨k, k1, k2, k3⟩, h4⟩
    · exact absurd ((cr_zero_iff hL).mpr h2) hne
    · have t1 := F.1 _ (A.1 k k1 k2)
      obtain ⟨g, hg, eg⟩ := F.2
      obtain ⟨c, c1, c2, c3⟩ := A.2 g hg
      have t2 := h4 c c1 c2
      rw [c3] at t2
      omega
