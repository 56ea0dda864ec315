/-! heaps from any of their cells -/
theorem bt_one' {c i : Nat} (hc : c < 25) (hi : i < 25) : bt (jshl (1 : Int32) (nI c)) i = decide (i = c) := bt_one (by omega) (by omega)
theorem sb_one {x : Int32} {c : Nat} (hc : c < 25) (h : bt x c = true) : sb (jshl (1 : Int32) (nI c)) x := fun i hi q => by
  rw [bt_one' hc hi] at q
  rw [of_decide_eq_true q]
  exact h
theorem clo_of_fixed {S h : Int32} (hs : sb h S) (hf : gr S h = h) : clo S h := ⟨hs, fun i _ q1 q2 => by rw [← hf, bt_gr, q1, q2]; simp⟩
theorem fl_in_clo {S r h : Int32} (hS : Cr S) (hr : Cr r) (hc : clo S r) (hh : Cr h) (hs : sb h r) : sb (fl S h) r := by
  unfold fl
  rw [clo_fl hS hr hc 25 h hh hs]
  exact fl_sub 25 h hs
theorem fl_same {L : Int32} (hL : Cr L) {l c : Nat} (hl : l < 25) (hc : c < 25) (bl : bt L l = true) (bc : bt (fl L (jshl (1 : Int32) (nI l))) c = true) : fl L (jshl (1 : Int32) (nI c)) = fl L (jshl (1 : Int32) (nI l)) := by
  have ol := cr_one hl
  have oc := cr_one hc
  have sl : sb (jshl (1 : Int32) (nI l)) L := sb_one hl bl
  have fL1 : sb (fl L (jshl (1 : Int32) (nI l))) L := fl_sub 25 _ sl
  have cL : bt L c = true := fL1 c hc bc
  have sc : sb (jshl (1 : Int32) (nI c)) L := sb_one hc cL
  have cl1 : clo L (fl L (jshl (1 : Int32) (nI l))) := clo_of_fixed fL1 (fl_fixed hL ol)
  have cl2 : clo L (fl L (jshl (1 : Int32) (nI c))) := clo_of_fixed (fl_sub 25 _ sc) (fl_fixed hL oc)
  have s1 : sb (fl L (jshl (1 : Int32) (nI c))) (fl L (jshl (1 : Int32) (nI l))) := fl_in_clo hL (cr_fl hL 25 _ ol) cl1 oc (sb_one hc bc)
  refine sb_antisymm (cr_fl hL 25 _ oc) (cr_fl hL 25 _ ol) s1 ?_
  have hm : bt (fl L (jshl (1 : Int32) (nI c))) l = true := by
    cases q : bt (fl L (jshl (1 : Int32) (nI c))) l with
    | true => rfl
    | false =>
      have cl3 : clo L (L &&& (fl L (jshl (1 : Int32) (nI c)) ^^^ (-1 : Int32))) := clo_less hL hL (cr_fl hL 25 _ oc) (clo_self L) (fl_fixed hL oc)
      have z := fl_in_clo hL (cr_and _ hL) cl3 ol (sb_one hl (by rw [bt_andn (by omega), bl, q]; rfl)) c hc bc
      rw [bt_andn (by omega)] at z
      have w : bt (fl L (jshl (1 : Int32) (nI c))) c = true := sb_fl L 25 _ c hc (by rw [bt_one' hc hc]; simp)
      rw [w, cL] at z
      cases z
  exact fl_in_clo hL (cr_fl hL 25 _ oc) cl2 ol (sb_one hl hm)
