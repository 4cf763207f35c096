/-! what is believed -/
def belN (B R Q : Nat) (fits : Bool) : Nat :=
  let x := B * (bif fits then R else 1000 - R)
  let y := (10000 - B) * (bif fits then Q else 1000 - Q)
  if x + y = 0 then B else 10000 * x / (x + y)
theorem belN_le {B R Q : Nat} {fits : Bool} (hB : B ≤ 10000) : belN B R Q fits ≤ 10000 := by
  unfold belN
  simp only []
  split
  · exact hB
  · exact Nat.le_trans (Nat.div_le_div_right (Nat.mul_le_mul_left _ (Nat.le_add_right _ _))) (by rw [Nat.mul_div_cancel _ (by omega)]; exact Nat.le_refl _)
theorem cmp_0 {a : Nat} (h : a < 9223372036854775808) : lg_cmp (lN a) (0 : Int64) = if a = 0 then 0 else 1 := by
  unfold lg_cmp
  have e : (0 : Int64) = lN 0 := rfl
  by_cases q : a = 0
  · subst q; rfl
  · rw [if_neg q, if_pos]
    rw [e]
    exact (pk_lLT (by omega) h).mpr (by omega)
theorem r_bel_end {n B X R : Nat} {D : Nat} (hB : B ≤ 10000) (hX : X ≤ 10000000) (hD : D ≤ 10000) (hR : R ≤ 1000) : fX12_believed_38 n (nI B) (lN X) (nI R) (lN D) = some (nI (if X + D * R = 0 then B else 10000 * X / (X + D * R))) := by
  have hm : D * R ≤ 10000 * 1000 := Nat.mul_le_mul hD hR
  unfold fX12_believed_38
  rw [nI_l (by omega), lN_mul, lN_add, cmp_0 (by omega)]
  by_cases q : X + D * R = 0
  · simp only [q, if_true]
  · have e : (10000 : Int64) = lN 10000 := rfl
    have z : ¬ (1 : Int32) = 0 := by decide
    have nz_ : nzl (lN (X + D * R)) = true := by
      unfold nzl
      rw [decide_eq_true_eq]
      intro h
      exact q ((pk_lEQ (a := X + D * R) (b := 0) (by omega) (by omega)).mp h)
    simp only [q, if_false, z, gd_of nz_]
    have hq : 10000 * X / (X + D * R) < 2147483648 := Nat.lt_of_le_of_lt (Nat.div_le_div_right (c := X + D * R) (Nat.mul_le_mul_left 10000 (Nat.le_add_right X (D * R)))) (by rw [Nat.mul_div_cancel _ (by omega)]; omega)
    rw [e, lN_mul, pk_lDiv (by omega) (by omega) (by omega), lN_i]
theorem c_bel_end {n B X Y : Nat} (hX : X ≤ 10000000) (hY : Y ≤ 10000000) : fX11_believed_53 n (nI B) (lN X) (lN Y) = some (nI (if X + Y = 0 then B else 10000 * X / (X + Y))) := by
  unfold fX11_believed_53
  rw [lN_add, cmp_0 (by omega)]
  by_cases q : X + Y = 0
  · have z : ¬ (0 : Int32) < 0 := by decide
    simp only [q, if_true, z, if_false]
  · have e : (10000 : Int64) = lN 10000 := rfl
    have z : (0 : Int32) < 1 := by decide
    have nz_ : nzl (lN (X + Y)) = true := by
      unfold nzl
      rw [decide_eq_true_eq]
      intro h
      exact q ((pk_lEQ (a := X + Y) (b := 0) (by omega) (by omega)).mp h)
    simp only [q, if_false, z, if_true, gd_of nz_]
    have hq : 10000 * X / (X + Y) < 2147483648 := Nat.lt_of_le_of_lt (Nat.div_le_div_right (c := X + Y) (Nat.mul_le_mul_left 10000 (Nat.le_add_right X Y))) (by rw [Nat.mul_div_cancel _ (by omega)]; omega)
    rw [e, lN_mul, pk_lDiv (by omega) (by omega) (by omega), lN_i]
theorem mul_b {B R : Nat} (hB : B ≤ 10000) (hR : R ≤ 1000) : B * R ≤ 10000000 := Nat.le_trans (Nat.mul_le_mul hB hR) (by omega)
theorem r_believed {n B R Q : Nat} {b : Bool} (hB : B ≤ 10000) (hR : R ≤ 1000) (hQ : Q ≤ 1000) : fX12_believed n (nI B) (nI R) (nI Q) (bI b) = some (nI (belN B R Q b)) := by
  unfold fX12_believed fX12_believed_15 belN
  have e : (10000 : Int64) = lN 10000 := rfl
  have e2 : lN 10000 - lN B = lN (10000 - B) := by
    have : lN (10000 - B) + lN B = lN 10000 := by rw [lN_add]; congr 1; omega
    rw [← this]; exact Int64.add_sub_cancel _ _
  cases b
  · have m1 := mul_b (R := 1000 - R) hB (by omega)
    simp (disch := omega) only [lt_eq, bn_s, bn2_s, gd_t, nc, nI_add, n_mul, n_sub, ib_nI, up_hit, up_miss, n_le, n_lt, n_eq, n_eq0, n_lt0, n_0le, n_0lt, n_le0, zb_0, zb_1, if_pos, if_neg, ↓reduceIte, bI_ite, cond_false, nI_l, lN_mul, e, e2, r_bel_end hB m1 (show 10000 - B ≤ 10000 by omega) (show 1000 - Q ≤ 1000 by omega)]
  · have m1 := mul_b hB hR
    simp (disch := omega) only [lt_eq, bn_s, bn2_s, gd_t, nc, nI_add, n_mul, n_sub, ib_nI, up_hit, up_miss, n_le, n_lt, n_eq, n_eq0, n_lt0, n_0le, n_0lt, n_le0, zb_0, zb_1, if_pos, if_neg, ↓reduceIte, bI_ite, cond_true, nI_l, lN_mul, e, e2, r_bel_end hB m1 (show 10000 - B ≤ 10000 by omega) hQ]
theorem c_believed {n B R Q : Nat} {b : Bool} (hB : B ≤ 10000) (hR : R ≤ 1000) (hQ : Q ≤ 1000) : fX11_believed n (nI B) (nI R) (nI Q) (bI b) = some (nI (belN B R Q b)) := by
  unfold fX11_believed fX11_believed_28 belN
  cases b
  · have m1 := mul_b (R := 1000 - R) hB (by omega)
    have m2 := mul_b (B := 10000 - B) (R := 1000 - Q) (by omega) (by omega)
    simp (disch := omega) only [lt_eq, bn_s, bn2_s, gd_t, nc, nI_add, n_mul, n_sub, ib_nI, up_hit, up_miss, n_le, n_lt, n_eq, n_eq0, n_lt0, n_0le, n_0lt, n_le0, zb_0, zb_1, if_pos, if_neg, ↓reduceIte, bI_ite, cond_false, nI_l, lN_mul, c_bel_end m1 m2]
  · have m1 := mul_b hB hR
    have m2 := mul_b (B := 10000 - B) (by omega) hQ
    simp (disch := omega) only [lt_eq, bn_s, bn2_s, gd_t, nc, nI_add, n_mul, n_sub, ib_nI, up_hit, up_miss, n_le, n_lt, n_eq, n_eq0, n_lt0, n_0le, n_0lt, n_le0, zb_0, zb_1, if_pos, if_neg, ↓reduceIte, bI_ite, cond_true, nI_l, lN_mul, c_bel_end m1 m2]
/-! rates are held -/
def clN (v : Int32) : Nat := if v < 0 then 0 else if nI 999 < v then 999 else v.toNatClampNeg
theorem clN_le {v : Int32} : clN v ≤ 999 := by
  unfold clN
  split
  · omega
  · split
    · omega
    · rename_i h1 h2
      obtain ⟨j, hj, rfl⟩ := nI_of h1
      rw [nc (by omega)]
      rw [n_lt (by omega) (by omega)] at h2
      omega
theorem r_within {n : Nat} {v : Int32} : fX12_within n v (nI 0) (nI 999) = some (nI (clN v)) := by
  unfold fX12_within clN
  have z : nI 0 = (0 : Int32) := rfl
  by_cases h1 : v < 0
  · have : ¬ nI 0 ≤ v := by rw [z]; exact Int32.not_le.mpr h1
    simp only [h1, if_true, this, if_false]
  · have h1' : nI 0 ≤ v := by rw [z]; exact Int32.not_lt.mp h1
    by_cases h2 : nI 999 < v
    · have : ¬ v ≤ nI 999 := Int32.not_le.mpr h2
      simp only [h1, h2, h1', if_true, if_false, this]
    · have h2' : v ≤ nI 999 := Int32.not_lt.mp h2
      simp only [h1, h2, h1', h2', if_true, if_false]
      obtain ⟨j, hj, rfl⟩ := nI_of h1
      rw [nc (by omega)]
theorem c_heldRate {n : Nat} {v : Int32} : fX11_heldRate n v = some (nI (clN v)) := by
  unfold fX11_heldRate clN maxI minI
  have z : nI 0 = (0 : Int32) := rfl
  by_cases h1 : v < 0
  · have h2 : v < nI 999 := Int32.lt_trans h1 (by decide)
    have h3 : ¬ nI 0 < v := fun h => Int32.lt_irrefl (Int32.lt_trans h1 h)
    simp only [h1, h2, h3, if_true, if_false]
  · by_cases h2 : nI 999 < v
    · have h3 : ¬ v < nI 999 := fun h => Int32.lt_irrefl (Int32.lt_trans h h2)
      have h4 : nI 0 < nI 999 := by decide
      simp only [h1, h2, h3, if_true, if_false, h4]
    · obtain ⟨j, hj, rfl⟩ := nI_of h1
      rw [n_lt (by omega) (by omega)] at h2
      rw [nc (by omega)]
      by_cases h5 : j = 999
      · subst h5
        decide
      · simp (disch := omega) only [lt_eq, bn_s, bn2_s, gd_t, nc, nI_add, n_mul, n_sub, ib_nI, up_hit, up_miss, n_le, n_lt, n_eq, n_eq0, n_lt0, n_0le, n_0lt, n_le0, zb_0, zb_1, if_pos, if_neg, ↓reduceIte]
        by_cases h6 : j = 0
        · subst h6; decide
        · simp (disch := omega) only [lt_eq, bn_s, bn2_s, gd_t, nc, nI_add, n_mul, n_sub, ib_nI, up_hit, up_miss, n_le, n_lt, n_eq, n_eq0, n_lt0, n_0le, n_0lt, n_le0, zb_0, zb_1, if_pos, if_neg, ↓reduceIte]
