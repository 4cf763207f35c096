/-! the reference's questions -/
/-- the counts of the reference's row, as far as questions need them -/
def okA (a : Nat → Int32) : Prop := (∃ k, k ≤ 6 ∧ a 6 = nI k) ∧ (∃ k, k ≤ 20 ∧ a 7 = nI k) ∧ (∃ k, k ≤ 40 ∧ a 8 = nI k) ∧ (∃ k, k ≤ 60 ∧ a 10 = nI k) ∧ (∃ k, k ≤ 10 ∧ a 11 = nI k) ∧ (∃ k, k ≤ 8 ∧ a 12 = nI k) ∧ (∀ s, s < ct a 8 → ∃ c, c < 6 ∧ a (92 + 4 * s) = nI c)
theorem ct_n {a : Nat → Int32} {i k : Nat} (h : a i = nI k) (hk : k < 2147483648) : ct a i = k := by unfold ct; rw [h]; exact nc hk
theorem r_inK {n w : Nat} {a : Nat → Int32} {d : Int32} : fX12_in n d (a (311 + 2 * w)) (a (312 + 2 * w)) = some (bI (keyOn a w d)) := r_in
section RQ
variable {n : Nat} {m : Mm}
theorem q_isWatched (hn : 2000 ≤ n) (hA : okA (m 108)) {c d : Int32} : fX12_isWatched n c d m = some (bI (wat (m 108) c d)) := by
  obtain ⟨_, ⟨k, hk, e⟩, _⟩ := hA
  exact r_isWatched hn e hk
theorem q_seenOn (hn : 2000 ≤ n) (hA : okA (m 108)) {d : Int32} : fX12_seenOn n d m = some (seenS (m 108) d) := by
  obtain ⟨k, hk, e⟩ := hA.1
  unfold fX12_seenOn seenS
  rw [ct_n e (by omega)]
  have := loopSm (fun q i s => fX12_seenOn_4L n q d s (nI i) m) k (fun c => bif wat (m 108) (nI c) d then m 108 (13 + 3 * c) else nI 0) some (fun q s => ?_) (fun q i s hi => ?_) n (nI 0) (by omega)
  · simpa only [z_add] using this
  · simp (disch := omega) only [lt_eq, bn_s, bn2_s, gd_t, nc, nI_add, n_mul, n_sub, ib_nI, up_hit, up_miss, n_le, n_lt, n_eq, n_eq0, n_lt0, n_0le, n_0lt, n_le0, zb_0, zb_1, if_pos, if_neg, ↓reduceIte, fX12_seenOn_4L, fX12_seenOn_4, e]
  · simp (disch := omega) only [lt_eq, bn_s, bn2_s, gd_t, nc, nI_add, n_mul, n_sub, ib_nI, up_hit, up_miss, n_le, n_lt, n_eq, n_eq0, n_lt0, n_0le, n_0lt, n_le0, zb_0, zb_1, if_pos, if_neg, ↓reduceIte, fX12_seenOn_4L, fX12_seenOn_4, fX12_seenOn_35, e, q_isWatched hn hA, bI_ite, r_coil3, Nat.add_zero]
    cases wat (m 108) (nI i) d <;> rfl
theorem q_watchedMany (hn : 2000 ≤ n) (hA : okA (m 108)) {d : Int32} : fX12_watchedMany n d m = some (nI (manyS (m 108) d)) := by
  obtain ⟨k, hk, e⟩ := hA.1
  unfold fX12_watchedMany manyS
  rw [ct_n e (by omega), ← smI_cnt]
  have := loopSm (fun q i s => fX12_watchedMany_4L n q d s (nI i) m) k (fun c => bI (wat (m 108) (nI c) d)) some (fun q s => ?_) (fun q i s hi => ?_) n (nI 0) (by omega)
  · simpa only [z_add] using this
  · simp (disch := omega) only [lt_eq, bn_s, bn2_s, gd_t, nc, nI_add, n_mul, n_sub, ib_nI, up_hit, up_miss, n_le, n_lt, n_eq, n_eq0, n_lt0, n_0le, n_0lt, n_le0, zb_0, zb_1, if_pos, if_neg, ↓reduceIte, fX12_watchedMany_4L, fX12_watchedMany_4, e]
  · simp (disch := omega) only [lt_eq, bn_s, bn2_s, gd_t, nc, nI_add, n_mul, n_sub, ib_nI, up_hit, up_miss, n_le, n_lt, n_eq, n_eq0, n_lt0, n_0le, n_0lt, n_le0, zb_0, zb_1, if_pos, if_neg, ↓reduceIte, fX12_watchedMany_4L, fX12_watchedMany_4, fX12_watchedMany_30, e, q_isWatched hn hA, bI_ite]
    cases wat (m 108) (nI i) d <;> rfl
theorem q_hasStep (hn : 2000 ≤ n) (hA : okA (m 108)) {c d : Int32} : fX12_hasStep n c d m = some (bI (hasS (m 108) c d)) := by
  obtain ⟨_, _, ⟨k, hk, e⟩, _⟩ := hA
  unfold fX12_hasStep hasS
  rw [ct_n e (by omega)]
  refine loopEx (fun q i => fX12_hasStep_2L n q c d (nI i) m) k _ (fun q => ?_) (fun q i hi => ?_) n (by omega)
  · simp (disch := omega) only [lt_eq, bn_s, bn2_s, gd_t, nc, nI_add, n_mul, n_sub, ib_nI, up_hit, up_miss, n_le, n_lt, n_eq, n_eq0, n_lt0, n_0le, n_0lt, n_le0, zb_0, zb_1, if_pos, if_neg, ↓reduceIte, fX12_hasStep_2L, fX12_hasStep_2, e]
  · simp (disch := omega) only [lt_eq, bn_s, bn2_s, gd_t, nc, nI_add, n_mul, n_sub, ib_nI, up_hit, up_miss, n_le, n_lt, n_eq, n_eq0, n_lt0, n_0le, n_0lt, n_le0, zb_0, zb_1, if_pos, if_neg, ↓reduceIte, fX12_hasStep_2L, fX12_hasStep_2, fX12_hasStep_35, e, r_step4, Nat.reduceAdd]
    by_cases q1 : m 108 (92 + 4 * i) = c
    · by_cases q2 : m 108 (93 + 4 * i) = d <;> simp [q1, q2]
    · simp [q1]
theorem q_lineOf (hn : 2000 ≤ n) (hA : okA (m 108)) {c : Nat} (hc : c < 6) {d : Int32} : fX12_lineOf n (nI c) d m = some (m 108 (14 + 3 * c) * d + lineS (m 108) (nI c) d) := by
  obtain ⟨_, _, ⟨k, hk, e⟩, _⟩ := hA
  unfold fX12_lineOf lineS
  rw [ct_n e (by omega)]
  simp (disch := omega) only [lt_eq, bn_s, bn2_s, gd_t, nc, nI_add, n_mul, n_sub, ib_nI, up_hit, up_miss, n_le, n_lt, n_eq, n_eq0, n_lt0, n_0le, n_0lt, n_le0, zb_0, zb_1, if_pos, if_neg, ↓reduceIte, r_coil3, Nat.reduceAdd]
  exact loopSm (fun q i s => fX12_lineOf_12L n q (nI c) d s (nI i) m) k (fun s => if m 108 (92 + 4 * s) = nI c ∧ m 108 (93 + 4 * s) ≤ d then m 108 (94 + 4 * s) else nI 0) some (fun q s => by simp (disch := omega) only [lt_eq, bn_s, bn2_s, gd_t, nc, nI_add, n_mul, n_sub, ib_nI, up_hit, up_miss, n_le, n_lt, n_eq, n_eq0, n_lt0, n_0le, n_0lt, n_le0, zb_0, zb_1, if_pos, if_neg, ↓reduceIte, fX12_lineOf_12L, fX12_lineOf_12, e]) (fun q i s hi => by
    simp (disch := omega) only [lt_eq, bn_s, bn2_s, gd_t, nc, nI_add, n_mul, n_sub, ib_nI, up_hit, up_miss, n_le, n_lt, n_eq, n_eq0, n_lt0, n_0le, n_0lt, n_le0, zb_0, zb_1, if_pos, if_neg, ↓reduceIte, fX12_lineOf_58, fX12_lineOf_57, fX12_lineOf_12, fX12_lineOf_12L, e, r_step4, Nat.reduceAdd]
    by_cases q1 : m 108 (92 + 4 * i) = nI c
    · by_cases q2 : m 108 (93 + 4 * i) ≤ d
      · have : ¬ d < m 108 (93 + 4 * i) := Int32.not_lt.mpr q2
        simp [q1, q2, this]
      · have : d < m 108 (93 + 4 * i) := Int32.not_le.mp q2
        simp [q1, q2, this]
    · simp [q1]) n _ (by omega)
theorem q_isHeight {h pen : Int32} : fX12_isHeight n h pen m = some (bI (htS (m 108) h pen)) := by
  unfold fX12_isHeight fX12_size htS szS
  by_cases q : 0 ≤ h
  · simp (disch := omega) only [lt_eq, bn_s, bn2_s, gd_t, nc, nI_add, n_mul, n_sub, ib_nI, up_hit, up_miss, n_le, n_lt, n_eq, n_eq0, n_lt0, n_0le, n_0lt, n_le0, zb_0, zb_1, if_pos, if_neg, ↓reduceIte, q, r_in, bI_z]
  · simp (disch := omega) only [lt_eq, bn_s, bn2_s, gd_t, nc, nI_add, n_mul, n_sub, ib_nI, up_hit, up_miss, n_le, n_lt, n_eq, n_eq0, n_lt0, n_0le, n_0lt, n_le0, zb_0, zb_1, if_pos, if_neg, ↓reduceIte, q, r_in, bI_z]
theorem q_fits (hn : 2000 ≤ n) (hA : okA (m 108)) {s : Nat} (hs : s < ct (m 108) 8) : fX12_fits n (nI s) m = some (bI (fitS (m 108) s)) := by
  obtain ⟨k, hk, e⟩ := hA.2.2.1
  have e8 := ct_n e (by omega)
  obtain ⟨c, hc, ec⟩ := hA.2.2.2.2.2.2 s hs
  have ecc : ct (m 108) (92 + 4 * s) = c := ct_n ec (by omega)
  unfold fX12_fits fitS
  rw [ecc]
  simp (disch := omega) only [lt_eq, bn_s, bn2_s, gd_t, nc, nI_add, n_mul, n_sub, ib_nI, up_hit, up_miss, n_le, n_lt, n_eq, n_eq0, n_lt0, n_0le, n_0lt, n_le0, zb_0, zb_1, if_pos, if_neg, ↓reduceIte, r_step4, Nat.reduceAdd, ec, q_isHeight, bI_ite, q_isWatched hn hA, r_coil3, q_hasStep hn hA]
  split
  · rfl
  · cases htS (m 108) (m 108 (94 + 4 * s)) (m 108 3)
    · rfl
    · simp only [cond_true]
      split
      · cases wat (m 108) (nI c) (m 108 (93 + 4 * s)) <;> rfl
      · split
        · split
          · rfl
          · split
            · rfl
            · cases hasS (m 108) (m 108 (15 + 3 * c)) (m 108 (93 + 4 * s)) <;> rfl
        · split
          · split <;> rfl
          · rfl
theorem q_fitsOn (hn : 2000 ≤ n) (hA : okA (m 108)) {d : Int32} : fX12_fitsOn n d m = some (bI (fitOnS (m 108) d)) := by
  obtain ⟨k, hk, e⟩ := hA.2.2.1
  have e8 := ct_n e (by omega)
  unfold fX12_fitsOn fitOnS
  rw [e8]
  refine loopEx (fun q i => fX12_fitsOn_2L n q d (nI i) m) k _ (fun q => ?_) (fun q i hi => ?_) n (by omega)
  · simp (disch := omega) only [lt_eq, bn_s, bn2_s, gd_t, nc, nI_add, n_mul, n_sub, ib_nI, up_hit, up_miss, n_le, n_lt, n_eq, n_eq0, n_lt0, n_0le, n_0lt, n_le0, zb_0, zb_1, if_pos, if_neg, ↓reduceIte, fX12_fitsOn_2L, fX12_fitsOn_2, e]
  · simp (disch := omega) only [lt_eq, bn_s, bn2_s, gd_t, nc, nI_add, n_mul, n_sub, ib_nI, up_hit, up_miss, n_le, n_lt, n_eq, n_eq0, n_lt0, n_0le, n_0lt, n_le0, zb_0, zb_1, if_pos, if_neg, ↓reduceIte, fX12_fitsOn_2L, fX12_fitsOn_2, fX12_fitsOn_33, e, r_step4, Nat.reduceAdd, q_fits hn hA (s := i) (by omega), bI_ite]
    by_cases q1 : m 108 (93 + 4 * i) = d
    · cases fitS (m 108) i <;> simp [q1]
    · simp [q1]
theorem q_fitting (hn : 2000 ≤ n) (hA : okA (m 108)) {pen : Int32} : fX12_fitting n pen m = some (nI (fittingS (m 108) pen)) := by
  obtain ⟨k, hk, e⟩ := hA.2.2.2.1
  unfold fX12_fitting fittingS
  rw [ct_n e (by omega), ← smI_cnt]
  have := loopSm (fun q i s => fX12_fitting_4L n q pen s (nI i) m) k (fun j => bI (htS (m 108) (m 108 (251 + j)) pen)) some (fun q s => ?_) (fun q i s hi => ?_) n (nI 0) (by omega)
  · simpa only [z_add] using this
  · simp (disch := omega) only [lt_eq, bn_s, bn2_s, gd_t, nc, nI_add, n_mul, n_sub, ib_nI, up_hit, up_miss, n_le, n_lt, n_eq, n_eq0, n_lt0, n_0le, n_0lt, n_le0, zb_0, zb_1, if_pos, if_neg, ↓reduceIte, fX12_fitting_4L, fX12_fitting_4, e]
  · simp (disch := omega) only [lt_eq, bn_s, bn2_s, gd_t, nc, nI_add, n_mul, n_sub, ib_nI, up_hit, up_miss, n_le, n_lt, n_eq, n_eq0, n_lt0, n_0le, n_0lt, n_le0, zb_0, zb_1, if_pos, if_neg, ↓reduceIte, fX12_fitting_4L, fX12_fitting_4, fX12_fitting_39, e, q_isHeight, bI_ite]
    cases htS (m 108) (m 108 (251 + i)) pen <;> rfl
theorem q_keysOn (hn : 2000 ≤ n) (hA : okA (m 108)) {d : Int32} : fX12_keysOn n d m = some (nI (keysS (m 108) d)) := by
  obtain ⟨k, hk, e⟩ := hA.2.2.2.2.1
  unfold fX12_keysOn keysS
  rw [ct_n e (by omega), ← smI_cnt]
  have := loopSm (fun q i s => fX12_keysOn_4L n q d s (nI i) m) k (fun j => bI (keyOn (m 108) j d)) some (fun q s => ?_) (fun q i s hi => ?_) n (nI 0) (by omega)
  · simpa only [z_add] using this
  · simp (disch := omega) only [lt_eq, bn_s, bn2_s, gd_t, nc, nI_add, n_mul, n_sub, ib_nI, up_hit, up_miss, n_le, n_lt, n_eq, n_eq0, n_lt0, n_0le, n_0lt, n_le0, zb_0, zb_1, if_pos, if_neg, ↓reduceIte, fX12_keysOn_4L, fX12_keysOn_4, e]
  · have e1 : 311 + 2 * i + 1 = 312 + 2 * i := by omega
    simp (disch := omega) only [lt_eq, bn_s, bn2_s, gd_t, nc, nI_add, n_mul, n_sub, ib_nI, up_hit, up_miss, n_le, n_lt, n_eq, n_eq0, n_lt0, n_0le, n_0lt, n_le0, zb_0, zb_1, if_pos, if_neg, ↓reduceIte, fX12_keysOn_54, fX12_keysOn_4, fX12_keysOn_4L, e, e1, r_inK, bI_ite]
    cases keyOn (m 108) i d <;> rfl
theorem q_fit (hn : 2000 ≤ n) (hA : okA (m 108)) : fX12_fit n m = some (nI (fitAllS (m 108))) := by
  obtain ⟨k, hk, e⟩ := hA.2.2.1
  have e8 := ct_n e (by omega)
  unfold fX12_fit fitAllS
  rw [e8, ← smI_cnt]
  have := loopSm (fun q i s => fX12_fit_4L n q s (nI i) m) k (fun j => bI (fitS (m 108) j)) some (fun q s => ?_) (fun q i s hi => ?_) n (nI 0) (by omega)
  · simpa only [z_add] using this
  · simp (disch := omega) only [lt_eq, bn_s, bn2_s, gd_t, nc, nI_add, n_mul, n_sub, ib_nI, up_hit, up_miss, n_le, n_lt, n_eq, n_eq0, n_lt0, n_0le, n_0lt, n_le0, zb_0, zb_1, if_pos, if_neg, ↓reduceIte, fX12_fit_4L, fX12_fit_4, e]
  · simp (disch := omega) only [lt_eq, bn_s, bn2_s, gd_t, nc, nI_add, n_mul, n_sub, ib_nI, up_hit, up_miss, n_le, n_lt, n_eq, n_eq0, n_lt0, n_0le, n_0lt, n_le0, zb_0, zb_1, if_pos, if_neg, ↓reduceIte, fX12_fit_29, fX12_fit_4, fX12_fit_4L, e, q_fits hn hA (s := i) (by omega), bI_ite]
    cases fitS (m 108) i <;> rfl
theorem q_jokes (hn : 2000 ≤ n) (hA : okA (m 108)) : fX12_jokes n m = some (nI (jokesS (m 108))) := by
  obtain ⟨k, hk, e⟩ := hA.2.2.1
  have e8 := ct_n e (by omega)
  unfold fX12_jokes jokesS
  rw [e8, ← smI_cnt]
  have := loopSm (fun q i s => fX12_jokes_4L n q s (nI i) m) k (fun j => bI (decide (0 < keysS (m 108) (m 108 (93 + 4 * j))) && fitS (m 108) j)) some (fun q s => ?_) (fun q i s hi => ?_) n (nI 0) (by omega)
  · simpa only [z_add] using this
  · simp (disch := omega) only [lt_eq, bn_s, bn2_s, gd_t, nc, nI_add, n_mul, n_sub, ib_nI, up_hit, up_miss, n_le, n_lt, n_eq, n_eq0, n_lt0, n_0le, n_0lt, n_le0, zb_0, zb_1, if_pos, if_neg, ↓reduceIte, fX12_jokes_4L, fX12_jokes_4, e]
  · have hk2 : keysS (m 108) (m 108 (93 + 4 * i)) < 2147483648 := by
      obtain ⟨k2, hk2, e2⟩ := hA.2.2.2.2.1
      have := cnt_le (p := fun k => keyOn (m 108) k (m 108 (93 + 4 * i))) (ct (m 108) 11)
      rw [ct_n e2 (by omega)] at this
      unfold keysS
      rw [ct_n e2 (by omega)]
      omega
    simp (disch := omega) only [lt_eq, bn_s, bn2_s, gd_t, nc, nI_add, n_mul, n_sub, ib_nI, up_hit, up_miss, n_le, n_lt, n_eq, n_eq0, n_lt0, n_0le, n_0lt, n_le0, zb_0, zb_1, if_pos, if_neg, ↓reduceIte, fX12_jokes_42, fX12_jokes_41, fX12_jokes_4, fX12_jokes_4L, e, r_step4, Nat.reduceAdd, q_keysOn hn hA, q_fits hn hA (s := i) (by omega), bI_ite]
    by_cases q1 : keysS (m 108) (m 108 (93 + 4 * i)) = 0
    · simp [q1, bI_f, add_bf]
    · have q2 : 0 < keysS (m 108) (m 108 (93 + 4 * i)) := by omega
      cases fitS (m 108) i <;> simp [q1, q2, bI_f, bI_t, add_bf]
end RQ
