theorem n_irm {a d : Nat} (ha : a < 2147483648) (h0 : 0 < d) (hd : d < 2147483648) : irm (nI a) (nI d) = nI (a % d) := pk_rem ha h0 hd
theorem up_117 {s : Nat → Int32} {m : Mm} {b k h : Nat} {v : Int32} (e : ∀ i, i < h → m b i = s i) : ∀ i, i < h + 1 → (i < h ∨ i = k) → up m b k v b i = upd s k v i := by
  intro i _ h2
  rw [up_at]
  unfold upd
  by_cases q : i = k
  · simp [q]
  · rw [if_neg (fun h => q h.2), if_neg q]
    exact e i (by omega)
theorem r_worksOut {n t cs mx : Nat} {m : Mm} {key : Nat} (hn : 2000 ≤ n) (ht : t < 14) (hk : key ≤ 2) (hcs : cs ≤ 95) (hmx : mx ≤ 95) (ek : m 108 (347 + 2 * t) = nI (1000 * key + cs))
    (hr : runH (m 108) (375 + 96 * t) mx cs = some 1) (hc : ∀ k, k < cs → m 108 (375 + 96 * t + k) < 0 ∨ ∃ j, j ≤ 10002 ∧ m 108 (375 + 96 * t + k) = nI j) :
    ∃ m', fX12_worksOut n (nI t) m = some ((evS (m 108) (375 + 96 * t) (m 118) cs).2 0, m') ∧ ∀ j, j ≠ 117 → m' j = m j := by
  unfold fX12_worksOut
  have e1 : (1000 * key + cs) % 1000 = cs := by omega
  simp (disch := omega) only [lt_eq, bn_s, bn2_s, gd_t, nc, nI_add, n_mul, n_sub, ib_nI, up_hit, up_miss, n_le, n_lt, n_eq, n_eq0, n_lt0, n_0le, n_0lt, n_le0, zb_0, zb_1, if_pos, if_neg, ↓reduceIte, ek, n_irm, e1]
  have L := loopInv (fun q i (s : Int32 × Mm) => fX12_worksOut_22L n q (nI t) s.1 (nI cs) (nI i) s.2) cs
    (fun k s => s.1 = nI (evS (m 108) (375 + 96 * t) (m 118) k).1 ∧ (∀ i, i < (evS (m 108) (375 + 96 * t) (m 118) k).1 → s.2 117 i = (evS (m 108) (375 + 96 * t) (m 118) k).2 i) ∧ ∀ j, j ≠ 117 → s.2 j = m j)
    (fun r => r.1 = (evS (m 108) (375 + 96 * t) (m 118) cs).2 0 ∧ ∀ j, j ≠ 117 → r.2 j = m j) ?_ ?_ n 0 (nI 0, m) (by omega) (by omega) ⟨rfl, fun i hi => absurd hi (Nat.not_lt_zero i), fun _ _ => rfl⟩
  · obtain ⟨⟨v, m'⟩, h1, h2, h3⟩ := L
    refine ⟨m', ?_, h3⟩
    rw [← h2]
    exact h1
  · rintro q ⟨x, m1⟩ ⟨h1, h2, h3⟩
    have hh := evS_h (fa := m 118) cs 1 hr
    refine ⟨(m1 117 0, m1), ?_, h2 0 (by omega), h3⟩
    simp (disch := omega) only [lt_eq, bn_s, bn2_s, gd_t, nc, nI_add, n_mul, n_sub, ib_nI, up_hit, up_miss, n_le, n_lt, n_eq, n_eq0, n_lt0, n_0le, n_0lt, n_le0, zb_0, zb_1, if_pos, if_neg, ↓reduceIte, fX12_worksOut_151, fX12_worksOut_117, fX12_worksOut_80, fX12_worksOut_22, fX12_worksOut_22L]
  · rintro q i ⟨x, m1⟩ hi ⟨h1, h2, h3⟩
    refine Or.inr ?_
    obtain ⟨h', hr'⟩ := runH_pre cs 1 hr (i + 1) (by omega)
    obtain ⟨h, hr0, hg, hm⟩ := runH_s hr'
    have hm0 : h ≤ 95 := by
      by_cases q0 : i = 0
      · subst q0
        cases hr0
        omega
      · obtain ⟨i', rfl⟩ : ∃ i', i = i' + 1 := ⟨i - 1, by omega⟩
        obtain ⟨_, _, _, hm2⟩ := runH_s hr0
        omega
    have eh := evS_h (fa := m 118) i h hr0
    have h108 : m1 108 = m 108 := h3 108 (by decide)
    have h118 : m1 118 = m 118 := h3 118 (by decide)
    generalize hs : evS (m 108) (375 + 96 * t) (m 118) i = S at *
    obtain ⟨S1, s⟩ := S
    have eh : S1 = h := eh
    subst eh
    have h1 : x = nI S1 := h1
    have h2 : ∀ i, i < S1 → m1 117 i = s i := h2
    have h3 : ∀ j, j ≠ 117 → m1 j = m j := h3
    subst h1
    rw [evS_s, hs]
    unfold stepS
    have ho : ∀ (k : Nat) (v : Int32) (j : Nat), j ≠ 117 → up m1 117 k v j = m j := fun k v j hj => by rw [up_ne hj]; exact h3 j hj
    generalize hcv : m 108 (375 + 96 * t + i) = c at *
    have hci := hc i hi
    rw [hcv] at hci
    unfold hgt at hg
    rcases hci with hneg | ⟨j, hj, rfl⟩
    · rw [if_neg (neg_lt.mp hneg)] at hg
      by_cases q10 : c = -10
      · rw [if_pos q10] at hg
        have hS : 1 ≤ S1 := by
          by_cases w : 1 ≤ S1
          · exact w
          · rw [if_neg w] at hg; cases hg
        have e117 : m1 117 (S1 - 1) = s (S1 - 1) := h2 _ (by omega)
        subst q10
        refine ⟨(nI S1, up m1 117 (S1 - 1) (if s (S1 - 1) = 0 then nI 1 else nI 0)), ?_, ?_, ?_, ho _ _⟩
        · simp (disch := omega) only [lt_eq, bn_s, bn2_s, gd_t, nc, nI_add, n_mul, n_sub, ib_nI, up_hit, up_miss, n_le, n_lt, n_eq, n_eq0, n_lt0, n_0le, n_0lt, n_le0, zb_0, zb_1, if_pos, if_neg, ↓reduceIte, fX12_worksOut_151, fX12_worksOut_117, fX12_worksOut_80, fX12_worksOut_22, fX12_worksOut_22L, h108, hcv, show ((-10 : Int32) < 0) = True from eq_true (by decide), e117]
          split <;> rfl
        · rfl
        · exact fun k hk => up_117 (h := S1) h2 k (Nat.lt_succ_of_lt hk) (Or.inl hk)
      · rw [if_neg q10] at hg
        have hS : 2 ≤ S1 := by
          by_cases w : 2 ≤ S1
          · exact w
          · rw [if_neg w] at hg; cases hg
        have e1 : m1 117 (S1 - 1) = s (S1 - 1) := h2 _ (by omega)
        have e2 : m1 117 (S1 - 2) = s (S1 - 2) := h2 _ (by omega)
        have e3 : S1 - 1 - 1 = S1 - 2 := by omega
        refine ⟨(nI (S1 - 1), up m1 117 (S1 - 2) (twoS c (s (S1 - 2)) (s (S1 - 1)))), ?_, ?_, ?_, ho _ _⟩
        · simp (disch := omega) only [lt_eq, bn_s, bn2_s, gd_t, nc, nI_add, n_mul, n_sub, ib_nI, up_hit, up_miss, n_le, n_lt, n_eq, n_eq0, n_lt0, n_0le, n_0lt, n_le0, zb_0, zb_1, if_pos, if_neg, ↓reduceIte, fX12_worksOut_151, fX12_worksOut_117, fX12_worksOut_80, fX12_worksOut_22, fX12_worksOut_22L, h108, hcv, hneg, q10, n_m1, e3, e1, e2, r_two]
        · simp only [hneg, q10, if_true, if_false]
        · simp only [hneg, q10, if_true, if_false]
          exact fun k hk => up_117 (h := S1) h2 k (by omega) (Or.inl (by omega))
    · have hnn : ¬ nI j < 0 := nI_pos (by omega)
      rw [if_pos (nI_pos' (by omega))] at hg
      cases hg
      by_cases q4 : 10000 ≤ j
      · refine ⟨(nI (S1 + 1), up m1 117 S1 (m 118 (j - 10000))), ?_, ?_, ?_, ho _ _⟩
        · simp (disch := omega) only [lt_eq, bn_s, bn2_s, gd_t, nc, nI_add, n_mul, n_sub, ib_nI, up_hit, up_miss, n_le, n_lt, n_eq, n_eq0, n_lt0, n_0le, n_0lt, n_le0, zb_0, zb_1, if_pos, if_neg, ↓reduceIte, fX12_worksOut_151, fX12_worksOut_117, fX12_worksOut_80, fX12_worksOut_22, fX12_worksOut_22L, h108, h118, hcv]
        · simp (disch := omega) only [lt_eq, bn_s, bn2_s, gd_t, nc, nI_add, n_mul, n_sub, ib_nI, up_hit, up_miss, n_le, n_lt, n_eq, n_eq0, n_lt0, n_0le, n_0lt, n_le0, zb_0, zb_1, if_pos, if_neg, ↓reduceIte]
        · simp (disch := omega) only [lt_eq, bn_s, bn2_s, gd_t, nc, nI_add, n_mul, n_sub, ib_nI, up_hit, up_miss, n_le, n_lt, n_eq, n_eq0, n_lt0, n_0le, n_0lt, n_le0, zb_0, zb_1, if_pos, if_neg, ↓reduceIte]
          exact fun k hk => up_117 (h := S1) h2 k hk (by omega)
      · refine ⟨(nI (S1 + 1), up m1 117 S1 (nI j)), ?_, ?_, ?_, ho _ _⟩
        · simp (disch := omega) only [lt_eq, bn_s, bn2_s, gd_t, nc, nI_add, n_mul, n_sub, ib_nI, up_hit, up_miss, n_le, n_lt, n_eq, n_eq0, n_lt0, n_0le, n_0lt, n_le0, zb_0, zb_1, if_pos, if_neg, ↓reduceIte, fX12_worksOut_151, fX12_worksOut_117, fX12_worksOut_80, fX12_worksOut_22, fX12_worksOut_22L, h108, h118, hcv]
        · simp (disch := omega) only [lt_eq, bn_s, bn2_s, gd_t, nc, nI_add, n_mul, n_sub, ib_nI, up_hit, up_miss, n_le, n_lt, n_eq, n_eq0, n_lt0, n_0le, n_0lt, n_le0, zb_0, zb_1, if_pos, if_neg, ↓reduceIte]
        · simp (disch := omega) only [lt_eq, bn_s, bn2_s, gd_t, nc, nI_add, n_mul, n_sub, ib_nI, up_hit, up_miss, n_le, n_lt, n_eq, n_eq0, n_lt0, n_0le, n_0lt, n_le0, zb_0, zb_1, if_pos, if_neg, ↓reduceIte]
          exact fun k hk => up_117 (h := S1) h2 k hk (by omega)
