/-! rows that were told, checked -/
section WC
variable {n : Nat}
theorem r_chkEnd {K T x : Nat} {t : Mm} (hn : 2000 ≤ n) (hK : K ≤ 30) (hT : T ≤ 60) (hx : x ≤ 60) : ∃ t', fX12_check_151 n (nI K) (nI T) (nI x) t = some (if x = T ∧ x = 2 * K then nI 0 else nI (1 + x), t') ∧ (∀ i, i < 1719 → t' 108 i = t 110 i) ∧ ∀ k, k ≠ 108 → t' k = t k := by
  obtain ⟨m1, e2, k1, k2⟩ := r_copyAll (n := n) (m := t) (b1 := 110) (b2 := 108) hn (by omega)
  refine ⟨m1, ?_, k1, k2⟩
  unfold fX12_check_151
  simp (disch := omega) only [ltE, bnE, bn2E, gdE, nc, nI_add, n_mul, n_sub, ib_nI, up_hit, up_miss, n_le, n_lt, n_eq, n_eq0, n_lt0, n_0le, n_0lt, n_le0, zb_0, zb_1, if_pos, if_neg, ↓reduceIte, Nat.reduceAdd, Nat.reduceMul, Nat.reduceSub, e2]
  by_cases q1 : x = T
  · by_cases q2 : x = 2 * K
    · rw [if_pos q1, if_pos q2, if_pos ⟨q1, q2⟩]
    · rw [if_pos q1, if_neg q2, if_neg (fun q => q2 q.2)]
  · rw [if_neg q1, if_neg (fun q => q1 q.1)]
theorem r_chkMiss {K T x i q : Nat} {t : Mm} (hK : K ≤ 30) (hi : i < K) (hx : x ≤ 60) (hq : 1 ≤ q) (hne : x ≠ 2 * (i + 1)) : fX12_check_60L n q (nI K) (nI T) (nI x) (nI (i + 1)) t = fX12_check_151 n (nI K) (nI T) (nI x) t := by
  obtain ⟨q, rfl⟩ : ∃ p, q = p + 1 := ⟨q - 1, by omega⟩
  show fX12_check_60 n (fX12_check_60L n q) (nI K) (nI T) (nI x) (nI (i + 1)) t = _
  unfold fX12_check_60
  by_cases q1 : K ≤ i + 1
  · simp (disch := omega) only [ltE, bnE, bn2E, gdE, nc, nI_add, n_mul, n_sub, ib_nI, up_hit, up_miss, n_le, n_lt, n_eq, n_eq0, n_lt0, n_0le, n_0lt, n_le0, zb_0, zb_1, if_pos, if_neg, ↓reduceIte, q1]
  · simp (disch := omega) only [ltE, bnE, bn2E, gdE, nc, nI_add, n_mul, n_sub, ib_nI, up_hit, up_miss, n_le, n_lt, n_eq, n_eq0, n_lt0, n_0le, n_0lt, n_le0, zb_0, zb_1, if_pos, if_neg, ↓reduceIte, q1, hne]
theorem chk {N K T : Nat} {f m : Mm} (hn : 2000 ≤ n) (hI : Inv N f m) (hi0 : f 0 3 ≠ 0) (hK : K ≤ 30) (hT : T ≤ 60) (ht : ∀ i, i < T → f 98 i = m 129 i) : ∃ r f' m', (bn (fX10_takeOver n N 49 25 f) fun f7 => fX11_check_47L n N n (nI K) (nI T) (nI 0) f7) = some (r, f') ∧
    (bn (fX12_copyAll n 108 110 m) fun f8 => bn (fX12_copyAll n 109 108 f8) fun f10 => fX12_check_60L n n (nI K) (nI T) (nI 0) (nI 0) f10) = some (r, m') ∧ Inv N f' m' := by
  obtain ⟨hN, hW, hO⟩ := hI
  have hR := hO.2.2.2.2.2.2
  rcases hO.1.2 with ⟨i1, i2⟩ | ⟨i1, i2, i3, i4⟩
  · exact absurd i1 hi0
  obtain ⟨f1, e1, g1, g2⟩ := c_take (n := n) (o := 49) hN i3 (by omega) (by omega) (by omega) hR.2.2.1 hR.2.2.2
  obtain ⟨m1, e2, k1, k2⟩ := r_copyAll (n := n) (m := m) (b1 := 108) (b2 := 110) hn (by omega)
  obtain ⟨m2, e3, k3, k4⟩ := r_copyAll (n := n) (m := m1) (b1 := 109) (b2 := 108) hn (by omega)
  obtain ⟨D, D1, D2⟩ := i3.1.2.2.2.2.2.2.1
  have D3 : D ≤ 1999 := by rw [dayOf D2 (by omega)] at i4; exact i4
  have hW1 : RW N f1 49 (m2 108) := g1.cg2 (fun _ _ _ => rfl) (lwSame.of (fun _ _ => rfl)) (fun i hi => by rw [k3 i hi, k2 109 (by omega)])
  have L := loopSimQ (fun q i (s : Mm) => fX11_check_47L n N q (nI K) (nI T) (nI i) s) (fun q i (s : Mm) => fX12_check_60L n q (nI K) (nI T) (nI (2 * i)) (nI i) s) K
    (fun i s t => RW N s 49 (t 108) ∧ t 108 1 = nI (D + i) ∧ 2 * i ≤ T ∧ (∀ k, k < 130 → k < 49 ∨ 73 ≤ k → s k = f1 k) ∧ lwSame N f1 s ∧ ∀ k, k ≠ 108 → k ≠ 117 → k ≠ 118 → t k = m2 k)
    (fun r p => r.1 = p.1 ∧ (r.2 54 3 = nI 20 ∧ r.2 66 3 = nI 10) ∧ (∀ k, k < 130 → k < 49 ∨ 73 ≤ k → r.2 k = f1 k) ∧ lwSame N f1 r.2 ∧ (∀ i, i < 1719 → p.2 108 i = m2 110 i) ∧ ∀ k, k ≠ 108 → k ≠ 117 → k ≠ 118 → p.2 k = m2 k)
    ?_ ?_ n 0 f1 m2 (by omega) (by omega) ⟨hW1, by rw [k3 1 (by omega), k2 109 (by omega)]; exact D2, by omega, fun _ _ _ => rfl, lwSame.of (fun _ _ => rfl), fun _ _ _ _ => rfl⟩
  · obtain ⟨⟨r, f'⟩, ⟨p, m'⟩, c1, c2, z1, z2, z3, z4, z5, z6⟩ := L
    have z1 : r = p := z1
    subst z1
    have s1 : ∀ k, k < 130 → k < 49 ∨ 73 ≤ k → f' k = f k := fun k h1 h2 => (z3 k h1 h2).trans (g2 k (by omega))
    have s2 : lwSame N f f' := fun j hj => by
      obtain ⟨l1, l2, l3⟩ := z4 j hj
      rw [g2 _ (by omega)] at l1 l2 l3
      exact ⟨l1, l2, l3⟩
    have s3 : ∀ k, k ≠ 108 → k ≠ 110 → k ≠ 117 → k ≠ 118 → m' k = m k := fun k a b c d => (z6 k a c d).trans ((k4 k a).trans (k2 k b))
    have s4 : ∀ i, i < 1719 → m' 108 i = m 108 i := fun i hi => (z5 i hi).trans (by rw [k4 110 (by omega)]; exact k1 i hi)
    refine ⟨r, f', m', ?_, ?_, hN, ?_, ?_⟩
    · rw [e1]; exact c1
    · rw [e2]
      show bn (fX12_copyAll n 109 108 m1) _ = _
      rw [e3]; exact c2
    · exact hW.cg2 (fun k a b => s1 k (by omega) (by omega)) s2 s4
    · refine hO.mk2 ⟨?_, Or.inr ⟨?_, ?_, ?_, ?_⟩⟩ ?_ ?_ (fun k hk => s1 k (by omega) (by omega)) (fun k hk => s3 k (by omega) (by omega) (by omega) (by omega)) (by rw [s3 107 (by omega) (by omega) (by omega) (by omega)])
      · rw [s4 1 (by omega)]; exact hO.1.1
      · rw [s1 0 (by omega) (by omega)]; exact i1
      · rw [s3 107 (by omega) (by omega) (by omega) (by omega)]; exact i2
      · rw [s3 109 (by omega) (by omega) (by omega) (by omega)]
        exact i3.cg (fun k a b => s1 k (by omega) (by omega)) s2 (fun _ => rfl)
      · rw [s3 109 (by omega) (by omega) (by omega) (by omega)]; exact i4
      · unfold cTe
        rw [s1 0 (by omega) (by omega), s1 98 (by omega) (by omega), s3 107 (by omega) (by omega) (by omega) (by omega), s3 129 (by omega) (by omega) (by omega) (by omega)]
        exact hO.2.2.2.1
      · unfold cRm
        rw [s1 30 (by omega) (by omega), s1 42 (by omega) (by omega)]
        exact ⟨hR.1, hR.2.1, z2⟩
  · rintro q s t ⟨w1, w2, w3, w4, w5, w6⟩
    obtain ⟨t', v1, v2, v3⟩ := r_chkEnd (n := n) (K := K) (T := T) (x := 2 * K) (t := t) hn hK hT (by omega)
    refine ⟨(if 2 * K = T ∧ 2 * K = 2 * K then nI 0 else nI (1 + 2 * K), s), (_, t'), ?_, ?_, rfl, w1.room, w4, w5, fun i hi => (v2 i hi).trans (by rw [w6 110 (by omega) (by omega) (by omega)]), fun k a b c => (v3 k a).trans (w6 k a b c)⟩
    · show fX11_check_47 n N (fX11_check_47L n N q) (nI K) (nI T) (nI K) s = _
      unfold fX11_check_47
      by_cases q1 : 2 * K = T
      · simp (disch := omega) only [ltE, bnE, bn2E, gdE, nc, nI_add, n_mul, n_sub, ib_nI, up_hit, up_miss, n_le, n_lt, n_eq, n_eq0, n_lt0, n_0le, n_0lt, n_le0, zb_0, zb_1, if_pos, if_neg, ↓reduceIte, q1, Nat.le_refl, and_self]
      · simp (disch := omega) only [ltE, bnE, bn2E, gdE, nc, nI_add, n_mul, n_sub, ib_nI, up_hit, up_miss, n_le, n_lt, n_eq, n_eq0, n_lt0, n_0le, n_0lt, n_le0, zb_0, zb_1, if_pos, if_neg, ↓reduceIte, q1, Nat.le_refl, and_self, false_and, show ¬ T ≤ 2 * K from by omega]
    · show fX12_check_60 n (fX12_check_60L n q) (nI K) (nI T) (nI (2 * K)) (nI K) t = _
      unfold fX12_check_60
      simp (disch := omega) only [ltE, bnE, bn2E, gdE, nc, nI_add, n_mul, n_sub, ib_nI, up_hit, up_miss, n_le, n_lt, n_eq, n_eq0, n_lt0, n_0le, n_0lt, n_le0, zb_0, zb_1, if_pos, if_neg, ↓reduceIte, Nat.le_refl, v1]
  · rintro q i s t hi hq ⟨w1, w2, w3, w4, w5, w6⟩
    obtain ⟨f', m', u1, u2, u3, u4, u5, u6, u7⟩ := day_sim (n := n) (o := 49) hn hN w1 (by omega) w2 (by omega)
    have x4 : ∀ k, k < 130 → k < 49 ∨ 73 ≤ k → f' k = f1 k := fun k a b => (u4 k a (by omega)).trans (w4 k a b)
    have x5 : lwSame N f1 f' := fun j hj => by
      obtain ⟨l1, l2, l3⟩ := w5 j hj
      obtain ⟨o1, o2, o3⟩ := u5 j hj
      exact ⟨fun i => (o1 i).trans (l1 i), fun i => (o2 i).trans (l2 i), o3.trans l3⟩
    have x6 : ∀ k, k ≠ 108 → k ≠ 117 → k ≠ 118 → m' k = m2 k := fun k a b c => (u6 k a b c).trans (w6 k a b c)
    have told : ∀ j, j < T → f' 98 j = m' 129 j := fun j hj => by
      rw [x4 98 (by omega) (by omega), g2 98 (by omega), x6 129 (by omega) (by omega) (by omega), k4 129 (by omega), k2 129 (by omega)]
      exact ht j hj
    have b1 : f' 49 1 = m' 108 4 := u3.1.2.1
    have b2 : f' 58 4 = m' 108 8 := by
      obtain ⟨_, _, _, ns, _, _, _, _, _, _, h3, _⟩ := u3
      exact h3.2.1.trans h3.2.2.1.symm
    obtain ⟨t1, v1, v2, v3⟩ := r_chkEnd (n := n) (K := K) (T := T) (x := 2 * i) (t := m') hn hK hT (by omega)
    obtain ⟨t2, v4, v5, v6⟩ := r_chkEnd (n := n) (K := K) (T := T) (x := 2 * i + 1) (t := m') hn hK hT (by omega)
    have y1 : fX12_check_60L n q (nI K) (nI T) (nI (2 * i)) (nI (i + 1)) m' = some (nI (1 + 2 * i), t1) := by
      rw [r_chkMiss hK hi (by omega) (by omega) (by omega), v1, if_neg (by omega)]
    have y2 : fX12_check_60L n q (nI K) (nI T) (nI (2 * i + 1)) (nI (i + 1)) m' = some (nI (2 + 2 * i), t2) := by
      rw [r_chkMiss hK hi (by omega) (by omega) (by omega), v4, if_neg (by omega), show 1 + (2 * i + 1) = 2 + 2 * i from by omega]
    have z1 : ∀ j, j < 1719 → t1 108 j = m2 110 j := fun j hj => (v2 j hj).trans (by rw [x6 110 (by omega) (by omega) (by omega)])
    have z2 : ∀ j, j < 1719 → t2 108 j = m2 110 j := fun j hj => (v5 j hj).trans (by rw [x6 110 (by omega) (by omega) (by omega)])
    have z3 : ∀ k, k ≠ 108 → k ≠ 117 → k ≠ 118 → t1 k = m2 k := fun k a b c => (v3 k a).trans (x6 k a b c)
    have z4 : ∀ k, k ≠ 108 → k ≠ 117 → k ≠ 118 → t2 k = m2 k := fun k a b c => (v6 k a).trans (x6 k a b c)
    have nK : ¬ K ≤ i := by omega
    have n21 : (2 * i = 2 * i + 1) = False := by simp
    have cF : fX11_check_47L n N (q + 1) (nI K) (nI T) (nI i) s = fX11_check_47 n N (fX11_check_47L n N q) (nI K) (nI T) (nI i) s := rfl
    have cK : fX12_check_60L n (q + 1) (nI K) (nI T) (nI (2 * i)) (nI i) t = fX12_check_60 n (fX12_check_60L n q) (nI K) (nI T) (nI (2 * i)) (nI i) t := rfl
    simp only [cF, cK]
    unfold fX11_check_47 fX12_check_60
    by_cases c1 : T ≤ 2 * i
    · refine Or.inl ⟨(nI (1 + 2 * i), f'), (nI (1 + 2 * i), t1), ?_, ?_, rfl, u3.room, x4, x5, z1, z3⟩
      · simp (disch := omega) only [ltE, bnE, bn2E, gdE, nc, nI_add, n_mul, n_sub, ib_nI, up_hit, up_miss, n_le, n_lt, n_eq, n_eq0, n_lt0, n_0le, n_0lt, n_le0, zb_0, zb_1, if_pos, if_neg, ↓reduceIte, nK, u1, c1, fX11_check_84]
      · simp (disch := omega) only [ltE, bnE, bn2E, gdE, nc, nI_add, n_mul, n_sub, ib_nI, up_hit, up_miss, n_le, n_lt, n_eq, n_eq0, n_lt0, n_0le, n_0lt, n_le0, zb_0, zb_1, if_pos, if_neg, ↓reduceIte, nK, u2, c1, fX12_check_103, fX12_check_104, fX12_check_142, fX12_check_143, Nat.add_zero, n21, y1]
    by_cases c2 : m' 129 (2 * i) = m' 108 4
    · by_cases c3 : T ≤ 2 * i + 1
      · refine Or.inl ⟨(nI (2 + 2 * i), f'), (nI (2 + 2 * i), t2), ?_, ?_, rfl, u3.room, x4, x5, z2, z4⟩
        · simp (disch := omega) only [ltE, bnE, bn2E, gdE, nc, nI_add, n_mul, n_sub, ib_nI, up_hit, up_miss, n_le, n_lt, n_eq, n_eq0, n_lt0, n_0le, n_0lt, n_le0, zb_0, zb_1, if_pos, if_neg, ↓reduceIte, nK, u1, c1, told (2 * i) (by omega), b1, c2, c3, fX11_check_122]
        · simp (disch := omega) only [ltE, bnE, bn2E, gdE, nc, nI_add, n_mul, n_sub, ib_nI, up_hit, up_miss, n_le, n_lt, n_eq, n_eq0, n_lt0, n_0le, n_0lt, n_le0, zb_0, zb_1, if_pos, if_neg, ↓reduceIte, nK, u2, c1, c2, c3, fX12_check_103, fX12_check_104, fX12_check_142, fX12_check_143, Nat.add_zero, y2]
      by_cases c4 : m' 129 (2 * i + 1) = m' 108 8
      · refine Or.inr ⟨f', m', ?_, ?_, u3, u7, by omega, x4, x5, x6⟩
        · simp (disch := omega) only [ltE, bnE, bn2E, gdE, nc, nI_add, n_mul, n_sub, ib_nI, up_hit, up_miss, n_le, n_lt, n_eq, n_eq0, n_lt0, n_0le, n_0lt, n_le0, zb_0, zb_1, if_pos, if_neg, ↓reduceIte, nK, u1, c1, told (2 * i) (by omega), told (2 * i + 1) (by omega), b1, b2, c2, c3, c4]
        · simp (disch := omega) only [ltE, bnE, bn2E, gdE, nc, nI_add, n_mul, n_sub, ib_nI, up_hit, up_miss, n_le, n_lt, n_eq, n_eq0, n_lt0, n_0le, n_0lt, n_le0, zb_0, zb_1, if_pos, if_neg, ↓reduceIte, nK, u2, c1, c2, c3, c4, fX12_check_103, fX12_check_104, fX12_check_142, fX12_check_143, Nat.add_zero, show 2 * (i + 1) = 2 * i + 1 + 1 from by omega]
      · refine Or.inl ⟨(nI (2 + 2 * i), f'), (nI (2 + 2 * i), t2), ?_, ?_, rfl, u3.room, x4, x5, z2, z4⟩
        · simp (disch := omega) only [ltE, bnE, bn2E, gdE, nc, nI_add, n_mul, n_sub, ib_nI, up_hit, up_miss, n_le, n_lt, n_eq, n_eq0, n_lt0, n_0le, n_0lt, n_le0, zb_0, zb_1, if_pos, if_neg, ↓reduceIte, nK, u1, c1, told (2 * i) (by omega), told (2 * i + 1) (by omega), b1, b2, c2, c3, c4, fX11_check_122]
        · simp (disch := omega) only [ltE, bnE, bn2E, gdE, nc, nI_add, n_mul, n_sub, ib_nI, up_hit, up_miss, n_le, n_lt, n_eq, n_eq0, n_lt0, n_0le, n_0lt, n_le0, zb_0, zb_1, if_pos, if_neg, ↓reduceIte, nK, u2, c1, c2, c3, c4, fX12_check_103, fX12_check_104, fX12_check_142, fX12_check_143, Nat.add_zero, y2]
    · refine Or.inl ⟨(nI (1 + 2 * i), f'), (nI (1 + 2 * i), t1), ?_, ?_, rfl, u3.room, x4, x5, z1, z3⟩
      · simp (disch := omega) only [ltE, bnE, bn2E, gdE, nc, nI_add, n_mul, n_sub, ib_nI, up_hit, up_miss, n_le, n_lt, n_eq, n_eq0, n_lt0, n_0le, n_0lt, n_le0, zb_0, zb_1, if_pos, if_neg, ↓reduceIte, nK, u1, c1, told (2 * i) (by omega), b1, c2, fX11_check_84]
      · simp (disch := omega) only [ltE, bnE, bn2E, gdE, nc, nI_add, n_mul, n_sub, ib_nI, up_hit, up_miss, n_le, n_lt, n_eq, n_eq0, n_lt0, n_0le, n_0lt, n_le0, zb_0, zb_1, if_pos, if_neg, ↓reduceIte, nK, u2, c1, c2, fX12_check_103, fX12_check_104, fX12_check_142, fX12_check_143, Nat.add_zero, n21, y1]
theorem s_check (hn : 2000 ≤ n) : SP_check Inv n := by
  intro N f m a1 hI
  obtain ⟨hN, hW, hO⟩ := hI
  obtain ⟨T, T1, T2, T3, T4⟩ := hO.2.2.2.1
  have hI1 : Inv N (up f 0 7 (nI 0)) (up m 107 33 (nI 0)) := by
    refine ⟨hN, ?_, hO.mk2 ⟨?_, ?_⟩ ⟨0, by omega, up_hit, up_hit, fun i hi => by omega⟩ ?_ (fun k hk => by rw [up_rn (by omega)]) (fun k hk => by rw [up_rn (by omega)]) (by rw [up_miss (by omega)])⟩
    · rw [up_rn (by omega)]; exact hW.cg (fun k a b => by rw [up_rn (by omega)]) (lwSame.of (fun k hk => by rw [up_rn (by omega)])) (fun _ => rfl)
    · rw [up_rn (by omega)]; exact hO.1.1
    · rw [up_miss (by omega), up_miss (by omega), up_rn (by omega)]
      exact hO.1.2.elim Or.inl (fun q => Or.inr ⟨q.1, q.2.1, q.2.2.1.cg (fun k a b => by rw [up_rn (by omega)]) (lwSame.of (fun k hk => by rw [up_rn (by omega)])) (fun _ => rfl), q.2.2.2⟩)
    · unfold cRm
      rw [up_rn (by omega), up_rn (by omega), up_rn (by omega), up_rn (by omega)]
      exact hO.2.2.2.2.2.2
  unfold fX11_check fX12_check
  simp (disch := omega) only [ltE, bnE, bn2E, gdE, nc, nI_add, n_mul, n_sub, ib_nI, up_hit, up_miss, n_le, n_lt, n_eq, n_eq0, n_lt0, n_0le, n_0lt, n_le0, zb_0, zb_1, if_pos, if_neg, ↓reduceIte, Nat.reduceAdd, Nat.reduceMul, Nat.reduceSub, ite_inL, r_inB, bI_ite, T2, T3]
  cases hb : inB a1 (nI 1) (nI 30)
  · exact ⟨_, _, _, rfl, rfl, hI1⟩
  obtain ⟨K, k1, k2, rfl⟩ := inB_r (by omega) (by omega) hb
  simp only [cond_true]
  rcases hO.1.2 with ⟨i1, i2⟩ | ⟨i1, i2, i3, i4⟩
  · rw [if_pos i1, if_pos i2]
    exact ⟨_, _, _, rfl, rfl, hI1⟩
  · have j1 : ¬ f 0 3 = 0 := by rw [i1]; decide
    have j2 : ¬ m 107 3 = 0 := by rw [i2]; decide
    rw [if_neg j1, if_neg j2]
    exact chk hn hI1 (by rw [up_miss (by omega)]; exact j1) k2 T1 (fun i hi => by rw [up_rn (by omega), up_rn (by omega)]; exact T4 i hi)
end WC
