/-! the soonest, both -/
section SP
variable {n : Nat}
theorem MM.mono {a : Nat → Int32} {D B v C C' : Nat} {r : Nat → Int32} (h : MM a D B v C r) (hc : C' ≤ C) : MM a D B v C' r := fun z hz => by
  rcases h z hz with e | e | ⟨e, e2⟩
  · exact Or.inl e
  · exact Or.inr (Or.inl e)
  · exact Or.inr (Or.inr ⟨e, by omega⟩)
theorem s_soonest (hn : 2000 ≤ n) : SP_soonest Inv n := by
  intro N f m a1 a2 a3 hI
  have hI' := hI
  obtain ⟨hN, ⟨h0, nC, nw, ns, nk, ny, no, nt, h1, h2, h3, h4, h5, h6, h7⟩, hO⟩ := hI
  have hW := hI'.2.1
  have hA := hW.okA
  have hL := hW.okL
  obtain ⟨D, D1, D2⟩ := h0.2.2.2.2.2.2.1
  obtain ⟨B, B1, B2⟩ := h0.2.2.2.2.2.2.2.1
  unfold fX11_soonest fX12_soonest
  simp only [bnE, r_inB, ite_in2, ite_in, bI_ite, show ∀ x, fX11_isSum n x = some (bI (inB x (nI 0) (nI 9999))) from fun x => (rfl : fX11_isSum n x = fX12_in n x (nI 0) (nI 9999)).trans (r_inB (n := n))]
  cases hb : inB a1 (nI 0) (nI 9999)
  · exact ⟨_, f, m, rfl, rfl, hI'⟩
  cases hb2 : inB a2 (nI 0) (nI 10000)
  · exact ⟨_, f, m, rfl, rfl, hI'⟩
  cases hb3 : inB a3 (nI 0) (nI 2)
  · exact ⟨_, f, m, rfl, rfl, hI'⟩
  obtain ⟨V, _, V1, rfl⟩ := inB_r (by omega) (by omega) hb
  obtain ⟨v, _, v1, rfl⟩ := inB_r (by omega) (by omega) hb2
  obtain ⟨w, _, w1, rfl⟩ := inB_r (by omega) (by omega) hb3
  simp only [cond_true]
  have g1 := h6.1
  have g3 : m 108 12 = nI no := h6.2.2.1
  obtain ⟨p1, p2, p3⟩ := shl8 no (by omega)
  obtain ⟨f1, e1, u1, u2, u3⟩ := c_look (n := n) hn hW D2
  obtain ⟨m1, e2, k1, k2⟩ := r_look (n := n) (x := nI V) (y := nI v) (z := nI w) hn hA D2
  have m8 : m1 108 = m 108 := k2 108 (by omega) (by omega)
  rw [e2]
  have L := loopSim (fun q i (s : Mm) => fX0_choosesSoonest_28L n N 103 1 q (nI V) (nI v) (nI (2 ^ no)) (nI i) s) (fun q i (x : Int32 × Int32 × Int32 × Mm) => fX12_soonest_103L n q (nI V) (nI v) (nI w) x.1 x.2.1 x.2.2.1 (nI i) x.2.2.2) (2 ^ no)
    (fun i s x => ∃ b C p, C ≤ 61 ∧ p ≤ 7992 ∧ x.1 = nI b ∧ x.2.1 = nI C ∧ x.2.2.1 = nI p ∧ s 103 0 = nI b ∧ s 103 3 = nI C ∧ s 103 2 = nI p ∧ MM (m 108) D B v C (s 106) ∧ s 104 = f1 104 ∧ s 105 = f1 105 ∧ (∀ k, k < 103 → s k = f k) ∧ lwSame N f s ∧ mS m1 x.2.2.2)
    (fun r p => (∃ b C p', C ≤ 61 ∧ r.2 103 0 = nI b ∧ r.2 103 3 = nI C ∧ r.2 103 2 = nI p' ∧ r.1 = (if 60 < C then nI 0 else nI 1) ∧ p.1 = (if 60 < C then (-1000000005) else if w = 0 then nI b else if w = 1 then nI C else nI p')) ∧ (∀ k, k < 103 → r.2 k = f k) ∧ lwSame N f r.2 ∧ mS m1 p.2) ?_ ?_ n 0 (up (up (up (up f1 103 0 (nI 0)) 103 1 (nI 0)) 103 2 (nI 0)) 103 3 (nI 61)) (nI 0, nI 61, nI 0, m1) (by omega) (by omega) ⟨0, 61, 0, by omega, by omega, rfl, rfl, rfl, by simp (disch := omega) only [ltE, bnE, bn2E, gdE, nc, nI_add, n_mul, n_sub, ib_nI, up_hit, up_miss, n_le, n_lt, n_eq, n_eq0, n_lt0, n_0le, n_0lt, n_le0, zb_0, zb_1, if_pos, if_neg, ↓reduceIte, Nat.reduceAdd, Nat.reduceMul, Nat.reduceSub], by simp (disch := omega) only [ltE, bnE, bn2E, gdE, nc, nI_add, n_mul, n_sub, ib_nI, up_hit, up_miss, n_le, n_lt, n_eq, n_eq0, n_lt0, n_0le, n_0lt, n_le0, zb_0, zb_1, if_pos, if_neg, ↓reduceIte, Nat.reduceAdd, Nat.reduceMul, Nat.reduceSub], by simp (disch := omega) only [ltE, bnE, bn2E, gdE, nc, nI_add, n_mul, n_sub, ib_nI, up_hit, up_miss, n_le, n_lt, n_eq, n_eq0, n_lt0, n_0le, n_0lt, n_le0, zb_0, zb_1, if_pos, if_neg, ↓reduceIte, Nat.reduceAdd, Nat.reduceMul, Nat.reduceSub], ?_, by (simp (disch := omega) only [up_rn]), by (simp (disch := omega) only [up_rn]), fun k hk => by simp (disch := omega) only [up_rn]; exact u3 k (by omega) (by omega) (by omega), lwSame.of (fun k hk => by simp (disch := omega) only [up_rn]; exact u3 k (by omega) (by omega) (by omega)), fun _ _ _ => rfl⟩
  · obtain ⟨⟨r, f2⟩, ⟨p, m2⟩, c1, c2, ⟨b, C, p', hC, s0, s3, s2, hr, hp⟩, z1, z2, z3⟩ := L
    dsimp only at s0 s3 s2 hr hp z1 z2 z3 c1 c2
    have g22 : f1 22 2 = nI no := by rw [u3 22 (by omega) (by omega) (by omega)]; exact h6.2.1
    refine ⟨p, f2, m2, ?_, c2, hI'.buy z1 z2 (fun k a b c d => (z3 k a b).trans (k2 k c d))⟩
    have E : fX0_choosesSoonest n N 103 1 (nI V) (nI v) f = some (r, f2) := by
      unfold fX0_choosesSoonest fX0_choose
      simp (disch := omega) only [ltE, bnE, bn2E, gdE, nc, nI_add, n_mul, n_sub, ib_nI, up_hit, up_miss, n_le, n_lt, n_eq, n_eq0, n_lt0, n_0le, n_0lt, n_le0, zb_0, zb_1, if_pos, if_neg, ↓reduceIte, Nat.reduceAdd, Nat.reduceMul, Nat.reduceSub, e1, g22, p1]
      exact c1
    rw [E, hp]
    have hw : w = 0 ∨ w = 1 ∨ w = 2 := by omega
    by_cases q : 60 < C
    · rw [if_pos q] at hr
      rw [if_pos q, hr]; simp (disch := omega) only [ltE, bnE, bn2E, gdE, nc, nI_add, n_mul, n_sub, ib_nI, up_hit, up_miss, n_le, n_lt, n_eq, n_eq0, n_lt0, n_0le, n_0lt, n_le0, zb_0, zb_1, if_pos, if_neg, ↓reduceIte, Nat.reduceAdd, Nat.reduceMul, Nat.reduceSub]
    · rw [if_neg q] at hr
      rw [if_neg q, hr]
      rcases hw with rfl | rfl | rfl <;> simp (disch := omega) only [ltE, bnE, bn2E, gdE, nc, nI_add, n_mul, n_sub, ib_nI, up_hit, up_miss, n_le, n_lt, n_eq, n_eq0, n_lt0, n_0le, n_0lt, n_le0, zb_0, zb_1, if_pos, if_neg, ↓reduceIte, Nat.reduceAdd, Nat.reduceMul, Nat.reduceSub, s0, s3, s2, Nat.one_ne_zero, Nat.reduceEqDiff]
  · rintro q s ⟨x, y, z, t⟩ ⟨b, C, p, hC, hp, rfl, rfl, rfl, s0, s3, s2, hM, s4, s5, s6, s7, ht⟩
    have t8 : t 108 = m 108 := (ht 108 (by decide) (by decide)).trans m8
    refine ⟨(if 60 < C then nI 0 else nI 1, s), (if 60 < C then (-1000000005) else if w = 0 then nI b else if w = 1 then nI C else nI p, t), ?_, ?_, ⟨b, C, p, hC, s0, s3, s2, rfl, rfl⟩, s6, s7, ht⟩
    · show fX0_choosesSoonest_28 n N 103 1 (fX0_choosesSoonest_28L n N 103 1 q) (nI V) (nI v) (nI (2 ^ no)) (nI (2 ^ no)) s = _
      unfold fX0_choosesSoonest_28
      by_cases q : 60 < C
      · simp (disch := omega) only [ltE, bnE, bn2E, gdE, nc, nI_add, n_mul, n_sub, ib_nI, up_hit, up_miss, n_le, n_lt, n_eq, n_eq0, n_lt0, n_0le, n_0lt, n_le0, zb_0, zb_1, if_pos, if_neg, ↓reduceIte, Nat.reduceAdd, Nat.reduceMul, Nat.reduceSub, Nat.le_refl, s3, q]
      · simp (disch := omega) only [ltE, bnE, bn2E, gdE, nc, nI_add, n_mul, n_sub, ib_nI, up_hit, up_miss, n_le, n_lt, n_eq, n_eq0, n_lt0, n_0le, n_0lt, n_le0, zb_0, zb_1, if_pos, if_neg, ↓reduceIte, Nat.reduceAdd, Nat.reduceMul, Nat.reduceSub, Nat.le_refl, s3, q]
    · show fX12_soonest_103 n (fX12_soonest_103L n q) (nI V) (nI v) (nI w) (nI b) (nI C) (nI p) (nI (2 ^ no)) t = _
      unfold fX12_soonest_103
      have hw : w = 0 ∨ w = 1 ∨ w = 2 := by omega
      by_cases q : 60 < C
      · simp (disch := omega) only [ltE, bnE, bn2E, gdE, nc, nI_add, n_mul, n_sub, ib_nI, up_hit, up_miss, n_le, n_lt, n_eq, n_eq0, n_lt0, n_0le, n_0lt, n_le0, zb_0, zb_1, if_pos, if_neg, ↓reduceIte, Nat.reduceAdd, Nat.reduceMul, Nat.reduceSub, t8, g3, p1, Nat.le_refl, q, show ¬ C ≤ 60 from by omega]
      · rcases hw with rfl | rfl | rfl <;> simp (disch := omega) only [ltE, bnE, bn2E, gdE, nc, nI_add, n_mul, n_sub, ib_nI, up_hit, up_miss, n_le, n_lt, n_eq, n_eq0, n_lt0, n_0le, n_0lt, n_le0, zb_0, zb_1, if_pos, if_neg, ↓reduceIte, Nat.reduceAdd, Nat.reduceMul, Nat.reduceSub, t8, g3, p1, Nat.le_refl, q, show C ≤ 60 from by omega, Nat.one_ne_zero, Nat.reduceEqDiff]
  · rintro q i s ⟨x, y, z, t⟩ hi ⟨b, C, p, hC, hp, rfl, rfl, rfl, s0, s3, s2, hM, s4, s5, s6, s7, ht⟩
    refine Or.inr ?_
    have ht : mS m1 t := ht
    have ki : ¬ 2 ^ no ≤ i := by omega
    have t8 : t 108 = m 108 := (ht 108 (by decide) (by decide)).trans m8
    have hs6 : cOf s 1 (m 108) no := h6.cg (by rw [s6 _ (by omega)]) (s6 _ (by omega)) (s6 _ (by omega)) (fun _ _ => rfl)
    have ht6 : cOf s 1 (t 108) no := by rw [t8]; exact hs6
    have c1 : fX11_sumOf n 24 8 (nI i) s = some (nI (sw (m 108) 1 i no)) := c_sumOf (n := n) (w := 1) hn hs6 hi (by omega)
    have c0 : fX11_sumOf n 23 8 (nI i) s = some (nI (sw (m 108) 0 i no)) := c_sumOf (n := n) (w := 0) hn hs6 hi (by omega)
    have r1 : fX12_sumOf n (nI i) (nI 1) t = some (nI (sw (m 108) 1 i no)) := by rw [← t8]; exact r_sumOf hn ht6 (show i < 256 by omega) (by omega)
    have r0 : fX12_sumOf n (nI i) (nI 0) t = some (nI (sw (m 108) 0 i no)) := by rw [← t8]; exact r_sumOf hn ht6 (show i < 256 by omega) (by omega)
    have z1 := sw_sz (x := i) h6
    have z3 := sw_pr (x := i) h6
    generalize hS : sw (m 108) 0 i no = S at *
    generalize hP : sw (m 108) 1 i no = P at *
    have cF : fX0_choosesSoonest_28L n N 103 1 (q + 1) (nI V) (nI v) (nI (2 ^ no)) (nI i) s = fX0_choosesSoonest_28 n N 103 1 (fX0_choosesSoonest_28L n N 103 1 q) (nI V) (nI v) (nI (2 ^ no)) (nI i) s := rfl
    have cK : fX12_soonest_103L n (q + 1) (nI V) (nI v) (nI w) (nI b) (nI C) (nI p) (nI i) t = fX12_soonest_103 n (fX12_soonest_103L n q) (nI V) (nI v) (nI w) (nI b) (nI C) (nI p) (nI i) t := rfl
    simp only [cF, cK]
    unfold fX0_choosesSoonest_28 fX12_soonest_103
    simp (disch := omega) only [Nat.reduceAdd, t8, g3, nc, p1, n_le, ki, if_false, c1, c0, r1, r0, bnE, n_lt]
    by_cases y1 : V < P
    · simp only [y1, if_true]
      exact ⟨s, (nI b, nI C, nI p, t), by simp (disch := omega) only [ltE, bnE, bn2E, gdE, nc, nI_add, n_mul, n_sub, ib_nI, up_hit, up_miss, n_le, n_lt, n_eq, n_eq0, n_lt0, n_0le, n_0lt, n_le0, zb_0, zb_1, if_pos, if_neg, ↓reduceIte, Nat.reduceAdd, Nat.reduceMul, Nat.reduceSub, fX0_choosesSoonest_118], by simp (disch := omega) only [ltE, bnE, bn2E, gdE, nc, nI_add, n_mul, n_sub, ib_nI, up_hit, up_miss, n_le, n_lt, n_eq, n_eq0, n_lt0, n_0le, n_0lt, n_le0, zb_0, zb_1, if_pos, if_neg, ↓reduceIte, Nat.reduceAdd, Nat.reduceMul, Nat.reduceSub, fX12_soonest_179], b, C, p, hC, hp, rfl, rfl, rfl, s0, s3, s2, hM, s4, s5, s6, s7, ht⟩
    simp only [y1, if_false]
    have hWs : RW N s 1 (m 108) := hW.cg (fun k a b => s6 k (by omega)) s7 (fun _ => rfl)
    obtain ⟨r, s', o1, o2, o3, o4, o5⟩ := c_daysOf (n := n) (z := S) hn hN hWs D2 B1 B2 v1 (by omega) s3 hC (fun j hj => by rw [s4, s5]; exact u1 j hj) hM
    have h9t : ∀ j, j < 60 → t 119 j = seenS (t 108) (nI (D + j)) ∧ t 120 j = bI (fitOnS (t 108) (nI (D + j))) := fun j hj => by
      rw [t8, ht 119 (by decide) (by decide), ht 120 (by decide) (by decide)]; exact k1 j hj
    obtain ⟨t', l1, l2⟩ := r_days (n := n) (s := S) (v := v) hn (by rw [t8]; exact hA) (by rw [t8]; exact hL) (by rw [t8]; exact D2) B1 (by rw [t8]; exact B2) v1 h9t
    rw [t8] at l1
    obtain ⟨d1, d2⟩ := dG_b (g := bW (m 108) D B S) (v := v) 60 0 (by omega)
    generalize hd : dG (bW (m 108) D B S) v 60 0 = d at *
    have q3 : s' 103 3 = nI C := by rw [o4 103 (by omega) (by omega)]; exact s3
    have q2 : s' 103 2 = nI p := by rw [o4 103 (by omega) (by omega)]; exact s2
    have q0 : s' 103 0 = nI b := by rw [o4 103 (by omega) (by omega)]; exact s0
    have q4 : s' 104 = f1 104 := (o4 104 (by omega) (by omega)).trans s4
    have q5 : s' 105 = f1 105 := (o4 105 (by omega) (by omega)).trans s5
    have q6 : ∀ k, k < 103 → s' k = f k := fun k hk => (o4 k (by omega) (by omega)).trans (s6 k hk)
    have q7 : lwSame N f s' := s7.trans o5
    have q8 : mS m1 t' := ht.trans l2
    have stay : ∃ b' C' p', C' ≤ 61 ∧ p' ≤ 7992 ∧ (nI b, nI C, nI p, t').1 = nI b' ∧ (nI b, nI C, nI p, t').2.1 = nI C' ∧ (nI b, nI C, nI p, t').2.2.1 = nI p' ∧ s' 103 0 = nI b' ∧ s' 103 3 = nI C' ∧ s' 103 2 = nI p' ∧ MM (m 108) D B v C' (s' 106) ∧ s' 104 = f1 104 ∧ s' 105 = f1 105 ∧ (∀ k, k < 103 → s' k = f k) ∧ lwSame N f s' ∧ mS m1 (nI b, nI C, nI p, t').2.2.2 :=
      ⟨b, C, p, hC, hp, rfl, rfl, rfl, q0, q3, q2, o3, q4, q5, q6, q7, q8⟩
    rcases o2 with o2 | ⟨o2, o6⟩
    · subst o2
      by_cases y2 : r < C
      · refine ⟨up (up (up (up s' 103 0 (nI i)) 103 1 (nI S)) 103 2 (nI P)) 103 3 (nI r), (nI i, nI r, nI P, t'), ?_, ?_, i, r, P, d2, by omega, rfl, rfl, rfl, by simp (disch := omega) only [ltE, bnE, bn2E, gdE, nc, nI_add, n_mul, n_sub, ib_nI, up_hit, up_miss, n_le, n_lt, n_eq, n_eq0, n_lt0, n_0le, n_0lt, n_le0, zb_0, zb_1, if_pos, if_neg, ↓reduceIte, Nat.reduceAdd, Nat.reduceMul, Nat.reduceSub], by simp (disch := omega) only [ltE, bnE, bn2E, gdE, nc, nI_add, n_mul, n_sub, ib_nI, up_hit, up_miss, n_le, n_lt, n_eq, n_eq0, n_lt0, n_0le, n_0lt, n_le0, zb_0, zb_1, if_pos, if_neg, ↓reduceIte, Nat.reduceAdd, Nat.reduceMul, Nat.reduceSub], by simp (disch := omega) only [ltE, bnE, bn2E, gdE, nc, nI_add, n_mul, n_sub, ib_nI, up_hit, up_miss, n_le, n_lt, n_eq, n_eq0, n_lt0, n_0le, n_0lt, n_le0, zb_0, zb_1, if_pos, if_neg, ↓reduceIte, Nat.reduceAdd, Nat.reduceMul, Nat.reduceSub], by simp (disch := omega) only [up_rn]; exact o3.mono (by omega), by (simp (disch := omega) only [up_rn]); exact q4, by (simp (disch := omega) only [up_rn]); exact q5, fun k hk => by (simp (disch := omega) only [up_rn]); exact q6 k hk, q7.trans (lwSame.of (fun k hk => by (simp (disch := omega) only [up_rn]))), q8⟩
        · simp (disch := omega) only [ltE, bnE, bn2E, gdE, nc, nI_add, n_mul, n_sub, ib_nI, up_hit, up_miss, n_le, n_lt, n_eq, n_eq0, n_lt0, n_0le, n_0lt, n_le0, zb_0, zb_1, if_pos, if_neg, ↓reduceIte, Nat.reduceAdd, Nat.reduceMul, Nat.reduceSub, o1, q3, y2, fX0_choosesSoonest_106, fX0_choosesSoonest_118, fX0_choose]
        · simp (disch := omega) only [ltE, bnE, bn2E, gdE, nc, nI_add, n_mul, n_sub, ib_nI, up_hit, up_miss, n_le, n_lt, n_eq, n_eq0, n_lt0, n_0le, n_0lt, n_le0, zb_0, zb_1, if_pos, if_neg, ↓reduceIte, Nat.reduceAdd, Nat.reduceMul, Nat.reduceSub, l1, y2, fX12_soonest_167, fX12_soonest_179]
      by_cases y3 : r = C
      · by_cases y4 : p ≤ P
        · refine ⟨s', (nI b, nI C, nI p, t'), ?_, ?_, stay⟩
          · simp (disch := omega) only [ltE, bnE, bn2E, gdE, nc, nI_add, n_mul, n_sub, ib_nI, up_hit, up_miss, n_le, n_lt, n_eq, n_eq0, n_lt0, n_0le, n_0lt, n_le0, zb_0, zb_1, if_pos, if_neg, ↓reduceIte, Nat.reduceAdd, Nat.reduceMul, Nat.reduceSub, o1, q3, q2, y2, y3, y4, Nat.lt_irrefl, fX0_choosesSoonest_106, fX0_choosesSoonest_118, fX0_choose]
          · simp (disch := omega) only [ltE, bnE, bn2E, gdE, nc, nI_add, n_mul, n_sub, ib_nI, up_hit, up_miss, n_le, n_lt, n_eq, n_eq0, n_lt0, n_0le, n_0lt, n_le0, zb_0, zb_1, if_pos, if_neg, ↓reduceIte, Nat.reduceAdd, Nat.reduceMul, Nat.reduceSub, l1, y2, y3, y4, Nat.lt_irrefl, fX12_soonest_167, fX12_soonest_179]
        · refine ⟨up (up (up (up s' 103 0 (nI i)) 103 1 (nI S)) 103 2 (nI P)) 103 3 (nI r), (nI i, nI r, nI P, t'), ?_, ?_, i, r, P, d2, by omega, rfl, rfl, rfl, by simp (disch := omega) only [ltE, bnE, bn2E, gdE, nc, nI_add, n_mul, n_sub, ib_nI, up_hit, up_miss, n_le, n_lt, n_eq, n_eq0, n_lt0, n_0le, n_0lt, n_le0, zb_0, zb_1, if_pos, if_neg, ↓reduceIte, Nat.reduceAdd, Nat.reduceMul, Nat.reduceSub], by simp (disch := omega) only [ltE, bnE, bn2E, gdE, nc, nI_add, n_mul, n_sub, ib_nI, up_hit, up_miss, n_le, n_lt, n_eq, n_eq0, n_lt0, n_0le, n_0lt, n_le0, zb_0, zb_1, if_pos, if_neg, ↓reduceIte, Nat.reduceAdd, Nat.reduceMul, Nat.reduceSub], by simp (disch := omega) only [ltE, bnE, bn2E, gdE, nc, nI_add, n_mul, n_sub, ib_nI, up_hit, up_miss, n_le, n_lt, n_eq, n_eq0, n_lt0, n_0le, n_0lt, n_le0, zb_0, zb_1, if_pos, if_neg, ↓reduceIte, Nat.reduceAdd, Nat.reduceMul, Nat.reduceSub], by simp (disch := omega) only [up_rn]; exact o3.mono (by omega), by (simp (disch := omega) only [up_rn]); exact q4, by (simp (disch := omega) only [up_rn]); exact q5, fun k hk => by (simp (disch := omega) only [up_rn]); exact q6 k hk, q7.trans (lwSame.of (fun k hk => by (simp (disch := omega) only [up_rn]))), q8⟩
          · simp (disch := omega) only [ltE, bnE, bn2E, gdE, nc, nI_add, n_mul, n_sub, ib_nI, up_hit, up_miss, n_le, n_lt, n_eq, n_eq0, n_lt0, n_0le, n_0lt, n_le0, zb_0, zb_1, if_pos, if_neg, ↓reduceIte, Nat.reduceAdd, Nat.reduceMul, Nat.reduceSub, o1, q3, q2, y2, y3, y4, Nat.lt_irrefl, fX0_choosesSoonest_106, fX0_choosesSoonest_118, fX0_choose]
          · simp (disch := omega) only [ltE, bnE, bn2E, gdE, nc, nI_add, n_mul, n_sub, ib_nI, up_hit, up_miss, n_le, n_lt, n_eq, n_eq0, n_lt0, n_0le, n_0lt, n_le0, zb_0, zb_1, if_pos, if_neg, ↓reduceIte, Nat.reduceAdd, Nat.reduceMul, Nat.reduceSub, l1, y2, y3, y4, Nat.lt_irrefl, fX12_soonest_167, fX12_soonest_179]
      · refine ⟨s', (nI b, nI C, nI p, t'), ?_, ?_, stay⟩
        · simp (disch := omega) only [ltE, bnE, bn2E, gdE, nc, nI_add, n_mul, n_sub, ib_nI, up_hit, up_miss, n_le, n_lt, n_eq, n_eq0, n_lt0, n_0le, n_0lt, n_le0, zb_0, zb_1, if_pos, if_neg, ↓reduceIte, Nat.reduceAdd, Nat.reduceMul, Nat.reduceSub, o1, q3, q2, y2, y3, fX0_choosesSoonest_106, fX0_choosesSoonest_118, fX0_choose]
        · simp (disch := omega) only [ltE, bnE, bn2E, gdE, nc, nI_add, n_mul, n_sub, ib_nI, up_hit, up_miss, n_le, n_lt, n_eq, n_eq0, n_lt0, n_0le, n_0lt, n_le0, zb_0, zb_1, if_pos, if_neg, ↓reduceIte, Nat.reduceAdd, Nat.reduceMul, Nat.reduceSub, l1, y2, y3, fX12_soonest_167, fX12_soonest_179]
    · subst o2
      refine ⟨s', (nI b, nI C, nI p, t'), ?_, ?_, stay⟩
      · simp (disch := omega) only [ltE, bnE, bn2E, gdE, nc, nI_add, n_mul, n_sub, ib_nI, up_hit, up_miss, n_le, n_lt, n_eq, n_eq0, n_lt0, n_0le, n_0lt, n_le0, zb_0, zb_1, if_pos, if_neg, ↓reduceIte, Nat.reduceAdd, Nat.reduceMul, Nat.reduceSub, o1, q3, q2, show ¬ 61 < C from by omega, show ¬ 61 = C from by omega, fX0_choosesSoonest_106, fX0_choosesSoonest_118, fX0_choose]
      · simp (disch := omega) only [ltE, bnE, bn2E, gdE, nc, nI_add, n_mul, n_sub, ib_nI, up_hit, up_miss, n_le, n_lt, n_eq, n_eq0, n_lt0, n_0le, n_0lt, n_le0, zb_0, zb_1, if_pos, if_neg, ↓reduceIte, Nat.reduceAdd, Nat.reduceMul, Nat.reduceSub, l1, show ¬ d < C from by omega, show ¬ d = C from by omega, fX12_soonest_167, fX12_soonest_179]
  · rw [up_rn (by omega), up_rn (by omega), up_rn (by omega), up_rn (by omega)]
    exact fun z hz => Or.inl (u2 z hz)
end SP
