/-! days ahead -/
def goesS (a : Nat → Int32) (B : Nat) (d : Int32) : Nat := belN B (rateS a (seenS a d) d) (knockS a (seenS a d) d) (fitOnS a d)
theorem goesS_le {a : Nat → Int32} {B : Nat} {d : Int32} (h : B ≤ 10000) : goesS a B d ≤ 10000 := belN_le h
theorem mS.refl {m : Mm} : mS m m := fun _ _ _ => rfl
theorem Inv.q {N : Nat} {f f' m m' : Mm} (h : Inv N f m) (hf : fS N f f') (hm : mS m m') : Inv N f' m' :=
  h.w (by rw [hm 108 (by decide) (by decide)]; exact h.2.1.fS (by omega) hf) (fun k hk => hf.1 k (by omega)) hf.2 (fun k _ _ h1 h2 _ _ => hm k h1 h2) (by rw [hm 108 (by decide) (by decide)])
section D1
variable {N o n : Nat} {f m : Mm} {a : Nat → Int32}
theorem r_goesOn {B : Nat} {d : Int32} (hn : 2000 ≤ n) (hA : okA (m 108)) (hL : okL (m 108)) (hB : B ≤ 10000) : ∃ m', fX12_goesOn n (nI B) d m = some (nI (goesS (m 108) B d), m') ∧ mS m m' := by
  unfold fX12_goesOn
  obtain ⟨m1, e1, h1, _⟩ := r_rateBy (n := n) (m := m) (s := seenS (m 108) d) (d := d) hn hL
  have q1 : m1 108 = m 108 := h1 108 (by decide) (by decide)
  obtain ⟨m2, e2, h2⟩ := r_knockBy (n := n) (m := m1) (s := seenS (m 108) d) (d := d) hn (by rw [q1]; exact hL)
  have q2 : m2 108 = m 108 := (h2 108 (by decide) (by decide)).trans q1
  refine ⟨m2, ?_, h1.trans h2⟩
  have e3 := q_fitsOn (n := n) (m := m2) (d := d) hn (by rw [q2]; exact hA)
  rw [q2] at e3
  rw [q1] at e2
  have r1 := rateS_le (a := m 108) (s := seenS (m 108) d) (d := d)
  have r2 := knockS_le (a := m 108) (s := seenS (m 108) d) (d := d)
  simp (disch := omega) only [lt_eq, bn_s, bn2_s, gd_t, nc, nI_add, n_mul, n_sub, ib_nI, up_hit, up_miss, n_le, n_lt, n_eq, n_eq0, n_lt0, n_0le, n_0lt, n_le0, zb_0, zb_1, if_pos, if_neg, ↓reduceIte, q_seenOn hn hA, e1, e2, e3, r_believed hB (show rateS (m 108) (seenS (m 108) d) d ≤ 1000 by omega) (show knockS (m 108) (seenS (m 108) d) d ≤ 1000 by omega)]
  rfl
theorem c_goesOn {B : Nat} {d : Int32} (hn : 2000 ≤ n) (hN : N ≤ 65) (h : RW N f o a) (ho : o + 24 ≤ 130) (hB : B ≤ 10000) : ∃ f', fX10_believedBehind n N o (nI B) d f = some (nI (goesS a B d), f') ∧ fS N f f' := by
  unfold fX10_believedBehind
  obtain ⟨f1, e1, h1⟩ := c_rateOn (n := n) (s := seenS a d) (d := d) hn hN h ho
  obtain ⟨f2, e2, h2⟩ := c_knockOn (n := n) (s := seenS a d) (d := d) hn hN (h.fS ho h1) ho
  refine ⟨f2, ?_, h1.trans h2⟩
  have e3 := c_hasFit (n := n) (d := d) hn (h.fS ho (h1.trans h2))
  have r1 := rateS_le (a := a) (s := seenS a d) (d := d)
  have r2 := knockS_le (a := a) (s := seenS a d) (d := d)
  simp (disch := omega) only [lt_eq, bn_s, bn2_s, gd_t, nc, nI_add, n_mul, n_sub, ib_nI, up_hit, up_miss, n_le, n_lt, n_eq, n_eq0, n_lt0, n_0le, n_0lt, n_le0, zb_0, zb_1, if_pos, if_neg, ↓reduceIte, c_seenOn hn h, e1, e2, e3, c_believed hB (show rateS a (seenS a d) d ≤ 1000 by omega) (show knockS a (seenS a d) d ≤ 1000 by omega)]
  rfl
end D1
section D2
variable {n : Nat}
theorem s_news (hn : 2000 ≤ n) : SP_news Inv n := by
  intro N f m a1 a2 hI
  have hW := hI.2.1
  unfold fX11_news fX12_news
  obtain ⟨f1, c1, c2⟩ := c_rateOn (n := n) (s := seenS (m 108) a1) (d := a1) hn hI.1 hW (by omega)
  obtain ⟨f2, d1, d2⟩ := c_knockOn (n := n) (s := seenS (m 108) a1) (d := a1) hn hI.1 hW (by omega)
  obtain ⟨m1, t1, t2, _⟩ := r_rateBy (n := n) (m := m) (s := seenS (m 108) a1) (d := a1) hn hW.okL
  obtain ⟨m2, u1, u2⟩ := r_knockBy (n := n) (m := m) (s := seenS (m 108) a1) (d := a1) hn hW.okL
  simp (disch := omega) only [lt_eq, bn_s, bn2_s, gd_t, nc, nI_add, n_mul, n_sub, ib_nI, up_hit, up_miss, n_le, n_lt, n_eq, n_eq0, n_lt0, n_0le, n_0lt, n_le0, zb_0, zb_1, if_pos, if_neg, ↓reduceIte, Nat.reduceAdd, Nat.reduceMul, Nat.reduceSub, c_isDay, r_isDay, r_inB, bI_ite, c_seenOn hn hW, q_seenOn hn hW.okA, c1, d1, t1, u1, c_hasFit hn hW, q_fitsOn hn hW.okA]
  cases hb : inB a1 (nI 0) (nI 1999)
  · exact ⟨_, f, m, rfl, rfl, hI⟩
  simp only [cond_true]
  cases hb2 : inB a2 (nI 0) (nI 2)
  · have := in_no (by omega) hb2
    simp only [this 0 (by omega), this 1 (by omega), this 2 (by omega), if_false, cond_false]
    exact ⟨_, f, m, rfl, rfl, hI⟩
  obtain ⟨k, _, k2, rfl⟩ := inB_r (by omega) (by omega) hb2
  have hk : k = 0 ∨ k = 1 ∨ k = 2 := by omega
  rcases hk with rfl | rfl | rfl
  · simp (disch := omega) only [lt_eq, bn_s, bn2_s, gd_t, nc, nI_add, n_mul, n_sub, ib_nI, up_hit, up_miss, n_le, n_lt, n_eq, n_eq0, n_lt0, n_0le, n_0lt, n_le0, zb_0, zb_1, if_pos, if_neg, ↓reduceIte, Nat.reduceAdd, Nat.reduceMul, Nat.reduceSub, cond_true]
    exact ⟨_, f1, m1, rfl, rfl, hI.q c2 t2⟩
  · simp (disch := omega) only [lt_eq, bn_s, bn2_s, gd_t, nc, nI_add, n_mul, n_sub, ib_nI, up_hit, up_miss, n_le, n_lt, n_eq, n_eq0, n_lt0, n_0le, n_0lt, n_le0, zb_0, zb_1, if_pos, if_neg, ↓reduceIte, Nat.reduceAdd, Nat.reduceMul, Nat.reduceSub, cond_true]
    exact ⟨_, f2, m2, rfl, rfl, hI.q d2 u2⟩
  · simp (disch := omega) only [lt_eq, bn_s, bn2_s, gd_t, nc, nI_add, n_mul, n_sub, ib_nI, up_hit, up_miss, n_le, n_lt, n_eq, n_eq0, n_lt0, n_0le, n_0lt, n_le0, zb_0, zb_1, if_pos, if_neg, ↓reduceIte, Nat.reduceAdd, Nat.reduceMul, Nat.reduceSub, cond_true]
    cases fitOnS (m 108) a1
    · exact ⟨_, f, m, rfl, rfl, hI⟩
    · exact ⟨_, f, m, rfl, rfl, hI⟩
theorem s_since (hn : 2000 ≤ n) : SP_since Inv n := by
  intro N f m a1 hI
  have hW := hI.2.1
  have s0 : f 1 0 = m 108 1 := hW.1.1
  have s1 : f 1 1 = m 108 4 := hW.1.2.1
  obtain ⟨B, b1, b2⟩ := hW.1.2.2.2.2.2.2.2.1
  unfold fX11_since fX12_since
  simp (disch := omega) only [lt_eq, bn_s, bn2_s, gd_t, nc, nI_add, n_mul, n_sub, ib_nI, up_hit, up_miss, n_le, n_lt, n_eq, n_eq0, n_lt0, n_0le, n_0lt, n_le0, zb_0, zb_1, if_pos, if_neg, ↓reduceIte, Nat.reduceAdd, Nat.reduceMul, Nat.reduceSub, ite_in2, r_inB, bI_ite, s1, b2]
  cases hb : inB a1 (nI 0) (nI 200)
  · exact ⟨_, f, m, rfl, rfl, hI⟩
  obtain ⟨k, _, k2, rfl⟩ := inB_r (by omega) (by omega) hb
  simp only [cond_true]
  have L := loopSim (fun q i (s : Int32 × Mm) => fX11_since_24L n N q (nI k) s.1 (nI i) s.2) (fun q i (s : Int32 × Mm) => fX12_since_23L n q (nI k) s.1 (nI i) s.2) k
    (fun _ s t => (∃ B, B ≤ 10000 ∧ s.1 = nI B ∧ t.1 = nI B) ∧ fS N f s.2 ∧ mS m t.2) (fun r p => r.1 = p.1 ∧ fS N f r.2 ∧ mS m p.2) ?_ ?_ n 0 (nI B, f) (nI B, m) (by omega) (by omega) ⟨⟨B, b1, rfl, rfl⟩, fS.refl, mS.refl⟩
  · obtain ⟨⟨r, f1⟩, ⟨p, m1⟩, e1, e2, e3, h1, h2⟩ := L
    have e3 : r = p := e3
    subst e3
    exact ⟨r, f1, m1, e1, e2, hI.q h1 h2⟩
  · rintro q ⟨x, g⟩ ⟨y, w⟩ ⟨⟨B, hB, rfl, rfl⟩, h1, h2⟩
    exact ⟨(nI B, g), (nI B, w), by simp (disch := omega) only [lt_eq, bn_s, bn2_s, gd_t, nc, nI_add, n_mul, n_sub, ib_nI, up_hit, up_miss, n_le, n_lt, n_eq, n_eq0, n_lt0, n_0le, n_0lt, n_le0, zb_0, zb_1, if_pos, if_neg, ↓reduceIte, Nat.reduceAdd, Nat.reduceMul, Nat.reduceSub, fX11_since_24, fX11_since_24L], by simp (disch := omega) only [lt_eq, bn_s, bn2_s, gd_t, nc, nI_add, n_mul, n_sub, ib_nI, up_hit, up_miss, n_le, n_lt, n_eq, n_eq0, n_lt0, n_0le, n_0lt, n_le0, zb_0, zb_1, if_pos, if_neg, ↓reduceIte, Nat.reduceAdd, Nat.reduceMul, Nat.reduceSub, fX12_since_23, fX12_since_23L], rfl, h1, h2⟩
  · rintro q i ⟨x, g⟩ ⟨y, w⟩ hi ⟨⟨B, hB, ex, ey⟩, h1, h2⟩
    have ex : x = nI B := ex
    have ey : y = nI B := ey
    subst ex ey
    have h1 : fS N f g := h1
    have h2 : mS m w := h2
    have hW' := hW.fS (by omega) h1
    have w108 : w 108 = m 108 := h2 108 (by decide) (by decide)
    obtain ⟨f2, c1, c2⟩ := c_goesOn (n := n) (d := m 108 1 + nI i) hn hI.1 hW' (by omega) hB
    obtain ⟨m2, d1, d2⟩ := r_goesOn (n := n) (m := w) (d := m 108 1 + nI i) hn (by rw [w108]; exact hW.okA) (by rw [w108]; exact hW.okL) hB
    rw [w108] at d1
    have g10 : g 1 0 = m 108 1 := by rw [h1.1 1 (by omega)]; exact s0
    refine Or.inr ⟨(nI (goesS (m 108) B (m 108 1 + nI i)), f2), (nI (goesS (m 108) B (m 108 1 + nI i)), m2), ?_, ?_, ⟨_, goesS_le hB, rfl, rfl⟩, h1.trans c2, h2.trans d2⟩
    · simp (disch := omega) only [lt_eq, bn_s, bn2_s, gd_t, nc, nI_add, n_mul, n_sub, ib_nI, up_hit, up_miss, n_le, n_lt, n_eq, n_eq0, n_lt0, n_0le, n_0lt, n_le0, zb_0, zb_1, if_pos, if_neg, ↓reduceIte, Nat.reduceAdd, Nat.reduceMul, Nat.reduceSub, fX11_since_24, fX11_since_24L, g10, c1]
    · simp (disch := omega) only [lt_eq, bn_s, bn2_s, gd_t, nc, nI_add, n_mul, n_sub, ib_nI, up_hit, up_miss, n_le, n_lt, n_eq, n_eq0, n_lt0, n_0le, n_0lt, n_le0, zb_0, zb_1, if_pos, if_neg, ↓reduceIte, Nat.reduceAdd, Nat.reduceMul, Nat.reduceSub, fX12_since_23, fX12_since_23L, w108, d1]
theorem s_falls (hn : 2000 ≤ n) : SP_falls Inv n := by
  intro N f m a1 hI
  have hW := hI.2.1
  have s0 : f 1 0 = m 108 1 := hW.1.1
  have s1 : f 1 1 = m 108 4 := hW.1.2.1
  obtain ⟨B, b1, b2⟩ := hW.1.2.2.2.2.2.2.2.1
  unfold fX11_falls fX12_falls
  simp (disch := omega) only [lt_eq, bn_s, bn2_s, gd_t, nc, nI_add, n_mul, n_sub, ib_nI, up_hit, up_miss, n_le, n_lt, n_eq, n_eq0, n_lt0, n_0le, n_0lt, n_le0, zb_0, zb_1, if_pos, if_neg, ↓reduceIte, Nat.reduceAdd, Nat.reduceMul, Nat.reduceSub, ite_in2, r_inB, bI_ite, s1, b2]
  cases hb : inB a1 (nI 0) (nI 10000)
  · exact ⟨_, f, m, rfl, rfl, hI⟩
  simp only [cond_true]
  have L := loopSim (fun q i (s : Int32 × Mm) => fX11_falls_24L n N q a1 s.1 (nI i) s.2) (fun q i (s : Int32 × Mm) => fX12_falls_23L n q a1 s.1 (nI i) s.2) 200
    (fun _ s t => (∃ B, B ≤ 10000 ∧ s.1 = nI B ∧ t.1 = nI B) ∧ fS N f s.2 ∧ mS m t.2) (fun r p => r.1 = p.1 ∧ fS N f r.2 ∧ mS m p.2) ?_ ?_ n 0 (nI B, f) (nI B, m) (by omega) (by omega) ⟨⟨B, b1, rfl, rfl⟩, fS.refl, mS.refl⟩
  · obtain ⟨⟨r, f1⟩, ⟨p, m1⟩, e1, e2, e3, h1, h2⟩ := L
    have e3 : r = p := e3
    subst e3
    exact ⟨r, f1, m1, e1, e2, hI.q h1 h2⟩
  · rintro q ⟨x, g⟩ ⟨y, w⟩ ⟨⟨B, hB, rfl, rfl⟩, h1, h2⟩
    exact ⟨((-1000000005 : Int32), g), ((-1000000005 : Int32), w), by simp (disch := omega) only [lt_eq, bn_s, bn2_s, gd_t, nc, nI_add, n_mul, n_sub, ib_nI, up_hit, up_miss, n_le, n_lt, n_eq, n_eq0, n_lt0, n_0le, n_0lt, n_le0, zb_0, zb_1, if_pos, if_neg, ↓reduceIte, Nat.reduceAdd, Nat.reduceMul, Nat.reduceSub, fX11_falls_24, fX11_falls_24L], by simp (disch := omega) only [lt_eq, bn_s, bn2_s, gd_t, nc, nI_add, n_mul, n_sub, ib_nI, up_hit, up_miss, n_le, n_lt, n_eq, n_eq0, n_lt0, n_0le, n_0lt, n_le0, zb_0, zb_1, if_pos, if_neg, ↓reduceIte, Nat.reduceAdd, Nat.reduceMul, Nat.reduceSub, fX12_falls_23, fX12_falls_23L], rfl, h1, h2⟩
  · rintro q i ⟨x, g⟩ ⟨y, w⟩ hi ⟨⟨B, hB, ex, ey⟩, h1, h2⟩
    have ex : x = nI B := ex
    have ey : y = nI B := ey
    subst ex ey
    have h1 : fS N f g := h1
    have h2 : mS m w := h2
    have hW' := hW.fS (by omega) h1
    have w108 : w 108 = m 108 := h2 108 (by decide) (by decide)
    obtain ⟨f2, c1, c2⟩ := c_goesOn (n := n) (d := m 108 1 + nI i) hn hI.1 hW' (by omega) hB
    obtain ⟨m2, d1, d2⟩ := r_goesOn (n := n) (m := w) (d := m 108 1 + nI i) hn (by rw [w108]; exact hW.okA) (by rw [w108]; exact hW.okL) hB
    rw [w108] at d1
    have g10 : g 1 0 = m 108 1 := by rw [h1.1 1 (by omega)]; exact s0
    have f10 : f2 1 0 = m 108 1 := by rw [c2.1 1 (by omega)]; exact g10
    have m208 : m2 108 = m 108 := (d2 108 (by decide) (by decide)).trans w108
    by_cases z : a1 ≤ nI (goesS (m 108) B (m 108 1 + nI i))
    · refine Or.inr ⟨(nI (goesS (m 108) B (m 108 1 + nI i)), f2), (nI (goesS (m 108) B (m 108 1 + nI i)), m2), ?_, ?_, ⟨_, goesS_le hB, rfl, rfl⟩, h1.trans c2, h2.trans d2⟩
      · simp (disch := omega) only [lt_eq, bn_s, bn2_s, gd_t, nc, nI_add, n_mul, n_sub, ib_nI, up_hit, up_miss, n_le, n_lt, n_eq, n_eq0, n_lt0, n_0le, n_0lt, n_le0, zb_0, zb_1, if_pos, if_neg, ↓reduceIte, Nat.reduceAdd, Nat.reduceMul, Nat.reduceSub, fX11_falls_24, fX11_falls_24L, g10, c1, z]
      · simp (disch := omega) only [lt_eq, bn_s, bn2_s, gd_t, nc, nI_add, n_mul, n_sub, ib_nI, up_hit, up_miss, n_le, n_lt, n_eq, n_eq0, n_lt0, n_0le, n_0lt, n_le0, zb_0, zb_1, if_pos, if_neg, ↓reduceIte, Nat.reduceAdd, Nat.reduceMul, Nat.reduceSub, fX12_falls_23, fX12_falls_23L, w108, d1, z]
    · refine Or.inl ⟨(m 108 1 + nI i, f2), (m 108 1 + nI i, m2), ?_, ?_, rfl, h1.trans c2, h2.trans d2⟩
      · simp (disch := omega) only [lt_eq, bn_s, bn2_s, gd_t, nc, nI_add, n_mul, n_sub, ib_nI, up_hit, up_miss, n_le, n_lt, n_eq, n_eq0, n_lt0, n_0le, n_0lt, n_le0, zb_0, zb_1, if_pos, if_neg, ↓reduceIte, Nat.reduceAdd, Nat.reduceMul, Nat.reduceSub, fX11_falls_24, fX11_falls_24L, g10, c1, z, f10]
      · simp (disch := omega) only [lt_eq, bn_s, bn2_s, gd_t, nc, nI_add, n_mul, n_sub, ib_nI, up_hit, up_miss, n_le, n_lt, n_eq, n_eq0, n_lt0, n_0le, n_0lt, n_le0, zb_0, zb_1, if_pos, if_neg, ↓reduceIte, Nat.reduceAdd, Nat.reduceMul, Nat.reduceSub, fX12_falls_23, fX12_falls_23L, w108, d1, z, m208]
theorem s_await (hn : 2000 ≤ n) : SP_await Inv n := by
  intro N f m hI
  have hW := hI.2.1
  have s0 : f 1 0 = m 108 1 := hW.1.1
  obtain ⟨D, D1, D2⟩ := hW.1.2.2.2.2.2.2.1
  unfold fX11_await fX12_await
  simp (disch := omega) only [lt_eq, bn_s, bn2_s, gd_t, nc, nI_add, n_mul, n_sub, ib_nI, up_hit, up_miss, n_le, n_lt, n_eq, n_eq0, n_lt0, n_0le, n_0lt, n_le0, zb_0, zb_1, if_pos, if_neg, ↓reduceIte, Nat.reduceAdd, Nat.reduceMul, Nat.reduceSub, D2]
  have L := loopSim (fun q i (s : Int32 × Mm) => fX11_await_5L n N q s.1 (nI i) s.2) (fun q i (s : Int32 × Mm) => fX12_await_10L n q s.1 (nI (D + i)) s.2) 200
    (fun _ s t => s.1 = t.1 ∧ fS N f s.2 ∧ mS m t.2) (fun r p => r.1 = p.1 ∧ fS N f r.2 ∧ mS m p.2) ?_ ?_ n 0 (nI 1000000, f) (nI 1000000, m) (by omega) (by omega) ⟨rfl, fS.refl, mS.refl⟩
  · obtain ⟨⟨r, f1⟩, ⟨p, m1⟩, e1, e2, e3, h1, h2⟩ := L
    have e3 : r = p := e3
    subst e3
    exact ⟨r, f1, m1, e1, e2, hI.q h1 h2⟩
  · rintro q ⟨x, g⟩ ⟨y, w⟩ ⟨e, h1, h2⟩
    have h2 : mS m w := h2
    have w108 : w 108 = m 108 := h2 108 (by decide) (by decide)
    exact ⟨((-1000000005 : Int32), g), ((-1000000005 : Int32), w), by simp (disch := omega) only [lt_eq, bn_s, bn2_s, gd_t, nc, nI_add, n_mul, n_sub, ib_nI, up_hit, up_miss, n_le, n_lt, n_eq, n_eq0, n_lt0, n_0le, n_0lt, n_le0, zb_0, zb_1, if_pos, if_neg, ↓reduceIte, Nat.reduceAdd, Nat.reduceMul, Nat.reduceSub, fX11_await_5, fX11_await_5L], by simp (disch := omega) only [lt_eq, bn_s, bn2_s, gd_t, nc, nI_add, n_mul, n_sub, ib_nI, up_hit, up_miss, n_le, n_lt, n_eq, n_eq0, n_lt0, n_0le, n_0lt, n_le0, zb_0, zb_1, if_pos, if_neg, ↓reduceIte, Nat.reduceAdd, Nat.reduceMul, Nat.reduceSub, fX12_await_10, fX12_await_10L, w108, D2], rfl, h1, h2⟩
  · rintro q i ⟨x, g⟩ ⟨y, w⟩ hi ⟨e, h1, h2⟩
    have e : x = y := e
    subst e
    have h1 : fS N f g := h1
    have h2 : mS m w := h2
    have hW' := hW.fS (by omega) h1
    have w108 : w 108 = m 108 := h2 108 (by decide) (by decide)
    have qs := q_seenOn (n := n) (m := w) (d := nI (D + i)) hn (by rw [w108]; exact hW.okA)
    rw [w108] at qs
    obtain ⟨f2, c1, c2⟩ := c_rateOn (n := n) (s := seenS (m 108) (nI (D + i))) (d := nI (D + i)) hn hI.1 hW' (by omega)
    obtain ⟨m2, d1, d2, _⟩ := r_rateBy (n := n) (m := w) (s := seenS (m 108) (nI (D + i))) (d := nI (D + i)) hn (by rw [w108]; exact hW.okL)
    rw [w108] at d1
    have g10 : g 1 0 = nI D := by rw [h1.1 1 (by omega), s0]; exact D2
    have ei : D + i + 1 = D + (i + 1) := by omega
    generalize hv : x * (nI 1000 - nI (rateS (m 108) (seenS (m 108) (nI (D + i))) (nI (D + i)))) / nI 1000 = v
    have rl := rateS_le (a := m 108) (s := seenS (m 108) (nI (D + i))) (d := nI (D + i))
    have hv' : x * nI (1000 - rateS (m 108) (seenS (m 108) (nI (D + i))) (nI (D + i))) / nI 1000 = v := by rw [← hv, n_sub (by omega)]
    by_cases z : nI 500000 < v
    · refine Or.inr ⟨(v, f2), (v, m2), ?_, ?_, rfl, h1.trans c2, h2.trans d2⟩
      · simp (disch := omega) only [lt_eq, bn_s, bn2_s, gd_t, nc, nI_add, n_mul, n_sub, ib_nI, up_hit, up_miss, n_le, n_lt, n_eq, n_eq0, n_lt0, n_0le, n_0lt, n_le0, zb_0, zb_1, if_pos, if_neg, ↓reduceIte, Nat.reduceAdd, Nat.reduceMul, Nat.reduceSub, fX11_await_5, fX11_await_5L, g10, c_seenOn hn hW', c1, hv', z]
      · simp (disch := omega) only [lt_eq, bn_s, bn2_s, gd_t, nc, nI_add, n_mul, n_sub, ib_nI, up_hit, up_miss, n_le, n_lt, n_eq, n_eq0, n_lt0, n_0le, n_0lt, n_le0, zb_0, zb_1, if_pos, if_neg, ↓reduceIte, Nat.reduceAdd, Nat.reduceMul, Nat.reduceSub, fX12_await_10, fX12_await_10L, w108, D2, qs, d1, hv', z, ei]
    · refine Or.inl ⟨(nI (D + i), f2), (nI (D + i), m2), ?_, ?_, rfl, h1.trans c2, h2.trans d2⟩
      · simp (disch := omega) only [lt_eq, bn_s, bn2_s, gd_t, nc, nI_add, n_mul, n_sub, ib_nI, up_hit, up_miss, n_le, n_lt, n_eq, n_eq0, n_lt0, n_0le, n_0lt, n_le0, zb_0, zb_1, if_pos, if_neg, ↓reduceIte, Nat.reduceAdd, Nat.reduceMul, Nat.reduceSub, fX11_await_5, fX11_await_5L, g10, c_seenOn hn hW', c1, hv', z]
      · simp (disch := omega) only [lt_eq, bn_s, bn2_s, gd_t, nc, nI_add, n_mul, n_sub, ib_nI, up_hit, up_miss, n_le, n_lt, n_eq, n_eq0, n_lt0, n_0le, n_0lt, n_le0, zb_0, zb_1, if_pos, if_neg, ↓reduceIte, Nat.reduceAdd, Nat.reduceMul, Nat.reduceSub, fX12_await_10, fX12_await_10L, w108, D2, qs, d1, hv', z]
theorem s_beyond (hn : 2000 ≤ n) : SP_beyond Inv n := by
  intro N f m hI
  have hW := hI.2.1
  have s0 : f 1 0 = m 108 1 := hW.1.1
  obtain ⟨D, D1, D2⟩ := hW.1.2.2.2.2.2.2.1
  unfold fX11_beyond fX12_beyond
  rw [c_lawFor hW (by omega), r_counts hn hW.okL (by omega)]
  cases hl : lastK (m 108) 2 (ct (m 108) 9) with
  | none =>
    refine ⟨(-1000000005 : Int32), f, m, ?_, ?_, hI⟩
    · simp (disch := omega) only [lt_eq, bn_s, bn2_s, gd_t, nc, nI_add, n_mul, n_sub, ib_nI, up_hit, up_miss, n_le, n_lt, n_eq, n_eq0, n_lt0, n_0le, n_0lt, n_le0, zb_0, zb_1, if_pos, if_neg, ↓reduceIte, Nat.reduceAdd, Nat.reduceMul, Nat.reduceSub]
    · obtain ⟨q, rfl⟩ : ∃ q, n = q + 1 := ⟨n - 1, by omega⟩
      simp (disch := omega) only [lt_eq, bn_s, bn2_s, gd_t, nc, nI_add, n_mul, n_sub, ib_nI, up_hit, up_miss, n_le, n_lt, n_eq, n_eq0, n_lt0, n_0le, n_0lt, n_le0, zb_0, zb_1, if_pos, if_neg, ↓reduceIte, Nat.reduceAdd, Nat.reduceMul, Nat.reduceSub, D2, cvI, fX12_beyond_13, fX12_beyond_13L, m1_lt]
  | some t =>
    obtain ⟨t1, t2⟩ := lastK_s _ hl
    obtain ⟨nt, nt1, nt2, nt3⟩ := hW.okL
    have t3 : t < nt := by rw [ct_n nt2 (by omega)] at t1; exact t1
    obtain ⟨j, hj, ej, _⟩ := c_val (n := n) (s := nI 0) (d := nI 0) (x := nI 0) hn hI.1 hW (by omega) t1 (fun e => by omega) (fun e => by omega)
    have ej : f 15 t = nI (j + 1) := ej
    have ej1 : j + 1 - 1 = j := rfl
    have h65 := hI.1
    simp (disch := omega) only [lt_eq, bn_s, bn2_s, gd_t, nc, nI_add, n_mul, n_sub, ib_nI, up_hit, up_miss, n_le, n_lt, n_eq, n_eq0, n_lt0, n_0le, n_0lt, n_le0, zb_0, zb_1, if_pos, if_neg, ↓reduceIte, Nat.reduceAdd, Nat.reduceMul, Nat.reduceSub, cvI, ej, gd_of (lkb_t hj hI.1), ej1, D2]
    have L := loopSim (fun q i (s : Mm) => fX11_beyond_18L n N q (130 + 3 * j) (nI i) s) (fun q i (s : Mm) => fX12_beyond_13L n q (nI t) (nI (D + i)) s) 200
      (fun _ s t => fS N f s ∧ mS m t) (fun r p => r.1 = p.1 ∧ fS N f r.2 ∧ mS m p.2) ?_ ?_ n 0 f m (by omega) (by omega) ⟨fS.refl, mS.refl⟩
    · obtain ⟨⟨r, f1⟩, ⟨p, m1⟩, e1, e2, e3, h1, h2⟩ := L
      have e3 : r = p := e3
      subst e3
      exact ⟨r, f1, m1, e1, e2, hI.q h1 h2⟩
    · rintro q g w ⟨h1, h2⟩
      have w108 : w 108 = m 108 := h2 108 (by decide) (by decide)
      exact ⟨((-1000000005 : Int32), g), ((-1000000005 : Int32), w), by simp (disch := omega) only [lt_eq, bn_s, bn2_s, gd_t, nc, nI_add, n_mul, n_sub, ib_nI, up_hit, up_miss, n_le, n_lt, n_eq, n_eq0, n_lt0, n_0le, n_0lt, n_le0, zb_0, zb_1, if_pos, if_neg, ↓reduceIte, Nat.reduceAdd, Nat.reduceMul, Nat.reduceSub, fX11_beyond_18, fX11_beyond_18L], by simp (disch := omega) only [lt_eq, bn_s, bn2_s, gd_t, nc, nI_add, n_mul, n_sub, ib_nI, up_hit, up_miss, n_le, n_lt, n_eq, n_eq0, n_lt0, n_0le, n_0lt, n_le0, zb_0, zb_1, if_pos, if_neg, ↓reduceIte, Nat.reduceAdd, Nat.reduceMul, Nat.reduceSub, fX12_beyond_13, fX12_beyond_13L, w108, D2], rfl, h1, h2⟩
    · rintro q i g w hi ⟨h1, h2⟩
      have hW' := hW.fS (by omega) h1
      have w108 : w 108 = m 108 := h2 108 (by decide) (by decide)
      have qs := q_seenOn (n := n) (m := w) (d := nI (D + i)) hn (by rw [w108]; exact hW.okA)
      rw [w108] at qs
      obtain ⟨f2, c1, c2⟩ := c_rateOn (n := n) (s := seenS (m 108) (nI (D + i))) (d := nI (D + i)) hn hI.1 hW' (by omega)
      obtain ⟨m2, d1, d2, u0, u1⟩ := r_rateBy (n := n) (m := w) (s := seenS (m 108) (nI (D + i))) (d := nI (D + i)) hn (by rw [w108]; exact hW.okL)
      rw [w108] at d1
      obtain ⟨j', hj', ej', f3, c3, c4⟩ := c_val (n := n) (s := seenS (m 108) (nI (D + i))) (d := nI (D + i)) (x := nI 0) hn hI.1 (hW'.fS (by omega) c2) (by omega) t1 (fun e => by omega) (fun e => by omega)
      have jj : j' = j := by
        have e1 : f2 15 t = f 15 t := by rw [c2.1 15 (by omega), h1.1 15 (by omega)]
        have ej' : f2 15 t = nI (j' + 1) := ej'
        rw [e1, ej] at ej'
        have h65 := hI.1
        rw [n_eq (by omega) (by omega)] at ej'
        omega
      subst jj
      have m208 : m2 108 = m 108 := (d2 108 (by decide) (by decide)).trans w108
      have hm : ∀ k, k ≠ 118 → up (up m2 118 0 (seenS (m 108) (nI (D + i)))) 118 1 (nI (D + i)) k = m2 k := fun k q => by rw [up_ne q, up_ne q]
      obtain ⟨m3, d3, d4⟩ := r_val (n := n) (m := up (up m2 118 0 (seenS (m 108) (nI (D + i)))) 118 1 (nI (D + i))) (t := t) (s := seenS (m 108) (nI (D + i))) (d := nI (D + i)) (x := nI 0) hn (by omega) (by rw [hm 108 (by decide), m208]; exact nt3 t t3) (by simp (disch := omega) only [lt_eq, bn_s, bn2_s, gd_t, nc, nI_add, n_mul, n_sub, ib_nI, up_hit, up_miss, n_le, n_lt, n_eq, n_eq0, n_lt0, n_0le, n_0lt, n_le0, zb_0, zb_1, if_pos, if_neg, ↓reduceIte]) (by simp (disch := omega) only [lt_eq, bn_s, bn2_s, gd_t, nc, nI_add, n_mul, n_sub, ib_nI, up_hit, up_miss, n_le, n_lt, n_eq, n_eq0, n_lt0, n_0le, n_0lt, n_le0, zb_0, zb_1, if_pos, if_neg, ↓reduceIte]) (fun e => by rw [hm 108 (by decide), m208] at e; omega)
      rw [hm 108 (by decide), m208] at d3
      have g10 : g 1 0 = nI D := by rw [h1.1 1 (by omega), s0]; exact D2
      have ei : D + i + 1 = D + (i + 1) := by omega
      have hms : mS m m3 := fun k k1 k2 => by rw [d4 k k1, hm k k2, d2 k k1 k2]; exact h2 k k1 k2
      have hfs : fS N f f3 := (h1.trans c2).trans c4
      by_cases z : nI (rateS (m 108) (seenS (m 108) (nI (D + i))) (nI (D + i))) ≤ valS (m 108) t (fac (seenS (m 108) (nI (D + i))) (nI (D + i)) (nI 0))
      · refine Or.inr ⟨f3, m3, ?_, ?_, hfs, hms⟩
        · simp (disch := omega) only [lt_eq, bn_s, bn2_s, gd_t, nc, nI_add, n_mul, n_sub, ib_nI, up_hit, up_miss, n_le, n_lt, n_eq, n_eq0, n_lt0, n_0le, n_0lt, n_le0, zb_0, zb_1, if_pos, if_neg, ↓reduceIte, Nat.reduceAdd, Nat.reduceMul, Nat.reduceSub, fX11_beyond_18, fX11_beyond_18L, g10, c_seenOn hn hW', c1, c3, z]
        · simp (disch := omega) only [lt_eq, bn_s, bn2_s, gd_t, nc, nI_add, n_mul, n_sub, ib_nI, up_hit, up_miss, n_le, n_lt, n_eq, n_eq0, n_lt0, n_0le, n_0lt, n_le0, zb_0, zb_1, if_pos, if_neg, ↓reduceIte, Nat.reduceAdd, Nat.reduceMul, Nat.reduceSub, fX12_beyond_13, fX12_beyond_13L, w108, D2, qs, d1, d3, z, ei]
      · refine Or.inl ⟨(nI (D + i), f3), (nI (D + i), m3), ?_, ?_, rfl, hfs, hms⟩
        · simp (disch := omega) only [lt_eq, bn_s, bn2_s, gd_t, nc, nI_add, n_mul, n_sub, ib_nI, up_hit, up_miss, n_le, n_lt, n_eq, n_eq0, n_lt0, n_0le, n_0lt, n_le0, zb_0, zb_1, if_pos, if_neg, ↓reduceIte, Nat.reduceAdd, Nat.reduceMul, Nat.reduceSub, fX11_beyond_18, fX11_beyond_18L, g10, c_seenOn hn hW', c1, c3, z]
        · simp (disch := omega) only [lt_eq, bn_s, bn2_s, gd_t, nc, nI_add, n_mul, n_sub, ib_nI, up_hit, up_miss, n_le, n_lt, n_eq, n_eq0, n_lt0, n_0le, n_0lt, n_le0, zb_0, zb_1, if_pos, if_neg, ↓reduceIte, Nat.reduceAdd, Nat.reduceMul, Nat.reduceSub, fX12_beyond_13, fX12_beyond_13L, w108, D2, qs, d1, d3, z]
end D2
