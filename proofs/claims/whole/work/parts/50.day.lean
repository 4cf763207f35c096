section DC
variable {N o n : Nat} {f m : Mm}
theorem fin_sim {R Q D : Nat} (hn : 2000 ≤ n) (hW : RW N f o (m 108)) (ho : o + 24 ≤ 130) (hR : R ≤ 1000) (hQ : Q ≤ 1000) (hD : m 108 1 = nI D) (hD2 : D ≤ 2099) :
    ∃ f' m', (bn (fX10_hasFit n o (f o 0) f) fun r17 => bn (fX11_believed n (f o 1) (nI R) (nI Q) r17) fun r19 => lt (up f o 1 r19) fun f20 => lt (up f20 o 0 ((f20 o 0) + (nI 1))) fun f22 => some f22) = some f' ∧ fX12_aDay_191 n (m 108 1) (nI R) (nI Q) m = some m' ∧ RW N f' o (m' 108) ∧ (∀ k, k < o ∨ o + 24 ≤ k → f' k = f k) ∧ (∀ k, k ≠ 108 → m' k = m k) ∧ m' 108 1 = nI (D + 1) := by
  have hF := c_hasFit (n := n) (d := nI D) hn hW
  have hR' := q_fitsOn (n := n) (m := m) (d := nI D) hn hW.okA
  obtain ⟨⟨s0, s1, s2, s3, s4, s5, s6, ⟨B, b1, b2⟩, s8, s9, s10⟩, nC, nw, ns, nk, ny, no, nt, h1, h2, h3, h4, h5, h6, h7⟩ := hW
  have s0' : f o 0 = nI D := s0.trans hD
  have s1' : f o 1 = nI B := s1.trans b2
  have hle := belN_le (R := R) (Q := Q) (fits := fitOnS (m 108) (nI D)) b1
  unfold fX12_aDay_191
  simp (disch := omega) only [ltE, bnE, bn2E, gdE, nc, nI_add, n_mul, n_sub, ib_nI, up_hit, up_miss, n_le, n_lt, n_eq, n_eq0, n_lt0, n_0le, n_0lt, n_le0, zb_0, zb_1, if_pos, if_neg, ↓reduceIte, s0', s1', hF, hD, hR', b2, c_believed b1 hR hQ, r_believed b1 hR hQ]
  refine ⟨_, _, rfl, rfl, ?_, fun k hk => by (simp (disch := omega) only [up_rn]), fun k hk => by (simp (disch := omega) only [up_rn]), up_hit⟩
  exact putSc h1 h2 h3 h4 h5 h6 h7 ⟨by simp (disch := omega) only [ltE, bnE, bn2E, gdE, nc, nI_add, n_mul, n_sub, ib_nI, up_hit, up_miss, n_le, n_lt, n_eq, n_eq0, n_lt0, n_0le, n_0lt, n_le0, zb_0, zb_1, if_pos, if_neg, ↓reduceIte, Nat.reduceAdd, Nat.reduceMul, Nat.reduceSub], by simp (disch := omega) only [ltE, bnE, bn2E, gdE, nc, nI_add, n_mul, n_sub, ib_nI, up_hit, up_miss, n_le, n_lt, n_eq, n_eq0, n_lt0, n_0le, n_0lt, n_le0, zb_0, zb_1, if_pos, if_neg, ↓reduceIte, Nat.reduceAdd, Nat.reduceMul, Nat.reduceSub], by simp (disch := omega) only [ltE, bnE, bn2E, gdE, nc, nI_add, n_mul, n_sub, ib_nI, up_hit, up_miss, n_le, n_lt, n_eq, n_eq0, n_lt0, n_0le, n_0lt, n_le0, zb_0, zb_1, if_pos, if_neg, ↓reduceIte, Nat.reduceAdd, Nat.reduceMul, Nat.reduceSub, s2], by simp (disch := omega) only [ltE, bnE, bn2E, gdE, nc, nI_add, n_mul, n_sub, ib_nI, up_hit, up_miss, n_le, n_lt, n_eq, n_eq0, n_lt0, n_0le, n_0lt, n_le0, zb_0, zb_1, if_pos, if_neg, ↓reduceIte, Nat.reduceAdd, Nat.reduceMul, Nat.reduceSub, s3], by simp (disch := omega) only [ltE, bnE, bn2E, gdE, nc, nI_add, n_mul, n_sub, ib_nI, up_hit, up_miss, n_le, n_lt, n_eq, n_eq0, n_lt0, n_0le, n_0lt, n_le0, zb_0, zb_1, if_pos, if_neg, ↓reduceIte, Nat.reduceAdd, Nat.reduceMul, Nat.reduceSub, s4], by simp (disch := omega) only [ltE, bnE, bn2E, gdE, nc, nI_add, n_mul, n_sub, ib_nI, up_hit, up_miss, n_le, n_lt, n_eq, n_eq0, n_lt0, n_0le, n_0lt, n_le0, zb_0, zb_1, if_pos, if_neg, ↓reduceIte, Nat.reduceAdd, Nat.reduceMul, Nat.reduceSub, s5], ⟨D + 1, by omega, up_hit⟩, ⟨_, hle, by simp (disch := omega) only [ltE, bnE, bn2E, gdE, nc, nI_add, n_mul, n_sub, ib_nI, up_hit, up_miss, n_le, n_lt, n_eq, n_eq0, n_lt0, n_0le, n_0lt, n_le0, zb_0, zb_1, if_pos, if_neg, ↓reduceIte, Nat.reduceAdd, Nat.reduceMul, Nat.reduceSub]⟩, by simp (disch := omega) only [ltE, bnE, bn2E, gdE, nc, nI_add, n_mul, n_sub, ib_nI, up_hit, up_miss, n_le, n_lt, n_eq, n_eq0, n_lt0, n_0le, n_0lt, n_le0, zb_0, zb_1, if_pos, if_neg, ↓reduceIte, Nat.reduceAdd, Nat.reduceMul, Nat.reduceSub]; exact s8, by simp (disch := omega) only [ltE, bnE, bn2E, gdE, nc, nI_add, n_mul, n_sub, ib_nI, up_hit, up_miss, n_le, n_lt, n_eq, n_eq0, n_lt0, n_0le, n_0lt, n_le0, zb_0, zb_1, if_pos, if_neg, ↓reduceIte, Nat.reduceAdd, Nat.reduceMul, Nat.reduceSub]; exact s9, by simp (disch := omega) only [ltE, bnE, bn2E, gdE, nc, nI_add, n_mul, n_sub, ib_nI, up_hit, up_miss, n_le, n_lt, n_eq, n_eq0, n_lt0, n_0le, n_0lt, n_le0, zb_0, zb_1, if_pos, if_neg, ↓reduceIte, Nat.reduceAdd, Nat.reduceMul, Nat.reduceSub]; exact s10⟩ (fun j hj => by (simp (disch := omega) only [up_miss])) (fun k k1 k2 => by (simp (disch := omega) only [up_rn])) (fun i hi => by (simp (disch := omega) only [up_miss])) (lwSame.of (fun k hk => by (simp (disch := omega) only [up_rn])))
theorem wd_sim {x R M : Nat} {Q : Int32} (hn : 2000 ≤ n) (hW : RW N f o (m 108)) (ho : o + 24 ≤ 130) (hx : x < 64) (hb : ∀ c, c < 6 → x.testBit c = wat (m 108) (nI c) (m 108 1)) (hz : ∀ c, c < 6 → ct (m 108) 6 ≤ c → wat (m 108) (nI c) (m 108 1) = false) (hM : cnt x.testBit 6 = M) :
    ∃ f' m', (∀ K : Mm → Option Mm, (if (f o 4) = (nI 1) then (bn (fX10_drawJust n o (nI x) (nI R) f) fun f13 => K f13) else K f) = K f') ∧ (if (m 108 (nI 5).toNatClampNeg) = (nI 1) then (bn2 (fX12_draw n m) fun r16 f15 =>
      if nI R ≤ (irm r16 (nI 1000)) then (fX12_aDay_92 n (m 108 1) (nI R) Q (nI M) f15) else (if nI M ≤ 0 then (fX12_aDay_92 n (m 108 1) (nI R) Q (nI M) f15) else (
        if (nI 40) ≤ (f15 108 (nI 8).toNatClampNeg) then (fX12_aDay_92 n (m 108 1) (nI R) Q (nI M) f15) else (
        bn (fX12_watchedOne n (m 108 1) (nI 0) f15) fun r52 =>
        bn (fX12_comes n (nI 1) r52 (m 108 1) (f15 108 (nI 2).toNatClampNeg) f15) fun f54 => fX12_aDay_92 n (m 108 1) (nI R) Q (nI M) f54)))) else fX12_aDay_92 n (m 108 1) (nI R) Q (nI M) m) = fX12_aDay_92 n (m 108 1) (nI R) Q (nI M) m' ∧ RW N f' o (m' 108) ∧ dF o f f' m m' := by
  have s4 : f o 4 = m 108 5 := hW.1.2.2.2.2.1
  have e5 : (nI 5).toNatClampNeg = 5 := nc (by omega)
  by_cases q : m 108 5 = nI 1
  · obtain ⟨f', m', u1, u2, u3, u4⟩ := just_sim (n := n) (R := R) (M := M) (Q := Q) hn hW ho hx hb hz hM
    refine ⟨f', m', fun K => ?_, ?_, u3, u4⟩
    · rw [if_pos (by rw [s4]; exact q), u1]
      exact bnE
    · rw [if_pos (by rw [e5]; exact q)]
      exact u2
  · refine ⟨f, m, fun K => ?_, ?_, hW, fun k _ => rfl, fun k _ => rfl, fun i _ _ _ => rfl⟩
    · rw [if_neg (by rw [s4]; exact q)]
    · rw [if_neg (by rw [e5]; exact q)]
theorem day_sim {D : Nat} (hn : 2000 ≤ n) (hN : N ≤ 65) (hW : RW N f o (m 108)) (ho : o + 24 ≤ 130) (hD : m 108 1 = nI D) (hD2 : D ≤ 2099) :
    ∃ f' m', fX10_passDay n N o f = some f' ∧ fX12_aDay n m = some m' ∧ RW N f' o (m' 108) ∧ (∀ k, k < 130 → (k < o ∨ o + 24 ≤ k) → f' k = f k) ∧ lwSame N f f' ∧ (∀ k, k ≠ 108 → k ≠ 117 → k ≠ 118 → m' k = m k) ∧ m' 108 1 = nI (D + 1) := by
  obtain ⟨x, hx, ex, hb, hz⟩ := c_coilsOn (n := n) hn hW (nI D)
  have hs := c_sum6 (n := n) (f := f) (b := o + 1 + 1) hn hx
  rw [c_seen6 hW hb hz] at hs
  have s0 : f o 0 = nI D := hW.1.1.trans hD
  obtain ⟨f1, c1, c2⟩ := c_rateOn (n := n) (s := seenS (m 108) (nI D)) (d := nI D) hn hN hW ho
  obtain ⟨f2, d1, d2⟩ := c_knockOn (n := n) (s := seenS (m 108) (nI D)) (d := nI D) hn hN (hW.fS ho c2) ho
  have rs := q_seenOn (n := n) (m := m) (d := nI D) hn hW.okA
  obtain ⟨m1, t1, t2, _⟩ := r_rateBy (n := n) (m := m) (s := seenS (m 108) (nI D)) (d := nI D) hn hW.okL
  have q1 : m1 108 = m 108 := t2 108 (by decide) (by decide)
  obtain ⟨m2, u1, u2⟩ := r_knockBy (n := n) (m := m1) (s := seenS (m 108) (nI D)) (d := nI D) hn (by rw [q1]; exact hW.okL)
  have q2 : m2 108 = m 108 := (u2 108 (by decide) (by decide)).trans q1
  rw [q1] at u1
  have hW2 : RW N f2 o (m2 108) := by rw [q2]; exact hW.fS ho (c2.trans d2)
  have hm6 : ct (m 108) 6 ≤ 6 := by obtain ⟨k, k1, k2⟩ := hW.okA.1; rw [ct_n k2 (by omega)]; exact k1
  have hM := many6 hm6 hb hz
  have rm := q_watchedMany (n := n) (m := m2) (d := nI D) hn hW2.okA
  rw [q2] at rm
  have f10 : f1 o 0 = nI D := by rw [c2.1 o (by omega)]; exact s0
  have r1 := rateS_le (a := m 108) (s := seenS (m 108) (nI D)) (d := nI D)
  have r2 := knockS_le (a := m 108) (s := seenS (m 108) (nI D)) (d := nI D)
  generalize rateS (m 108) (seenS (m 108) (nI D)) (nI D) = R at c1 t1 r1
  generalize knockS (m 108) (seenS (m 108) (nI D)) (nI D) = Q at d1 u1 r2
  generalize manyS (m 108) (nI D) = M at hM rm
  have hD' : m2 108 1 = nI D := by rw [q2]; exact hD
  rw [← hD', ← q2] at hb hz
  obtain ⟨f3, m3, v1, v2, v3, v4⟩ := wd_sim (n := n) (R := R) (M := M) (Q := nI Q) hn hW2 ho hx hb hz hM
  have e3 : m3 108 1 = m2 108 1 := v4.2.2 1 (by omega) (by omega) (by omega)
  obtain ⟨f4, m4, w1, w2, w3, w4⟩ := knock_sim (n := n) (R := R) (Q := Q) (M := M) hn v3 ho hx (fun c hc => by rw [v4.wate hW2, e3]; exact hb c hc) (fun c hc h => by rw [v4.wate hW2, e3]; exact hz c hc (by rw [v4.cte (by omega) (by omega) (by omega)] at h; exact h)) hM
  have e4 : m4 108 1 = m3 108 1 := w4.2.2 1 (by omega) (by omega) (by omega)
  obtain ⟨f5, m5, z1, z2, z3, z4, z5, z6⟩ := fin_sim (n := n) (R := R) (Q := Q) (D := D) hn w3 ho (by omega) (by omega) (by rw [e4, e3]; exact hD') hD2
  rw [e3] at w2
  rw [e4, e3] at z2
  rw [hD'] at v2 w2 z2
  refine ⟨f5, m5, ?_, ?_, z3, fun k k1 k2 => ?_, ?_, fun k k1 k2 k3 => ?_, z6⟩
  · unfold fX10_passDay
    simp (disch := omega) only [ltE, bnE, bn2E, gdE, nc, nI_add, n_mul, n_sub, ib_nI, up_hit, up_miss, n_le, n_lt, n_eq, n_eq0, n_lt0, n_0le, n_0lt, n_le0, zb_0, zb_1, if_pos, if_neg, ↓reduceIte, s0, ex, hs, c1, f10, d1]
    rw [v1]
    unfold fX10_passDay_59
    rw [w1]
    simp only [bnE]
    exact z1
  · unfold fX12_aDay
    simp (disch := omega) only [ltE, bnE, bn2E, gdE, nc, nI_add, n_mul, n_sub, ib_nI, up_hit, up_miss, n_le, n_lt, n_eq, n_eq0, n_lt0, n_0le, n_0lt, n_le0, zb_0, zb_1, if_pos, if_neg, ↓reduceIte, hD, rs, t1, u1, rm]
    have e5 : (nI 5).toNatClampNeg = 5 := nc (by omega)
    have e8 : (nI 8).toNatClampNeg = 8 := nc (by omega)
    have e2 : (nI 2).toNatClampNeg = 2 := nc (by omega)
    rw [e5, e8, e2] at v2
    rw [v2, w2]
    exact z2
  · rw [z4 k k2, w4.1 k k2, v4.1 k k2, d2.1 k k1, c2.1 k k1]
  · refine (c2.2.trans d2.2).trans (lwSame.of (fun k hk => ?_))
    rw [z4 k (by omega), w4.1 k (by omega), v4.1 k (by omega)]
  · rw [z5 k k1, w4.2.1 k k1, v4.2.1 k k1, u2 k k2 k3, t2 k k2 k3]
end DC
