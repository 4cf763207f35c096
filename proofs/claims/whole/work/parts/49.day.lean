section DB
variable {N o n : Nat} {f m : Mm}
theorem dF.cte {f' m' : Mm} (h : dF o f f' m m') {i : Nat} (h0 : i ≠ 0) (h8 : i ≠ 8) (h9 : ¬ (91 ≤ i ∧ i < 251)) : ct (m' 108) i = ct (m 108) i := by unfold ct; rw [h.2.2 i h0 h8 h9]
theorem dF.wate {f' m' : Mm} (h : dF o f f' m m') (hW : RW N f o (m 108)) {c d : Int32} : wat (m' 108) c d = wat (m 108) c d := by
  obtain ⟨_, ⟨k7, k71, k72⟩, _⟩ := hW.okA
  exact wat_cg (fun i hi => h.2.2 i (by omega) (by omega) (by omega)) (by rw [ct_n k72 (by omega)]; exact k71)
/-- which coil, of those watched -/
theorem coil_sim {x k : Nat} {d : Int32} {m1 : Mm} (hn : 2000 ≤ n) (hA : okA (m1 108)) (hx : x < 64) (hb : ∀ c, c < 6 → x.testBit c = wat (m1 108) (nI c) d) (hz : ∀ c, c < 6 → ct (m1 108) 6 ≤ c → wat (m1 108) (nI c) d = false) (hk : k < cnt x.testBit 6) :
    ∃ c, c < ct (m1 108) 6 ∧ fX10_coilAt n (nI x) (nI k) = some (nI c) ∧ fX12_watchedOne n d (nI k) m1 = some (nI c) := by
  obtain ⟨c, c1, c2, c3⟩ := pick_ex (p := x.testBit) (k := k) 6 hk
  have c4 : c < ct (m1 108) 6 := by
    rcases Nat.lt_or_ge c (ct (m1 108) 6) with h | h
    · exact h
    · rw [hb c c1, hz c c1 h] at c2; cases c2
  refine ⟨c, c4, c_coilAt hn hx c1 c2 c3, r_watchedOne hn hA c1 (by rw [← hb c c1]; exact c2) ?_⟩
  rw [← c3]
  exact cnt_congr c (fun i hi => (hb i (by omega)).symm)
theorem hOK_n {v : Nat} (h : v ≤ 999) : hOK (nI v) := by
  unfold hOK
  rw [nI_toInt (by omega)]
  omega
theorem knock_fin {c : Nat} {R Q h : Int32} (hW : RW N f o (m 108)) (ho : o + 24 ≤ 130) (hc : c < ct (m 108) 6) (hh : hOK h) (hs : ct (m 108) 8 < 40) :
    ∃ f' m', fX10_drawKnocked_89 n o (nI c) h f = some f' ∧ fX12_aDay_179 n (m 108 1) R Q (nI c) h m = fX12_aDay_191 n (m 108 1) R Q m' ∧ RW N f' o (m' 108) ∧ dF o f f' m m' := by
  obtain ⟨r, f', m', u1, u2, u3, u4⟩ := step_sim (n := n) (k := 2) (c := c) (h := h) hW ho (by omega) hc hh hs
  have s0 : f o 0 = m 108 1 := hW.1.1
  refine ⟨f', m', ?_, ?_, u3, u4⟩
  · simp (disch := omega) only [ltE, bnE, bn2E, gdE, nc, nI_add, n_mul, n_sub, ib_nI, up_hit, up_miss, n_le, n_lt, n_eq, n_eq0, n_lt0, n_0le, n_0lt, n_le0, zb_0, zb_1, if_pos, if_neg, ↓reduceIte, fX10_drawKnocked_89, s0, u1]
  · simp (disch := omega) only [ltE, bnE, bn2E, gdE, nc, nI_add, n_mul, n_sub, ib_nI, up_hit, up_miss, n_le, n_lt, n_eq, n_eq0, n_lt0, n_0le, n_0lt, n_le0, zb_0, zb_1, if_pos, if_neg, ↓reduceIte, fX12_aDay_179, u2]
theorem knock_sim {x R Q M : Nat} (hn : 2000 ≤ n) (hW : RW N f o (m 108)) (ho : o + 24 ≤ 130) (hx : x < 64) (hb : ∀ c, c < 6 → x.testBit c = wat (m 108) (nI c) (m 108 1)) (hz : ∀ c, c < 6 → ct (m 108) 6 ≤ c → wat (m 108) (nI c) (m 108 1) = false) (hM : cnt x.testBit 6 = M) :
    ∃ f' m', fX10_drawKnocked n o (nI x) (nI Q) f = some f' ∧ fX12_aDay_92 n (m 108 1) (nI R) (nI Q) (nI M) m = fX12_aDay_191 n (m 108 1) (nI R) (nI Q) m' ∧ RW N f' o (m' 108) ∧ dF o f f' m m' := by
  have hcl := cnt_le (p := x.testBit) 6
  have h1 := z_sim hW (zN m) ho
  unfold fX10_drawKnocked fX12_aDay_92
  rw [c_draw hW, r_draw]
  have d1 : dF o f (up f o 5 (zN m)) m (up m 108 0 (zN m)) := dF_z
  generalize up f o 5 (zN m) = f1 at h1 d1 ⊢
  generalize up m 108 0 (zN m) = m1 at h1 d1 ⊢
  have e1 : m1 108 1 = m 108 1 := d1.2.2 1 (by omega) (by omega) (by omega)
  simp only [bn2E]
  by_cases q : nI Q ≤ irm (ushr (zN m) (nI 8)) (nI 1000)
  · rw [if_pos q, if_pos q]
    refine ⟨f1, m1, ?_, rfl, h1, d1⟩
    simp (disch := omega) only [ltE, bnE, bn2E, gdE, nc, nI_add, n_mul, n_sub, ib_nI, up_hit, up_miss, n_le, n_lt, n_eq, n_eq0, n_lt0, n_0le, n_0lt, n_le0, zb_0, zb_1, if_pos, if_neg, ↓reduceIte, fX10_drawKnocked_17, bc_bit x hx]
  rw [if_neg q, if_neg q]
  by_cases q3 : M = 0
  · refine ⟨f1, m1, ?_, ?_, h1, d1⟩
    · simp (disch := omega) only [ltE, bnE, bn2E, gdE, nc, nI_add, n_mul, n_sub, ib_nI, up_hit, up_miss, n_le, n_lt, n_eq, n_eq0, n_lt0, n_0le, n_0lt, n_le0, zb_0, zb_1, if_pos, if_neg, ↓reduceIte, fX10_drawKnocked_17, bc_bit x hx, hM, q3]
    · simp (disch := omega) only [ltE, bnE, bn2E, gdE, nc, nI_add, n_mul, n_sub, ib_nI, up_hit, up_miss, n_le, n_lt, n_eq, n_eq0, n_lt0, n_0le, n_0lt, n_le0, zb_0, zb_1, if_pos, if_neg, ↓reduceIte, q3]
  obtain ⟨k8, k81, k82⟩ := h1.okA.2.2.1
  have g4 : f1 (o + 9) 4 = nI k8 := by
    obtain ⟨_, _, _, _, _, _, _, _, _, _, h3, _⟩ := h1
    rw [h3.2.1, ← k82, h3.2.2.1]
  by_cases q4 : k8 = 40
  · refine ⟨f1, m1, ?_, ?_, h1, d1⟩
    · simp (disch := omega) only [ltE, bnE, bn2E, gdE, nc, nI_add, n_mul, n_sub, ib_nI, up_hit, up_miss, n_le, n_lt, n_eq, n_eq0, n_lt0, n_0le, n_0lt, n_le0, zb_0, zb_1, if_pos, if_neg, ↓reduceIte, fX10_drawKnocked_17, bc_bit x hx, hM, q3, fX8_isFull, g4]
    · simp (disch := omega) only [ltE, bnE, bn2E, gdE, nc, nI_add, n_mul, n_sub, ib_nI, up_hit, up_miss, n_le, n_lt, n_eq, n_eq0, n_lt0, n_0le, n_0lt, n_le0, zb_0, zb_1, if_pos, if_neg, ↓reduceIte, q3, k82]
  -- it comes
  have h2 := z_sim h1 (zN m1) ho
  have d2 : dF o f1 (up f1 o 5 (zN m1)) m1 (up m1 108 0 (zN m1)) := dF_z
  obtain ⟨y, y1, y2⟩ := ushr8 (zN m1)
  have cd1 := c_draw (n := n) h1
  have rd1 := r_draw (n := n) (m := m1)
  rw [y2] at cd1 rd1
  have m28 : up m1 108 0 (zN m1) 108 8 = nI k8 := by (simp (disch := omega) only [up_miss]); exact k82
  generalize up f1 o 5 (zN m1) = f2 at h2 d2 cd1
  generalize up m1 108 0 (zN m1) = m2 at h2 d2 rd1 m28
  have d12 := d1.trans d2
  have e2 : m2 108 1 = m 108 1 := d12.2.2 1 (by omega) (by omega) (by omega)
  have hy : y % M < M := Nat.mod_lt _ (by omega)
  obtain ⟨c, cc, ca, cb⟩ := coil_sim (n := n) (k := y % M) (d := m 108 1) hn h2.okA hx (fun c hc => by rw [d12.wate hW]; exact hb c hc) (fun c hc h => by rw [d12.wate hW]; exact hz c hc (by rw [d12.cte (by omega) (by omega) (by omega)] at h; exact h)) (by omega)
  obtain ⟨k10, k101, k102⟩ := h2.okA.2.2.2.1
  have g13 : f2 o 13 = nI k10 := by
    obtain ⟨_, _, _, _, _, _, _, _, _, _, _, h4, _⟩ := h2
    rw [h4.2.1, ← k102, h4.2.2.1]
  have kk : ∀ i, i < k10 → f2 (o + 16) i = m2 108 (251 + i) ∧ hOK (m2 108 (251 + i)) := by
    obtain ⟨_, _, _, _, _, _, _, _, _, _, _, h4, _⟩ := h2
    have : nI k10 = nI _ := k102.symm.trans h4.2.2.1
    have h60 := h4.1
    rw [n_eq (by omega) (by omega)] at this
    rw [this]
    exact h4.2.2.2
  have hM0 : nz (nI M) = true := by simp only [nz, n_eq0 (show M < 2147483648 by omega), q3, not_false_eq_true, decide_true]
  have h3 := z_sim h2 (zN m2) ho
  have d3 : dF o f2 (up f2 o 5 (zN m2)) m2 (up m2 108 0 (zN m2)) := dF_z
  obtain ⟨v, v1, v2⟩ := ushr8 (zN m2)
  have cd2 := c_draw (n := n) h2
  have rd2 := r_draw (n := n) (m := m2)
  rw [v2] at cd2 rd2
  have k3 : up f2 o 5 (zN m2) o 13 = nI k10 := by (simp (disch := omega) only [up_miss]); exact g13
  have k3m : up m2 108 0 (zN m2) 108 10 = nI k10 := by (simp (disch := omega) only [up_miss]); exact k102
  have kr : ∀ i, up f2 o 5 (zN m2) (o + 16) i = f2 (o + 16) i := fun i => by (simp (disch := omega) only [up_miss])
  have krm : ∀ i, i ≠ 0 → up m2 108 0 (zN m2) 108 i = m2 108 i := fun i hi => by (simp (disch := omega) only [up_miss])
  generalize up f2 o 5 (zN m2) = f3 at h3 d3 cd2 k3 kr
  generalize up m2 108 0 (zN m2) = m3 at h3 d3 rd2 k3m krm
  have d13 := d12.trans d3
  have e3 : m3 108 1 = m 108 1 := d13.2.2 1 (by omega) (by omega) (by omega)
  have c6 : c < ct (m3 108) 6 := by rw [d3.cte (by omega) (by omega) (by omega)]; exact cc
  have c8 : ct (m3 108) 8 < 40 := by
    unfold ct
    rw [krm 8 (by omega), m28, nc (by omega)]
    omega
  by_cases q5 : k10 = 0
  · obtain ⟨f', m', u1, u2, u3, u4⟩ := knock_fin (n := n) (c := c) (R := nI R) (Q := nI Q) (h := nI (1 + v % 99)) h3 ho c6 (hOK_n (by omega)) c8
    rw [e3] at u2
    refine ⟨f', m', ?_, ?_, u3, d13.trans u4⟩
    · simp (disch := omega) only [ltE, bnE, bn2E, gdE, nc, nI_add, n_mul, n_sub, ib_nI, up_hit, up_miss, n_le, n_lt, n_eq, n_eq0, n_lt0, n_0le, n_0lt, n_le0, zb_0, zb_1, if_pos, if_neg, ↓reduceIte, fX10_drawKnocked_17, bc_bit x hx, hM, q3, fX8_isFull, g4, cd1, gd_of hM0, n_irm, ca, g13, q5, cd2, u1]
    · simp (disch := omega) only [ltE, bnE, bn2E, gdE, nc, nI_add, n_mul, n_sub, ib_nI, up_hit, up_miss, n_le, n_lt, n_eq, n_eq0, n_lt0, n_0le, n_0lt, n_le0, zb_0, zb_1, if_pos, if_neg, ↓reduceIte, q3, k82, rd1, gd_of hM0, n_irm, cb, k102, q5, rd2, u2]
  · have hv : v % k10 < k10 := Nat.mod_lt _ (by omega)
    have hK0 : nz (nI k10) = true := by simp only [nz, n_eq0 (show k10 < 2147483648 by omega), q5, not_false_eq_true, decide_true]
    obtain ⟨f', m', u1, u2, u3, u4⟩ := knock_fin (n := n) (c := c) (R := nI R) (Q := nI Q) (h := m2 108 (251 + v % k10)) h3 ho c6 (kk _ hv).2 c8
    rw [e3] at u2
    refine ⟨f', m', ?_, ?_, u3, d13.trans u4⟩
    · simp (disch := omega) only [ltE, bnE, bn2E, gdE, nc, nI_add, n_mul, n_sub, ib_nI, up_hit, up_miss, n_le, n_lt, n_eq, n_eq0, n_lt0, n_0le, n_0lt, n_le0, zb_0, zb_1, if_pos, if_neg, ↓reduceIte, fX10_drawKnocked_17, bc_bit x hx, hM, q3, fX8_isFull, g4, cd1, gd_of hM0, n_irm, ca, g13, q5, cd2, k3, gd_of hK0, kr, (kk _ hv).1, u1]
    · simp (disch := omega) only [ltE, bnE, bn2E, gdE, nc, nI_add, n_mul, n_sub, ib_nI, up_hit, up_miss, n_le, n_lt, n_eq, n_eq0, n_lt0, n_0le, n_0lt, n_le0, zb_0, zb_1, if_pos, if_neg, ↓reduceIte, q3, k82, rd1, gd_of hM0, n_irm, cb, k102, q5, rd2, k3m, gd_of hK0, krm, u2]
end DB
