/-! a day passes -/
theorem ltE {α β : Type} {x : α} {k : α → β} : lt x k = k x := Eq.trans (lt_eq (x := x) (k := k)) rfl
theorem bnE {α β : Type} {a : α} {k : α → Option β} : bn (some a) k = k a := Eq.trans (bn_s (a := a) (k := k)) rfl
theorem bn2E {α β γ : Type} {a : α} {b : β} {k : α → β → Option γ} : bn2 (some (a, b)) k = k a b := Eq.trans (bn2_s (a := a) (b := b) (k := k)) rfl
theorem gdE {α : Type} {k : Option α} : gd true k = k := Eq.trans gd_t rfl
theorem bv_nI {y : Int32} {v : Nat} (h : y.toBitVec.toNat = v) (hv : v < 4294967296) : y = nI v := by
  apply Int32.toBitVec_inj.mp
  apply BitVec.eq_of_toNat_eq
  rw [h, pk_tn hv]
theorem ushr8 (z : Int32) : ∃ x, x < 16777216 ∧ ushr z (nI 8) = nI x := by
  have e := pk_ushr z (nI 8) 8 (by decide)
  have h : z.toBitVec.toNat < 4294967296 := z.toBitVec.isLt
  refine ⟨z.toBitVec.toNat / 2 ^ 8, by omega, bv_nI ?_ (by omega)⟩
  exact e
theorem exs_cg2 {p q : Nat → Bool} {n k : Nat} (hn : n = k) (h : ∀ i, i < n → p i = q i) : exs p n = exs q k := by subst hn; exact exs_congr n h
theorem wat_cg {a a' : Nat → Int32} (h : ∀ i, i = 7 ∨ (31 ≤ i ∧ i < 91) → a' i = a i) (h7 : ct a 7 ≤ 20) {c d : Int32} : wat a' c d = wat a c d := by
  unfold wat
  have e : ct a' 7 = ct a 7 := by unfold ct; rw [h 7 (by omega)]
  refine exs_cg2 e (fun i hi => ?_)
  unfold onW
  rw [e] at hi
  rw [h (31 + 3 * i) (by omega), h (32 + 3 * i) (by omega), h (33 + 3 * i) (by omega)]
def zN (m : Mm) : Int32 := m 108 0 * nI 1103515245 + nI 12345
section DA
variable {N o n : Nat} {f m : Mm}
theorem z_sim (h : RW N f o (m 108)) (v : Int32) (ho : o + 24 ≤ 130) : RW N (up f o 5 v) o (up m 108 0 v 108) := by
  obtain ⟨⟨s0, s1, s2, s3, s4, s5, s6⟩, nC, nw, ns, nk, ny, no, nt, h1, h2, h3, h4, h5, h6, h7⟩ := h
  exact putSc h1 h2 h3 h4 h5 h6 h7 ⟨by simp (disch := omega) only [ltE, bnE, bn2E, gdE, nc, nI_add, n_mul, n_sub, ib_nI, up_hit, up_miss, n_le, n_lt, n_eq, n_eq0, n_lt0, n_0le, n_0lt, n_le0, zb_0, zb_1, if_pos, if_neg, ↓reduceIte, Nat.reduceAdd, Nat.reduceMul, Nat.reduceSub, s0], by simp (disch := omega) only [ltE, bnE, bn2E, gdE, nc, nI_add, n_mul, n_sub, ib_nI, up_hit, up_miss, n_le, n_lt, n_eq, n_eq0, n_lt0, n_0le, n_0lt, n_le0, zb_0, zb_1, if_pos, if_neg, ↓reduceIte, Nat.reduceAdd, Nat.reduceMul, Nat.reduceSub, s1], by simp (disch := omega) only [ltE, bnE, bn2E, gdE, nc, nI_add, n_mul, n_sub, ib_nI, up_hit, up_miss, n_le, n_lt, n_eq, n_eq0, n_lt0, n_0le, n_0lt, n_le0, zb_0, zb_1, if_pos, if_neg, ↓reduceIte, Nat.reduceAdd, Nat.reduceMul, Nat.reduceSub, s2], by simp (disch := omega) only [ltE, bnE, bn2E, gdE, nc, nI_add, n_mul, n_sub, ib_nI, up_hit, up_miss, n_le, n_lt, n_eq, n_eq0, n_lt0, n_0le, n_0lt, n_le0, zb_0, zb_1, if_pos, if_neg, ↓reduceIte, Nat.reduceAdd, Nat.reduceMul, Nat.reduceSub, s3], by simp (disch := omega) only [ltE, bnE, bn2E, gdE, nc, nI_add, n_mul, n_sub, ib_nI, up_hit, up_miss, n_le, n_lt, n_eq, n_eq0, n_lt0, n_0le, n_0lt, n_le0, zb_0, zb_1, if_pos, if_neg, ↓reduceIte, Nat.reduceAdd, Nat.reduceMul, Nat.reduceSub, s4], by simp (disch := omega) only [ltE, bnE, bn2E, gdE, nc, nI_add, n_mul, n_sub, ib_nI, up_hit, up_miss, n_le, n_lt, n_eq, n_eq0, n_lt0, n_0le, n_0lt, n_le0, zb_0, zb_1, if_pos, if_neg, ↓reduceIte, Nat.reduceAdd, Nat.reduceMul, Nat.reduceSub], by simp (disch := omega) only [ltE, bnE, bn2E, gdE, nc, nI_add, n_mul, n_sub, ib_nI, up_hit, up_miss, n_le, n_lt, n_eq, n_eq0, n_lt0, n_0le, n_0lt, n_le0, zb_0, zb_1, if_pos, if_neg, ↓reduceIte, Nat.reduceAdd, Nat.reduceMul, Nat.reduceSub]; exact s6⟩ (fun j hj => by (simp (disch := omega) only [up_miss])) (fun k k1 k2 => by (simp (disch := omega) only [up_rn])) (fun i hi => by (simp (disch := omega) only [up_miss])) (lwSame.of (fun k hk => by (simp (disch := omega) only [up_rn])))
theorem c_draw (h : RW N f o (m 108)) : fX10_nextDraw n o f = some (ushr (zN m) (nI 8), up f o 5 (zN m)) := by
  have s5 : f o 5 = m 108 0 := h.1.2.2.2.2.2.1
  unfold fX10_nextDraw zN
  simp (disch := omega) only [ltE, bnE, bn2E, gdE, nc, nI_add, n_mul, n_sub, ib_nI, up_hit, up_miss, n_le, n_lt, n_eq, n_eq0, n_lt0, n_0le, n_0lt, n_le0, zb_0, zb_1, if_pos, if_neg, ↓reduceIte, s5]
theorem r_draw : fX12_draw n m = some (ushr (zN m) (nI 8), up m 108 0 (zN m)) := by
  unfold fX12_draw zN
  simp (disch := omega) only [ltE, bnE, bn2E, gdE, nc, nI_add, n_mul, n_sub, ib_nI, up_hit, up_miss, n_le, n_lt, n_eq, n_eq0, n_lt0, n_0le, n_0lt, n_le0, zb_0, zb_1, if_pos, if_neg, ↓reduceIte]
theorem r_watchedOne {c k : Nat} {d : Int32} (hn : 2000 ≤ n) (hA : okA (m 108)) (hc : c < 6) (hp : wat (m 108) (nI c) d = true) (hk : cnt (fun i => wat (m 108) (nI i) d) c = k) : fX12_watchedOne n d (nI k) m = some (nI c) := by
  unfold fX12_watchedOne
  have key : ∀ q i, i ≤ c → c - i < q → fX12_watchedOne_5L n q d (nI (k - cnt (fun i => wat (m 108) (nI i) d) i)) (nI i) m = some (nI c) := by
    intro q
    induction q with
    | zero => intro i h1 h2; omega
    | succ q ih =>
      intro i h1 h2
      have hm := cnt_mono (p := fun i => wat (m 108) (nI i) d) c h1
      have hle := cnt_le (p := fun i => wat (m 108) (nI i) d) c
      by_cases e : i = c
      · subst e
        have e2 : k - cnt (fun i => wat (m 108) (nI i) d) i = 0 := by omega
        simp (disch := omega) only [ltE, bnE, bn2E, gdE, nc, nI_add, n_mul, n_sub, ib_nI, up_hit, up_miss, n_le, n_lt, n_eq, n_eq0, n_lt0, n_0le, n_0lt, n_le0, zb_0, zb_1, if_pos, if_neg, ↓reduceIte, fX12_watchedOne_35, fX12_watchedOne_19, fX12_watchedOne_5, fX12_watchedOne_5L, q_isWatched hn hA, bI_ite, hp, cond_true, e2]
      · cases hb : wat (m 108) (nI i) d
        · have := ih (i + 1) (by omega) (by omega)
          rw [cnt_s, hb] at this
          simp (disch := omega) only [ltE, bnE, bn2E, gdE, nc, nI_add, n_mul, n_sub, ib_nI, up_hit, up_miss, n_le, n_lt, n_eq, n_eq0, n_lt0, n_0le, n_0lt, n_le0, zb_0, zb_1, if_pos, if_neg, ↓reduceIte, fX12_watchedOne_35, fX12_watchedOne_19, fX12_watchedOne_5, fX12_watchedOne_5L, q_isWatched hn hA, bI_ite, hb, cond_false, Nat.sub_zero]
          simpa using this
        · have := ih (i + 1) (by omega) (by omega)
          rw [cnt_s, hb] at this
          have h3 := cnt_mono (p := fun i => wat (m 108) (nI i) d) c (show i + 1 ≤ c by omega)
          rw [cnt_s, hb] at h3
          simp only [if_true] at h3 this
          have e3 : k - cnt (fun i => wat (m 108) (nI i) d) i - 1 = k - (cnt (fun i => wat (m 108) (nI i) d) i + 1) := by omega
          have e4 : ¬ k - cnt (fun i => wat (m 108) (nI i) d) i = 0 := by omega
          simp (disch := omega) only [ltE, bnE, bn2E, gdE, nc, nI_add, n_mul, n_sub, ib_nI, up_hit, up_miss, n_le, n_lt, n_eq, n_eq0, n_lt0, n_0le, n_0lt, n_le0, zb_0, zb_1, if_pos, if_neg, ↓reduceIte, fX12_watchedOne_35, fX12_watchedOne_19, fX12_watchedOne_5, fX12_watchedOne_5L, q_isWatched hn hA, bI_ite, hb, cond_true, e4, e3]
          exact this
  exact key n 0 (by omega) (by omega)
/-- the frame of what happens in a day -/
def dF (o : Nat) (f f' m m' : Mm) : Prop := (∀ k, k < o ∨ o + 24 ≤ k → f' k = f k) ∧ (∀ k, k ≠ 108 → m' k = m k) ∧ (∀ i, i ≠ 0 → i ≠ 8 → ¬ (91 ≤ i ∧ i < 251) → m' 108 i = m 108 i)
theorem dF.trans {f f' f'' m m' m'' : Mm} (h : dF o f f' m m') (h' : dF o f' f'' m' m'') : dF o f f'' m m'' :=
  ⟨fun k hk => (h'.1 k hk).trans (h.1 k hk), fun k hk => (h'.2.1 k hk).trans (h.2.1 k hk), fun i a b c => (h'.2.2 i a b c).trans (h.2.2 i a b c)⟩
theorem dF_z {v : Int32} : dF o f (up f o 5 v) m (up m 108 0 v) := ⟨fun k hk => by (simp (disch := omega) only [up_rn]), fun k hk => by (simp (disch := omega) only [up_rn]), fun i a b c => by (simp (disch := omega) only [up_miss])⟩
theorem step_sim {k c : Nat} {h : Int32} (hW : RW N f o (m 108)) (ho : o + 24 ≤ 130) (hk : k ≤ 5) (hc : c < ct (m 108) 6) (hh : hOK h) (hs : ct (m 108) 8 < 40) :
    ∃ r f' m', fX8_add n (o + 9) (nI k) (nI c) (m 108 1) h f = some (r, f') ∧ fX12_comes n (nI k) (nI c) (m 108 1) h m = some m' ∧ RW N f' o (m' 108) ∧ dF o f f' m m' := by
  obtain ⟨h0, nC, nw, ns, nk, ny, no, nt, h1, h2, h3, h4, h5, h6, h7⟩ := hW
  have q1 := h1.1
  have q3 := h3.1
  rw [ct_n h1.2.2.1 (by omega)] at hc
  rw [ct_n h3.2.2.1 (by omega)] at hs
  obtain ⟨g1, g2, g3, g4, g5, g6, g7⟩ := h3
  obtain ⟨f', m', e1, e2, e3, e4, e5, e6, e7, e8⟩ := add_sim (n := n) (d := m 108 1) (h := h) h0 h1 h2 ⟨g1, g2, g3, g4, g5, g6, g7⟩ h4 h5 h6 h7 ho hk hc hh hs
  refine ⟨nI ns, f', m', e1, e2, e4, fun k hk => e5 k (by omega), e6, fun i i1 i2 i3 => ?_⟩
  have e1' : 91 + 4 * ns + 1 = 92 + 4 * ns := by omega
  have e2' : 91 + 4 * ns + 2 = 93 + 4 * ns := by omega
  have e3' : 91 + 4 * ns + 3 = 94 + 4 * ns := by omega
  unfold fX12_comes at e2
  rw [show (nI 8).toNatClampNeg = 8 from nc (by omega), g3] at e2
  simp (disch := omega) only [ltE, gdE, nc, nI_add, n_mul, ib_nI, up_hit, up_miss, g3, e1', e2', e3'] at e2
  have e2 := Option.some.inj e2
  rw [← e2]
  (simp (disch := omega) only [up_miss])
theorem just_sim {x R M : Nat} {Q : Int32} (hn : 2000 ≤ n) (hW : RW N f o (m 108)) (ho : o + 24 ≤ 130) (hx : x < 64) (hb : ∀ c, c < 6 → x.testBit c = wat (m 108) (nI c) (m 108 1)) (hz : ∀ c, c < 6 → ct (m 108) 6 ≤ c → wat (m 108) (nI c) (m 108 1) = false) (hM : cnt x.testBit 6 = M) :
    ∃ f' m', fX10_drawJust n o (nI x) (nI R) f = some f' ∧ (bn2 (fX12_draw n m) fun r16 f15 =>
      if nI R ≤ (irm r16 (nI 1000)) then (fX12_aDay_92 n (m 108 1) (nI R) Q (nI M) f15) else (if nI M ≤ 0 then (fX12_aDay_92 n (m 108 1) (nI R) Q (nI M) f15) else (
        if (nI 40) ≤ (f15 108 (nI 8).toNatClampNeg) then (fX12_aDay_92 n (m 108 1) (nI R) Q (nI M) f15) else (
        bn (fX12_watchedOne n (m 108 1) (nI 0) f15) fun r52 =>
        bn (fX12_comes n (nI 1) r52 (m 108 1) (f15 108 (nI 2).toNatClampNeg) f15) fun f54 => fX12_aDay_92 n (m 108 1) (nI R) Q (nI M) f54)))) = fX12_aDay_92 n (m 108 1) (nI R) Q (nI M) m' ∧ RW N f' o (m' 108) ∧ dF o f f' m m' := by
  have hcl := cnt_le (p := x.testBit) 6
  have h1 := z_sim hW (zN m) ho
  unfold fX10_drawJust
  rw [c_draw hW, r_draw]
  generalize hf1 : up f o 5 (zN m) = f1 at *
  generalize hm1 : up m 108 0 (zN m) = m1 at *
  have d1 : dF o f f1 m m1 := by rw [← hf1, ← hm1]; exact dF_z
  have e1 : m1 108 1 = m 108 1 := d1.2.2 1 (by omega) (by omega) (by omega)
  have e2 : m1 108 2 = m 108 2 := d1.2.2 2 (by omega) (by omega) (by omega)
  simp only [bn2E]
  by_cases q : nI R ≤ irm (ushr (zN m) (nI 8)) (nI 1000)
  · rw [if_pos q, if_pos q]
    refine ⟨f1, m1, ?_, rfl, h1, d1⟩
    simp (disch := omega) only [ltE, bnE, bn2E, gdE, nc, nI_add, n_mul, n_sub, ib_nI, up_hit, up_miss, n_le, n_lt, n_eq, n_eq0, n_lt0, n_0le, n_0lt, n_le0, zb_0, zb_1, if_pos, if_neg, ↓reduceIte, fX10_drawJust_17]
  rw [if_neg q, if_neg q]
  by_cases q2 : x = 0
  · have : M = 0 := by rw [← hM, q2]; decide
    refine ⟨f1, m1, ?_, ?_, h1, d1⟩
    · simp (disch := omega) only [ltE, bnE, bn2E, gdE, nc, nI_add, n_mul, n_sub, ib_nI, up_hit, up_miss, n_le, n_lt, n_eq, n_eq0, n_lt0, n_0le, n_0lt, n_le0, zb_0, zb_1, if_pos, if_neg, ↓reduceIte, fX10_drawJust_17, q2]
    · simp (disch := omega) only [ltE, bnE, bn2E, gdE, nc, nI_add, n_mul, n_sub, ib_nI, up_hit, up_miss, n_le, n_lt, n_eq, n_eq0, n_lt0, n_0le, n_0lt, n_le0, zb_0, zb_1, if_pos, if_neg, ↓reduceIte, this]
  have q3 : ¬ M = 0 := fun e => q2 ((nz_bit x hx).mpr (hM.trans e))
  obtain ⟨k8, k81, k82⟩ := h1.okA.2.2.1
  have g4 : f1 (o + 9) 4 = nI k8 := by
    obtain ⟨_, _, _, _, _, _, _, _, _, _, h3, _⟩ := h1
    rw [h3.2.1, ← k82, h3.2.2.1]
  by_cases q4 : k8 = 40
  · refine ⟨f1, m1, ?_, ?_, h1, d1⟩
    · simp (disch := omega) only [ltE, bnE, bn2E, gdE, nc, nI_add, n_mul, n_sub, ib_nI, up_hit, up_miss, n_le, n_lt, n_eq, n_eq0, n_lt0, n_0le, n_0lt, n_le0, zb_0, zb_1, if_pos, if_neg, ↓reduceIte, fX10_drawJust_17, q2, fX8_isFull, g4]
    · simp (disch := omega) only [ltE, bnE, bn2E, gdE, nc, nI_add, n_mul, n_sub, ib_nI, up_hit, up_miss, n_le, n_lt, n_eq, n_eq0, n_lt0, n_0le, n_0lt, n_le0, zb_0, zb_1, if_pos, if_neg, ↓reduceIte, q3, k82]
  have hw : ∀ c, wat (m1 108) c (m 108 1) = wat (m 108) c (m 108 1) := fun c => by
    obtain ⟨_, ⟨k7, k71, k72⟩, _⟩ := hW.okA
    exact wat_cg (fun i hi => d1.2.2 i (by omega) (by omega) (by omega)) (by rw [ct_n k72 (by omega)]; exact k71)
  obtain ⟨c, c1, c2, c3⟩ := pick_ex (p := x.testBit) (k := 0) 6 (by omega)
  have c4 : c < ct (m 108) 6 := by
    rcases Nat.lt_or_ge c (ct (m 108) 6) with h | h
    · exact h
    · rw [hb c c1, hz c c1 h] at c2; cases c2
  have c6 : ct (m1 108) 6 = ct (m 108) 6 := by unfold ct; rw [d1.2.2 6 (by omega) (by omega) (by omega)]
  have w1 := r_watchedOne (n := n) (m := m1) (c := c) (k := 0) (d := m 108 1) hn h1.okA c1 (by rw [hw, ← hb c c1]; exact c2) (by
    rw [← c3]
    refine cnt_congr c (fun i hi => ?_)
    show wat (m1 108) (nI i) (m 108 1) = _
    rw [hw, hb i (by omega)])
  obtain ⟨_, _, _, _, _, _, _, _, ⟨w, w1', w2, w3⟩, _⟩ := hW.1
  have hwn : hOK (m 108 2) := by
    rw [w3]
    unfold hOK
    rw [nI_toInt (by omega)]
    omega
  obtain ⟨r, f', m', u1, u2, u3, u4⟩ := step_sim (n := n) (k := 1) (c := c) (h := m 108 2) h1 ho (by omega) (by rw [c6]; exact c4) hwn (by rw [ct_n k82 (by omega)]; omega)
  rw [e1] at u1 u2
  have f10 : f1 o 0 = m 108 1 := by rw [h1.1.1]; exact e1
  have f12 : f1 o 2 = m 108 2 := by rw [h1.1.2.2.1]; exact e2
  refine ⟨f', m', ?_, ?_, u3, d1.trans u4⟩
  · simp (disch := omega) only [ltE, bnE, bn2E, gdE, nc, nI_add, n_mul, n_sub, ib_nI, up_hit, up_miss, n_le, n_lt, n_eq, n_eq0, n_lt0, n_0le, n_0lt, n_le0, zb_0, zb_1, if_pos, if_neg, ↓reduceIte, fX10_drawJust_17, q2, fX8_isFull, g4, c_coilAt hn hx c1 c2 c3, f10, f12, u1]
  · simp (disch := omega) only [ltE, bnE, bn2E, gdE, nc, nI_add, n_mul, n_sub, ib_nI, up_hit, up_miss, n_le, n_lt, n_eq, n_eq0, n_lt0, n_0le, n_0lt, n_le0, zb_0, zb_1, if_pos, if_neg, ↓reduceIte, q3, k82, w1, e2, u2]
end DA
