/-! which coils to buy so that it is settled soonest -/
theorem nar_b {b : Bool} : vp_nar .boolean (bI b) = bI b := by cases b <;> decide
theorem minN {C : Nat} (h : C ≤ 1000) : minI (nI C) (nI 60) = nI (min C 60) := by
  unfold minI
  by_cases q : 60 < C
  · rw [if_pos (by rw [n_lt (by omega) (by omega)]; exact q), show min C 60 = 60 from by omega]
  · rw [if_neg (by rw [n_lt (by omega) (by omega)]; exact q), show min C 60 = C from by omega]
/-- the belief behind i days, with coils of that size more -/
def bW (a : Nat → Int32) (D B s : Nat) : Nat → Nat
  | 0 => B
  | i + 1 => belN (bW a D B s i) (rateS a (seenS a (nI (D + i)) + nI s) (nI (D + i))) (knockS a (seenS a (nI (D + i)) + nI s) (nI (D + i))) (fitOnS a (nI (D + i)))
theorem bW_s {a : Nat → Int32} {D B s i : Nat} : bW a D B s (i + 1) = belN (bW a D B s i) (rateS a (seenS a (nI (D + i)) + nI s) (nI (D + i))) (knockS a (seenS a (nI (D + i)) + nI s) (nI (D + i))) (fitOnS a (nI (D + i))) := rfl
theorem bW_le {a : Nat → Int32} {D B s : Nat} (hB : B ≤ 10000) : ∀ i, bW a D B s i ≤ 10000
  | 0 => hB
  | i + 1 => belN_le (bW_le hB i)
def dG (g : Nat → Nat) (v : Nat) : Nat → Nat → Nat
  | 0, _ => 61
  | q + 1, i => if g (i + 1) < v then i + 1 else dG g v q (i + 1)
theorem dG_s {g : Nat → Nat} {v q i : Nat} : dG g v (q + 1) i = if g (i + 1) < v then i + 1 else dG g v q (i + 1) := rfl
theorem dG_b {g : Nat → Nat} {v : Nat} : ∀ q i, i + q ≤ 60 → i < dG g v q i ∧ dG g v q i ≤ 61
  | 0, i, h => by show i < 61 ∧ 61 ≤ 61; omega
  | q + 1, i, h => by
    rw [dG_s]
    have := dG_b (g := g) (v := v) q (i + 1) (by omega)
    split <;> omega
section SO
variable {n N : Nat}
theorem r_daysL {D B s v : Nat} {m : Mm} (hn : 2000 ≤ n) (hA : okA (m 108)) (hL : okL (m 108)) (hD : m 108 1 = nI D) (hB : B ≤ 10000) (hv : v ≤ 10000) (h9 : ∀ i, i < 60 → m 119 i = seenS (m 108) (nI (D + i)) ∧ m 120 i = bI (fitOnS (m 108) (nI (D + i)))) :
    ∀ q i t, i ≤ 60 → 60 - i < q → mS m t → ∃ t', fX12_daysFor_10L n q (nI s) (nI v) (nI (bW (m 108) D B s i)) (nI i) t = some (nI (dG (bW (m 108) D B s) v (60 - i) i), t') ∧ mS m t' := by
  intro q
  induction q with
  | zero => intro i t h1 h2; omega
  | succ q ih =>
    intro i t h1 h2 h3
    have cK : fX12_daysFor_10L n (q + 1) (nI s) (nI v) (nI (bW (m 108) D B s i)) (nI i) t = fX12_daysFor_10 n (fX12_daysFor_10L n q) (nI s) (nI v) (nI (bW (m 108) D B s i)) (nI i) t := rfl
    rw [cK]
    unfold fX12_daysFor_10
    by_cases e : i = 60
    · subst e
      exact ⟨t, by simp (disch := omega) only [ltE, bnE, bn2E, gdE, nc, nI_add, n_mul, n_sub, ib_nI, up_hit, up_miss, n_le, n_lt, n_eq, n_eq0, n_lt0, n_0le, n_0lt, n_le0, zb_0, zb_1, if_pos, if_neg, ↓reduceIte, Nat.reduceAdd, Nat.reduceMul, Nat.reduceSub, Nat.le_refl]; rfl, h3⟩
    · have t8 : t 108 = m 108 := h3 108 (by decide) (by decide)
      obtain ⟨w1, w2⟩ := h9 i (by omega)
      obtain ⟨m2, d1, d2, _⟩ := r_rateBy (n := n) (m := t) (s := seenS (m 108) (nI (D + i)) + nI s) (d := nI (D + i)) hn (by rw [t8]; exact hL)
      have t82 : m2 108 = m 108 := (d2 108 (by decide) (by decide)).trans t8
      obtain ⟨m3, d3, d4⟩ := r_knockBy (n := n) (m := m2) (s := seenS (m 108) (nI (D + i)) + nI s) (d := nI (D + i)) hn (by rw [t82]; exact hL)
      rw [t8] at d1
      rw [t82] at d3
      have b1 := bW_le (a := m 108) (D := D) (s := s) hB i
      have hb := r_believed (n := n) (b := fitOnS (m 108) (nI (D + i))) b1 (Nat.le_trans (rateS_le (a := m 108) (s := seenS (m 108) (nI (D + i)) + nI s) (d := nI (D + i))) (by omega)) (Nat.le_trans (knockS_le (a := m 108) (s := seenS (m 108) (nI (D + i)) + nI s) (d := nI (D + i))) (by omega))
      rw [← bW_s] at hb
      have x1 : t 119 = m 119 := h3 119 (by decide) (by decide)
      have x2 : m2 119 = m 119 := (d2 119 (by decide) (by decide)).trans x1
      have x3 : m3 120 = m 120 := (d4 120 (by decide) (by decide)).trans ((d2 120 (by decide) (by decide)).trans (h3 120 (by decide) (by decide)))
      have b2 := bW_le (a := m 108) (D := D) (s := s) hB (i + 1)
      have e60 : 60 - i = (60 - (i + 1)) + 1 := by omega
      rw [e60, dG_s]
      have ki : ¬ 60 ≤ i := by omega
      by_cases z : bW (m 108) D B s (i + 1) < v
      · exact ⟨m3, by simp (disch := omega) only [ltE, bnE, bn2E, gdE, nc, nI_add, n_mul, n_sub, ib_nI, up_hit, up_miss, n_le, n_lt, n_eq, n_eq0, n_lt0, n_0le, n_0lt, n_le0, zb_0, zb_1, if_pos, if_neg, ↓reduceIte, Nat.reduceAdd, Nat.reduceMul, Nat.reduceSub, ki, t8, hD, x1, w1, d1, x2, d3, x3, w2, hb, z, show ¬ v ≤ bW (m 108) D B s (i + 1) from by omega], h3.trans (d2.trans d4)⟩
      · obtain ⟨t', y1, y2⟩ := ih (i + 1) m3 (by omega) (by omega) (h3.trans (d2.trans d4))
        exact ⟨t', by simp (disch := omega) only [ltE, bnE, bn2E, gdE, nc, nI_add, n_mul, n_sub, ib_nI, up_hit, up_miss, n_le, n_lt, n_eq, n_eq0, n_lt0, n_0le, n_0lt, n_le0, zb_0, zb_1, if_pos, if_neg, ↓reduceIte, Nat.reduceAdd, Nat.reduceMul, Nat.reduceSub, ki, t8, hD, x1, w1, d1, x2, d3, x3, w2, hb, z, show v ≤ bW (m 108) D B s (i + 1) from by omega, y1], y2⟩
theorem r_days {D B s v : Nat} {m : Mm} (hn : 2000 ≤ n) (hA : okA (m 108)) (hL : okL (m 108)) (hD : m 108 1 = nI D) (hB : B ≤ 10000) (hB4 : m 108 4 = nI B) (hv : v ≤ 10000) (h9 : ∀ i, i < 60 → m 119 i = seenS (m 108) (nI (D + i)) ∧ m 120 i = bI (fitOnS (m 108) (nI (D + i)))) :
    ∃ t', fX12_daysFor n (nI s) (nI v) m = some (nI (dG (bW (m 108) D B s) v 60 0), t') ∧ mS m t' := by
  obtain ⟨t', e, h⟩ := r_daysL (n := n) (s := s) hn hA hL hD hB hv h9 n 0 m (by omega) (by omega) (fun _ _ _ => rfl)
  refine ⟨t', ?_, h⟩
  unfold fX12_daysFor
  simp (disch := omega) only [ltE, bnE, bn2E, gdE, nc, nI_add, n_mul, n_sub, ib_nI, up_hit, up_miss, n_le, n_lt, n_eq, n_eq0, n_lt0, n_0le, n_0lt, n_le0, zb_0, zb_1, if_pos, if_neg, ↓reduceIte, Nat.reduceAdd, Nat.reduceMul, Nat.reduceSub, hB4]
  exact e
theorem c_daysL {D B s v mo : Nat} {f : Mm} {a : Nat → Int32} (hn : 2000 ≤ n) (hN : N ≤ 65) (hW : RW N f 1 a) (hD : a 1 = nI D) (hB : B ≤ 10000) (hv : v ≤ 10000) (hm : mo ≤ 60) (h9 : ∀ i, i < 60 → f 104 i = seenS a (nI (D + i)) ∧ f 105 i = bI (fitOnS a (nI (D + i)))) :
    ∀ q i g, i ≤ mo → mo - i < q → fS N f g → ∃ f', fX0_daysUntilBelow_9L n N 103 1 q (nI v) (nI s) (nI mo) (nI (bW a D B s i)) (nI i) g = some (nI (if dG (bW a D B s) v (60 - i) i ≤ mo then dG (bW a D B s) v (60 - i) i else 61), f') ∧ fS N f f' := by
  intro q
  induction q with
  | zero => intro i g h1 h2; omega
  | succ q ih =>
    intro i g h1 h2 h3
    have cK : fX0_daysUntilBelow_9L n N 103 1 (q + 1) (nI v) (nI s) (nI mo) (nI (bW a D B s i)) (nI i) g = fX0_daysUntilBelow_9 n N 103 1 (fX0_daysUntilBelow_9L n N 103 1 q) (nI v) (nI s) (nI mo) (nI (bW a D B s i)) (nI i) g := rfl
    rw [cK]
    unfold fX0_daysUntilBelow_9
    by_cases e : i = mo
    · subst e
      have := (dG_b (g := bW a D B s) (v := v) (60 - i) i (by omega)).1
      rw [if_neg (show ¬ dG (bW a D B s) v (60 - i) i ≤ i from by omega)]
      exact ⟨g, by simp (disch := omega) only [ltE, bnE, bn2E, gdE, nc, nI_add, n_mul, n_sub, ib_nI, up_hit, up_miss, n_le, n_lt, n_eq, n_eq0, n_lt0, n_0le, n_0lt, n_le0, zb_0, zb_1, if_pos, if_neg, ↓reduceIte, Nat.reduceAdd, Nat.reduceMul, Nat.reduceSub, Nat.le_refl], h3⟩
    · obtain ⟨w1, w2⟩ := h9 i (by omega)
      have hW' := hW.fS (by omega) h3
      obtain ⟨f2, c1, c2⟩ := c_rateOn (n := n) (s := seenS a (nI (D + i)) + nI s) (d := nI (D + i)) hn hN hW' (by omega)
      have hW2 := hW'.fS (by omega) c2
      obtain ⟨f3, c3, c4⟩ := c_knockOn (n := n) (s := seenS a (nI (D + i)) + nI s) (d := nI (D + i)) hn hN hW2 (by omega)
      have b1 := bW_le (a := a) (D := D) (s := s) hB i
      have hb := c_believed (n := n) (b := fitOnS a (nI (D + i))) b1 (Nat.le_trans (rateS_le (a := a) (s := seenS a (nI (D + i)) + nI s) (d := nI (D + i))) (by omega)) (Nat.le_trans (knockS_le (a := a) (s := seenS a (nI (D + i)) + nI s) (d := nI (D + i))) (by omega))
      rw [← bW_s] at hb
      have x1 : g 104 = f 104 := h3.1 104 (by omega)
      have x3 : f3 105 = f 105 := (c4.1 105 (by omega)).trans ((c2.1 105 (by omega)).trans (h3.1 105 (by omega)))
      have g0 : g 1 0 = nI D := hW'.1.1.trans hD
      have f20 : f2 1 0 = nI D := hW2.1.1.trans hD
      have b2 := bW_le (a := a) (D := D) (s := s) hB (i + 1)
      have e60 : 60 - i = (60 - (i + 1)) + 1 := by omega
      rw [e60, dG_s]
      have ki : ¬ 60 ≤ i := by omega
      have km : ¬ mo ≤ i := by omega
      by_cases z : bW a D B s (i + 1) < v
      · have zz : ¬ v ≤ bW a D B s (i + 1) := by omega
        have z3 : i + 1 ≤ mo := by omega
        exact ⟨f3, by simp (disch := omega) only [ltE, bnE, bn2E, gdE, nc, nI_add, n_mul, n_sub, ib_nI, up_hit, up_miss, n_le, n_lt, n_eq, n_eq0, n_lt0, n_0le, n_0lt, n_le0, zb_0, zb_1, if_pos, if_neg, ↓reduceIte, Nat.reduceAdd, Nat.reduceMul, Nat.reduceSub, ki, km, g0, x1, w1, c1, f20, c3, x3, w2, hb, z, zz, z3], h3.trans (c2.trans c4)⟩
      · obtain ⟨t', y1, y2⟩ := ih (i + 1) f3 (by omega) (by omega) (h3.trans (c2.trans c4))
        rw [if_neg z]
        exact ⟨t', by rw [← y1]; simp (disch := omega) only [ltE, bnE, bn2E, gdE, nc, nI_add, n_mul, n_sub, ib_nI, up_hit, up_miss, n_le, n_lt, n_eq, n_eq0, n_lt0, n_0le, n_0lt, n_le0, zb_0, zb_1, if_pos, if_neg, ↓reduceIte, Nat.reduceAdd, Nat.reduceMul, Nat.reduceSub, ki, km, g0, x1, w1, c1, f20, c3, x3, w2, hb, show v ≤ bW a D B s (i + 1) from by omega], y2⟩
/-- what stands of the days of each size -/
def MM (a : Nat → Int32) (D B v C : Nat) (r : Nat → Int32) : Prop := ∀ z, z < 73 → r z = nI 0 ∨ r z = nI (dG (bW a D B z) v 60 0) ∨ (r z = nI 61 ∧ C < dG (bW a D B z) v 60 0)
theorem c_daysOf {D B z v C : Nat} {f : Mm} {a : Nat → Int32} (hn : 2000 ≤ n) (hN : N ≤ 65) (hW : RW N f 1 a) (hD : a 1 = nI D) (hB : B ≤ 10000) (hB4 : a 4 = nI B) (hv : v ≤ 10000) (hz : z < 73) (hC : f 103 3 = nI C) (hC1 : C ≤ 61) (h9 : ∀ i, i < 60 → f 104 i = seenS a (nI (D + i)) ∧ f 105 i = bI (fitOnS a (nI (D + i)))) (hM : MM a D B v C (f 106)) :
    ∃ r f', fX0_daysOf n N 103 (nI z) 1 (nI v) f = some (nI r, f') ∧ (r = dG (bW a D B z) v 60 0 ∨ (r = 61 ∧ C < dG (bW a D B z) v 60 0)) ∧ MM a D B v C (f' 106) ∧ (∀ k, k < 130 → k ≠ 106 → f' k = f k) ∧ lwSame N f f' := by
  obtain ⟨d1, d2⟩ := dG_b (g := bW a D B z) (v := v) 60 0 (by omega)
  unfold fX0_daysOf fX0_daysOf_47
  rcases hM z hz with e | e | ⟨e, e2⟩
  · obtain ⟨f1, y1, y2⟩ := c_daysL (n := n) (N := N) (s := z) (mo := min C 60) hn hN hW hD hB hv (by omega) h9 n 0 f (by omega) (by omega) fS.refl
    have f10 : f 1 1 = nI (bW a D B z 0) := hW.1.2.1.trans hB4
    have y1' : fX0_daysUntilBelow n N 103 (nI v) (nI z) 1 (nI (min C 60)) f = some (nI (if dG (bW a D B z) v 60 0 ≤ min C 60 then dG (bW a D B z) v 60 0 else 61), f1) := by
      unfold fX0_daysUntilBelow
      rw [f10]; exact y1
    generalize hr : (if dG (bW a D B z) v 60 0 ≤ min C 60 then dG (bW a D B z) v 60 0 else 61) = r at y1'
    have hr2 : r = dG (bW a D B z) v 60 0 ∨ (r = 61 ∧ C < dG (bW a D B z) v 60 0) := by
      rw [← hr]
      by_cases q : dG (bW a D B z) v 60 0 ≤ min C 60
      · rw [if_pos q]; exact Or.inl rfl
      · rw [if_neg q]; omega
    refine ⟨r, up f1 106 z (nI r), ?_, hr2, fun t ht => ?_, fun k k1 k2 => by rw [up_rn k2]; exact y2.1 k k1, y2.2.trans (lwSame.of (fun k hk => by rw [up_rn (by omega)]))⟩
    · simp (disch := omega) only [ltE, bnE, bn2E, gdE, nc, nI_add, n_mul, n_sub, ib_nI, up_hit, up_miss, n_le, n_lt, n_eq, n_eq0, n_lt0, n_0le, n_0lt, n_le0, zb_0, zb_1, if_pos, if_neg, ↓reduceIte, Nat.reduceAdd, Nat.reduceMul, Nat.reduceSub, e, hC, minN, y1']
    · by_cases q : t = z
      · subst q
        rw [up_hit]
        rcases hr2 with q | q
        · exact Or.inr (Or.inl (by rw [q]))
        · exact Or.inr (Or.inr ⟨by rw [q.1], q.2⟩)
      · rw [up_miss (Or.inr q), y2.1 106 (by omega)]; exact hM t ht
  · refine ⟨_, f, ?_, Or.inl rfl, hM, fun _ _ _ => rfl, lwSame.refl⟩
    simp (disch := omega) only [ltE, bnE, bn2E, gdE, nc, nI_add, n_mul, n_sub, ib_nI, up_hit, up_miss, n_le, n_lt, n_eq, n_eq0, n_lt0, n_0le, n_0lt, n_le0, zb_0, zb_1, if_pos, if_neg, ↓reduceIte, Nat.reduceAdd, Nat.reduceMul, Nat.reduceSub, e, show ¬ dG (bW a D B z) v 60 0 = 0 from by omega]
  · refine ⟨61, f, ?_, Or.inr ⟨rfl, e2⟩, hM, fun _ _ _ => rfl, lwSame.refl⟩
    simp (disch := omega) only [ltE, bnE, bn2E, gdE, nc, nI_add, n_mul, n_sub, ib_nI, up_hit, up_miss, n_le, n_lt, n_eq, n_eq0, n_lt0, n_0le, n_0lt, n_le0, zb_0, zb_1, if_pos, if_neg, ↓reduceIte, Nat.reduceAdd, Nat.reduceMul, Nat.reduceSub, e]
theorem c_look {D : Nat} {f : Mm} {a : Nat → Int32} (hn : 2000 ≤ n) (hW : RW N f 1 a) (hD : a 1 = nI D) : ∃ f', fX0_lookAhead n 103 1 f = some f' ∧ (∀ i, i < 60 → f' 104 i = seenS a (nI (D + i)) ∧ f' 105 i = bI (fitOnS a (nI (D + i)))) ∧ (∀ i, i < 73 → f' 106 i = nI 0) ∧ ∀ k, k ≠ 104 → k ≠ 105 → k ≠ 106 → f' k = f k := by
  obtain ⟨f1, e1, u1, u2⟩ := c_fill (n := n) (r := 106) (c := 73) (v := nI 0) (f := f) hn (by omega)
  unfold fX0_lookAhead
  simp (disch := omega) only [ltE, bnE, bn2E, gdE, nc, nI_add, n_mul, n_sub, ib_nI, up_hit, up_miss, n_le, n_lt, n_eq, n_eq0, n_lt0, n_0le, n_0lt, n_le0, zb_0, zb_1, if_pos, if_neg, ↓reduceIte, Nat.reduceAdd, Nat.reduceMul, Nat.reduceSub, e1]
  have L := loopInv (fun q i (s : Mm) => fX0_lookAhead_10L n 103 1 q (nI i) s) 60 (fun i s => (∀ j, j < i → s 104 j = seenS a (nI (D + j)) ∧ s 105 j = bI (fitOnS a (nI (D + j)))) ∧ ∀ k, k ≠ 104 → k ≠ 105 → s k = f1 k)
    (fun s => (∀ j, j < 60 → s 104 j = seenS a (nI (D + j)) ∧ s 105 j = bI (fitOnS a (nI (D + j)))) ∧ ∀ k, k ≠ 104 → k ≠ 105 → s k = f1 k)
    (fun q s h => ⟨s, by simp (disch := omega) only [ltE, bnE, bn2E, gdE, nc, nI_add, n_mul, n_sub, ib_nI, up_hit, up_miss, n_le, n_lt, n_eq, n_eq0, n_lt0, n_0le, n_0lt, n_le0, zb_0, zb_1, if_pos, if_neg, ↓reduceIte, Nat.reduceAdd, Nat.reduceMul, Nat.reduceSub, fX0_lookAhead_10, fX0_lookAhead_10L, Nat.le_refl], h⟩) ?_ n 0 f1 (by omega) (by omega) ⟨fun j hj => by omega, fun _ _ _ => rfl⟩
  · obtain ⟨f', e, h1, h2⟩ := L
    exact ⟨f', e, h1, fun i hi => by rw [h2 106 (by omega) (by omega), u1, if_pos hi], fun k k1 k2 k3 => (h2 k k1 k2).trans (u2 k k3)⟩
  · rintro q i s hi ⟨w1, w2⟩
    have hs : RW N s 1 a := hW.cg (fun k k1 k2 => by rw [w2 k (by omega) (by omega), u2 k (by omega)]) (lwSame.of (fun k hk => by rw [w2 k (by omega) (by omega), u2 k (by omega)])) (fun _ => rfl)
    have hs2 : RW N (up s 104 i (seenS a (nI (D + i)))) 1 a := hs.cg (fun k k1 k2 => by rw [up_rn (by omega)]) (lwSame.of (fun k hk => by rw [up_rn (by omega)])) (fun _ => rfl)
    have s0 : s 1 0 = nI D := hs.1.1.trans hD
    have ki : ¬ 60 ≤ i := by omega
    refine Or.inr ⟨up (up s 104 i (seenS a (nI (D + i)))) 105 i (bI (fitOnS a (nI (D + i)))), ?_, fun j hj => ?_, fun k k1 k2 => by rw [up_rn k2, up_rn k1]; exact w2 k k1 k2⟩
    · simp (disch := omega) only [ltE, bnE, bn2E, gdE, nc, nI_add, n_mul, n_sub, ib_nI, up_hit, up_miss, n_le, n_lt, n_eq, n_eq0, n_lt0, n_0le, n_0lt, n_le0, zb_0, zb_1, if_pos, if_neg, ↓reduceIte, Nat.reduceAdd, Nat.reduceMul, Nat.reduceSub, fX0_lookAhead_10, fX0_lookAhead_10L, ki, s0, c_seenOn hn hs, c_hasFit hn hs2, nar_b]
    · by_cases q : j = i
      · subst q
        exact ⟨by rw [up_rn (by omega), up_hit], by rw [up_hit]⟩
      · rw [up_rn (by omega), up_miss (Or.inr q), up_miss (Or.inr q), up_rn (by omega)]
        exact w1 j (by omega)
theorem r_look {D : Nat} {m : Mm} {x y z : Int32} (hn : 2000 ≤ n) (hA : okA (m 108)) (hD : m 108 1 = nI D) : ∃ m', fX12_soonest_37L n n x y z (nI 0) m = fX12_soonest_103L n n x y z (nI 0) (nI 61) (nI 0) (nI 0) m' ∧ (∀ i, i < 60 → m' 119 i = seenS (m 108) (nI (D + i)) ∧ m' 120 i = bI (fitOnS (m 108) (nI (D + i)))) ∧ ∀ k, k ≠ 119 → k ≠ 120 → m' k = m k := by
  have key : ∀ q i s, i ≤ 60 → 60 - i < q → ((∀ j, j < i → s 119 j = seenS (m 108) (nI (D + j)) ∧ s 120 j = bI (fitOnS (m 108) (nI (D + j)))) ∧ ∀ k, k ≠ 119 → k ≠ 120 → s k = m k) → ∃ m', fX12_soonest_37L n q x y z (nI i) s = fX12_soonest_103L n n x y z (nI 0) (nI 61) (nI 0) (nI 0) m' ∧ (∀ i, i < 60 → m' 119 i = seenS (m 108) (nI (D + i)) ∧ m' 120 i = bI (fitOnS (m 108) (nI (D + i)))) ∧ ∀ k, k ≠ 119 → k ≠ 120 → m' k = m k := by
    intro q
    induction q with
    | zero => intro i s h1 h2; omega
    | succ q ih =>
      intro i s h1 h2 h
      have cK : fX12_soonest_37L n (q + 1) x y z (nI i) s = fX12_soonest_37 n (fX12_soonest_37L n q) x y z (nI i) s := rfl
      rw [cK]
      unfold fX12_soonest_37
      by_cases e : i = 60
      · subst e
        exact ⟨s, by simp (disch := omega) only [ltE, bnE, bn2E, gdE, nc, nI_add, n_mul, n_sub, ib_nI, up_hit, up_miss, n_le, n_lt, n_eq, n_eq0, n_lt0, n_0le, n_0lt, n_le0, zb_0, zb_1, if_pos, if_neg, ↓reduceIte, Nat.reduceAdd, Nat.reduceMul, Nat.reduceSub, Nat.le_refl], h⟩
      · have ki : ¬ 60 ≤ i := by omega
        obtain ⟨w1, w2⟩ := h
        have s8 : s 108 = m 108 := w2 108 (by omega) (by omega)
        have q1 : fX12_seenOn n (nI (D + i)) s = some (seenS (m 108) (nI (D + i))) := by rw [← s8]; exact q_seenOn hn (by rw [s8]; exact hA)
        have q2 : fX12_fitsOn n (nI (D + i)) (up s 119 i (seenS (m 108) (nI (D + i)))) = some (bI (fitOnS (m 108) (nI (D + i)))) := by
          have u8 : up s 119 i (seenS (m 108) (nI (D + i))) 108 = m 108 := by rw [up_rn (by omega)]; exact s8
          have := q_fitsOn (n := n) (m := up s 119 i (seenS (m 108) (nI (D + i)))) (d := nI (D + i)) hn (by rw [u8]; exact hA)
          rw [u8] at this; exact this
        obtain ⟨m', y1, y2⟩ := ih (i + 1) (up (up s 119 i (seenS (m 108) (nI (D + i)))) 120 i (bI (fitOnS (m 108) (nI (D + i))))) (by omega) (by omega) ⟨fun j hj => by
          by_cases q : j = i
          · subst q
            exact ⟨by rw [up_rn (by omega), up_hit], by rw [up_hit]⟩
          · rw [up_rn (by omega), up_miss (Or.inr q), up_miss (Or.inr q), up_rn (by omega)]
            exact w1 j (by omega), fun k k1 k2 => by rw [up_rn k2, up_rn k1]; exact w2 k k1 k2⟩
        exact ⟨m', by simp (disch := omega) only [ltE, bnE, bn2E, gdE, nc, nI_add, n_mul, n_sub, ib_nI, up_hit, up_miss, n_le, n_lt, n_eq, n_eq0, n_lt0, n_0le, n_0lt, n_le0, zb_0, zb_1, if_pos, if_neg, ↓reduceIte, Nat.reduceAdd, Nat.reduceMul, Nat.reduceSub, ki, s8, hD, q1, q2, nar_b, y1], y2⟩
  exact key n 0 m (by omega) (by omega) ⟨fun j hj => by omega, fun _ _ _ => rfl⟩
end SO
