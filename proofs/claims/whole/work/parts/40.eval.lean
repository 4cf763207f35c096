theorem ofN {k : Nat} : Int32.ofNat k = nI k := rfl
theorem gd_dec {α : Type} {p : Prop} [Decidable p] {k : Option α} (h : p) : gd (decide p) k = k := gd_of (decide_eq_true h)
theorem nm_s {n w : Nat} {f : Mm} {d s : Int32} : fX2_named n (nI 115) d s w f = some s := rfl
theorem nm_d {n w : Nat} {f : Mm} {d s : Int32} : fX2_named n (nI 100) d s w f = some d := rfl
theorem nm_w {n w : Nat} {f : Mm} {d s : Int32} : fX2_named n (nI 119) d s w f = some (f w 2) := rfl
theorem nm_p {n w : Nat} {f : Mm} {d s : Int32} : fX2_named n (nI 112) d s w f = some (f w 3) := rfl
section VO
variable {n L w cs mx i S1 : Nat} {g : Mm} {day seen p : Int32} {K : Int32 → Int32 → Int32 → Int32 → Mm → Option (Int32 × Mm)}
theorem v_push {p' : Int32} (hi : i < cs) (hcs : cs ≤ 95) (hmx : mx ≤ 95) (e1 : g (L + 1) 5000 = nI cs) (e2 : g (L + 2) 5000 = nI mx) (hS : S1 + 1 ≤ mx) (hp : g (L + 1) i = p) (hne : ¬ p = nI 10033)
    (hv : (p < nI 10000 ∧ p' = p) ∨ (¬ p < nI 10000 ∧ fX2_isName n (p - nI 10000) = some (nI 1) ∧ fX2_named n (p - nI 10000) day seen w g = some p')) :
    fX2_valueOn_6 n L w K day seen (nI S1) (nI i) g = K day seen (nI (S1 + 1)) (nI (i + 1)) (up g (L + 2) S1 p') := by
  rcases hv with ⟨h1, rfl⟩ | ⟨h1, h2, h3⟩
  · have h1' : ¬ nI 10000 ≤ p' := Int32.not_le.mpr h1
    simp (disch := omega) only [lt_eq, bn_s, bn2_s, gd_t, nc, nI_add, n_mul, n_sub, ib_nI, up_hit, up_miss, n_le, n_lt, n_eq, n_eq0, n_lt0, n_0le, n_0lt, n_le0, zb_0, zb_1, if_pos, if_neg, ↓reduceIte, fX2_valueOn_6, fX2_valueOn_87, fX2_valueOn_128, fX2_valueOn_178, hp, e1, e2, ofN, gd_dec, hne, h1, h1']
  · have h1' : nI 10000 ≤ p := Int32.not_lt.mp h1
    simp (disch := omega) only [lt_eq, bn_s, bn2_s, gd_t, nc, nI_add, n_mul, n_sub, ib_nI, up_hit, up_miss, n_le, n_lt, n_eq, n_eq0, n_lt0, n_0le, n_0lt, n_le0, zb_0, zb_1, if_pos, if_neg, ↓reduceIte, fX2_valueOn_6, fX2_valueOn_87, fX2_valueOn_128, fX2_valueOn_178, hp, e1, e2, ofN, gd_dec, hne, h1, h1', h2, h3]
theorem v_not (hi : i < cs) (hcs : cs ≤ 95) (hmx : mx ≤ 95) (e1 : g (L + 1) 5000 = nI cs) (e2 : g (L + 2) 5000 = nI mx) (hS : 1 ≤ S1) (hS2 : S1 ≤ mx) (hp : g (L + 1) i = nI 10033) :
    fX2_valueOn_6 n L w K day seen (nI S1) (nI i) g = K day seen (nI S1) (nI (i + 1)) (up g (L + 2) (S1 - 1) (if g (L + 2) (S1 - 1) = 0 then nI 1 else nI 0)) := by
  simp (disch := omega) only [lt_eq, bn_s, bn2_s, gd_t, nc, nI_add, n_mul, n_sub, ib_nI, up_hit, up_miss, n_le, n_lt, n_eq, n_eq0, n_lt0, n_0le, n_0lt, n_le0, zb_0, zb_1, if_pos, if_neg, ↓reduceIte, fX2_valueOn_6, fX2_valueOn_63, fX2_valueOn_178, hp, e1, e2, ofN, gd_dec]
  split <;> rfl
theorem v_two {v : Int32} (hi : i < cs) (hcs : cs ≤ 95) (hmx : mx ≤ 95) (e1 : g (L + 1) 5000 = nI cs) (e2 : g (L + 2) 5000 = nI mx) (hS : 2 ≤ S1) (hS2 : S1 ≤ mx) (hp : g (L + 1) i = p) (hne : ¬ p = nI 10033) (h1 : ¬ p < nI 10000)
    (h2 : fX2_isName n (p - nI 10000) = some (nI 0)) (h3 : fX2_joined n (p - nI 10000) (g (L + 2) (S1 - 2)) (g (L + 2) (S1 - 1)) = some v) :
    fX2_valueOn_6 n L w K day seen (nI S1) (nI i) g = K day seen (nI (S1 - 1)) (nI (i + 1)) (up g (L + 2) (S1 - 2) v) := by
  have e3 : S1 - 1 - 1 = S1 - 2 := by omega
  simp (disch := omega) only [lt_eq, bn_s, bn2_s, gd_t, nc, nI_add, n_mul, n_sub, ib_nI, up_hit, up_miss, n_le, n_lt, n_eq, n_eq0, n_lt0, n_0le, n_0lt, n_le0, zb_0, zb_1, if_pos, if_neg, ↓reduceIte, fX2_valueOn_6, fX2_valueOn_178, hp, e1, e2, ofN, gd_dec, hne, h1, h2, n_m1, e3, h3]
end VO
theorem c_valueOn {n L w cs mx key b : Nat} {f : Mm} {a fa : Nat → Int32} {day seen : Int32} (hn : 2000 ≤ n) (hcs : cs ≤ 95) (hmx : mx ≤ 95) (hm1 : 1 ≤ mx) (hw : w < L) (e1 : f (L + 1) 5000 = nI cs) (e2 : f (L + 2) 5000 = nI mx)
    (hr : runH a b mx cs = some 1) (hc : ∀ k, k < cs → trP key (a (b + k)) = some (f (L + 1) k)) (f0 : fa 0 = seen) (f1 : fa 1 = day) (f2 : key = 0 → fa 2 = f w 2) (f3 : key = 1 → fa 2 = f w 3) :
    ∃ f', fX2_valueOn n L day seen w f = some ((evS a b fa cs).2 0, f') ∧ (∀ j, j ≠ L + 2 → f' j = f j) ∧ f' (L + 2) 5000 = f (L + 2) 5000 := by
  unfold fX2_valueOn
  have Lp := loopInv (fun q i (s : Int32 × Mm) => fX2_valueOn_6L n L w q day seen s.1 (nI i) s.2) cs
    (fun k s => s.1 = nI (evS a b fa k).1 ∧ (∀ i, i < (evS a b fa k).1 → s.2 (L + 2) i = (evS a b fa k).2 i) ∧ (∀ j, j ≠ L + 2 → s.2 j = f j) ∧ s.2 (L + 2) 5000 = f (L + 2) 5000)
    (fun r => r.1 = (evS a b fa cs).2 0 ∧ (∀ j, j ≠ L + 2 → r.2 j = f j) ∧ r.2 (L + 2) 5000 = f (L + 2) 5000) ?_ ?_ n 0 (nI 0, f) (by omega) (by omega) ⟨rfl, fun i hi => absurd hi (Nat.not_lt_zero i), fun _ _ => rfl, rfl⟩
  · obtain ⟨⟨v, m'⟩, h1, h2, h3⟩ := Lp
    refine ⟨m', ?_, h3⟩
    rw [← h2]
    exact h1
  · rintro q ⟨x, g⟩ ⟨h1, h2, h3, h4⟩
    have hh := evS_h (fa := fa) cs 1 hr
    have h3 : ∀ j, j ≠ L + 2 → g j = f j := h3
    have h4 : g (L + 2) 5000 = f (L + 2) 5000 := h4
    refine ⟨(g (L + 2) 0, g), ?_, h2 0 (by omega), h3, h4⟩
    simp (disch := omega) only [lt_eq, bn_s, bn2_s, gd_t, nc, nI_add, n_mul, n_sub, ib_nI, up_hit, up_miss, n_le, n_lt, n_eq, n_eq0, n_lt0, n_0le, n_0lt, n_le0, zb_0, zb_1, if_pos, if_neg, ↓reduceIte, fX2_valueOn_178, fX2_valueOn_63, fX2_valueOn_128, fX2_valueOn_87, fX2_valueOn_6, fX2_valueOn_6L, h3 (L + 1) (by omega), h4, e1, e2, ofN]
  · rintro q i ⟨x, g⟩ hi ⟨h1, h2, h3, h4⟩
    refine Or.inr ?_
    obtain ⟨h', hr'⟩ := runH_pre cs 1 hr (i + 1) (by omega)
    obtain ⟨h, hr0, hg, hm⟩ := runH_s hr'
    have hm0 : h ≤ mx := by
      by_cases q0 : i = 0
      · subst q0
        cases hr0
        omega
      · obtain ⟨i', rfl⟩ : ∃ i', i = i' + 1 := ⟨i - 1, by omega⟩
        obtain ⟨_, _, _, hm2⟩ := runH_s hr0
        omega
    have eh := evS_h (fa := fa) i h hr0
    have gp : g (L + 1) = f (L + 1) := h3 (L + 1) (by omega)
    have gw : g w = f w := h3 w (by omega)
    generalize hs : evS a b fa i = S at *
    obtain ⟨S1, s⟩ := S
    have eh : S1 = h := eh
    subst eh
    have h1 : x = nI S1 := h1
    subst h1
    rw [evS_s, hs]
    unfold stepS
    have k2 : ∀ i, i < S1 → g (L + 2) i = s i := h2
    have k3 : ∀ j, j ≠ L + 2 → g j = f j := h3
    have k4 : g (L + 2) 5000 = nI mx := Eq.trans h4 e2
    clear h1 h2 h3 h4
    have ho : ∀ (k : Nat) (v : Int32), k ≠ 5000 → (∀ j, j ≠ L + 2 → up g (L + 2) k v j = f j) ∧ up g (L + 2) k v (L + 2) 5000 = f (L + 2) 5000 := fun k v hk => ⟨fun j hj => by rw [up_ne hj]; exact k3 j hj, by rw [up_miss (Or.inr (Ne.symm hk)), e2]; exact k4⟩
    have hci := hc i hi
    generalize hcv : a (b + i) = c at *
    generalize hpv : f (L + 1) i = p at *
    have qp : g (L + 1) i = p := by rw [gp]; exact hpv
    have q1 : g (L + 1) 5000 = nI cs := by rw [gp]; exact e1
    unfold hgt at hg
    rcases trP_c hci with ⟨j, hj, rfl, rfl⟩ | ⟨rfl, rfl⟩ | ⟨rfl, rfl⟩ | ⟨rfl, hp⟩ | ⟨rfl, rfl⟩ | ⟨sg, htw, rfl⟩
    · rw [if_pos (nI_pos' (by omega))] at hg
      cases hg
      refine ⟨(nI (S1 + 1), up g (L + 2) S1 (nI j)), ?_, ?_, ?_, ho _ _ (by omega)⟩
      · exact v_push hi hcs hmx q1 k4 hm qp (by rw [n_eq (by omega) (by omega)]; omega) (Or.inl ⟨by rw [n_lt (by omega) (by omega)]; exact hj, rfl⟩)
      · simp (disch := omega) only [lt_eq, bn_s, bn2_s, gd_t, nc, nI_add, n_mul, n_sub, ib_nI, up_hit, up_miss, n_le, n_lt, n_eq, n_eq0, n_lt0, n_0le, n_0lt, n_le0, zb_0, zb_1, if_pos, if_neg, ↓reduceIte]
      · simp (disch := omega) only [lt_eq, bn_s, bn2_s, gd_t, nc, nI_add, n_mul, n_sub, ib_nI, up_hit, up_miss, n_le, n_lt, n_eq, n_eq0, n_lt0, n_0le, n_0lt, n_le0, zb_0, zb_1, if_pos, if_neg, ↓reduceIte]
        exact fun k hk => up_117 (h := S1) k2 k hk (by omega)
    · rw [if_pos (nI_pos' (by omega))] at hg
      cases hg
      refine ⟨(nI (S1 + 1), up g (L + 2) S1 (fa 0)), ?_, ?_, ?_, ho _ _ (by omega)⟩
      · exact v_push hi hcs hmx q1 k4 hm qp (by decide) (Or.inr ⟨by decide, rfl, by rw [f0]; exact nm_s⟩)
      · simp (disch := omega) only [lt_eq, bn_s, bn2_s, gd_t, nc, nI_add, n_mul, n_sub, ib_nI, up_hit, up_miss, n_le, n_lt, n_eq, n_eq0, n_lt0, n_0le, n_0lt, n_le0, zb_0, zb_1, if_pos, if_neg, ↓reduceIte]
      · simp (disch := omega) only [lt_eq, bn_s, bn2_s, gd_t, nc, nI_add, n_mul, n_sub, ib_nI, up_hit, up_miss, n_le, n_lt, n_eq, n_eq0, n_lt0, n_0le, n_0lt, n_le0, zb_0, zb_1, if_pos, if_neg, ↓reduceIte, Nat.reduceSub]
        exact fun k hk => up_117 (h := S1) k2 k hk (by omega)
    · rw [if_pos (nI_pos' (by omega))] at hg
      cases hg
      refine ⟨(nI (S1 + 1), up g (L + 2) S1 (fa 1)), ?_, ?_, ?_, ho _ _ (by omega)⟩
      · exact v_push hi hcs hmx q1 k4 hm qp (by decide) (Or.inr ⟨by decide, rfl, by rw [f1]; exact nm_d⟩)
      · simp (disch := omega) only [lt_eq, bn_s, bn2_s, gd_t, nc, nI_add, n_mul, n_sub, ib_nI, up_hit, up_miss, n_le, n_lt, n_eq, n_eq0, n_lt0, n_0le, n_0lt, n_le0, zb_0, zb_1, if_pos, if_neg, ↓reduceIte]
      · simp (disch := omega) only [lt_eq, bn_s, bn2_s, gd_t, nc, nI_add, n_mul, n_sub, ib_nI, up_hit, up_miss, n_le, n_lt, n_eq, n_eq0, n_lt0, n_0le, n_0lt, n_le0, zb_0, zb_1, if_pos, if_neg, ↓reduceIte, Nat.reduceSub]
        exact fun k hk => up_117 (h := S1) k2 k hk (by omega)
    · rw [if_pos (nI_pos' (by omega))] at hg
      cases hg
      refine ⟨(nI (S1 + 1), up g (L + 2) S1 (fa 2)), ?_, ?_, ?_, ho _ _ (by omega)⟩
      · rcases hp with ⟨k0, rfl⟩ | ⟨k1, rfl⟩
        · exact v_push hi hcs hmx q1 k4 hm qp (by decide) (Or.inr ⟨by decide, rfl, by rw [f2 k0, ← gw]; exact nm_w⟩)
        · exact v_push hi hcs hmx q1 k4 hm qp (by decide) (Or.inr ⟨by decide, rfl, by rw [f3 k1, ← gw]; exact nm_p⟩)
      · simp (disch := omega) only [lt_eq, bn_s, bn2_s, gd_t, nc, nI_add, n_mul, n_sub, ib_nI, up_hit, up_miss, n_le, n_lt, n_eq, n_eq0, n_lt0, n_0le, n_0lt, n_le0, zb_0, zb_1, if_pos, if_neg, ↓reduceIte]
      · simp (disch := omega) only [lt_eq, bn_s, bn2_s, gd_t, nc, nI_add, n_mul, n_sub, ib_nI, up_hit, up_miss, n_le, n_lt, n_eq, n_eq0, n_lt0, n_0le, n_0lt, n_le0, zb_0, zb_1, if_pos, if_neg, ↓reduceIte, Nat.reduceSub]
        exact fun k hk => up_117 (h := S1) k2 k hk (by omega)
    · have hneg : ((-10 : Int32) < 0) := by decide
      rw [if_neg (neg_lt.mp hneg), if_pos rfl] at hg
      have hS : 1 ≤ S1 := by
        by_cases w : 1 ≤ S1
        · exact w
        · rw [if_neg w] at hg; cases hg
      have e117 : g (L + 2) (S1 - 1) = s (S1 - 1) := k2 _ (by omega)
      refine ⟨(nI S1, up g (L + 2) (S1 - 1) (if s (S1 - 1) = 0 then nI 1 else nI 0)), ?_, ?_, ?_, ho _ _ (by omega)⟩
      · rw [← e117]
        exact v_not hi hcs hmx q1 k4 hS hm0 qp
      · rfl
      · exact fun k hk => up_117 (h := S1) k2 k (Nat.lt_succ_of_lt hk) (Or.inl hk)
    · have hb : c < 0 ∧ ¬ c = -10 := by rcases isTw_b htw with h | h <;> exact ⟨h.1, h.2.1⟩
      rw [if_neg (neg_lt.mp hb.1), if_neg hb.2] at hg
      have hS : 2 ≤ S1 := by
        by_cases w : 2 ≤ S1
        · exact w
        · rw [if_neg w] at hg; cases hg
      have e1' : g (L + 2) (S1 - 1) = s (S1 - 1) := k2 _ (by omega)
      have e2' : g (L + 2) (S1 - 2) = s (S1 - 2) := k2 _ (by omega)
      have e3 : S1 - 1 - 1 = S1 - 2 := by omega
      have e4 : 10000 + sg - 10000 = sg := by omega
      have hsg : sg ≠ 33 ∧ (sg < 97 ∨ sg = 124) := by
        rcases htw with ⟨rfl, rfl⟩ | ⟨rfl, rfl⟩ | ⟨rfl, rfl⟩ | ⟨rfl, rfl⟩ | ⟨rfl, rfl⟩ | ⟨rfl, rfl⟩ | ⟨rfl, rfl⟩ | ⟨rfl, rfl⟩ | ⟨rfl, rfl⟩ <;> decide
      have hnm : fX2_isName n (nI sg) = some (nI 0) := by
        unfold fX2_isName
        rcases hsg.2 with q | q
        · simp (disch := omega) only [lt_eq, bn_s, bn2_s, gd_t, nc, nI_add, n_mul, n_sub, ib_nI, up_hit, up_miss, n_le, n_lt, n_eq, n_eq0, n_lt0, n_0le, n_0lt, n_le0, zb_0, zb_1, if_pos, if_neg, ↓reduceIte]
        · subst q; rfl
      have hsl : sg < 2147483648 := by omega
      refine ⟨(nI (S1 - 1), up g (L + 2) (S1 - 2) (twoS c (s (S1 - 2)) (s (S1 - 1)))), ?_, ?_, ?_, ho _ _ (by omega)⟩
      · exact v_two hi hcs hmx q1 k4 hS hm0 qp (by rw [n_eq (by omega) (by omega)]; omega) (by rw [n_lt (by omega) (by omega)]; omega) (by rw [n_sub (by omega), e4]; exact hnm) (by rw [n_sub (by omega), e4]; show fX2_joined n (nI sg) (g (L + 2) (S1 - 2)) (g (L + 2) (S1 - 1)) = _; rw [e1', e2']; exact joined_tw htw)
      · simp only [hb.1, hb.2, if_true, if_false]
      · simp only [hb.1, hb.2, if_true, if_false]
        exact fun k hk => up_117 (h := S1) k2 k (by omega) (Or.inl (by omega))
