/-! rates, by laws -/
def fac (s d x : Int32) : Nat → Int32 := fun i => if i = 0 then s else if i = 1 then d else x
def valS (a : Nat → Int32) (t : Nat) (fa : Nat → Int32) : Int32 := (evS a (375 + 96 * t) fa (ct a (347 + 2 * t) % 1000)).2 0
def rawR (a : Nat → Int32) (s d : Int32) : Int32 := match lastK a 0 (ct a 9) with
  | none => s
  | some t => valS a t (fac s d (a 2))
def rateS (a : Nat → Int32) (s d : Int32) : Nat := clN (rawR a s d)
def knockS (a : Nat → Int32) (s d : Int32) : Nat := match lastK a 1 (ct a 9) with
  | none => 1
  | some t => clN (valS a t (fac s d (a 3)))
theorem rateS_le {a : Nat → Int32} {s d : Int32} : rateS a s d ≤ 999 := clN_le
theorem knockS_le {a : Nat → Int32} {s d : Int32} : knockS a s d ≤ 999 := by
  unfold knockS
  split
  · omega
  · exact clN_le
def okL1 (a : Nat → Int32) (t : Nat) : Prop := ∃ key cs mx, key ≤ 2 ∧ cs ≤ 95 ∧ mx ≤ 95 ∧ a (347 + 2 * t) = nI (1000 * key + cs) ∧ runH a (375 + 96 * t) mx cs = some 1 ∧ ∀ k, k < cs → (a (375 + 96 * t + k) < 0 ∨ ∃ j, j ≤ 10002 ∧ a (375 + 96 * t + k) = nI j ∧ (key = 2 → j ≤ 10001))
def okL (a : Nat → Int32) : Prop := ∃ nt, nt ≤ 14 ∧ a 9 = nI nt ∧ ∀ t, t < nt → okL1 a t
theorem evS_cg {a : Nat → Int32} {b : Nat} {fa fb : Nat → Int32} : ∀ k, (∀ i, i < k → a (b + i) < 0 ∨ ∃ j, j ≤ 10002 ∧ a (b + i) = nI j ∧ (10000 ≤ j → fa (j - 10000) = fb (j - 10000))) → evS a b fa k = evS a b fb k
  | 0, _ => rfl
  | k + 1, h => by
    rw [evS_s, evS_s, evS_cg k (fun i hi => h i (by omega))]
    unfold stepS
    rcases h k (by omega) with q | ⟨j, hj, e, q⟩
    · rw [if_pos q, if_pos q]
    · rw [e, if_neg (nI_pos (by omega)), if_neg (nI_pos (by omega))]
      by_cases w : 10000 ≤ j
      · simp (disch := omega) only [lt_eq, bn_s, bn2_s, gd_t, nc, nI_add, n_mul, n_sub, ib_nI, up_hit, up_miss, n_le, n_lt, n_eq, n_eq0, n_lt0, n_0le, n_0lt, n_le0, zb_0, zb_1, if_pos, if_neg, ↓reduceIte, q w]
      · simp (disch := omega) only [lt_eq, bn_s, bn2_s, gd_t, nc, nI_add, n_mul, n_sub, ib_nI, up_hit, up_miss, n_le, n_lt, n_eq, n_eq0, n_lt0, n_0le, n_0lt, n_le0, zb_0, zb_1, if_pos, if_neg, ↓reduceIte]
theorem okL1_v {a : Nat → Int32} {t : Nat} {fa fb : Nat → Int32} (h : okL1 a t) (h0 : fa 0 = fb 0) (h1 : fa 1 = fb 1) (h2 : ct a (347 + 2 * t) / 1000 ≠ 2 → fa 2 = fb 2) : valS a t fa = valS a t fb := by
  obtain ⟨key, cs, mx, hk, hc, hm, e, hr, hcc⟩ := h
  unfold valS
  have ec : ct a (347 + 2 * t) = 1000 * key + cs := ct_n e (by omega)
  rw [ec] at h2 ⊢
  rw [show (1000 * key + cs) % 1000 = cs by omega]
  rw [show (1000 * key + cs) / 1000 = key by omega] at h2
  rw [evS_cg cs (fun i hi => ?_)]
  rcases hcc i hi with q | ⟨j, hj, e2, q⟩
  · exact Or.inl q
  · refine Or.inr ⟨j, hj, e2, fun w => ?_⟩
    have : j = 10000 ∨ j = 10001 ∨ j = 10002 := by omega
    rcases this with rfl | rfl | rfl
    · exact h0
    · exact h1
    · exact h2 (fun k2 => by have := q k2; omega)
theorem lastK_s {a : Nat → Int32} {k t : Nat} : ∀ n, lastK a k n = some t → t < n ∧ ct a (347 + 2 * t) / 1000 = k
  | 0, e => by cases e
  | n + 1, e => by
    unfold lastK at e
    split at e
    · cases e
      rename_i h
      exact ⟨by omega, h⟩
    · have := lastK_s n e
      exact ⟨by omega, this.2⟩
def cvI (x : Option Nat) : Int32 := match x with
  | none => -1
  | some t => nI t
section RT
variable {n : Nat} {m : Mm}
theorem r_counts {k : Nat} (hn : 2000 ≤ n) (hL : okL (m 108)) (hk : k ≤ 2) : fX12_counts n (nI k) m = some (cvI (lastK (m 108) k (ct (m 108) 9))) := by
  obtain ⟨nt, h1, h2, h3⟩ := hL
  rw [ct_n h2 (by omega)]
  have key : ∀ j q, j ≤ nt → j < q → fX12_counts_10L n q (nI k) (if j = 0 then -1 else nI (j - 1)) m = some (cvI (lastK (m 108) k j)) := by
    intro j
    induction j with
    | zero =>
      intro q _ hq
      obtain ⟨q, rfl⟩ : ∃ q', q = q' + 1 := ⟨q - 1, by omega⟩
      have z : (-1 : Int32) < 0 := by decide
      simp (disch := omega) only [lt_eq, bn_s, bn2_s, gd_t, nc, nI_add, n_mul, n_sub, ib_nI, up_hit, up_miss, n_le, n_lt, n_eq, n_eq0, n_lt0, n_0le, n_0lt, n_le0, zb_0, zb_1, if_pos, if_neg, ↓reduceIte, fX12_counts_10, fX12_counts_10L, z]
      rfl
    | succ j ih =>
      intro q hj hq
      obtain ⟨q, rfl⟩ : ∃ q', q = q' + 1 := ⟨q - 1, by omega⟩
      obtain ⟨ky, cs, mx, hky, hcs, hm, e, _⟩ := h3 j (by omega)
      have ec : ct (m 108) (347 + 2 * j) = 1000 * ky + cs := ct_n e (by omega)
      have ih := ih q (by omega) (by omega)
      have e1 : j + 1 - 1 = j := rfl
      have e2 : (1000 * ky + cs) / 1000 = ky := by omega
      have ls : lastK (m 108) k (j + 1) = if ky = k then some j else lastK (m 108) k j := by
        show (if ct (m 108) (347 + 2 * j) / 1000 = k then _ else _) = _
        rw [ec, e2]
      rw [ls]
      have ej : nI j + (-1 : Int32) = if j = 0 then -1 else nI (j - 1) := by
        split
        · rename_i h; subst h; rfl
        · exact n_m1 (by omega)
      simp (disch := omega) only [lt_eq, bn_s, bn2_s, gd_t, nc, nI_add, n_mul, n_sub, ib_nI, up_hit, up_miss, n_le, n_lt, n_eq, n_eq0, n_lt0, n_0le, n_0lt, n_le0, zb_0, zb_1, if_pos, if_neg, ↓reduceIte, fX12_counts_10, fX12_counts_10L, e1, e, pk_div, e2, ej]
      split
      · rfl
      · exact ih
  unfold fX12_counts
  have := key nt n (Nat.le_refl _) (by omega)
  have e9 : nI nt - nI 1 = if nt = 0 then -1 else nI (nt - 1) := by
    split
    · rename_i h; subst h; rfl
    · exact n_sub (by omega)
  simp (disch := omega) only [lt_eq, bn_s, bn2_s, gd_t, nc, nI_add, n_mul, n_sub, ib_nI, up_hit, up_miss, n_le, n_lt, n_eq, n_eq0, n_lt0, n_0le, n_0lt, n_le0, zb_0, zb_1, if_pos, if_neg, ↓reduceIte, h2, e9]
  exact this
def mS (m m' : Mm) : Prop := ∀ k, k ≠ 117 → k ≠ 118 → m' k = m k
theorem r_val {t : Nat} {s d x : Int32} (hn : 2000 ≤ n) (ht : t < 14) (hL : okL1 (m 108) t) (h0 : m 118 0 = s) (h1 : m 118 1 = d) (h2 : ct (m 108) (347 + 2 * t) / 1000 ≠ 2 → m 118 2 = x) : ∃ m', fX12_worksOut n (nI t) m = some (valS (m 108) t (fac s d x), m') ∧ ∀ j, j ≠ 117 → m' j = m j := by
  have hv := okL1_v hL (fa := m 118) (fb := fac s d x) h0 h1 h2
  obtain ⟨key, cs, mx, hk, hc, hm, e, hr, hcc⟩ := hL
  obtain ⟨m', e1, e2⟩ := r_worksOut (m := m) hn ht hk hc hm e hr (fun k hk => by
    rcases hcc k hk with q | ⟨j, q1, q2, _⟩
    · exact Or.inl q
    · exact Or.inr ⟨j, q1, q2⟩)
  refine ⟨m', ?_, e2⟩
  rw [e1, ← hv]
  unfold valS
  rw [ct_n e (by omega), show (1000 * key + cs) % 1000 = cs by omega]
theorem mS.trans {m m' m'' : Mm} (h : mS m m') (h' : mS m' m'') : mS m m'' := fun k a b => (h' k a b).trans (h k a b)
theorem r_rateBy {s d : Int32} (hn : 2000 ≤ n) (hL : okL (m 108)) : ∃ m', fX12_rateBy n s d m = some (nI (rateS (m 108) s d), m') ∧ mS m m' ∧ m' 118 0 = s ∧ m' 118 1 = d := by
  unfold fX12_rateBy rateS rawR
  rw [show (nI 0 : Int32) = nI 0 from rfl, r_counts hn hL (by omega)]
  obtain ⟨nt, g1, g2, g3⟩ := hL
  rw [ct_n g2 (by omega)]
  cases hk : lastK (m 108) 0 nt with
  | none =>
    have z : ¬ (0 : Int32) ≤ -1 := by decide
    refine ⟨up (up (up m 118 0 s) 118 1 d) 118 2 (m 108 2), ?_, fun k _ q => ?_, ?_, ?_⟩
    · simp (disch := omega) only [lt_eq, bn_s, bn2_s, gd_t, nc, nI_add, n_mul, n_sub, ib_nI, up_hit, up_miss, n_le, n_lt, n_eq, n_eq0, n_lt0, n_0le, n_0lt, n_le0, zb_0, zb_1, if_pos, if_neg, ↓reduceIte, cvI, z, fX12_rateBy_45, r_within]
    · rw [up_ne q, up_ne q, up_ne q]
    · simp (disch := omega) only [lt_eq, bn_s, bn2_s, gd_t, nc, nI_add, n_mul, n_sub, ib_nI, up_hit, up_miss, n_le, n_lt, n_eq, n_eq0, n_lt0, n_0le, n_0lt, n_le0, zb_0, zb_1, if_pos, if_neg, ↓reduceIte]
    · simp (disch := omega) only [lt_eq, bn_s, bn2_s, gd_t, nc, nI_add, n_mul, n_sub, ib_nI, up_hit, up_miss, n_le, n_lt, n_eq, n_eq0, n_lt0, n_0le, n_0lt, n_le0, zb_0, zb_1, if_pos, if_neg, ↓reduceIte]
  | some t =>
    obtain ⟨t1, t2⟩ := lastK_s nt hk
    have hm : ∀ k, k ≠ 118 → up (up (up m 118 0 s) 118 1 d) 118 2 (m 108 2) k = m k := fun k q => by rw [up_ne q, up_ne q, up_ne q]
    obtain ⟨m', e1, e2⟩ := r_val (n := n) (m := up (up (up m 118 0 s) 118 1 d) 118 2 (m 108 2)) (t := t) (s := s) (d := d) (x := m 108 2) hn (by omega) (by rw [hm 108 (by decide)]; exact g3 t t1) (by simp (disch := omega) only [lt_eq, bn_s, bn2_s, gd_t, nc, nI_add, n_mul, n_sub, ib_nI, up_hit, up_miss, n_le, n_lt, n_eq, n_eq0, n_lt0, n_0le, n_0lt, n_le0, zb_0, zb_1, if_pos, if_neg, ↓reduceIte]) (by simp (disch := omega) only [lt_eq, bn_s, bn2_s, gd_t, nc, nI_add, n_mul, n_sub, ib_nI, up_hit, up_miss, n_le, n_lt, n_eq, n_eq0, n_lt0, n_0le, n_0lt, n_le0, zb_0, zb_1, if_pos, if_neg, ↓reduceIte]) (fun _ => by simp (disch := omega) only [lt_eq, bn_s, bn2_s, gd_t, nc, nI_add, n_mul, n_sub, ib_nI, up_hit, up_miss, n_le, n_lt, n_eq, n_eq0, n_lt0, n_0le, n_0lt, n_le0, zb_0, zb_1, if_pos, if_neg, ↓reduceIte])
    rw [hm 108 (by decide)] at e1
    refine ⟨m', ?_, fun k q1 q2 => by rw [e2 k q1, hm k q2], ?_, ?_⟩
    · simp (disch := omega) only [lt_eq, bn_s, bn2_s, gd_t, nc, nI_add, n_mul, n_sub, ib_nI, up_hit, up_miss, n_le, n_lt, n_eq, n_eq0, n_lt0, n_0le, n_0lt, n_le0, zb_0, zb_1, if_pos, if_neg, ↓reduceIte, cvI, fX12_rateBy_45, r_within, e1]
    · rw [e2 118 (by decide)]; simp (disch := omega) only [lt_eq, bn_s, bn2_s, gd_t, nc, nI_add, n_mul, n_sub, ib_nI, up_hit, up_miss, n_le, n_lt, n_eq, n_eq0, n_lt0, n_0le, n_0lt, n_le0, zb_0, zb_1, if_pos, if_neg, ↓reduceIte]
    · rw [e2 118 (by decide)]; simp (disch := omega) only [lt_eq, bn_s, bn2_s, gd_t, nc, nI_add, n_mul, n_sub, ib_nI, up_hit, up_miss, n_le, n_lt, n_eq, n_eq0, n_lt0, n_0le, n_0lt, n_le0, zb_0, zb_1, if_pos, if_neg, ↓reduceIte]
theorem r_knockBy {s d : Int32} (hn : 2000 ≤ n) (hL : okL (m 108)) : ∃ m', fX12_knockBy n s d m = some (nI (knockS (m 108) s d), m') ∧ mS m m' := by
  unfold fX12_knockBy knockS
  rw [r_counts hn hL (by omega)]
  obtain ⟨nt, g1, g2, g3⟩ := hL
  rw [ct_n g2 (by omega)]
  cases hk : lastK (m 108) 1 nt with
  | none =>
    have z : ¬ (0 : Int32) ≤ -1 := by decide
    refine ⟨up (up (up m 118 0 s) 118 1 d) 118 2 (m 108 3), ?_, fun k _ q => ?_⟩
    · simp (disch := omega) only [lt_eq, bn_s, bn2_s, gd_t, nc, nI_add, n_mul, n_sub, ib_nI, up_hit, up_miss, n_le, n_lt, n_eq, n_eq0, n_lt0, n_0le, n_0lt, n_le0, zb_0, zb_1, if_pos, if_neg, ↓reduceIte, cvI, z]
    · rw [up_ne q, up_ne q, up_ne q]
  | some t =>
    obtain ⟨t1, t2⟩ := lastK_s nt hk
    have hm : ∀ k, k ≠ 118 → up (up (up m 118 0 s) 118 1 d) 118 2 (m 108 3) k = m k := fun k q => by rw [up_ne q, up_ne q, up_ne q]
    obtain ⟨m', e1, e2⟩ := r_val (n := n) (m := up (up (up m 118 0 s) 118 1 d) 118 2 (m 108 3)) (t := t) (s := s) (d := d) (x := m 108 3) hn (by omega) (by rw [hm 108 (by decide)]; exact g3 t t1) (by simp (disch := omega) only [lt_eq, bn_s, bn2_s, gd_t, nc, nI_add, n_mul, n_sub, ib_nI, up_hit, up_miss, n_le, n_lt, n_eq, n_eq0, n_lt0, n_0le, n_0lt, n_le0, zb_0, zb_1, if_pos, if_neg, ↓reduceIte]) (by simp (disch := omega) only [lt_eq, bn_s, bn2_s, gd_t, nc, nI_add, n_mul, n_sub, ib_nI, up_hit, up_miss, n_le, n_lt, n_eq, n_eq0, n_lt0, n_0le, n_0lt, n_le0, zb_0, zb_1, if_pos, if_neg, ↓reduceIte]) (fun _ => by simp (disch := omega) only [lt_eq, bn_s, bn2_s, gd_t, nc, nI_add, n_mul, n_sub, ib_nI, up_hit, up_miss, n_le, n_lt, n_eq, n_eq0, n_lt0, n_0le, n_0lt, n_le0, zb_0, zb_1, if_pos, if_neg, ↓reduceIte])
    rw [hm 108 (by decide)] at e1
    refine ⟨m', ?_, fun k q1 q2 => by rw [e2 k q1, hm k q2]⟩
    simp (disch := omega) only [lt_eq, bn_s, bn2_s, gd_t, nc, nI_add, n_mul, n_sub, ib_nI, up_hit, up_miss, n_le, n_lt, n_eq, n_eq0, n_lt0, n_0le, n_0lt, n_le0, zb_0, zb_1, if_pos, if_neg, ↓reduceIte, cvI, r_within, e1]
end RT
theorem RW.okL {N o : Nat} {f : Mm} {a : Nat → Int32} (h : RW N f o a) : okL a := by
  obtain ⟨h0, nc, nw, ns, nk, ny, no, nt, h1, h2, h3, h4, h5, h6, h7⟩ := h
  obtain ⟨g1, g2, g3, g4, g5, g6⟩ := h7
  refine ⟨nt, g1, g3, fun t ht => ?_⟩
  obtain ⟨j, _, _, key, cs, at_, k1, k2, k3, e1, e2, e3, e4, e5, e6, e7, e8⟩ := g4 t ht
  refine ⟨key, cs, max 1 at_, k1, k2, by omega, e1, e8, fun k hk => ?_⟩
  rcases trP_c (e7 k hk) with ⟨j, hj, q, _⟩ | ⟨q, _⟩ | ⟨q, _⟩ | ⟨q, w⟩ | ⟨q, _⟩ | ⟨sg, htw, _⟩
  · exact Or.inr ⟨j, by omega, q, fun _ => by omega⟩
  · exact Or.inr ⟨10000, by omega, q, fun _ => by omega⟩
  · exact Or.inr ⟨10001, by omega, q, fun _ => by omega⟩
  · exact Or.inr ⟨10002, by omega, q, fun k2 => by omega⟩
  · exact Or.inl (by rw [q]; decide)
  · refine Or.inl ?_
    rcases isTw_b htw with h | h <;> exact h.1
def fS (N : Nat) (f f' : Mm) : Prop := (∀ k, k < 130 → f' k = f k) ∧ lwSame N f f'
theorem lwSame.refl {N : Nat} {f : Mm} : lwSame N f f := fun j _ => ⟨fun _ => rfl, fun _ => rfl, rfl⟩
theorem lwSame.trans {N : Nat} {f f' f'' : Mm} (h : lwSame N f f') (h' : lwSame N f' f'') : lwSame N f f'' := fun j hj => ⟨fun i => ((h' j hj).1 i).trans ((h j hj).1 i), fun i => ((h' j hj).2.1 i).trans ((h j hj).2.1 i), ((h' j hj).2.2).trans ((h j hj).2.2)⟩
theorem fS.refl {N : Nat} {f : Mm} : fS N f f := ⟨fun _ _ => rfl, lwSame.refl⟩
theorem fS.trans {N : Nat} {f f' f'' : Mm} (h : fS N f f') (h' : fS N f' f'') : fS N f f'' := ⟨fun k hk => (h'.1 k hk).trans (h.1 k hk), h.2.trans h'.2⟩
theorem RW.fS {N o : Nat} {f f' : Mm} {a : Nat → Int32} (h : RW N f o a) (ho : o + 24 ≤ 130) (hs : fS N f f') : RW N f' o a := h.cg (fun k _ _ => hs.1 k (by omega)) hs.2 (fun _ => rfl)
section CT
variable {N o n : Nat} {f : Mm} {a : Nat → Int32}
theorem c_val {t : Nat} {s d x : Int32} (hn : 2000 ≤ n) (hN : N ≤ 65) (h : RW N f o a) (ho : o + 24 ≤ 130) (ht : t < ct a 9) (h0 : ct a (347 + 2 * t) / 1000 = 0 → x = a 2) (h1 : ct a (347 + 2 * t) / 1000 = 1 → x = a 3) :
    ∃ j, j < N ∧ f (o + 14) t = nI (j + 1) ∧ ∃ f', fX2_valueOn n (130 + 3 * j) d s o f = some (valS a t (fac s d x), f') ∧ fS N f f' := by
  obtain ⟨q0, nc_, nw, ns, nk, ny, no, nt, _, _, _, _, _, _, g1, g2, g3, g4, g5, g6⟩ := h
  rw [ct_n g3 (by omega)] at ht
  obtain ⟨j, hj, ej, key, cs, at_, k1, k2, k3, e1, e2, e3, e4, e5, e6, e7, e8⟩ := g4 t ht
  have ec : ct a (347 + 2 * t) = 1000 * key + cs := ct_n e1 (by omega)
  rw [ec, show (1000 * key + cs) / 1000 = key by omega] at h0 h1
  obtain ⟨_, _, s2, s3, _⟩ := q0
  obtain ⟨f', q1, q2, q3⟩ := c_valueOn (n := n) (L := 130 + 3 * j) (w := o) (f := f) (a := a) (fa := fac s d x) (day := d) (seen := s) hn k2 (mx := max 1 at_) (by omega) (by omega) (by omega) e5 e6 e8 e7 rfl rfl (fun k => by rw [s2]; exact h0 k) (fun k => by rw [s3]; exact h1 k)
  refine ⟨j, hj, ej, f', ?_, fun k hk => q2 k (by omega), fun i _ => ⟨fun k => by rw [q2 _ (by omega)], fun k => by rw [q2 _ (by omega)], ?_⟩⟩
  · rw [q1]
    unfold valS
    rw [ec, show (1000 * key + cs) % 1000 = cs by omega]
  · by_cases w : i = j
    · subst w; exact q3
    · rw [q2 _ (by omega)]
theorem c_lawFor {k : Nat} (h : RW N f o a) (hk : k < 3) : fX10_lawFor n o (nI k) f = some (match lastK a k (ct a 9) with | none => nI 0 | some t => f (o + 14) t) := by
  obtain ⟨q0, nc_, nw, ns, nk, ny, no, nt, _, _, _, _, _, _, g1, g2, g3, g4, g5, g6⟩ := h
  rw [ct_n g3 (by omega)]
  unfold fX10_lawFor
  have e := g6 k hk
  cases hl : lastK a k nt with
  | none =>
    rw [hl] at e
    have z : NONEi < 0 := by decide
    simp (disch := omega) only [lt_eq, bn_s, bn2_s, gd_t, nc, nI_add, n_mul, n_sub, ib_nI, up_hit, up_miss, n_le, n_lt, n_eq, n_eq0, n_lt0, n_0le, n_0lt, n_le0, zb_0, zb_1, if_pos, if_neg, ↓reduceIte, e, lastV, z]
  | some t =>
    rw [hl] at e
    obtain ⟨t1, t2⟩ := lastK_s nt hl
    simp (disch := omega) only [lt_eq, bn_s, bn2_s, gd_t, nc, nI_add, n_mul, n_sub, ib_nI, up_hit, up_miss, n_le, n_lt, n_eq, n_eq0, n_lt0, n_0le, n_0lt, n_le0, zb_0, zb_1, if_pos, if_neg, ↓reduceIte, e, lastV, g2]
theorem lkb_t {j : Nat} (hj : j < N) (hN : N ≤ 65) : lkb N (nI (j + 1)) = true := by
  unfold lkb
  rw [nc (by omega)]
  exact decide_eq_true ⟨by omega, by omega⟩
theorem c_rateOn {s d : Int32} (hn : 2000 ≤ n) (hN : N ≤ 65) (h : RW N f o a) (ho : o + 24 ≤ 130) : ∃ f', fX10_rateOn n N o d s f = some (nI (rateS a s d), f') ∧ fS N f f' := by
  unfold fX10_rateOn rateS rawR
  rw [c_lawFor h (by omega)]
  cases hl : lastK a 0 (ct a 9) with
  | none =>
    refine ⟨f, ?_, fS.refl⟩
    simp (disch := omega) only [lt_eq, bn_s, bn2_s, gd_t, nc, nI_add, n_mul, n_sub, ib_nI, up_hit, up_miss, n_le, n_lt, n_eq, n_eq0, n_lt0, n_0le, n_0lt, n_le0, zb_0, zb_1, if_pos, if_neg, ↓reduceIte, fX10_rateOn_21, c_heldRate]
  | some t =>
    obtain ⟨t1, t2⟩ := lastK_s _ hl
    obtain ⟨j, hj, ej, f', e1, e2⟩ := c_val (n := n) (t := t) (s := s) (d := d) (x := a 2) hn hN h ho t1 (fun _ => rfl) (fun e => by omega)
    refine ⟨f', ?_, e2⟩
    have ej1 : j + 1 - 1 = j := rfl
    simp (disch := omega) only [lt_eq, bn_s, bn2_s, gd_t, nc, nI_add, n_mul, n_sub, ib_nI, up_hit, up_miss, n_le, n_lt, n_eq, n_eq0, n_lt0, n_0le, n_0lt, n_le0, zb_0, zb_1, if_pos, if_neg, ↓reduceIte, ej, gd_of (lkb_t hj hN), ej1, e1, fX10_rateOn_21, c_heldRate]
theorem c_knockOn {s d : Int32} (hn : 2000 ≤ n) (hN : N ≤ 65) (h : RW N f o a) (ho : o + 24 ≤ 130) : ∃ f', fX10_knockOn n N o d s f = some (nI (knockS a s d), f') ∧ fS N f f' := by
  unfold fX10_knockOn knockS
  rw [c_lawFor h (by omega)]
  cases hl : lastK a 1 (ct a 9) with
  | none =>
    refine ⟨f, ?_, fS.refl⟩
    simp (disch := omega) only [lt_eq, bn_s, bn2_s, gd_t, nc, nI_add, n_mul, n_sub, ib_nI, up_hit, up_miss, n_le, n_lt, n_eq, n_eq0, n_lt0, n_0le, n_0lt, n_le0, zb_0, zb_1, if_pos, if_neg, ↓reduceIte]
  | some t =>
    obtain ⟨t1, t2⟩ := lastK_s _ hl
    obtain ⟨j, hj, ej, f', e1, e2⟩ := c_val (n := n) (t := t) (s := s) (d := d) (x := a 3) hn hN h ho t1 (fun e => by omega) (fun _ => rfl)
    refine ⟨f', ?_, e2⟩
    have ej1 : j + 1 - 1 = j := rfl
    simp (disch := omega) only [lt_eq, bn_s, bn2_s, gd_t, nc, nI_add, n_mul, n_sub, ib_nI, up_hit, up_miss, n_le, n_lt, n_eq, n_eq0, n_lt0, n_0le, n_0lt, n_le0, zb_0, zb_1, if_pos, if_neg, ↓reduceIte, ej, gd_of (lkb_t hj hN), ej1, e1, c_heldRate]
end CT
