/-! a text that is taken in -/
theorem na_le : ∀ l : List Int32, na l ≤ l.length
  | [] => Nat.le_refl _
  | c :: l => by
    have := na_le l
    simp only [na, List.length_cons]
    split <;> omega
theorem hL_na : ∀ (l : List Int32) (h : Nat), hL l = some h → h ≤ na l
  | [], h, e => by
    have : 0 = h := Option.some.inj e
    omega
  | c :: l, h, e => by
    simp only [hL] at e
    cases e0 : hL l with
    | none => rw [e0] at e; exact absurd e (by simp)
    | some h0 =>
      rw [e0, Option.bind_some] at e
      have ih := hL_na l h0 e0
      simp only [na]
      unfold hgt at e
      by_cases q1 : 0 ≤ c
      · rw [if_pos q1] at e
        have := Option.some.inj e
        rw [if_pos q1]; omega
      · rw [if_neg q1] at e
        rw [if_neg q1]
        by_cases q2 : c = -10
        · rw [if_pos q2] at e
          by_cases q3 : 1 ≤ h0
          · rw [if_pos q3] at e
            have := Option.some.inj e
            omega
          · rw [if_neg q3] at e; exact absurd e (by simp)
        · rw [if_neg q2] at e
          by_cases q3 : 2 ≤ h0
          · rw [if_pos q3] at e
            have := Option.some.inj e
            omega
          · rw [if_neg q3] at e; exact absurd e (by simp)
theorem run_hL {a : Nat → Int32} {b mx : Nat} : ∀ (l : List Int32) (h : Nat), RR (fun i => a (b + i)) l → hL l = some h → na l ≤ mx → runH a b mx l.length = some h
  | [], h, _, e, _ => e
  | c :: l, h, hr, e, hm => by
    have hna := hL_na (c :: l) h e
    simp only [hL] at e
    cases e0 : hL l with
    | none => rw [e0] at e; exact absurd e (by simp)
    | some h0 =>
      rw [e0, Option.bind_some] at e
      have hm0 : na l ≤ mx := by simp only [na] at hm; omega
      have ih := run_hL l h0 hr.2 e0 hm0
      have hc : a (b + l.length) = c := hr.1
      rw [List.length_cons]
      unfold runH
      rw [ih, hc]
      show (match hgt c h0 with | none => none | some h' => if h' ≤ mx then some h' else none) = some h
      rw [e]
      show (if h ≤ mx then some h else none) = some h
      rw [if_pos (by omega)]
theorem RR.get {r1 r2 : Nat → Int32} {g : Int32 → Int32} : ∀ l : List Int32, RR r1 l → RR r2 (l.map g) → ∀ i, i < l.length → r2 i = g (r1 i) ∧ r1 i ∈ l
  | [], _, _, i, hi => absurd hi (by simp)
  | c :: l, h1, h2, i, hi => by
    rw [List.length_cons] at hi
    by_cases e : i = l.length
    · subst e
      have a := h1.1
      have b := h2.1
      rw [List.length_map] at b
      exact ⟨by rw [b, a], by rw [a]; simp⟩
    · obtain ⟨x, y⟩ := RR.get l h1.2 h2.2 i (by omega)
      exact ⟨x, by simp [y]⟩
theorem RW.more {N o : Nat} {f : Mm} {a : Nat → Int32} (h : RW N f o a) : RW (N + 1) f o a := by
  obtain ⟨h0, nC, nw, ns, nk, ny, no, nt, h1, h2, h3, h4, h5, h6, g1, g2, g3, g4, g5, g6⟩ := h
  exact ⟨h0, nC, nw, ns, nk, ny, no, nt, h1, h2, h3, h4, h5, h6, g1, g2, g3, fun t ht => by obtain ⟨j, j1, j2, j3⟩ := g4 t ht; exact ⟨j, by omega, j2, j3⟩, fun t ht => by
    rcases g5 t ht with e | ⟨j, j1, j2⟩
    · exact Or.inl e
    · exact Or.inr ⟨j, by omega, j2⟩, g6⟩
/-- the rest, one law more -/
theorem ROt.tx {N : Nat} {f f' m m' : Mm} (h : ROt N f m) (hl : lwSame N f f') (hf : ∀ k, k = 0 ∨ (25 ≤ k ∧ k < 99) → f' k = f k) (h1 : f' 100 1 = nI 0) (hm : ∀ k, k = 109 ∨ k = 112 ∨ k = 113 ∨ 118 < k → m' k = m k) (m5 : m' 107 5 = nI 0) (m3 : m' 107 3 = m 107 3) (m33 : m' 107 33 = m 107 33) (md : m' 108 1 = m 108 1) : ROt (N + 1) f' m' := by
  obtain ⟨h1', h2, h3, h4, h5, ⟨h6, h7⟩, h8⟩ := h
  refine ⟨?_, h2.cg (fun k a b => hf k (by omega)) (fun k a b => hm k (by omega)), h3.cg (fun k a b => hf k (by omega)) (fun k a b => hm k (by omega)), ?_, ⟨0, by omega, h1, m5, fun i hi => by omega⟩, ⟨fun i hi => ?_, fun i hi => ?_⟩, ?_⟩
  · unfold cIm at *
    rw [hf 0 (by omega), m3, hm 109 (by omega), md]
    exact ⟨h1'.1, h1'.2.elim Or.inl (fun q => Or.inr ⟨q.1, q.2.1, (q.2.2.1.cg (fun k k1 k2 => hf k (by omega)) hl (fun _ => rfl)).more, q.2.2.2⟩)⟩
  · unfold cTe at *
    rw [hf 0 (by omega), hf 98 (by omega), m33, hm 129 (by omega)]
    exact h4
  · rw [hm 112 (by omega)]; exact h6 i hi
  · rw [hm 113 (by omega)]; exact h7 i hi
  · unfold cRm at *
    rw [hf 30 (by omega), hf 42 (by omega), hf 54 (by omega), hf 66 (by omega)]
    exact h8
section TZ
variable {n : Nat}
theorem r_codes {nt cs : Nat} {m : Mm} (hn : 2000 ≤ n) (hnt : nt < 14) (hcs : cs ≤ 92) (h15 : m 107 15 = nI cs) : ∃ m', fX12_text_119L n n (nI nt) (nI 0) m = some (nI nt, m') ∧ (∀ i, m' 108 i = if i = 9 then m 108 9 + nI 1 else if 375 + 96 * nt ≤ i ∧ i < 375 + 96 * nt + cs then m 114 (i - (375 + 96 * nt)) else m 108 i) ∧ ∀ k, k ≠ 108 → m' k = m k := by
  have L := loopInv (fun q i (s : Mm) => fX12_text_119L n q (nI nt) (nI i) s) cs (fun i s => (∀ t, s 108 t = if 375 + 96 * nt ≤ t ∧ t < 375 + 96 * nt + i then m 114 (t - (375 + 96 * nt)) else m 108 t) ∧ ∀ k, k ≠ 108 → s k = m k)
    (fun r => r.1 = nI nt ∧ (∀ i, r.2 108 i = if i = 9 then m 108 9 + nI 1 else if 375 + 96 * nt ≤ i ∧ i < 375 + 96 * nt + cs then m 114 (i - (375 + 96 * nt)) else m 108 i) ∧ ∀ k, k ≠ 108 → r.2 k = m k) ?_ ?_ n 0 m (by omega) (by omega) ⟨fun t => by rw [if_neg (by omega)], fun _ _ => rfl⟩
  · obtain ⟨⟨r, m'⟩, e, h0, h1, h2⟩ := L
    have h0 : r = nI nt := h0
    subst h0
    exact ⟨m', e, h1, h2⟩
  · rintro q s ⟨w1, w2⟩
    have e15 : s 107 15 = nI cs := by rw [w2 107 (by omega)]; exact h15
    have e9 : s 108 9 = m 108 9 := by rw [w1, if_neg (by omega)]
    have A : ∀ i, up s 108 9 (m 108 9 + nI 1) 108 i = if i = 9 then m 108 9 + nI 1 else if 375 + 96 * nt ≤ i ∧ i < 375 + 96 * nt + cs then m 114 (i - (375 + 96 * nt)) else m 108 i := fun i => by
      by_cases e : i = 9
      · subst e; rw [up_hit, if_pos rfl]
      · rw [up_miss (Or.inr e), if_neg e]; exact w1 i
    have A2 : ∀ k, k ≠ 108 → up s 108 9 (m 108 9 + nI 1) k = m k := fun k hk => by rw [up_rn hk]; exact w2 k hk
    refine ⟨(nI nt, up s 108 9 (m 108 9 + nI 1)), ?_, rfl, A, A2⟩
    simp (disch := omega) only [ltE, bnE, bn2E, gdE, nc, nI_add, n_mul, n_sub, ib_nI, up_hit, up_miss, n_le, n_lt, n_eq, n_eq0, n_lt0, n_0le, n_0lt, n_le0, zb_0, zb_1, if_pos, if_neg, ↓reduceIte, Nat.reduceAdd, Nat.reduceMul, Nat.reduceSub, fX12_text_119, fX12_text_119L, fX12_text_33, fX12_text_32, e15, e9, Nat.le_refl]
  · rintro q i s hi ⟨w1, w2⟩
    have e15 : s 107 15 = nI cs := by rw [w2 107 (by omega)]; exact h15
    refine Or.inr ⟨up s 108 (375 + 96 * nt + i) (s 114 i), ?_, fun t => ?_, fun k hk => by rw [up_rn hk]; exact w2 k hk⟩
    · simp (disch := omega) only [ltE, bnE, bn2E, gdE, nc, nI_add, n_mul, n_sub, ib_nI, up_hit, up_miss, n_le, n_lt, n_eq, n_eq0, n_lt0, n_0le, n_0lt, n_le0, zb_0, zb_1, if_pos, if_neg, ↓reduceIte, Nat.reduceAdd, Nat.reduceMul, Nat.reduceSub, fX12_text_119, fX12_text_119L, fX12_text_33, fX12_text_32, e15, show ¬ cs ≤ i from by omega]
    · by_cases e : t = 375 + 96 * nt + i
      · subst e
        rw [up_hit, if_pos (by omega), w2 114 (by omega)]; congr 1; omega
      · rw [up_miss (Or.inr e), w1 t]
        by_cases w : 375 + 96 * nt ≤ t ∧ t < 375 + 96 * nt + i
        · rw [if_pos w, if_pos (by omega)]
        · rw [if_neg w, if_neg (by omega)]
theorem pb_t {k : Nat} (h : k ≤ 96) : pbI (nI k) = true := by
  unfold pbI
  rw [decide_eq_true_eq, nc (by omega)]
  exact ⟨h, rfl⟩
theorem nw_rows {N o : Nat} {f : Mm} {k : Nat} (h : k < 130 + 3 * N ∨ 130 + 3 * N + 2 < k) : nwLaw N o f k = f k := by
  unfold nwLaw upR
  rw [if_neg (by omega), if_neg (by omega), if_neg (by omega)]
theorem nw_0 {N o : Nat} {f : Mm} : nwLaw N o f (130 + 3 * N) 0 = f o 4 ∧ nwLaw N o f (130 + 3 * N) 1 = f o 3 := by
  unfold nwLaw upR
  rw [if_neg (by omega), if_neg (by omega), if_pos rfl]
  exact ⟨by simp [upd], by simp [upd]⟩
theorem nw_1 {N o c : Nat} {f : Mm} (hc : f o 2 = nI c) (h : c < 1000) : nwLaw N o f (130 + 3 * N + 1) 5000 = nI c ∧ ∀ k, k < c → nwLaw N o f (130 + 3 * N + 1) k = f (o + 3) k := by
  unfold nwLaw upR
  rw [if_neg (by omega), if_pos rfl, hc, nc (by omega)]
  refine ⟨by simp [upd], fun k hk => ?_⟩
  rw [upd_at, if_neg (by omega), pk_cpy_in (by omega) (by omega)]
  congr 1; omega
theorem nw_2 {N o a : Nat} {f : Mm} (ha : f o 3 = nI a) (h : a < 1000) : nwLaw N o f (130 + 3 * N + 2) 5000 = nI (max 1 a) := by
  unfold nwLaw upR
  rw [if_pos rfl, ha, nc (by omega)]
  simp [upd]
theorem s_text (hn : 2000 ≤ n) : SP_text Inv n := by
  intro N f m hN64 hI
  obtain ⟨f1, m1, hr, fC, fR, fR7⟩ := read_sim (n := n) hn hI
  have hI' := hI
  obtain ⟨hN, ⟨h0, nC, nw, ns, nk, ny, no, nt, h1, h2, h3, h4, h5, h6, h7⟩, hO⟩ := hI
  rcases hr with ⟨s, s1, e1, e2, e3⟩ | ⟨W, a, key, e1, e2, hkey, hV, hh, ha, hW, p1, p2, p3, p4, p5, p6, p7, p8⟩
  · refine ⟨-100 - nI s, N, up f1 100 1 (nI 0), up m1 107 5 (nI 0), ?_, e3, by omega, hI'.tp ⟨0, by omega, up_hit, up_hit, fun i hi => by omega⟩ (fun k hk => by rw [up_rn (by omega)]; exact fC k hk) (fun k hk => by rw [up_rn (by omega)]; exact fR k (by omega) (by omega) (by omega) (by omega)) (by rw [up_miss (by omega)]; exact fR7 3 (by omega)) (by rw [up_miss (by omega)]; exact fR7 33 (by omega))⟩
    unfold fX11_text
    rw [e1]
    simp (disch := omega) only [ltE, bnE, bn2E, gdE, nc, nI_add, n_mul, n_sub, ib_nI, up_hit, up_miss, n_le, n_lt, n_eq, n_eq0, n_lt0, n_0le, n_0lt, n_le0, zb_0, zb_1, if_pos, if_neg, ↓reduceIte, Nat.reduceAdd, Nat.reduceMul, Nat.reduceSub, e2]
  · have ha92 : a ≤ 92 := by have := na_le W; omega
    obtain ⟨g1, g2, g3, g4, g5, g6⟩ := h7
    have g2 : f 1 10 = nI nt := g2
    generalize hf2 : up f1 100 1 (nI 0) = f2
    have f2k : ∀ k, k < 99 ∨ 102 < k → f2 k = f k := fun k hk => by rw [← hf2, up_rn (by omega)]; exact fC k hk
    have f29 : f2 99 = f1 99 := by rw [← hf2]; (simp (disch := omega) only [up_rn])
    have eL : fX3_lawRead N 99 f2 = some (nwLaw N 99 f2) := by
      unfold fX3_lawRead
      rw [f29, p1, p2, pb_t (by omega), pb_t (by omega), nc (by omega), decide_eq_true (by omega)]
      rfl
    generalize hf3 : nwLaw N 99 f2 = f3 at eL
    have f3k : ∀ k, k < 130 + 3 * N → f3 k = f2 k := fun k hk => by rw [← hf3]; exact nw_rows (by omega)
    have hl3 : lwSame N f f3 := fun j hj => ⟨fun i => by rw [f3k _ (by omega), f2k _ (by omega)], fun i => by rw [f3k _ (by omega), f2k _ (by omega)], by rw [f3k _ (by omega), f2k _ (by omega)]⟩
    have f3s : ∀ k, k < 99 ∨ (102 < k ∧ k < 130) → f3 k = f k := fun k hk => by rw [f3k k (by omega), f2k k (by omega)]
    have q0 : f3 (130 + 3 * N) 0 = nI key := by rw [← hf3, nw_0.1, f29]; exact p3
    have q1 : f3 (130 + 3 * N) 1 = nI a := by rw [← hf3, nw_0.2, f29]; exact p2
    have q2 := nw_1 (N := N) (o := 99) (f := f2) (c := W.length) (by rw [f29]; exact p1) (by omega)
    have q3 := nw_2 (N := N) (o := 99) (f := f2) (a := a) (by rw [f29]; exact p2) (by omega)
    rw [hf3] at q2 q3
    have f2r : f2 102 = f1 102 := by rw [← hf2]; (simp (disch := omega) only [up_rn])
    have f110 : f3 1 10 = nI nt := by rw [f3s 1 (by omega)]; exact g2
    have m8 : ∀ i, m1 108 i = m 108 i := fun i => by rw [fR 108 (by omega) (by omega) (by omega) (by omega)]
    have g3' : m1 108 9 = nI nt := by rw [m8]; exact g3
    have cT : fX11_text n N f = (bn2 (fX10_addLaw n 1 (130 + 3 * N) f3) fun r4 f4 => some (r4, N + 1, f4)) := by
      unfold fX11_text
      rw [e1]
      simp (disch := omega) only [ltE, bnE, bn2E, gdE, nc, nI_add, n_mul, n_sub, ib_nI, up_hit, up_miss, n_le, n_lt, n_eq, n_eq0, n_lt0, n_0le, n_0lt, n_le0, zb_0, zb_1, if_pos, if_neg, ↓reduceIte, Nat.reduceAdd, Nat.reduceMul, Nat.reduceSub, hf2, Nat.one_ne_zero, eL]
    rw [cT, e2]
    unfold fX10_addLaw fX12_text_33
    by_cases q14 : nt = 14
    · refine ⟨-1000000003, N + 1, f3, up m1 107 5 (nI 0), ?_, ?_, by omega, by omega, ?_, hO.tx hl3 (fun k hk => f3s k (by omega)) (by rw [f3k 100 (by omega), ← hf2, up_hit]) (fun k hk => by rw [up_rn (by omega)]; exact fR k (by omega) (by omega) (by omega) (by omega)) up_hit (by rw [up_miss (by omega)]; exact fR7 3 (by omega)) (by rw [up_miss (by omega)]; exact fR7 33 (by omega)) (by rw [up_rn (by omega)]; exact m8 1)⟩
      · simp (disch := omega) only [ltE, bnE, bn2E, gdE, nc, nI_add, n_mul, n_sub, ib_nI, up_hit, up_miss, n_le, n_lt, n_eq, n_eq0, n_lt0, n_0le, n_0lt, n_le0, zb_0, zb_1, if_pos, if_neg, ↓reduceIte, Nat.reduceAdd, Nat.reduceMul, Nat.reduceSub, f110, q14, Nat.le_refl]
      · simp (disch := omega) only [ltE, bnE, bn2E, gdE, nc, nI_add, n_mul, n_sub, ib_nI, up_hit, up_miss, n_le, n_lt, n_eq, n_eq0, n_lt0, n_0le, n_0lt, n_le0, zb_0, zb_1, if_pos, if_neg, ↓reduceIte, Nat.reduceAdd, Nat.reduceMul, Nat.reduceSub, g3', q14, Nat.one_ne_zero]
      · exact (hI'.2.1.cg (fun k x y => f3s k (by omega)) hl3 (fun i => by rw [up_rn (by omega)]; exact m8 i)).more
    · have hnt : nt < 14 := by omega
      have hlc : lcode (130 + 3 * N) = nI (N + 1) := by
        unfold lcode
        rw [show (130 + 3 * N - 130) / 3 + 1 = N + 1 from by omega]; rfl
      have hdec : decide ((130 + 3 * N - 130) / 3 + 1 < 2147483648) = true := decide_eq_true (by omega)
      generalize hm3 : up (up (up m1 107 5 (nI 0)) 108 (347 + 2 * nt) (nI (1000 * key + W.length))) 108 (347 + 2 * nt + 1) (nI a) = m3
      obtain ⟨m4, y1, y2, y3⟩ := r_codes (n := n) (nt := nt) (cs := W.length) (m := m3) hn hnt hW (by rw [← hm3]; simp (disch := omega) only [ltE, bnE, bn2E, gdE, nc, nI_add, n_mul, n_sub, ib_nI, up_hit, up_miss, n_le, n_lt, n_eq, n_eq0, n_lt0, n_0le, n_0lt, n_le0, zb_0, zb_1, if_pos, if_neg, ↓reduceIte, Nat.reduceAdd, Nat.reduceMul, Nat.reduceSub, p5])
      have m39 : m3 108 9 = nI nt := by rw [← hm3]; simp (disch := omega) only [ltE, bnE, bn2E, gdE, nc, nI_add, n_mul, n_sub, ib_nI, up_hit, up_miss, n_le, n_lt, n_eq, n_eq0, n_lt0, n_0le, n_0lt, n_le0, zb_0, zb_1, if_pos, if_neg, ↓reduceIte, Nat.reduceAdd, Nat.reduceMul, Nat.reduceSub, g3']
      have m4a : ∀ i, i ≠ 9 → i ≠ 347 + 2 * nt → i ≠ 348 + 2 * nt → (i < 375 + 96 * nt ∨ 375 + 96 * nt + W.length ≤ i) → m4 108 i = m 108 i := fun i i1 i2 i3 i4 => by
        rw [y2, if_neg i1, if_neg (by omega), ← hm3]
        simp (disch := omega) only [up_miss]
        exact m8 i
      have m4b : m4 108 (347 + 2 * nt) = nI (1000 * key + W.length) := by
        rw [y2, if_neg (by omega), if_neg (by omega), ← hm3]; simp (disch := omega) only [ltE, bnE, bn2E, gdE, nc, nI_add, n_mul, n_sub, ib_nI, up_hit, up_miss, n_le, n_lt, n_eq, n_eq0, n_lt0, n_0le, n_0lt, n_le0, zb_0, zb_1, if_pos, if_neg, ↓reduceIte, Nat.reduceAdd, Nat.reduceMul, Nat.reduceSub]
      have m4c : m4 108 (348 + 2 * nt) = nI a := by
        rw [y2, if_neg (by omega), if_neg (by omega), ← hm3, show 348 + 2 * nt = 347 + 2 * nt + 1 from by omega]; simp (disch := omega) only [ltE, bnE, bn2E, gdE, nc, nI_add, n_mul, n_sub, ib_nI, up_hit, up_miss, n_le, n_lt, n_eq, n_eq0, n_lt0, n_0le, n_0lt, n_le0, zb_0, zb_1, if_pos, if_neg, ↓reduceIte, Nat.reduceAdd, Nat.reduceMul, Nat.reduceSub]
      have m4d : ∀ i, i < W.length → m4 108 (375 + 96 * nt + i) = m1 114 i := fun i hi => by
        rw [y2, if_neg (by omega), if_pos (by omega), ← hm3, show 375 + 96 * nt + i - (375 + 96 * nt) = i from by omega]
        simp (disch := omega) only [up_rn]
      have m4e : m4 108 9 = nI (nt + 1) := by rw [y2, if_pos rfl, m39, nI_add]
      generalize hf4 : up (up (up f3 15 nt (nI (N + 1))) 16 key (nI nt)) 1 10 (nI (nt + 1)) = f4
      have f4k : ∀ k, k ≠ 15 → k ≠ 16 → k ≠ 1 → f4 k = f3 k := fun k k1 k2 k3 => by rw [← hf4]; (simp (disch := omega) only [up_rn])
      have hl4 : lwSame N f f4 := fun j hj => ⟨fun i => by rw [f4k _ (by omega) (by omega) (by omega)]; exact (hl3 j hj).1 i, fun i => by rw [f4k _ (by omega) (by omega) (by omega)]; exact (hl3 j hj).2.1 i, by rw [f4k _ (by omega) (by omega) (by omega)]; exact (hl3 j hj).2.2⟩
      refine ⟨nI nt, N + 1, f4, m4, ?_, ?_, by omega, by omega, ?_, hO.tx hl4 (fun k hk => by rw [f4k k (by omega) (by omega) (by omega)]; exact f3s k (by omega)) (by rw [f4k 100 (by omega) (by omega) (by omega), f3k 100 (by omega), ← hf2, up_hit]) (fun k hk => ?_) ?_ ?_ ?_ ?_⟩
      · simp (disch := omega) only [ltE, bnE, bn2E, gdE, nc, nI_add, n_mul, n_sub, ib_nI, up_hit, up_miss, n_le, n_lt, n_eq, n_eq0, n_lt0, n_0le, n_0lt, n_le0, zb_0, zb_1, if_pos, if_neg, ↓reduceIte, Nat.reduceAdd, Nat.reduceMul, Nat.reduceSub, f110, show ¬ 14 ≤ nt from by omega, q0, hdec, hlc, hf4, Nat.add_sub_cancel]
      · simp (disch := omega) only [ltE, bnE, bn2E, gdE, nc, nI_add, n_mul, n_sub, ib_nI, up_hit, up_miss, n_le, n_lt, n_eq, n_eq0, n_lt0, n_0le, n_0lt, n_le0, zb_0, zb_1, if_pos, if_neg, ↓reduceIte, Nat.reduceAdd, Nat.reduceMul, Nat.reduceSub, g3', q14, Nat.one_ne_zero, p7, p5, p6]
        rw [hm3]; exact y1
      · refine putLw (nt' := nt + 1) h0 h1 h2 h3 h4 h5 h6 ⟨by omega, by rw [← hf4, up_hit], m4e, fun t ht => ?_, fun t ht => ?_, fun k hk => ?_⟩ (fun j hj => ?_) (fun k k1 k2 k3 k4 => ?_) (fun i hi => m4a i (by omega) (by omega) (by omega) (by omega))
        · have r15 : ∀ t, f4 15 t = if t = nt then nI (N + 1) else f 15 t := fun t => by
            rw [← hf4]
            by_cases e : t = nt
            · subst e; simp (disch := omega) only [ltE, bnE, bn2E, gdE, nc, nI_add, n_mul, n_sub, ib_nI, up_hit, up_miss, n_le, n_lt, n_eq, n_eq0, n_lt0, n_0le, n_0lt, n_le0, zb_0, zb_1, if_pos, if_neg, ↓reduceIte, Nat.reduceAdd, Nat.reduceMul, Nat.reduceSub]
            · rw [if_neg e]; simp (disch := omega) only [up_miss]; rw [f3s 15 (by omega)]
          show ∃ j, j < N + 1 ∧ f4 15 t = nI (j + 1) ∧ lawOK f4 (m4 108) j t
          rw [r15 t]
          by_cases e : t = nt
          · subst e
            rw [if_pos rfl]
            refine ⟨N, by omega, rfl, key, W.length, a, hkey, by omega, by omega, m4b, m4c, by rw [f4k _ (by omega) (by omega) (by omega)]; exact q0, by rw [f4k _ (by omega) (by omega) (by omega)]; exact q1, by rw [f4k _ (by omega) (by omega) (by omega)]; exact q2.1, by rw [f4k _ (by omega) (by omega) (by omega)]; exact q3, fun k hk => ?_, ?_⟩
            · rw [f4k _ (by omega) (by omega) (by omega), q2.2 k hk, f2r, m4d k hk]
              obtain ⟨z1, z2⟩ := RR.get W p8 p4 k hk
              rw [z1]
              exact hV _ z2
            · refine run_hL W 1 ?_ hh (by omega)
              exact RR.cg W p8 (fun i hi => m4d i hi)
          · rw [if_neg e]
            obtain ⟨j, j1, j2, j3⟩ := g4 t (by omega)
            refine ⟨j, by omega, j2, ?_⟩
            obtain ⟨key', cs, at_, l1, l2, l2b, l3, l4, l5, l6, l7, l8, l9, l10⟩ := j3
            obtain ⟨o1, o2, o3⟩ := hl4 j j1
            refine ⟨key', cs, at_, l1, l2, l2b, by rw [m4a _ (by omega) (by omega) (by omega) (by omega)]; exact l3, by rw [m4a _ (by omega) (by omega) (by omega) (by omega)]; exact l4, by rw [o1]; exact l5, by rw [o1]; exact l6, by rw [o2]; exact l7, by rw [o3]; exact l8, fun k hk => by rw [m4a _ (by omega) (by omega) (by omega) (by omega), o2]; exact l9 k hk, ?_⟩
            rw [runH.cg cs (fun i h1 h2 => m4a i (by omega) (by omega) (by omega) (by omega))]; exact l10
        · show f4 15 t = 0 ∨ _
          rw [show (1 : Nat) + 14 = 15 from rfl]
          by_cases e : t = nt
          · subst e
            exact Or.inr ⟨N, by omega, by rw [← hf4]; simp (disch := omega) only [ltE, bnE, bn2E, gdE, nc, nI_add, n_mul, n_sub, ib_nI, up_hit, up_miss, n_le, n_lt, n_eq, n_eq0, n_lt0, n_0le, n_0lt, n_le0, zb_0, zb_1, if_pos, if_neg, ↓reduceIte, Nat.reduceAdd, Nat.reduceMul, Nat.reduceSub]⟩
          · have : f4 15 t = f 15 t := by rw [← hf4]; simp (disch := omega) only [up_miss]; rw [f3s 15 (by omega)]
            rw [this]
            rcases g5 t ht with z | ⟨j, j1, j2⟩
            · exact Or.inl z
            · exact Or.inr ⟨j, by omega, j2⟩
        · show f4 16 k = lastV (lastK (m4 108) k (nt + 1))
          unfold lastK
          rw [m4b, nc (by omega), show (1000 * key + W.length) / 1000 = key from by omega]
          by_cases e : key = k
          · subst e
            rw [if_pos rfl, ← hf4]; simp (disch := omega) only [ltE, bnE, bn2E, gdE, nc, nI_add, n_mul, n_sub, ib_nI, up_hit, up_miss, n_le, n_lt, n_eq, n_eq0, n_lt0, n_0le, n_0lt, n_le0, zb_0, zb_1, if_pos, if_neg, ↓reduceIte, Nat.reduceAdd, Nat.reduceMul, Nat.reduceSub]; rfl
          · rw [if_neg e, lastK.cg nt (fun t ht => m4a _ (by omega) (by omega) (by omega) (by omega))]
            have : f4 16 k = f 16 k := by rw [← hf4]; simp (disch := omega) only [up_miss]; rw [f3s 16 (by omega)]
            rw [this]; exact g6 k hk
        · rw [← hf4]; simp (disch := omega) only [up_miss]; rw [f3s 1 (by omega)]
        · rw [f4k _ (by omega) (by omega) (by omega)]; exact f3s _ (by omega)
      · rw [y3 k (by omega), ← hm3]; simp (disch := omega) only [up_rn]; exact fR k (by omega) (by omega) (by omega) (by omega)
      · rw [y3 107 (by omega), ← hm3]; simp (disch := omega) only [ltE, bnE, bn2E, gdE, nc, nI_add, n_mul, n_sub, ib_nI, up_hit, up_miss, n_le, n_lt, n_eq, n_eq0, n_lt0, n_0le, n_0lt, n_le0, zb_0, zb_1, if_pos, if_neg, ↓reduceIte, Nat.reduceAdd, Nat.reduceMul, Nat.reduceSub]
      · rw [y3 107 (by omega), ← hm3]; simp (disch := omega) only [up_miss]; exact fR7 3 (by omega)
      · rw [y3 107 (by omega), ← hm3]; simp (disch := omega) only [up_miss]; exact fR7 33 (by omega)
      · exact m4a 1 (by omega) (by omega) (by omega) (by omega)
end TZ
