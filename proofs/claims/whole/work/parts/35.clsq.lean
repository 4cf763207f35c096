/-! the class's questions -/
theorem loopSt {σ ρ : Type} {r : ρ} (F : Nat → Nat → σ → ρ) (n : Nat) (g : Nat → σ) (hend : ∀ q, F (q + 1) n (g n) = r)
    (hstp : ∀ q i, i < n → F (q + 1) i (g i) = F q (i + 1) (g (i + 1))) : ∀ q, n < q → F q 0 (g 0) = r := by
  have key : ∀ q i, i ≤ n → n - i < q → F q i (g i) = r := by
    intro q
    induction q with
    | zero => intro i h1 h2; omega
    | succ q ih =>
      intro i h1 h2
      by_cases e : i = n
      · subst e
        exact hend q
      · rw [hstp q i (by omega)]
        exact ih (i + 1) (by omega) (by omega)
  exact fun q hq => key q 0 (by omega) (by omega)
theorem RW.okA {N o : Nat} {f : Mm} {a : Nat → Int32} (h : RW N f o a) : okA a := by
  obtain ⟨h0, nc, nw, ns, nk, ny, no, nt, h1, h2, h3, h4, h5, h6, h7⟩ := h
  refine ⟨⟨nc, h1.1, h1.2.2.1⟩, ⟨nw, h2.1, h2.2.2.1⟩, ⟨ns, h3.1, h3.2.2.1⟩, ⟨nk, h4.1, h4.2.2.1⟩, ⟨ny, h5.1, h5.2.2.1⟩, ⟨no, h6.1, h6.2.2.1⟩, fun s hs => ?_⟩
  have h8 := h3.1
  rw [ct_n h3.2.2.1 (by omega)] at hs
  obtain ⟨c, hc, _, e⟩ := h3.2.2.2.2.1 s hs
  have := h1.1
  exact ⟨c, by omega, e⟩
theorem abs_sz {x : Int32} : absI x = szS x := by
  unfold absI szS
  split
  · rfl
  · exact Int32.zero_sub x
theorem le_in {x y : Int32} : (x ≤ y) = (x.toInt ≤ y.toInt) := propext Int32.le_iff_toInt_le
theorem lt_in {x y : Int32} : (x < y) = (x.toInt < y.toInt) := propext Int32.lt_iff_toInt_lt
theorem add_in {x y : Int32} (h1 : -2147483648 ≤ x.toInt + y.toInt) (h2 : x.toInt + y.toInt < 2147483648) : (x + y).toInt = x.toInt + y.toInt := by
  rw [Int32.toInt_add, Int.bmod_eq_of_le] <;> omega
theorem sub_in {x y : Int32} (h1 : -2147483648 ≤ x.toInt - y.toInt) (h2 : x.toInt - y.toInt < 2147483648) : (x - y).toInt = x.toInt - y.toInt := by
  rw [Int32.toInt_sub, Int.bmod_eq_of_le] <;> omega
theorem neg_in {x : Int32} (h1 : -2147483648 < x.toInt) (h2 : x.toInt < 2147483648) : (-x).toInt = -x.toInt := by
  rw [Int32.toInt_neg, Int.bmod_eq_of_le] <;> omega
theorem sz_in {x : Int32} (h1 : -2147483648 < x.toInt) : (szS x).toInt = if 0 ≤ x.toInt then x.toInt else -x.toInt := by
  unfold szS
  have z : (0 : Int32).toInt = 0 := rfl
  simp only [le_in, z]
  have := x.toInt_lt
  split
  · rfl
  · exact neg_in h1 (by omega)
theorem c_isWithin {n o : Nat} {f : Mm} {a : Nat → Int32} {h : Int32} {w p : Nat} (hw : w ≤ 999) (hp : p ≤ 99) (e : f o 2 = a 2) (e2 : a 2 = nI w) (hh : hOK h) : fX10_isWithin n o h (nI p) f = some (bI (htS a h (nI p))) := by
  unfold fX10_isWithin htS
  rw [e, e2, abs_sz, abs_sz]
  obtain ⟨g1, g2⟩ := hh
  have hs := sz_in (x := h) (by omega)
  have hw' : (nI w).toInt = w := nI_toInt (by omega)
  have hp' : (nI p).toInt = p := nI_toInt (by omega)
  have hs2 : 0 ≤ (szS h).toInt ∧ (szS h).toInt ≤ 999 := by rw [hs]; split <;> omega
  have hd : (szS h - nI w).toInt = (szS h).toInt - w := by rw [sub_in] <;> omega
  have hd2 := sz_in (x := szS h - nI w) (by omega)
  have k1 : (nI w - nI p).toInt = (w : Int) - p := by rw [sub_in] <;> omega
  have k2 : (nI w + nI p).toInt = (w : Int) + p := by rw [add_in] <;> omega
  simp only [le_in, lt_in, k1, k2, hp', hd2, hd]
  by_cases q1 : (w : Int) - p ≤ (szS h).toInt
  · by_cases q2 : (szS h).toInt ≤ (w : Int) + p
    · simp only [q1, q2, decide_true, Bool.and_true, bI_t]
      rw [if_neg]
      split <;> omega
    · simp only [q1, q2, decide_true, decide_false, Bool.and_false, bI_f]
      rw [if_pos]
      split <;> omega
  · simp only [q1, decide_false, Bool.false_and, bI_f]
    rw [if_pos]
    split <;> omega
section CQ
variable {N o n : Nat} {f : Mm} {a : Nat → Int32}
theorem watB {nw : Nat} {d : Int32} {c : Nat} (hc : c < 6) (e7 : ct a 7 = nw) (hw : ∀ i, i < nw → ∃ k, k < 6 ∧ a (31 + 3 * i) = nI k) : (bitsN a d nw).testBit c = wat a (nI c) d := by
  unfold wat
  rw [bits_at, e7]
  refine exs_congr nw (fun i hi => ?_)
  obtain ⟨k, hk, e⟩ := hw i hi
  rw [ct_n e (by omega), e]
  simp only [n_eq (show k < 2147483648 by omega) (show c < 2147483648 by omega)]
/-- the bits of the coils that are watched on a day -/
theorem c_coilsOn (hn : 2000 ≤ n) (h : RW N f o a) (d : Int32) : ∃ x, x < 64 ∧ fX7_coilsOn n (o + 5) d f = some (nI x) ∧ (∀ c, c < 6 → x.testBit c = wat a (nI c) d) ∧ (∀ c, c < 6 → ct a 6 ≤ c → wat a (nI c) d = false) := by
  obtain ⟨h0, nc_, nw, ns, nk, ny, no, nt, h1, h2, h3, h4, h5, h6, h7⟩ := h
  obtain ⟨g1, g2, g3, g4, g5, g6, g7⟩ := h2
  have hnc := h1.1
  have e7 : ct a 7 = nw := ct_n g3 (by omega)
  have e6 : ct a 6 = nc_ := ct_n h1.2.2.1 (by omega)
  have hw : ∀ i, i < nw → ∃ k, k < 6 ∧ a (31 + 3 * i) = nI k := fun i hi => by
    obtain ⟨k, hk, _, e⟩ := g5 i hi
    exact ⟨k, by omega, e⟩
  have hlt : ∀ j, j ≤ nw → bitsN a d j < 64 := fun j hj => bits_lt j (fun i hi => by
    obtain ⟨k, hk, e⟩ := hw i (by omega)
    rw [ct_n e (by omega)]; omega)
  refine ⟨bitsN a d nw, hlt nw (Nat.le_refl _), ?_, fun c hc => watB hc e7 hw, fun c hc hge => ?_⟩
  · unfold fX7_coilsOn
    refine loopSt (fun q i s => fX7_coilsOn_4L n (o + 5) q d s (nI i) f) nw (fun i => nI (bitsN a d i)) (fun q => ?_) (fun q i hi => ?_) n (by omega)
    · simp (disch := omega) only [lt_eq, bn_s, bn2_s, gd_t, nc, nI_add, n_mul, n_sub, ib_nI, up_hit, up_miss, n_le, n_lt, n_eq, n_eq0, n_lt0, n_0le, n_0lt, n_le0, zb_0, zb_1, if_pos, if_neg, ↓reduceIte, fX7_coilsOn_43, fX7_coilsOn_4, fX7_coilsOn_4L, g2]
    · obtain ⟨k, hk, ef, ea⟩ := g5 i hi
      have ek : ct a (31 + 3 * i) = k := ct_n ea (by omega)
      have o1 : o + 5 + 1 = o + 6 := rfl
      have o2 : o + 5 + 2 = o + 7 := rfl
      have o3 : o + 5 + 3 = o + 8 := rfl
      simp (disch := omega) only [lt_eq, bn_s, bn2_s, gd_t, nc, nI_add, n_mul, n_sub, ib_nI, up_hit, up_miss, n_le, n_lt, n_eq, n_eq0, n_lt0, n_0le, n_0lt, n_le0, zb_0, zb_1, if_pos, if_neg, ↓reduceIte, fX7_coilsOn_43, fX7_coilsOn_4, fX7_coilsOn_4L, g2, o1, o2, o3, g6 i hi, g7 i hi, ef, (or_bit (bitsN a d i) (hlt i (by omega)) k (by omega)).1]
      have on : onW a i d = (decide (a (32 + 3 * i) ≤ d) && decide (d ≤ a (33 + 3 * i))) := rfl
      have bs : bitsN a d (i + 1) = bif onW a i d then bitsN a d i ||| 2 ^ k else bitsN a d i := by rw [← ek]; rfl
      rw [bs]
      by_cases q1 : d < a (32 + 3 * i)
      · have q1' : ¬ a (32 + 3 * i) ≤ d := Int32.not_le.mpr q1
        simp only [q1, if_true, on, q1', decide_false, Bool.false_and, cond_false]
      · have q1' : a (32 + 3 * i) ≤ d := Int32.not_lt.mp q1
        by_cases q2 : a (33 + 3 * i) < d
        · have q2' : ¬ d ≤ a (33 + 3 * i) := Int32.not_le.mpr q2
          simp only [q1, q2, if_true, if_false, on, q2', decide_false, Bool.and_false, cond_false]
        · have q2' : d ≤ a (33 + 3 * i) := Int32.not_lt.mp q2
          simp only [q1, q2, if_false, on, q1', q2', decide_true, Bool.and_true, cond_true]
  · unfold wat
    rw [e7]
    cases hx : exs (fun w => decide (a (31 + 3 * w) = nI c) && onW a w d) nw
    · rfl
    · obtain ⟨i, hi, hp⟩ := (exs_iff nw).mp hx
      obtain ⟨k, hk, _, ea⟩ := g5 i hi
      have hp : (decide (a (31 + 3 * i) = nI c) && onW a i d) = true := hp
      rw [ea, Bool.and_eq_true, decide_eq_true_eq, n_eq (by omega) (by omega)] at hp
      omega
theorem c_isWatched (hn : 2000 ≤ n) (h : RW N f o a) {c : Nat} (hc : c < 6) {d : Int32} : fX10_isWatched n o (nI c) d f = some (bI (wat a (nI c) d)) := by
  obtain ⟨x, hx, e, hb, _⟩ := c_coilsOn hn h d
  unfold fX10_isWatched
  rw [← hb c hc]
  simp (disch := omega) only [lt_eq, bn_s, bn2_s, gd_t, nc, nI_add, n_mul, n_sub, ib_nI, up_hit, up_miss, n_le, n_lt, n_eq, n_eq0, n_lt0, n_0le, n_0lt, n_le0, zb_0, zb_1, if_pos, if_neg, ↓reduceIte, e, (at_bit x hx c hc).2, bI_ite]
  cases x.testBit c <;> rfl
/-- the sum of a row's places over a set of bits -/
theorem c_sum6 (hn : 2000 ≤ n) {b x : Nat} (hx : x < 64) : fX11_sumOf n b 6 (nI x) f = some (smI (fun i => bif x.testBit i then f b i else nI 0) 6) := by
  unfold fX11_sumOf
  have := loopSm (fun q i s => fX11_sumOf_4L n b 6 q (nI x) s (nI i) f) 6 (fun i => bif x.testBit i then f b i else nI 0) some (fun q s => ?_) (fun q i s hi => ?_) n (nI 0) (by omega)
  · simpa only [z_add] using this
  · have e : Int32.ofNat 6 = nI 6 := rfl
    simp (disch := omega) only [lt_eq, bn_s, bn2_s, gd_t, nc, nI_add, n_mul, n_sub, ib_nI, up_hit, up_miss, n_le, n_lt, n_eq, n_eq0, n_lt0, n_0le, n_0lt, n_le0, zb_0, zb_1, if_pos, if_neg, ↓reduceIte, fX11_sumOf_24, fX11_sumOf_4, fX11_sumOf_4L, e]
  · have e : Int32.ofNat 6 = nI 6 := rfl
    simp (disch := omega) only [lt_eq, bn_s, bn2_s, gd_t, nc, nI_add, n_mul, n_sub, ib_nI, up_hit, up_miss, n_le, n_lt, n_eq, n_eq0, n_lt0, n_0le, n_0lt, n_le0, zb_0, zb_1, if_pos, if_neg, ↓reduceIte, fX11_sumOf_24, fX11_sumOf_4, fX11_sumOf_4L, e, (at_bit x hx i hi).2, bI_ite]
    cases x.testBit i
    · simp only [cond_false, add_bf]
    · rfl
theorem c_seen6 (h : RW N f o a) {x : Nat} {d : Int32} (hb : ∀ c, c < 6 → x.testBit c = wat a (nI c) d) (hz : ∀ c, c < 6 → ct a 6 ≤ c → wat a (nI c) d = false) : smI (fun i => bif x.testBit i then f (o + 1 + 1) i else nI 0) 6 = seenS a d := by
  obtain ⟨h0, nc_, nw, ns, nk, ny, no, nt, h1, h2, h3, h4, h5, h6, h7⟩ := h
  obtain ⟨g1, g2, g3, g4, g5, g6⟩ := h1
  have e6 : ct a 6 = nc_ := ct_n g3 (by omega)
  rw [smI_ext (k := nc_) 6 g1 (fun i h1 h2 => by rw [hb i h2, hz i h2 (by omega)]; rfl)]
  unfold seenS
  rw [e6]
  refine smI_congr nc_ (fun i hi => ?_)
  rw [hb i (by omega)]
  obtain ⟨s, _, _, es, ea⟩ := g4 i hi
  show (bif wat a (nI i) d then f (o + 2) i else nI 0) = _
  rw [es, ea]
theorem c_seenOn (hn : 2000 ≤ n) (h : RW N f o a) {d : Int32} : fX10_seenOn n o d f = some (seenS a d) := by
  obtain ⟨x, hx, e, hb, hz⟩ := c_coilsOn hn h d
  unfold fX10_seenOn
  simp (disch := omega) only [lt_eq, bn_s, bn2_s, gd_t, nc, nI_add, n_mul, n_sub, ib_nI, up_hit, up_miss, n_le, n_lt, n_eq, n_eq0, n_lt0, n_0le, n_0lt, n_le0, zb_0, zb_1, if_pos, if_neg, ↓reduceIte, e, c_sum6 hn hx, c_seen6 h hb hz]
theorem many6 {x : Nat} {d : Int32} (h6 : ct a 6 ≤ 6) (hb : ∀ c, c < 6 → x.testBit c = wat a (nI c) d) (hz : ∀ c, c < 6 → ct a 6 ≤ c → wat a (nI c) d = false) : cnt x.testBit 6 = manyS a d := by
  rw [cnt_ext (k := ct a 6) 6 h6 (fun i h1 h2 => by rw [hb i h2, hz i h2 h1])]
  exact cnt_congr _ (fun i hi => hb i (by omega))
end CQ
