theorem cnt_s {p : Nat → Bool} {n : Nat} : cnt p (n + 1) = cnt p n + (if p n then 1 else 0) := rfl
theorem smI_s {g : Nat → Int32} {n : Nat} : smI g (n + 1) = smI g n + g n := rfl
theorem exs_s {p : Nat → Bool} {n : Nat} : exs p (n + 1) = (exs p n || p n) := rfl
/-! sets of coils as bits; sums and counts beyond the last coil -/
def bitsN (a : Nat → Int32) (d : Int32) : Nat → Nat
  | 0 => 0
  | w + 1 => bif onW a w d then bitsN a d w ||| 2 ^ ct a (31 + 3 * w) else bitsN a d w
theorem or_bit : ∀ x, x < 64 → ∀ c, c < 6 → nI x ||| shlI (nI 1) (nI c) = nI (x ||| 2 ^ c) ∧ (x ||| 2 ^ c) < 64 := by decide +kernel
theorem at_bit : ∀ x, x < 64 → ∀ c, c < 6 → (nI x &&& nI 1 = nI x &&& nI 1) ∧ ((shrI (nI x) (nI c) &&& nI 1) = bI (x.testBit c)) := by decide +kernel
theorem bc_bit : ∀ x, x < 64 → ∀ n, fJ6_bitCount_0f7a4 n (nI x) = some (nI (cnt x.testBit 6)) := by
  intro x hx n
  unfold fJ6_bitCount_0f7a4
  simp only [lt_eq]
  revert x
  decide +kernel
theorem at_bit8 : ∀ x, x < 256 → ∀ c, c < 8 → (shrI (nI x) (nI c) &&& nI 1) = bI (x.testBit c) := by decide +kernel
theorem nz_bit : ∀ x, x < 64 → (x = 0 ↔ cnt x.testBit 6 = 0) := by decide +kernel
theorem bits_lt {a : Nat → Int32} {d : Int32} : ∀ w, (∀ i, i < w → ct a (31 + 3 * i) < 6) → bitsN a d w < 64
  | 0, _ => Nat.zero_lt_succ _
  | w + 1, h => by
    unfold bitsN
    have ih := bits_lt (d := d) w (fun i hi => h i (by omega))
    cases onW a w d
    · exact ih
    · exact (or_bit _ ih _ (h w (by omega))).2
theorem bits_at {a : Nat → Int32} {d : Int32} {c : Nat} : ∀ w, (bitsN a d w).testBit c = exs (fun i => decide (ct a (31 + 3 * i) = c) && onW a i d) w
  | 0 => by unfold bitsN exs; exact Nat.zero_testBit c
  | w + 1 => by
    unfold bitsN exs
    rw [← bits_at w]
    cases onW a w d
    · simp
    · simp [Nat.testBit_or, Nat.testBit_two_pow]
theorem smI_ext {g : Nat → Int32} {k : Nat} : ∀ n, k ≤ n → (∀ i, k ≤ i → i < n → g i = 0) → smI g n = smI g k
  | 0, h, _ => by rw [show k = 0 by omega]
  | n + 1, h, hz => by
    by_cases e : k = n + 1
    · rw [e]
    · rw [smI_s, hz n (by omega) (by omega), smI_ext n (by omega) (fun i h1 h2 => hz i h1 (by omega))]
      exact Int32.add_zero _
theorem cnt_ext {g : Nat → Bool} {k : Nat} : ∀ n, k ≤ n → (∀ i, k ≤ i → i < n → g i = false) → cnt g n = cnt g k
  | 0, h, _ => by rw [show k = 0 by omega]
  | n + 1, h, hz => by
    by_cases e : k = n + 1
    · rw [e]
    · rw [cnt_s, hz n (by omega) (by omega), cnt_ext n (by omega) (fun i h1 h2 => hz i h1 (by omega))]
      rfl
theorem cnt_mono {p : Nat → Bool} {k : Nat} : ∀ n, k ≤ n → cnt p k ≤ cnt p n
  | 0, h => by rw [show k = 0 by omega]; exact Nat.le_refl _
  | n + 1, h => by
    by_cases e : k = n + 1
    · rw [e]; exact Nat.le_refl _
    · have := cnt_mono (p := p) n (show k ≤ n by omega)
      rw [cnt_s]
      omega
/-- the c of p with so many of p below it -/
theorem pick_one {p : Nat → Bool} {c e : Nat} (hc : p c = true) (he : p e = true) (h : cnt p c = cnt p e) : c = e := by
  rcases Nat.lt_trichotomy c e with q | q | q
  · have h1 := cnt_mono (p := p) e (show c + 1 ≤ e by omega)
    rw [cnt_s, hc] at h1
    simp only [if_true] at h1
    omega
  · exact q
  · have h1 := cnt_mono (p := p) c (show e + 1 ≤ c by omega)
    rw [cnt_s, he] at h1
    simp only [if_true] at h1
    omega
theorem pick_ex {p : Nat → Bool} {k : Nat} : ∀ n, k < cnt p n → ∃ c, c < n ∧ p c = true ∧ cnt p c = k
  | 0, h => by unfold cnt at h; omega
  | n + 1, h => by
    by_cases q : k < cnt p n
    · obtain ⟨c, h1, h2⟩ := pick_ex n q
      exact ⟨c, by omega, h2⟩
    · cases hp : p n
      · rw [cnt_s, hp] at h
        simp at h
        omega
      · rw [cnt_s, hp] at h
        simp only [if_true] at h
        exact ⟨n, by omega, hp, by omega⟩
/-- the class's coilAt -/
theorem c_coilAt {n x k c : Nat} (hn : 2000 ≤ n) (hx : x < 64) (hc : c < 6) (hp : x.testBit c = true) (hk : cnt x.testBit c = k) : fX10_coilAt n (nI x) (nI k) = some (nI c) := by
  unfold fX10_coilAt
  have key : ∀ q i, i ≤ c → c - i < q → fX10_coilAt_4L n q (nI x) (nI (k - cnt x.testBit i)) (nI i) = some (nI c) := by
    intro q
    induction q with
    | zero => intro i h1 h2; omega
    | succ q ih =>
      intro i h1 h2
      have hm := cnt_mono (p := x.testBit) c h1
      have hle := cnt_le (p := x.testBit) c
      by_cases e : i = c
      · subst e
        have e2 : k - cnt x.testBit i = 0 := by omega
        simp (disch := omega) only [lt_eq, bn_s, bn2_s, gd_t, nc, nI_add, n_mul, n_sub, ib_nI, up_hit, up_miss, n_le, n_lt, n_eq, n_eq0, n_lt0, n_0le, n_0lt, n_le0, zb_0, zb_1, if_pos, if_neg, ↓reduceIte, fX10_coilAt_27, fX10_coilAt_4, fX10_coilAt_4L, (at_bit x hx i hc).2, bI_ite, hp, cond_true, e2]
      · cases hb : x.testBit i
        · have := ih (i + 1) (by omega) (by omega)
          rw [cnt_s, hb] at this
          simp (disch := omega) only [lt_eq, bn_s, bn2_s, gd_t, nc, nI_add, n_mul, n_sub, ib_nI, up_hit, up_miss, n_le, n_lt, n_eq, n_eq0, n_lt0, n_0le, n_0lt, n_le0, zb_0, zb_1, if_pos, if_neg, ↓reduceIte, fX10_coilAt_27, fX10_coilAt_4, fX10_coilAt_4L, (at_bit x hx i (by omega)).2, bI_ite, hb, cond_false]
          simpa using this
        · have := ih (i + 1) (by omega) (by omega)
          rw [cnt_s, hb] at this
          have h3 := cnt_mono (p := x.testBit) c (show i + 1 ≤ c by omega)
          rw [cnt_s, hb] at h3
          simp only [if_true] at h3
          have e3 : nI (k - cnt x.testBit i) + (-1 : Int32) = nI (k - (cnt x.testBit i + 1)) := by
            have : nI (k - cnt x.testBit i) - nI 1 = nI (k - cnt x.testBit i - 1) := n_sub (by omega)
            rw [show k - (cnt x.testBit i + 1) = k - cnt x.testBit i - 1 by omega, ← this]
            exact (Int32.sub_eq_add_neg _ _).symm
          simp (disch := omega) only [lt_eq, bn_s, bn2_s, gd_t, nc, nI_add, n_mul, n_sub, ib_nI, up_hit, up_miss, n_le, n_lt, n_eq, n_eq0, n_lt0, n_0le, n_0lt, n_le0, zb_0, zb_1, if_pos, if_neg, ↓reduceIte, fX10_coilAt_27, fX10_coilAt_4, fX10_coilAt_4L, (at_bit x hx i (by omega)).2, bI_ite, hb, cond_true, e3]
          simpa using this
  have := key n 0 (by omega) (by omega)
  exact this
