/-! loops of the three usual forms -/
def bI (b : Bool) : Int32 := if b then nI 1 else nI 0
theorem bI_0 {b : Bool} : (bI b = 0) = (b = false) := by cases b <;> decide
theorem bI_t : bI true = nI 1 := rfl
theorem bI_f : bI false = nI 0 := rfl
theorem bI_ite {b : Bool} {α : Type} {x y : α} : (if bI b = 0 then x else y) = bif b then y else x := by cases b <;> rfl
theorem bI_z {b : Bool} : zb (bI b) = true := by cases b <;> decide
theorem loopEx (F : Nat → Nat → Option Int32) (n : Nat) (p : Nat → Bool) (hend : ∀ q, F (q + 1) n = some (nI 0))
    (hstp : ∀ q i, i < n → F (q + 1) i = bif p i then some (nI 1) else F q (i + 1)) : ∀ q, n < q → F q 0 = some (bI (exs p n)) := by
  have key : ∀ q i, i ≤ n → n - i < q → exs p i = false → F q i = some (bI (exs p n)) := by
    intro q
    induction q with
    | zero => intro i h1 h2; omega
    | succ q ih =>
      intro i h1 h2 h3
      by_cases e : i = n
      · subst e
        rw [hend, h3]; rfl
      · rw [hstp q i (by omega)]
        cases hp : p i
        · refine ih (i + 1) (by omega) (by omega) ?_
          unfold exs
          rw [h3, hp]; rfl
        · rw [(exs_iff n).mpr ⟨i, by omega, hp⟩]; rfl
  intro q hq
  exact key q 0 (by omega) (by omega) rfl
theorem loopSm {ρ : Type} (F : Nat → Nat → Int32 → Option ρ) (n : Nat) (g : Nat → Int32) (fin : Int32 → Option ρ) (hend : ∀ q s, F (q + 1) n s = fin s)
    (hstp : ∀ q i s, i < n → F (q + 1) i s = F q (i + 1) (s + g i)) : ∀ q s, n < q → F q 0 s = fin (s + smI g n) := by
  have key : ∀ q i s, i ≤ n → n - i < q → F q i (s + smI g i) = fin (s + smI g n) := by
    intro q
    induction q with
    | zero => intro i s h1 h2; omega
    | succ q ih =>
      intro i s h1 h2
      by_cases e : i = n
      · subst e
        exact hend q _
      · rw [hstp q i _ (by omega), Int32.add_assoc]
        exact ih (i + 1) s (by omega) (by omega)
  intro q s hq
  have := key q 0 s (by omega) (by omega)
  rw [show s + smI g 0 = s from Int32.add_zero s] at this
  exact this
theorem smI_cnt {p : Nat → Bool} : ∀ n, smI (fun i => bI (p i)) n = nI (cnt p n)
  | 0 => rfl
  | n + 1 => by
    unfold smI cnt
    rw [smI_cnt n]
    show nI (cnt p n) + bI (p n) = _
    cases p n
    · exact nI_add _ _
    · exact nI_add _ _
theorem add_bf {s : Int32} : s + nI 0 = s := Int32.add_zero s
theorem z_add {s : Int32} : nI 0 + s = s := Int32.zero_add s
/-! what the world answers, of the reference's row -/
def ct (a : Nat → Int32) (i : Nat) : Nat := (a i).toNatClampNeg
def onW (a : Nat → Int32) (w : Nat) (d : Int32) : Bool := decide (a (32 + 3 * w) ≤ d) && decide (d ≤ a (33 + 3 * w))
def wat (a : Nat → Int32) (c d : Int32) : Bool := exs (fun w => decide (a (31 + 3 * w) = c) && onW a w d) (ct a 7)
def seenS (a : Nat → Int32) (d : Int32) : Int32 := smI (fun c => bif wat a (nI c) d then a (13 + 3 * c) else nI 0) (ct a 6)
def manyS (a : Nat → Int32) (d : Int32) : Nat := cnt (fun c => wat a (nI c) d) (ct a 6)
def lineS (a : Nat → Int32) (c d : Int32) : Int32 := smI (fun s => if a (92 + 4 * s) = c ∧ a (93 + 4 * s) ≤ d then a (94 + 4 * s) else nI 0) (ct a 8)
def hasS (a : Nat → Int32) (c d : Int32) : Bool := exs (fun s => decide (a (92 + 4 * s) = c) && decide (a (93 + 4 * s) = d)) (ct a 8)
def manyOfS (a : Nat → Int32) (c : Int32) : Nat := cnt (fun s => decide (a (92 + 4 * s) = c)) (ct a 8)
def szS (h : Int32) : Int32 := if 0 ≤ h then h else -h
def htS (a : Nat → Int32) (h pen : Int32) : Bool := decide (a 2 - pen ≤ szS h) && decide (szS h ≤ a 2 + pen)
def fitS (a : Nat → Int32) (s : Nat) : Bool :=
  if a (91 + 4 * s) = nI 4 then false else bif htS a (a (94 + 4 * s)) (a 3) then (if a (91 + 4 * s) = nI 5 then !wat a (a (92 + 4 * s)) (a (93 + 4 * s))
  else if a (91 + 4 * s) = nI 3 then (if a (94 + 4 * s) ≤ 0 then false else if a (15 + 3 * ct a (92 + 4 * s)) < 0 then false else hasS a (a (15 + 3 * ct a (92 + 4 * s))) (a (93 + 4 * s)))
  else if a (91 + 4 * s) = nI 1 then (if a (94 + 4 * s) ≤ 0 then false else true) else true) else false
def fitOnS (a : Nat → Int32) (d : Int32) : Bool := exs (fun s => decide (a (93 + 4 * s) = d) && fitS a s) (ct a 8)
def fittingS (a : Nat → Int32) (pen : Int32) : Nat := cnt (fun k => htS a (a (251 + k)) pen) (ct a 10)
def keyOn (a : Nat → Int32) (k : Nat) (d : Int32) : Bool := decide (a (311 + 2 * k) ≤ d) && decide (d ≤ a (312 + 2 * k))
def keysS (a : Nat → Int32) (d : Int32) : Nat := cnt (fun k => keyOn a k d) (ct a 11)
def fitAllS (a : Nat → Int32) : Nat := cnt (fitS a) (ct a 8)
def jokesS (a : Nat → Int32) : Nat := cnt (fun s => decide (0 < keysS a (a (93 + 4 * s))) && fitS a s) (ct a 8)
/-! what the reference's methods give -/
theorem r_in {n : Nat} {x lo hi : Int32} : fX12_in n x lo hi = some (bI (decide (lo ≤ x) && decide (x ≤ hi))) := by
  unfold fX12_in
  by_cases h1 : x < lo
  · have : ¬ lo ≤ x := Int32.not_le.mpr h1
    simp only [h1, if_true, this, decide_false, Bool.false_and, bI_f]
  · have h1' : lo ≤ x := Int32.not_lt.mp h1
    by_cases h2 : hi < x
    · have : ¬ x ≤ hi := Int32.not_le.mpr h2
      simp only [h1, h2, if_true, if_false, this, decide_false, Bool.and_false, bI_f]
    · have h2' : x ≤ hi := Int32.not_lt.mp h2
      simp only [h1, h2, if_false, h1', h2', decide_true, Bool.and_true, bI_t]
theorem r_coil3 {n c w : Nat} {m : Mm} (h : c < 6) (hw : w < 3) : fX12_coil3 n (nI c) (nI w) m = some (m 108 (13 + w + 3 * c)) := by
  unfold fX12_coil3
  have e : 13 + 3 * c + w = 13 + w + 3 * c := by omega
  simp (disch := omega) only [lt_eq, bn_s, bn2_s, gd_t, nc, nI_add, n_mul, n_sub, ib_nI, up_hit, up_miss, n_le, n_lt, n_eq, n_eq0, n_lt0, n_0le, n_0lt, n_le0, zb_0, zb_1, if_pos, if_neg, ↓reduceIte, e]
theorem r_step4 {n s w : Nat} {m : Mm} (h : s < 40) (hw : w < 4) : fX12_step4 n (nI s) (nI w) m = some (m 108 (91 + w + 4 * s)) := by
  unfold fX12_step4
  have e : 91 + 4 * s + w = 91 + w + 4 * s := by omega
  simp (disch := omega) only [lt_eq, bn_s, bn2_s, gd_t, nc, nI_add, n_mul, n_sub, ib_nI, up_hit, up_miss, n_le, n_lt, n_eq, n_eq0, n_lt0, n_0le, n_0lt, n_le0, zb_0, zb_1, if_pos, if_neg, ↓reduceIte, e]
theorem r_inW {n w : Nat} {a : Nat → Int32} {d : Int32} : fX12_in n d (a (32 + 3 * w)) (a (33 + 3 * w)) = some (bI (onW a w d)) := r_in
theorem r_isWatched {n nw : Nat} {c d : Int32} {m : Mm} (hn : 2000 ≤ n) (h7 : m 108 7 = nI nw) (hw : nw ≤ 20) : fX12_isWatched n c d m = some (bI (wat (m 108) c d)) := by
  have hc : ct (m 108) 7 = nw := by unfold ct; rw [h7]; exact nc (by omega)
  unfold fX12_isWatched wat
  rw [hc]
  refine loopEx (fun q i => fX12_isWatched_2L n q c d (nI i) m) nw _ (fun q => ?_) (fun q i hi => ?_) n (by omega)
  · simp (disch := omega) only [lt_eq, bn_s, bn2_s, gd_t, nc, nI_add, n_mul, n_sub, ib_nI, up_hit, up_miss, n_le, n_lt, n_eq, n_eq0, n_lt0, n_0le, n_0lt, n_le0, zb_0, zb_1, if_pos, if_neg, ↓reduceIte, fX12_isWatched_2L, fX12_isWatched_2, h7]
  · have e1 : 31 + 3 * i + 1 = 32 + 3 * i := by omega
    have e2 : 31 + 3 * i + 2 = 33 + 3 * i := by omega
    simp (disch := omega) only [lt_eq, bn_s, bn2_s, gd_t, nc, nI_add, n_mul, n_sub, ib_nI, up_hit, up_miss, n_le, n_lt, n_eq, n_eq0, n_lt0, n_0le, n_0lt, n_le0, zb_0, zb_1, if_pos, if_neg, ↓reduceIte, fX12_isWatched_2L, fX12_isWatched_2, fX12_isWatched_59, h7, e1, e2, r_inW, bI_ite]
    by_cases q1 : m 108 (31 + 3 * i) = c
    · simp only [q1, if_true, decide_true, Bool.true_and]
    · simp only [q1, if_false, decide_false, Bool.false_and, cond_false]
