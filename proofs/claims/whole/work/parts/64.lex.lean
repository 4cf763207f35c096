/-! texts: the words of the tape -/
def lt1 (b : Nat) : Bool := decide (97 ≤ b) && decide (b ≤ 122)
def dg1 (b : Nat) : Bool := decide (48 ≤ b) && decide (b ≤ 57)
def CB (B : Nat → Nat) (T : Nat) (F s : Mm) : Prop := T ≤ 96 ∧ s 100 1 = nI T ∧ (∀ i, i < T → B i < 256 ∧ s 101 i = nI (B i)) ∧ ∀ k, k ≠ 100 → s k = F k
def RB (B : Nat → Nat) (T : Nat) (M t : Mm) : Prop := T ≤ 96 ∧ t 107 5 = nI T ∧ (∀ i, i < T → B i < 256 ∧ t 111 i = nI (B i)) ∧ (∀ k, k ≠ 107 → t k = M k) ∧ ∀ j, j < 6 ∨ 10 < j → t 107 j = M 107 j
/-- what stands open: its kind (none, word, number, sign, wrong) and its value -/
def TK (B : Nat → Nat) (T : Nat) (f m : Mm) (st en k v : Nat) : Prop :=
  (k = 0 ∧ f 100 2 = -1 ∧ m 107 8 = nI 0 ∧ st = T ∧ en = T) ∨
  (k = 1 ∧ f 100 2 = -2 ∧ m 107 8 = nI 1 ∧ m 107 10 = nI en ∧ st < en ∧ m 107 9 = nI (B st) ∧ f 100 5 = nI v ∧ v = (if en = st + 1 then B st else 0)) ∨
  (k = 2 ∧ f 100 2 = -3 ∧ m 107 8 = nI 2 ∧ m 107 10 = nI en ∧ st < en ∧ v < 10000 ∧ f 100 5 = nI v ∧ m 107 9 = nI v) ∨
  (k = 3 ∧ f 100 2 = nI v ∧ m 107 8 = nI 3 ∧ m 107 9 = nI v ∧ v < 256 ∧ en = st + 1 ∧ (m 107 10 = -1 ∨ ∃ e, e < en ∧ m 107 10 = nI e)) ∨
  (k = 4 ∧ f 100 2 = -4 ∧ m 107 8 = nI 4 ∧ st < en)
def LX (B : Nat → Nat) (T : Nat) (F M f m : Mm) (st en k v : Nat) : Prop := CB B T F f ∧ RB B T M m ∧ f 100 3 = nI st ∧ m 107 7 = nI st ∧ f 100 4 = nI en ∧ m 107 6 = nI en ∧ st ≤ en ∧ en ≤ T ∧ TK B T f m st en k v
theorem CB.up {B : Nat → Nat} {T j : Nat} {F s : Mm} {v : Int32} (h : CB B T F s) (hj : j ≠ 1) : CB B T F (up s 100 j v) := by
  obtain ⟨h0, h1, h2, h3⟩ := h
  exact ⟨h0, by rw [up_miss (Or.inr (Ne.symm hj))]; exact h1, fun i hi => by rw [up_rn (by omega)]; exact h2 i hi, fun k hk => by rw [up_rn hk]; exact h3 k hk⟩
theorem RB.up {B : Nat → Nat} {T j : Nat} {M t : Mm} {v : Int32} (h : RB B T M t) (h1 : 6 ≤ j) (h2 : j ≤ 10) : RB B T M (up t 107 j v) := by
  obtain ⟨g0, g1, g2, g3, g4⟩ := h
  exact ⟨g0, by rw [up_miss (by omega)]; exact g1, fun i hi => by rw [up_rn (by omega)]; exact g2 i hi, fun k hk => by rw [up_rn hk]; exact g3 k hk, fun i hi => by rw [up_miss (by omega)]; exact g4 i hi⟩
section LXA
variable {n T : Nat} {B : Nat → Nat} {F M s t : Mm}
theorem c_let {i : Nat} (h : CB B T F s) (hi : i < T) : fX9_isLetter n 100 (nI i) s = some (bI (lt1 (B i))) := by
  obtain ⟨h0, h1, h2, h3⟩ := h
  obtain ⟨b1, b2⟩ := h2 i hi
  unfold fX9_isLetter lt1
  by_cases q1 : 97 ≤ B i
  · by_cases q2 : B i ≤ 122
    · simp (disch := omega) only [ltE, bnE, bn2E, gdE, nc, nI_add, n_mul, n_sub, ib_nI, up_hit, up_miss, n_le, n_lt, n_eq, n_eq0, n_lt0, n_0le, n_0lt, n_le0, zb_0, zb_1, if_pos, if_neg, ↓reduceIte, Nat.reduceAdd, Nat.reduceMul, Nat.reduceSub, b2, q1, q2, decide_true, Bool.and_true]; rfl
    · simp (disch := omega) only [ltE, bnE, bn2E, gdE, nc, nI_add, n_mul, n_sub, ib_nI, up_hit, up_miss, n_le, n_lt, n_eq, n_eq0, n_lt0, n_0le, n_0lt, n_le0, zb_0, zb_1, if_pos, if_neg, ↓reduceIte, Nat.reduceAdd, Nat.reduceMul, Nat.reduceSub, b2, q1, q2, decide_true, decide_false, Bool.and_false]; rfl
  · simp (disch := omega) only [ltE, bnE, bn2E, gdE, nc, nI_add, n_mul, n_sub, ib_nI, up_hit, up_miss, n_le, n_lt, n_eq, n_eq0, n_lt0, n_0le, n_0lt, n_le0, zb_0, zb_1, if_pos, if_neg, ↓reduceIte, Nat.reduceAdd, Nat.reduceMul, Nat.reduceSub, b2, q1, decide_false, Bool.false_and]; rfl
theorem c_dig {i : Nat} (h : CB B T F s) (hi : i < T) : fX9_isDigit n 100 (nI i) s = some (bI (dg1 (B i))) := by
  obtain ⟨h0, h1, h2, h3⟩ := h
  obtain ⟨b1, b2⟩ := h2 i hi
  unfold fX9_isDigit dg1
  by_cases q1 : 48 ≤ B i
  · by_cases q2 : B i ≤ 57
    · simp (disch := omega) only [ltE, bnE, bn2E, gdE, nc, nI_add, n_mul, n_sub, ib_nI, up_hit, up_miss, n_le, n_lt, n_eq, n_eq0, n_lt0, n_0le, n_0lt, n_le0, zb_0, zb_1, if_pos, if_neg, ↓reduceIte, Nat.reduceAdd, Nat.reduceMul, Nat.reduceSub, b2, q1, q2, decide_true, Bool.and_true]; rfl
    · simp (disch := omega) only [ltE, bnE, bn2E, gdE, nc, nI_add, n_mul, n_sub, ib_nI, up_hit, up_miss, n_le, n_lt, n_eq, n_eq0, n_lt0, n_0le, n_0lt, n_le0, zb_0, zb_1, if_pos, if_neg, ↓reduceIte, Nat.reduceAdd, Nat.reduceMul, Nat.reduceSub, b2, q1, q2, decide_true, decide_false, Bool.and_false]; rfl
  · simp (disch := omega) only [ltE, bnE, bn2E, gdE, nc, nI_add, n_mul, n_sub, ib_nI, up_hit, up_miss, n_le, n_lt, n_eq, n_eq0, n_lt0, n_0le, n_0lt, n_le0, zb_0, zb_1, if_pos, if_neg, ↓reduceIte, Nat.reduceAdd, Nat.reduceMul, Nat.reduceSub, b2, q1, decide_false, Bool.false_and]; rfl
theorem r_let {i : Nat} (h : RB B T M t) (hi : i < T) : fX12_isLetter n (nI i) t = some (bI (lt1 (B i))) := by
  obtain ⟨h0, h1, h2, h3⟩ := h
  obtain ⟨b1, b2⟩ := h2 i hi
  unfold fX12_isLetter lt1
  by_cases q1 : 97 ≤ B i
  · by_cases q2 : B i ≤ 122
    · simp (disch := omega) only [ltE, bnE, bn2E, gdE, nc, nI_add, n_mul, n_sub, ib_nI, up_hit, up_miss, n_le, n_lt, n_eq, n_eq0, n_lt0, n_0le, n_0lt, n_le0, zb_0, zb_1, if_pos, if_neg, ↓reduceIte, Nat.reduceAdd, Nat.reduceMul, Nat.reduceSub, h1, b2, q1, q2, decide_true, Bool.and_true]; rfl
    · simp (disch := omega) only [ltE, bnE, bn2E, gdE, nc, nI_add, n_mul, n_sub, ib_nI, up_hit, up_miss, n_le, n_lt, n_eq, n_eq0, n_lt0, n_0le, n_0lt, n_le0, zb_0, zb_1, if_pos, if_neg, ↓reduceIte, Nat.reduceAdd, Nat.reduceMul, Nat.reduceSub, h1, b2, q1, q2, decide_true, decide_false, Bool.and_false]; rfl
  · simp (disch := omega) only [ltE, bnE, bn2E, gdE, nc, nI_add, n_mul, n_sub, ib_nI, up_hit, up_miss, n_le, n_lt, n_eq, n_eq0, n_lt0, n_0le, n_0lt, n_le0, zb_0, zb_1, if_pos, if_neg, ↓reduceIte, Nat.reduceAdd, Nat.reduceMul, Nat.reduceSub, h1, b2, q1, decide_false, Bool.false_and]; rfl
theorem r_fig {i : Nat} (h : RB B T M t) (hi : i < T) : fX12_isFigure n (nI i) t = some (bI (dg1 (B i))) := by
  obtain ⟨h0, h1, h2, h3⟩ := h
  obtain ⟨b1, b2⟩ := h2 i hi
  unfold fX12_isFigure dg1
  by_cases q1 : 48 ≤ B i
  · by_cases q2 : B i ≤ 57
    · simp (disch := omega) only [ltE, bnE, bn2E, gdE, nc, nI_add, n_mul, n_sub, ib_nI, up_hit, up_miss, n_le, n_lt, n_eq, n_eq0, n_lt0, n_0le, n_0lt, n_le0, zb_0, zb_1, if_pos, if_neg, ↓reduceIte, Nat.reduceAdd, Nat.reduceMul, Nat.reduceSub, h1, b2, q1, q2, decide_true, Bool.and_true]; rfl
    · simp (disch := omega) only [ltE, bnE, bn2E, gdE, nc, nI_add, n_mul, n_sub, ib_nI, up_hit, up_miss, n_le, n_lt, n_eq, n_eq0, n_lt0, n_0le, n_0lt, n_le0, zb_0, zb_1, if_pos, if_neg, ↓reduceIte, Nat.reduceAdd, Nat.reduceMul, Nat.reduceSub, h1, b2, q1, q2, decide_true, decide_false, Bool.and_false]; rfl
  · simp (disch := omega) only [ltE, bnE, bn2E, gdE, nc, nI_add, n_mul, n_sub, ib_nI, up_hit, up_miss, n_le, n_lt, n_eq, n_eq0, n_lt0, n_0le, n_0lt, n_le0, zb_0, zb_1, if_pos, if_neg, ↓reduceIte, Nat.reduceAdd, Nat.reduceMul, Nat.reduceSub, h1, b2, q1, decide_false, Bool.false_and]; rfl
theorem r_letT (h : RB B T M t) : fX12_isLetter n (nI T) t = some (nI 0) := by
  unfold fX12_isLetter
  have := h.1
  simp (disch := omega) only [ltE, bnE, bn2E, gdE, nc, nI_add, n_mul, n_sub, ib_nI, up_hit, up_miss, n_le, n_lt, n_eq, n_eq0, n_lt0, n_0le, n_0lt, n_le0, zb_0, zb_1, if_pos, if_neg, ↓reduceIte, Nat.reduceAdd, Nat.reduceMul, Nat.reduceSub, h.2.1, Nat.le_refl]
theorem r_figT (h : RB B T M t) : fX12_isFigure n (nI T) t = some (nI 0) := by
  unfold fX12_isFigure
  have := h.1
  simp (disch := omega) only [ltE, bnE, bn2E, gdE, nc, nI_add, n_mul, n_sub, ib_nI, up_hit, up_miss, n_le, n_lt, n_eq, n_eq0, n_lt0, n_0le, n_0lt, n_le0, zb_0, zb_1, if_pos, if_neg, ↓reduceIte, Nat.reduceAdd, Nat.reduceMul, Nat.reduceSub, h.2.1, Nat.le_refl]
/-- the end of a word -/
theorem lexW {st : Nat} {x : Int32} (hn : 2000 ≤ n) (hs : CB B T F s) (ht : RB B T M t) (c3 : s 100 3 = nI st) (c4 : s 100 4 = nI st) (r7 : t 107 7 = nI st) (r6 : t 107 6 = nI st) (h1 : st < T) (h2 : lt1 (B st) = true) :
    ∃ f' m' en, fX9_openWord n 100 s = some f' ∧ fX12_go_93L n n x t = some m' ∧ CB B T F f' ∧ RB B T M m' ∧ f' 100 3 = nI st ∧ m' 107 7 = nI st ∧ f' 100 4 = nI en ∧ m' 107 6 = nI en ∧ st < en ∧ en ≤ T ∧ f' 100 2 = -2 ∧ m' 107 8 = (if x = 0 then nI 1 else nI 4) ∧ m' 107 10 = nI en ∧ m' 107 9 = nI (B st) ∧ f' 100 5 = nI (if en = st + 1 then B st else 0) := by
  have hT := hs.1
  unfold fX9_openWord
  have fin : ∀ i (s t : Mm), st < i → i ≤ T → CB B T F s → RB B T M t → s 100 3 = nI st → s 100 4 = nI i → t 107 7 = nI st → t 107 6 = nI i →
      ∃ f' m', fX9_openWord_35 n 100 s = some f' ∧ (if x = 0 then fX12_go_127 n (nI 1) t else fX12_go_127 n (nI 4) t) = some m' ∧ ∃ en, CB B T F f' ∧ RB B T M m' ∧ f' 100 3 = nI st ∧ m' 107 7 = nI st ∧ f' 100 4 = nI en ∧ m' 107 6 = nI en ∧ st < en ∧ en ≤ T ∧ f' 100 2 = -2 ∧ m' 107 8 = (if x = 0 then nI 1 else nI 4) ∧ m' 107 10 = nI en ∧ m' 107 9 = nI (B st) ∧ f' 100 5 = nI (if en = st + 1 then B st else 0) := by
    intro i s t hi hiT hs ht c3 c4 r7 r6
    have b2 := (hs.2.2.1 st h1).2
    have b3 := (ht.2.2.1 st h1).2
    refine ⟨up (up s 100 2 (-2)) 100 5 (nI (if i = st + 1 then B st else 0)), up (up (up t 107 8 (if x = 0 then nI 1 else nI 4)) 107 9 (nI (B st))) 107 10 (nI i), ?_, ?_, i, (hs.up (by omega)).up (by omega), ((ht.up (by omega) (by omega)).up (by omega) (by omega)).up (by omega) (by omega), by simp (disch := omega) only [ltE, bnE, bn2E, gdE, nc, nI_add, n_mul, n_sub, ib_nI, up_hit, up_miss, n_le, n_lt, n_eq, n_eq0, n_lt0, n_0le, n_0lt, n_le0, zb_0, zb_1, if_pos, if_neg, ↓reduceIte, Nat.reduceAdd, Nat.reduceMul, Nat.reduceSub, c3], by simp (disch := omega) only [ltE, bnE, bn2E, gdE, nc, nI_add, n_mul, n_sub, ib_nI, up_hit, up_miss, n_le, n_lt, n_eq, n_eq0, n_lt0, n_0le, n_0lt, n_le0, zb_0, zb_1, if_pos, if_neg, ↓reduceIte, Nat.reduceAdd, Nat.reduceMul, Nat.reduceSub, r7], by simp (disch := omega) only [ltE, bnE, bn2E, gdE, nc, nI_add, n_mul, n_sub, ib_nI, up_hit, up_miss, n_le, n_lt, n_eq, n_eq0, n_lt0, n_0le, n_0lt, n_le0, zb_0, zb_1, if_pos, if_neg, ↓reduceIte, Nat.reduceAdd, Nat.reduceMul, Nat.reduceSub, c4], by simp (disch := omega) only [ltE, bnE, bn2E, gdE, nc, nI_add, n_mul, n_sub, ib_nI, up_hit, up_miss, n_le, n_lt, n_eq, n_eq0, n_lt0, n_0le, n_0lt, n_le0, zb_0, zb_1, if_pos, if_neg, ↓reduceIte, Nat.reduceAdd, Nat.reduceMul, Nat.reduceSub, r6], hi, hiT, by simp (disch := omega) only [ltE, bnE, bn2E, gdE, nc, nI_add, n_mul, n_sub, ib_nI, up_hit, up_miss, n_le, n_lt, n_eq, n_eq0, n_lt0, n_0le, n_0lt, n_le0, zb_0, zb_1, if_pos, if_neg, ↓reduceIte, Nat.reduceAdd, Nat.reduceMul, Nat.reduceSub], by simp (disch := omega) only [ltE, bnE, bn2E, gdE, nc, nI_add, n_mul, n_sub, ib_nI, up_hit, up_miss, n_le, n_lt, n_eq, n_eq0, n_lt0, n_0le, n_0lt, n_le0, zb_0, zb_1, if_pos, if_neg, ↓reduceIte, Nat.reduceAdd, Nat.reduceMul, Nat.reduceSub], by simp (disch := omega) only [ltE, bnE, bn2E, gdE, nc, nI_add, n_mul, n_sub, ib_nI, up_hit, up_miss, n_le, n_lt, n_eq, n_eq0, n_lt0, n_0le, n_0lt, n_le0, zb_0, zb_1, if_pos, if_neg, ↓reduceIte, Nat.reduceAdd, Nat.reduceMul, Nat.reduceSub], by simp (disch := omega) only [ltE, bnE, bn2E, gdE, nc, nI_add, n_mul, n_sub, ib_nI, up_hit, up_miss, n_le, n_lt, n_eq, n_eq0, n_lt0, n_0le, n_0lt, n_le0, zb_0, zb_1, if_pos, if_neg, ↓reduceIte, Nat.reduceAdd, Nat.reduceMul, Nat.reduceSub], by simp (disch := omega) only [ltE, bnE, bn2E, gdE, nc, nI_add, n_mul, n_sub, ib_nI, up_hit, up_miss, n_le, n_lt, n_eq, n_eq0, n_lt0, n_0le, n_0lt, n_le0, zb_0, zb_1, if_pos, if_neg, ↓reduceIte, Nat.reduceAdd, Nat.reduceMul, Nat.reduceSub]⟩
    · unfold fX9_openWord_35 fX9_openWord_68
      by_cases q : i = st + 1
      · simp (disch := omega) only [ltE, bnE, bn2E, gdE, nc, nI_add, n_mul, n_sub, ib_nI, up_hit, up_miss, n_le, n_lt, n_eq, n_eq0, n_lt0, n_0le, n_0lt, n_le0, zb_0, zb_1, if_pos, if_neg, ↓reduceIte, Nat.reduceAdd, Nat.reduceMul, Nat.reduceSub, c3, c4, q, b2, show st + 1 - st = 1 from by omega]
      · simp (disch := omega) only [ltE, bnE, bn2E, gdE, nc, nI_add, n_mul, n_sub, ib_nI, up_hit, up_miss, n_le, n_lt, n_eq, n_eq0, n_lt0, n_0le, n_0lt, n_le0, zb_0, zb_1, if_pos, if_neg, ↓reduceIte, Nat.reduceAdd, Nat.reduceMul, Nat.reduceSub, c3, c4, q, show ¬ i - st = 1 from by omega]
    · unfold fX12_go_127
      by_cases q : x = 0
      · simp (disch := omega) only [ltE, bnE, bn2E, gdE, nc, nI_add, n_mul, n_sub, ib_nI, up_hit, up_miss, n_le, n_lt, n_eq, n_eq0, n_lt0, n_0le, n_0lt, n_le0, zb_0, zb_1, if_pos, if_neg, ↓reduceIte, Nat.reduceAdd, Nat.reduceMul, Nat.reduceSub, q, r7, r6, b3]
      · simp (disch := omega) only [ltE, bnE, bn2E, gdE, nc, nI_add, n_mul, n_sub, ib_nI, up_hit, up_miss, n_le, n_lt, n_eq, n_eq0, n_lt0, n_0le, n_0lt, n_le0, zb_0, zb_1, if_pos, if_neg, ↓reduceIte, Nat.reduceAdd, Nat.reduceMul, Nat.reduceSub, q, r7, r6, b3]
  have L := loopSim (fun q i (s : Mm) => fX9_openWord_0L n 100 q s) (fun q i (t : Mm) => fX12_go_93L n q x t) T
    (fun i s t => st ≤ i ∧ (i = st → lt1 (B st) = true) ∧ CB B T F s ∧ RB B T M t ∧ s 100 3 = nI st ∧ s 100 4 = nI i ∧ t 107 7 = nI st ∧ t 107 6 = nI i)
    (fun f' m' => ∃ en, CB B T F f' ∧ RB B T M m' ∧ f' 100 3 = nI st ∧ m' 107 7 = nI st ∧ f' 100 4 = nI en ∧ m' 107 6 = nI en ∧ st < en ∧ en ≤ T ∧ f' 100 2 = -2 ∧ m' 107 8 = (if x = 0 then nI 1 else nI 4) ∧ m' 107 10 = nI en ∧ m' 107 9 = nI (B st) ∧ f' 100 5 = nI (if en = st + 1 then B st else 0)) ?_ ?_ n st s t (by omega) (by omega) ⟨Nat.le_refl _, fun _ => h2, hs, ht, c3, c4, r7, r6⟩
  · obtain ⟨f', m', e1, e2, en, h⟩ := L
    exact ⟨f', m', en, e1, e2, h⟩
  · rintro q s t ⟨w1, w2, w3, w4, w5, w6, w7, w8⟩
    obtain ⟨f', m', e1, e2, h⟩ := fin T s t (by omega) (Nat.le_refl _) w3 w4 w5 w6 w7 w8
    refine ⟨f', m', ?_, ?_, h⟩
    · show fX9_openWord_0 n 100 (fX9_openWord_0L n 100 q) s = _
      unfold fX9_openWord_0
      simp (disch := omega) only [ltE, bnE, bn2E, gdE, nc, nI_add, n_mul, n_sub, ib_nI, up_hit, up_miss, n_le, n_lt, n_eq, n_eq0, n_lt0, n_0le, n_0lt, n_le0, zb_0, zb_1, if_pos, if_neg, ↓reduceIte, Nat.reduceAdd, Nat.reduceMul, Nat.reduceSub, w3.2.1, w6, Nat.le_refl, e1]
    · show fX12_go_93 n (fX12_go_93L n q) x t = _
      unfold fX12_go_93
      simp (disch := omega) only [ltE, bnE, bn2E, gdE, nc, nI_add, n_mul, n_sub, ib_nI, up_hit, up_miss, n_le, n_lt, n_eq, n_eq0, n_lt0, n_0le, n_0lt, n_le0, zb_0, zb_1, if_pos, if_neg, ↓reduceIte, Nat.reduceAdd, Nat.reduceMul, Nat.reduceSub, w8, r_letT w4]
      exact e2
  · rintro q i s t hi ⟨w1, w2, w3, w4, w5, w6, w7, w8⟩
    have cF : fX9_openWord_0L n 100 (q + 1) s = fX9_openWord_0 n 100 (fX9_openWord_0L n 100 q) s := rfl
    have cK : fX12_go_93L n (q + 1) x t = fX12_go_93 n (fX12_go_93L n q) x t := rfl
    simp only [cF, cK]
    unfold fX9_openWord_0 fX12_go_93
    cases hb : lt1 (B i)
    · obtain ⟨f', m', e1, e2, h⟩ := fin i s t (by
        by_cases e : i = st
        · have := w2 e; rw [← e, hb] at this; exact absurd this (by decide)
        · omega) (by omega) w3 w4 w5 w6 w7 w8
      refine Or.inl ⟨f', m', ?_, ?_, h⟩
      · simp (disch := omega) only [ltE, bnE, bn2E, gdE, nc, nI_add, n_mul, n_sub, ib_nI, up_hit, up_miss, n_le, n_lt, n_eq, n_eq0, n_lt0, n_0le, n_0lt, n_le0, zb_0, zb_1, if_pos, if_neg, ↓reduceIte, Nat.reduceAdd, Nat.reduceMul, Nat.reduceSub, w3.2.1, w6, show ¬ T ≤ i from by omega, c_let w3 hi, hb, bI_ite, cond_false, e1]
      · simp (disch := omega) only [ltE, bnE, bn2E, gdE, nc, nI_add, n_mul, n_sub, ib_nI, up_hit, up_miss, n_le, n_lt, n_eq, n_eq0, n_lt0, n_0le, n_0lt, n_le0, zb_0, zb_1, if_pos, if_neg, ↓reduceIte, Nat.reduceAdd, Nat.reduceMul, Nat.reduceSub, w8, r_let w4 hi, hb, bI_ite, cond_false]
        exact e2
    · refine Or.inr ⟨up s 100 4 (nI (i + 1)), up t 107 6 (nI (i + 1)), ?_, ?_, by omega, fun e => by omega, w3.up (by omega), w4.up (by omega) (by omega), by simp (disch := omega) only [ltE, bnE, bn2E, gdE, nc, nI_add, n_mul, n_sub, ib_nI, up_hit, up_miss, n_le, n_lt, n_eq, n_eq0, n_lt0, n_0le, n_0lt, n_le0, zb_0, zb_1, if_pos, if_neg, ↓reduceIte, Nat.reduceAdd, Nat.reduceMul, Nat.reduceSub, w5], by simp (disch := omega) only [ltE, bnE, bn2E, gdE, nc, nI_add, n_mul, n_sub, ib_nI, up_hit, up_miss, n_le, n_lt, n_eq, n_eq0, n_lt0, n_0le, n_0lt, n_le0, zb_0, zb_1, if_pos, if_neg, ↓reduceIte, Nat.reduceAdd, Nat.reduceMul, Nat.reduceSub], by simp (disch := omega) only [ltE, bnE, bn2E, gdE, nc, nI_add, n_mul, n_sub, ib_nI, up_hit, up_miss, n_le, n_lt, n_eq, n_eq0, n_lt0, n_0le, n_0lt, n_le0, zb_0, zb_1, if_pos, if_neg, ↓reduceIte, Nat.reduceAdd, Nat.reduceMul, Nat.reduceSub, w7], by simp (disch := omega) only [ltE, bnE, bn2E, gdE, nc, nI_add, n_mul, n_sub, ib_nI, up_hit, up_miss, n_le, n_lt, n_eq, n_eq0, n_lt0, n_0le, n_0lt, n_le0, zb_0, zb_1, if_pos, if_neg, ↓reduceIte, Nat.reduceAdd, Nat.reduceMul, Nat.reduceSub]⟩
      · simp (disch := omega) only [ltE, bnE, bn2E, gdE, nc, nI_add, n_mul, n_sub, ib_nI, up_hit, up_miss, n_le, n_lt, n_eq, n_eq0, n_lt0, n_0le, n_0lt, n_le0, zb_0, zb_1, if_pos, if_neg, ↓reduceIte, Nat.reduceAdd, Nat.reduceMul, Nat.reduceSub, w3.2.1, w6, show ¬ T ≤ i from by omega, c_let w3 hi, hb, bI_ite, cond_true]
      · simp (disch := omega) only [ltE, bnE, bn2E, gdE, nc, nI_add, n_mul, n_sub, ib_nI, up_hit, up_miss, n_le, n_lt, n_eq, n_eq0, n_lt0, n_0le, n_0lt, n_le0, zb_0, zb_1, if_pos, if_neg, ↓reduceIte, Nat.reduceAdd, Nat.reduceMul, Nat.reduceSub, w8, r_let w4 hi, hb, bI_ite, cond_true]
/-- the end of a number -/
theorem lexN {st : Nat} {x : Int32} (hn : 2000 ≤ n) (hs : CB B T F s) (ht : RB B T M t) (c3 : s 100 3 = nI st) (c4 : s 100 4 = nI st) (r7 : t 107 7 = nI st) (r6 : t 107 6 = nI st) (h1 : st < T) (h2 : dg1 (B st) = true) :
    ∃ f' m' en v, fX9_openNumber n 100 s = some f' ∧ fX12_go_170L n n x (up t 107 9 (nI 0)) = some m' ∧ CB B T F f' ∧ RB B T M m' ∧ f' 100 3 = nI st ∧ m' 107 7 = nI st ∧ f' 100 4 = nI en ∧ m' 107 6 = nI en ∧ st < en ∧ en ≤ T ∧ f' 100 2 = (if en - st ≤ 4 then -3 else -4) ∧ m' 107 8 = (if x = 0 then (if en - st ≤ 4 then nI 2 else nI 4) else nI 4) ∧ m' 107 10 = nI en ∧ v < 10000 ∧ m' 107 9 = nI v ∧ f' 100 5 = nI v := by
  have hT := hs.1
  unfold fX9_openNumber
  simp (disch := omega) only [ltE, bnE, bn2E, gdE, nc, nI_add, n_mul, n_sub, ib_nI, up_hit, up_miss, n_le, n_lt, n_eq, n_eq0, n_lt0, n_0le, n_0lt, n_le0, zb_0, zb_1, if_pos, if_neg, ↓reduceIte, Nat.reduceAdd, Nat.reduceMul, Nat.reduceSub]
  have fin : ∀ i v (s t : Mm), st < i → i ≤ T → v < 10000 → CB B T F s → RB B T M t → s 100 3 = nI st → s 100 4 = nI i → s 100 5 = nI v → t 107 7 = nI st → t 107 6 = nI i → t 107 9 = nI v →
      ∃ f' m', fX9_openNumber_77 n 100 s = some f' ∧ (if x = 0 then (if nI i - nI st ≤ nI 4 then fX12_go_261 n (nI 2) t else fX12_go_256 n t) else fX12_go_256 n t) = some m' ∧ ∃ en v, CB B T F f' ∧ RB B T M m' ∧ f' 100 3 = nI st ∧ m' 107 7 = nI st ∧ f' 100 4 = nI en ∧ m' 107 6 = nI en ∧ st < en ∧ en ≤ T ∧ f' 100 2 = (if en - st ≤ 4 then -3 else -4) ∧ m' 107 8 = (if x = 0 then (if en - st ≤ 4 then nI 2 else nI 4) else nI 4) ∧ m' 107 10 = nI en ∧ v < 10000 ∧ m' 107 9 = nI v ∧ f' 100 5 = nI v := by
    intro i v s t hi hiT hv hs ht c3 c4 c5 r7 r6 r9
    refine ⟨up s 100 2 (if i - st ≤ 4 then -3 else -4), up (up t 107 8 (if x = 0 then (if i - st ≤ 4 then nI 2 else nI 4) else nI 4)) 107 10 (nI i), ?_, ?_, i, v, hs.up (by omega), (ht.up (by omega) (by omega)).up (by omega) (by omega), by simp (disch := omega) only [ltE, bnE, bn2E, gdE, nc, nI_add, n_mul, n_sub, ib_nI, up_hit, up_miss, n_le, n_lt, n_eq, n_eq0, n_lt0, n_0le, n_0lt, n_le0, zb_0, zb_1, if_pos, if_neg, ↓reduceIte, Nat.reduceAdd, Nat.reduceMul, Nat.reduceSub, c3], by simp (disch := omega) only [ltE, bnE, bn2E, gdE, nc, nI_add, n_mul, n_sub, ib_nI, up_hit, up_miss, n_le, n_lt, n_eq, n_eq0, n_lt0, n_0le, n_0lt, n_le0, zb_0, zb_1, if_pos, if_neg, ↓reduceIte, Nat.reduceAdd, Nat.reduceMul, Nat.reduceSub, r7], by simp (disch := omega) only [ltE, bnE, bn2E, gdE, nc, nI_add, n_mul, n_sub, ib_nI, up_hit, up_miss, n_le, n_lt, n_eq, n_eq0, n_lt0, n_0le, n_0lt, n_le0, zb_0, zb_1, if_pos, if_neg, ↓reduceIte, Nat.reduceAdd, Nat.reduceMul, Nat.reduceSub, c4], by simp (disch := omega) only [ltE, bnE, bn2E, gdE, nc, nI_add, n_mul, n_sub, ib_nI, up_hit, up_miss, n_le, n_lt, n_eq, n_eq0, n_lt0, n_0le, n_0lt, n_le0, zb_0, zb_1, if_pos, if_neg, ↓reduceIte, Nat.reduceAdd, Nat.reduceMul, Nat.reduceSub, r6], hi, hiT, by simp (disch := omega) only [ltE, bnE, bn2E, gdE, nc, nI_add, n_mul, n_sub, ib_nI, up_hit, up_miss, n_le, n_lt, n_eq, n_eq0, n_lt0, n_0le, n_0lt, n_le0, zb_0, zb_1, if_pos, if_neg, ↓reduceIte, Nat.reduceAdd, Nat.reduceMul, Nat.reduceSub], by simp (disch := omega) only [ltE, bnE, bn2E, gdE, nc, nI_add, n_mul, n_sub, ib_nI, up_hit, up_miss, n_le, n_lt, n_eq, n_eq0, n_lt0, n_0le, n_0lt, n_le0, zb_0, zb_1, if_pos, if_neg, ↓reduceIte, Nat.reduceAdd, Nat.reduceMul, Nat.reduceSub], by simp (disch := omega) only [ltE, bnE, bn2E, gdE, nc, nI_add, n_mul, n_sub, ib_nI, up_hit, up_miss, n_le, n_lt, n_eq, n_eq0, n_lt0, n_0le, n_0lt, n_le0, zb_0, zb_1, if_pos, if_neg, ↓reduceIte, Nat.reduceAdd, Nat.reduceMul, Nat.reduceSub], hv, by simp (disch := omega) only [ltE, bnE, bn2E, gdE, nc, nI_add, n_mul, n_sub, ib_nI, up_hit, up_miss, n_le, n_lt, n_eq, n_eq0, n_lt0, n_0le, n_0lt, n_le0, zb_0, zb_1, if_pos, if_neg, ↓reduceIte, Nat.reduceAdd, Nat.reduceMul, Nat.reduceSub, r9], by simp (disch := omega) only [ltE, bnE, bn2E, gdE, nc, nI_add, n_mul, n_sub, ib_nI, up_hit, up_miss, n_le, n_lt, n_eq, n_eq0, n_lt0, n_0le, n_0lt, n_le0, zb_0, zb_1, if_pos, if_neg, ↓reduceIte, Nat.reduceAdd, Nat.reduceMul, Nat.reduceSub, c5]⟩
    · unfold fX9_openNumber_77 fX9_openNumber_98
      by_cases q : i - st ≤ 4
      · simp (disch := omega) only [ltE, bnE, bn2E, gdE, nc, nI_add, n_mul, n_sub, ib_nI, up_hit, up_miss, n_le, n_lt, n_eq, n_eq0, n_lt0, n_0le, n_0lt, n_le0, zb_0, zb_1, if_pos, if_neg, ↓reduceIte, Nat.reduceAdd, Nat.reduceMul, Nat.reduceSub, c3, c4, q]
      · simp (disch := omega) only [ltE, bnE, bn2E, gdE, nc, nI_add, n_mul, n_sub, ib_nI, up_hit, up_miss, n_le, n_lt, n_eq, n_eq0, n_lt0, n_0le, n_0lt, n_le0, zb_0, zb_1, if_pos, if_neg, ↓reduceIte, Nat.reduceAdd, Nat.reduceMul, Nat.reduceSub, c3, c4, q]
    · unfold fX12_go_261 fX12_go_256
      by_cases q : x = 0
      · by_cases q2 : i - st ≤ 4
        · simp (disch := omega) only [ltE, bnE, bn2E, gdE, nc, nI_add, n_mul, n_sub, ib_nI, up_hit, up_miss, n_le, n_lt, n_eq, n_eq0, n_lt0, n_0le, n_0lt, n_le0, zb_0, zb_1, if_pos, if_neg, ↓reduceIte, Nat.reduceAdd, Nat.reduceMul, Nat.reduceSub, q, q2, r6]
        · simp (disch := omega) only [ltE, bnE, bn2E, gdE, nc, nI_add, n_mul, n_sub, ib_nI, up_hit, up_miss, n_le, n_lt, n_eq, n_eq0, n_lt0, n_0le, n_0lt, n_le0, zb_0, zb_1, if_pos, if_neg, ↓reduceIte, Nat.reduceAdd, Nat.reduceMul, Nat.reduceSub, q, q2, fX12_go_261, r6]
      · simp (disch := omega) only [ltE, bnE, bn2E, gdE, nc, nI_add, n_mul, n_sub, ib_nI, up_hit, up_miss, n_le, n_lt, n_eq, n_eq0, n_lt0, n_0le, n_0lt, n_le0, zb_0, zb_1, if_pos, if_neg, ↓reduceIte, Nat.reduceAdd, Nat.reduceMul, Nat.reduceSub, q, fX12_go_261, r6]
  have L := loopSim (fun q i (s : Mm) => fX9_openNumber_5L n 100 q s) (fun q i (t : Mm) => fX12_go_170L n q x t) T
    (fun i s t => st ≤ i ∧ (i = st → dg1 (B st) = true) ∧ CB B T F s ∧ RB B T M t ∧ s 100 3 = nI st ∧ s 100 4 = nI i ∧ t 107 7 = nI st ∧ t 107 6 = nI i ∧ ∃ v, v < 10 ^ (min (i - st) 4) ∧ s 100 5 = nI v ∧ t 107 9 = nI v)
    (fun f' m' => ∃ en v, CB B T F f' ∧ RB B T M m' ∧ f' 100 3 = nI st ∧ m' 107 7 = nI st ∧ f' 100 4 = nI en ∧ m' 107 6 = nI en ∧ st < en ∧ en ≤ T ∧ f' 100 2 = (if en - st ≤ 4 then -3 else -4) ∧ m' 107 8 = (if x = 0 then (if en - st ≤ 4 then nI 2 else nI 4) else nI 4) ∧ m' 107 10 = nI en ∧ v < 10000 ∧ m' 107 9 = nI v ∧ f' 100 5 = nI v) ?_ ?_ n st (up s 100 5 (nI 0)) (up t 107 9 (nI 0)) (by omega) (by omega) ⟨Nat.le_refl _, fun _ => h2, hs.up (by omega), ht.up (by omega) (by omega), by simp (disch := omega) only [ltE, bnE, bn2E, gdE, nc, nI_add, n_mul, n_sub, ib_nI, up_hit, up_miss, n_le, n_lt, n_eq, n_eq0, n_lt0, n_0le, n_0lt, n_le0, zb_0, zb_1, if_pos, if_neg, ↓reduceIte, Nat.reduceAdd, Nat.reduceMul, Nat.reduceSub, c3], by simp (disch := omega) only [ltE, bnE, bn2E, gdE, nc, nI_add, n_mul, n_sub, ib_nI, up_hit, up_miss, n_le, n_lt, n_eq, n_eq0, n_lt0, n_0le, n_0lt, n_le0, zb_0, zb_1, if_pos, if_neg, ↓reduceIte, Nat.reduceAdd, Nat.reduceMul, Nat.reduceSub, c4], by simp (disch := omega) only [ltE, bnE, bn2E, gdE, nc, nI_add, n_mul, n_sub, ib_nI, up_hit, up_miss, n_le, n_lt, n_eq, n_eq0, n_lt0, n_0le, n_0lt, n_le0, zb_0, zb_1, if_pos, if_neg, ↓reduceIte, Nat.reduceAdd, Nat.reduceMul, Nat.reduceSub, r7], by simp (disch := omega) only [ltE, bnE, bn2E, gdE, nc, nI_add, n_mul, n_sub, ib_nI, up_hit, up_miss, n_le, n_lt, n_eq, n_eq0, n_lt0, n_0le, n_0lt, n_le0, zb_0, zb_1, if_pos, if_neg, ↓reduceIte, Nat.reduceAdd, Nat.reduceMul, Nat.reduceSub, r6], 0, Nat.pos_of_ne_zero (by simp), up_hit, up_hit⟩
  · obtain ⟨f', m', e1, e2, en, v, h⟩ := L
    exact ⟨f', m', en, v, e1, e2, h⟩
  · rintro q s t ⟨w1, w2, w3, w4, w5, w6, w7, w8, v, v1, v2, v3⟩
    have hv : v < 10000 := Nat.lt_of_lt_of_le v1 (Nat.pow_le_pow_right (n := 10) (by omega) (show min (T - st) 4 ≤ 4 by omega))
    obtain ⟨f', m', e1, e2, h⟩ := fin T v s t (by omega) (Nat.le_refl _) hv w3 w4 w5 w6 v2 w7 w8 v3
    refine ⟨f', m', ?_, ?_, h⟩
    · show fX9_openNumber_5 n 100 (fX9_openNumber_5L n 100 q) s = _
      unfold fX9_openNumber_5
      simp (disch := omega) only [ltE, bnE, bn2E, gdE, nc, nI_add, n_mul, n_sub, ib_nI, up_hit, up_miss, n_le, n_lt, n_eq, n_eq0, n_lt0, n_0le, n_0lt, n_le0, zb_0, zb_1, if_pos, if_neg, ↓reduceIte, Nat.reduceAdd, Nat.reduceMul, Nat.reduceSub, w3.2.1, w6, Nat.le_refl, e1]
    · show fX12_go_170 n (fX12_go_170L n q) x t = _
      unfold fX12_go_170
      rw [w8, r_figT w4, w7]
      exact e2
  · rintro q i s t hi ⟨w1, w2, w3, w4, w5, w6, w7, w8, v, v1, v2, v3⟩
    have hv : v < 10000 := Nat.lt_of_lt_of_le v1 (Nat.pow_le_pow_right (n := 10) (by omega) (show min (i - st) 4 ≤ 4 by omega))
    have cF : fX9_openNumber_5L n 100 (q + 1) s = fX9_openNumber_5 n 100 (fX9_openNumber_5L n 100 q) s := rfl
    have cK : fX12_go_170L n (q + 1) x t = fX12_go_170 n (fX12_go_170L n q) x t := rfl
    simp only [cF, cK]
    unfold fX9_openNumber_5 fX12_go_170
    cases hb : dg1 (B i)
    · obtain ⟨f', m', e1, e2, h⟩ := fin i v s t (by
        by_cases e : i = st
        · have := w2 e; rw [← e, hb] at this; exact absurd this (by decide)
        · omega) (by omega) hv w3 w4 w5 w6 v2 w7 w8 v3
      refine Or.inl ⟨f', m', ?_, ?_, h⟩
      · simp (disch := omega) only [ltE, bnE, bn2E, gdE, nc, nI_add, n_mul, n_sub, ib_nI, up_hit, up_miss, n_le, n_lt, n_eq, n_eq0, n_lt0, n_0le, n_0lt, n_le0, zb_0, zb_1, if_pos, if_neg, ↓reduceIte, Nat.reduceAdd, Nat.reduceMul, Nat.reduceSub, w3.2.1, w6, show ¬ T ≤ i from by omega, c_dig w3 hi, hb, bI_ite, cond_false, e1]
      · rw [w8, r_fig w4 hi, hb, w7]
        exact e2
    · obtain ⟨b1, b2⟩ := w3.2.2.1 i hi
      have b3 := (w4.2.2.1 i hi).2
      have hd : 48 ≤ B i ∧ B i ≤ 57 := by
        unfold dg1 at hb
        rw [Bool.and_eq_true, decide_eq_true_eq, decide_eq_true_eq] at hb
        exact hb
      by_cases q4 : 4 ≤ i - st
      · refine Or.inr ⟨up s 100 4 (nI (i + 1)), up (up t 107 9 (nI v)) 107 6 (nI (i + 1)), ?_, ?_, by omega, fun e => by omega, w3.up (by omega), (w4.up (by omega) (by omega)).up (by omega) (by omega), by simp (disch := omega) only [ltE, bnE, bn2E, gdE, nc, nI_add, n_mul, n_sub, ib_nI, up_hit, up_miss, n_le, n_lt, n_eq, n_eq0, n_lt0, n_0le, n_0lt, n_le0, zb_0, zb_1, if_pos, if_neg, ↓reduceIte, Nat.reduceAdd, Nat.reduceMul, Nat.reduceSub, w5], by simp (disch := omega) only [ltE, bnE, bn2E, gdE, nc, nI_add, n_mul, n_sub, ib_nI, up_hit, up_miss, n_le, n_lt, n_eq, n_eq0, n_lt0, n_0le, n_0lt, n_le0, zb_0, zb_1, if_pos, if_neg, ↓reduceIte, Nat.reduceAdd, Nat.reduceMul, Nat.reduceSub], by simp (disch := omega) only [ltE, bnE, bn2E, gdE, nc, nI_add, n_mul, n_sub, ib_nI, up_hit, up_miss, n_le, n_lt, n_eq, n_eq0, n_lt0, n_0le, n_0lt, n_le0, zb_0, zb_1, if_pos, if_neg, ↓reduceIte, Nat.reduceAdd, Nat.reduceMul, Nat.reduceSub, w7], by simp (disch := omega) only [ltE, bnE, bn2E, gdE, nc, nI_add, n_mul, n_sub, ib_nI, up_hit, up_miss, n_le, n_lt, n_eq, n_eq0, n_lt0, n_0le, n_0lt, n_le0, zb_0, zb_1, if_pos, if_neg, ↓reduceIte, Nat.reduceAdd, Nat.reduceMul, Nat.reduceSub], v, by rw [show min (i + 1 - st) 4 = min (i - st) 4 from by omega]; exact v1, by simp (disch := omega) only [ltE, bnE, bn2E, gdE, nc, nI_add, n_mul, n_sub, ib_nI, up_hit, up_miss, n_le, n_lt, n_eq, n_eq0, n_lt0, n_0le, n_0lt, n_le0, zb_0, zb_1, if_pos, if_neg, ↓reduceIte, Nat.reduceAdd, Nat.reduceMul, Nat.reduceSub, v2], by simp (disch := omega) only [ltE, bnE, bn2E, gdE, nc, nI_add, n_mul, n_sub, ib_nI, up_hit, up_miss, n_le, n_lt, n_eq, n_eq0, n_lt0, n_0le, n_0lt, n_le0, zb_0, zb_1, if_pos, if_neg, ↓reduceIte, Nat.reduceAdd, Nat.reduceMul, Nat.reduceSub]⟩
        · simp (disch := omega) only [ltE, bnE, bn2E, gdE, nc, nI_add, n_mul, n_sub, ib_nI, up_hit, up_miss, n_le, n_lt, n_eq, n_eq0, n_lt0, n_0le, n_0lt, n_le0, zb_0, zb_1, if_pos, if_neg, ↓reduceIte, Nat.reduceAdd, Nat.reduceMul, Nat.reduceSub, w3.2.1, w6, w5, show ¬ T ≤ i from by omega, c_dig w3 hi, hb, bI_ite, cond_true, q4, fX9_openNumber_64]
        · simp (disch := omega) only [ltE, bnE, bn2E, gdE, nc, nI_add, n_mul, n_sub, ib_nI, up_hit, up_miss, n_le, n_lt, n_eq, n_eq0, n_lt0, n_0le, n_0lt, n_le0, zb_0, zb_1, if_pos, if_neg, ↓reduceIte, Nat.reduceAdd, Nat.reduceMul, Nat.reduceSub, w8, w7, r_fig w4 hi, hb, bI_ite, cond_true, q4, fX12_go_222, v3]
      · have hp : 10 ^ (min (i + 1 - st) 4) = 10 ^ (min (i - st) 4) * 10 := by rw [show min (i + 1 - st) 4 = min (i - st) 4 + 1 from by omega, Nat.pow_succ]
        refine Or.inr ⟨up (up s 100 5 (nI (v * 10 + B i - 48))) 100 4 (nI (i + 1)), up (up t 107 9 (nI (v * 10 + B i - 48))) 107 6 (nI (i + 1)), ?_, ?_, by omega, fun e => by omega, (w3.up (by omega)).up (by omega), (w4.up (by omega) (by omega)).up (by omega) (by omega), by simp (disch := omega) only [ltE, bnE, bn2E, gdE, nc, nI_add, n_mul, n_sub, ib_nI, up_hit, up_miss, n_le, n_lt, n_eq, n_eq0, n_lt0, n_0le, n_0lt, n_le0, zb_0, zb_1, if_pos, if_neg, ↓reduceIte, Nat.reduceAdd, Nat.reduceMul, Nat.reduceSub, w5], by simp (disch := omega) only [ltE, bnE, bn2E, gdE, nc, nI_add, n_mul, n_sub, ib_nI, up_hit, up_miss, n_le, n_lt, n_eq, n_eq0, n_lt0, n_0le, n_0lt, n_le0, zb_0, zb_1, if_pos, if_neg, ↓reduceIte, Nat.reduceAdd, Nat.reduceMul, Nat.reduceSub], by simp (disch := omega) only [ltE, bnE, bn2E, gdE, nc, nI_add, n_mul, n_sub, ib_nI, up_hit, up_miss, n_le, n_lt, n_eq, n_eq0, n_lt0, n_0le, n_0lt, n_le0, zb_0, zb_1, if_pos, if_neg, ↓reduceIte, Nat.reduceAdd, Nat.reduceMul, Nat.reduceSub, w7], by simp (disch := omega) only [ltE, bnE, bn2E, gdE, nc, nI_add, n_mul, n_sub, ib_nI, up_hit, up_miss, n_le, n_lt, n_eq, n_eq0, n_lt0, n_0le, n_0lt, n_le0, zb_0, zb_1, if_pos, if_neg, ↓reduceIte, Nat.reduceAdd, Nat.reduceMul, Nat.reduceSub], v * 10 + B i - 48, by rw [hp]; omega, by simp (disch := omega) only [ltE, bnE, bn2E, gdE, nc, nI_add, n_mul, n_sub, ib_nI, up_hit, up_miss, n_le, n_lt, n_eq, n_eq0, n_lt0, n_0le, n_0lt, n_le0, zb_0, zb_1, if_pos, if_neg, ↓reduceIte, Nat.reduceAdd, Nat.reduceMul, Nat.reduceSub], by simp (disch := omega) only [ltE, bnE, bn2E, gdE, nc, nI_add, n_mul, n_sub, ib_nI, up_hit, up_miss, n_le, n_lt, n_eq, n_eq0, n_lt0, n_0le, n_0lt, n_le0, zb_0, zb_1, if_pos, if_neg, ↓reduceIte, Nat.reduceAdd, Nat.reduceMul, Nat.reduceSub]⟩
        · simp (disch := omega) only [ltE, bnE, bn2E, gdE, nc, nI_add, n_mul, n_sub, ib_nI, up_hit, up_miss, n_le, n_lt, n_eq, n_eq0, n_lt0, n_0le, n_0lt, n_le0, zb_0, zb_1, if_pos, if_neg, ↓reduceIte, Nat.reduceAdd, Nat.reduceMul, Nat.reduceSub, w3.2.1, w6, w5, v2, show ¬ T ≤ i from by omega, c_dig w3 hi, hb, bI_ite, cond_true, q4, b2, fX9_openNumber_64]
        · simp (disch := omega) only [ltE, bnE, bn2E, gdE, nc, nI_add, n_mul, n_sub, ib_nI, up_hit, up_miss, n_le, n_lt, n_eq, n_eq0, n_lt0, n_0le, n_0lt, n_le0, zb_0, zb_1, if_pos, if_neg, ↓reduceIte, Nat.reduceAdd, Nat.reduceMul, Nat.reduceSub, w8, w7, r_fig w4 hi, hb, bI_ite, cond_true, q4, fX12_go_222, v3, b3, Nat.mul_comm 10 v]
end LXA
