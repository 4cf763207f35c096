/-! the key of a text -/
def kc (i : Nat) : Nat := [114, 97, 116, 101, 107, 110, 111, 99, 107, 115, 116, 97, 114, 115].getD i 0
def ko (w : Nat) : Nat := [0, 4, 9, 14].getD w 0
def kl (w : Nat) : Nat := [4, 5, 5].getD w 0
theorem kl_b : ∀ w, w < 3 → 4 ≤ kl w ∧ kl w ≤ 5 ∧ ko w + kl w ≤ 14 ∧ ko (w + 1) = ko w + kl w ∧ ko w ≤ 14 := by decide
def aF (p : Nat → Bool) : Nat → Nat → Bool
  | 0, _ => true
  | c + 1, i => p i && aF p c (i + 1)
theorem aF_s {p : Nat → Bool} {c i : Nat} : aF p (c + 1) i = (p i && aF p c (i + 1)) := rfl
theorem m0_k : (∀ i, i < 14 → m0 112 i = nI (kc i)) ∧ ∀ i, i < 4 → m0 113 i = nI (ko i) := by decide
theorem kc_b : ∀ i, i < 14 → kc i < 256 := by decide
section KY
variable {n T : Nat} {B : Nat → Nat} {F M f m : Mm}
theorem c_len : ∀ w, w < 3 → fJ0_length_8abf5 n w = some (nI (kl w)) := by
  intro w hw
  have : w = 0 ∨ w = 1 ∨ w = 2 := by omega
  rcases this with rfl | rfl | rfl <;> rfl
theorem c_chr : ∀ w, w < 3 → ∀ i, i < kl w → fJ0_charAt_5068e n w (nI i) = some (nI (kc (ko w + i))) := by
  intro w hw i hi
  have : (w = 0 ∧ (i = 0 ∨ i = 1 ∨ i = 2 ∨ i = 3)) ∨ (w = 1 ∧ (i = 0 ∨ i = 1 ∨ i = 2 ∨ i = 3 ∨ i = 4)) ∨ (w = 2 ∧ (i = 0 ∨ i = 1 ∨ i = 2 ∨ i = 3 ∨ i = 4)) := by
    have h3 : w = 0 ∨ w = 1 ∨ w = 2 := by omega
    rcases h3 with rfl | rfl | rfl
    · have : kl 0 = 4 := rfl
      omega
    · have : kl 1 = 5 := rfl
      omega
    · have : kl 2 = 5 := rfl
      omega
  rcases this with ⟨rfl, rfl | rfl | rfl | rfl⟩ | ⟨rfl, rfl | rfl | rfl | rfl | rfl⟩ | ⟨rfl, rfl | rfl | rfl | rfl | rfl⟩ <;> rfl
theorem c_isOpen {st en w : Nat} (hn : 2000 ≤ n) (hw : w < 3) (hs : CB B T F f) (h2 : f 100 2 = -2) (h3 : f 100 3 = nI st) (h4 : f 100 4 = nI en) (hse : st ≤ en) (he : en ≤ T) :
    fX9_isOpen n 100 w f = some (bI (decide (en - st = kl w) && aF (fun i => decide (B (st + i) = kc (ko w + i))) (kl w) 0)) := by
  have hT := hs.1
  obtain ⟨k1, k2, k3, _⟩ := kl_b w hw
  unfold fX9_isOpen
  rw [if_pos h2, c_len w hw, h3, h4]
  by_cases q : en - st = kl w
  · simp (disch := omega) only [ltE, bnE, bn2E, gdE, nc, nI_add, n_mul, n_sub, ib_nI, up_hit, up_miss, n_le, n_lt, n_eq, n_eq0, n_lt0, n_0le, n_0lt, n_le0, zb_0, zb_1, if_pos, if_neg, ↓reduceIte, Nat.reduceAdd, Nat.reduceMul, Nat.reduceSub, q, decide_true, Bool.true_and]
    have key : ∀ q i, i ≤ kl w → kl w - i < q → fX9_isOpen_29L n 100 w q (nI i) f = some (bI (aF (fun i => decide (B (st + i) = kc (ko w + i))) (kl w - i) i)) := by
      intro q
      induction q with
      | zero => intro i h1 h2; omega
      | succ q ih =>
        intro i h1 h2
        show fX9_isOpen_29 n 100 w (fX9_isOpen_29L n 100 w q) (nI i) f = _
        unfold fX9_isOpen_29
        rw [c_len w hw]
        by_cases e : i = kl w
        · rw [e, Nat.sub_self]; simp (disch := omega) only [ltE, bnE, bn2E, gdE, nc, nI_add, n_mul, n_sub, ib_nI, up_hit, up_miss, n_le, n_lt, n_eq, n_eq0, n_lt0, n_0le, n_0lt, n_le0, zb_0, zb_1, if_pos, if_neg, ↓reduceIte, Nat.reduceAdd, Nat.reduceMul, Nat.reduceSub, Nat.le_refl]; rfl
        · have hb := (hs.2.2.1 (st + i) (by omega)).1
          have hc := (hs.2.2.1 (st + i) (by omega)).2
          have kb := kc_b (ko w + i) (by omega)
          rw [show kl w - i = (kl w - (i + 1)) + 1 from by omega, aF_s]
          by_cases z : B (st + i) = kc (ko w + i)
          · simp (disch := omega) only [ltE, bnE, bn2E, gdE, nc, nI_add, n_mul, n_sub, ib_nI, up_hit, up_miss, n_le, n_lt, n_eq, n_eq0, n_lt0, n_0le, n_0lt, n_le0, zb_0, zb_1, if_pos, if_neg, ↓reduceIte, Nat.reduceAdd, Nat.reduceMul, Nat.reduceSub, show ¬ kl w ≤ i from by omega, h3, hc, c_chr w hw i (by omega), z, decide_true, Bool.true_and, ih (i + 1) (by omega) (by omega)]
          · simp (disch := omega) only [ltE, bnE, bn2E, gdE, nc, nI_add, n_mul, n_sub, ib_nI, up_hit, up_miss, n_le, n_lt, n_eq, n_eq0, n_lt0, n_0le, n_0lt, n_le0, zb_0, zb_1, if_pos, if_neg, ↓reduceIte, Nat.reduceAdd, Nat.reduceMul, Nat.reduceSub, show ¬ kl w ≤ i from by omega, h3, hc, c_chr w hw i (by omega), z, decide_false, Bool.false_and]; rfl
    exact key n 0 (by omega) (by omega)
  · simp (disch := omega) only [ltE, bnE, bn2E, gdE, nc, nI_add, n_mul, n_sub, ib_nI, up_hit, up_miss, n_le, n_lt, n_eq, n_eq0, n_lt0, n_0le, n_0lt, n_le0, zb_0, zb_1, if_pos, if_neg, ↓reduceIte, Nat.reduceAdd, Nat.reduceMul, Nat.reduceSub, q, decide_false, Bool.false_and]; rfl
theorem r_same {st w : Nat} {sm : Bool} {k12 : Int32 → Mm → Option (Int32 × Mm)} (hn : 2000 ≤ n) (hw : w < 3) (ht : RB B T M m) (hc : ∀ i, i < 14 → m 112 i = nI (kc i)) (hk : ∀ i, i < 4 → m 113 i = nI (ko i)) (h7 : m 107 7 = nI st) (h : sm = true → st + kl w ≤ T) :
    fX12_takesKey_51 n k12 (nI w) (nI (kl w)) (bI sm) m = fX12_takesKey_106 n k12 (nI w) (bI (sm && aF (fun i => decide (B (st + i) = kc (ko w + i))) (kl w) 0)) m := by
  have hT := ht.1
  obtain ⟨k1, k2, k3, k4, _⟩ := kl_b w hw
  have key : ∀ q i sm, i ≤ kl w → kl w - i < q → (sm = true → st + kl w ≤ T) → fX12_takesKey_55L n k12 q (nI w) (nI (kl w)) (bI sm) (nI i) m = fX12_takesKey_106 n k12 (nI w) (bI (sm && aF (fun i => decide (B (st + i) = kc (ko w + i))) (kl w - i) i)) m := by
    intro q
    induction q with
    | zero => intro i sm h1 h2; omega
    | succ q ih =>
      intro i sm h1 h2 h3
      show fX12_takesKey_55 n k12 (fX12_takesKey_55L n k12 q) (nI w) (nI (kl w)) (bI sm) (nI i) m = _
      unfold fX12_takesKey_55
      by_cases e : i = kl w
      · rw [e, Nat.sub_self]; simp (disch := omega) only [ltE, bnE, bn2E, gdE, nc, nI_add, n_mul, n_sub, ib_nI, up_hit, up_miss, n_le, n_lt, n_eq, n_eq0, n_lt0, n_0le, n_0lt, n_le0, zb_0, zb_1, if_pos, if_neg, ↓reduceIte, Nat.reduceAdd, Nat.reduceMul, Nat.reduceSub, Nat.le_refl, aF, Bool.and_true]
      · cases sm
        · simp (disch := omega) only [ltE, bnE, bn2E, gdE, nc, nI_add, n_mul, n_sub, ib_nI, up_hit, up_miss, n_le, n_lt, n_eq, n_eq0, n_lt0, n_0le, n_0lt, n_le0, zb_0, zb_1, if_pos, if_neg, ↓reduceIte, Nat.reduceAdd, Nat.reduceMul, Nat.reduceSub, show ¬ kl w ≤ i from by omega, bI_ite, cond_false, Bool.false_and]
        · have h3 := h3 rfl
          have hb := (ht.2.2.1 (st + i) (by omega)).1
          have hcb := (ht.2.2.1 (st + i) (by omega)).2
          have kb := kc_b (ko w + i) (by omega)
          have y := hk w (by omega)
          have y2 := hc (ko w + i) (by omega)
          rw [show kl w - i = (kl w - (i + 1)) + 1 from by omega, aF_s]
          by_cases z : B (st + i) = kc (ko w + i)
          · have := ih (i + 1) true (by omega) (by omega) (fun _ => h3)
            simp (disch := omega) only [ltE, bnE, bn2E, gdE, nc, nI_add, n_mul, n_sub, ib_nI, up_hit, up_miss, n_le, n_lt, n_eq, n_eq0, n_lt0, n_0le, n_0lt, n_le0, zb_0, zb_1, if_pos, if_neg, ↓reduceIte, Nat.reduceAdd, Nat.reduceMul, Nat.reduceSub, show ¬ kl w ≤ i from by omega, bI_ite, cond_true, h7, hcb, y, y2, z, decide_true, Bool.true_and, fX12_takesKey_99]
            rw [Bool.true_and] at this
            exact this
          · have := ih (i + 1) false (by omega) (by omega) (fun e => absurd e (by decide))
            simp (disch := omega) only [ltE, bnE, bn2E, gdE, nc, nI_add, n_mul, n_sub, ib_nI, up_hit, up_miss, n_le, n_lt, n_eq, n_eq0, n_lt0, n_0le, n_0lt, n_le0, zb_0, zb_1, if_pos, if_neg, ↓reduceIte, Nat.reduceAdd, Nat.reduceMul, Nat.reduceSub, show ¬ kl w ≤ i from by omega, bI_ite, cond_true, h7, hcb, y, y2, z, decide_false, Bool.false_and, Bool.and_false, fX12_takesKey_99]
            rw [Bool.false_and] at this
            exact this
  exact key n 0 sm (by omega) (by omega) h
/-- the key in both -/
theorem key_sim {st en k v : Nat} (hn : 2000 ≤ n) (h : LX B T F M f m st en k v) (hc : ∀ i, i < 14 → m 112 i = nI (kc i)) (hk : ∀ i, i < 4 → m 113 i = nI (ko i)) :
    (∃ w, w < 3 ∧ fX3_openKey n 99 f = some (nI w) ∧ fX12_takesKey n m = (bn (fX12_go n (up m 107 11 (nI w))) fun f13 => some (nI 1, f13)) ∧ k = 1 ∧ st + 4 ≤ en) ∨ (fX3_openKey n 99 f = some (-1) ∧ fX12_takesKey n m = some (nI 0, m)) := by
  obtain ⟨hs, ht, h3, h7, h4, h6, hse, he, hk1⟩ := h
  have hT := hs.1
  unfold fX3_openKey fX12_takesKey
  by_cases q : k = 1
  · rcases hk1 with z | ⟨_, z2, z3, z4⟩ | z | z | z
    · omega
    · have P : ∀ w, w < 3 → fX9_isOpen n 100 w f = some (bI (decide (en - st = kl w) && aF (fun i => decide (B (st + i) = kc (ko w + i))) (kl w) 0)) := fun w hw => c_isOpen hn hw hs z2 h3 h4 hse he
      have Q : ∀ w, w < 3 → ∀ k12, fX12_takesKey_12 n k12 (nI w) m = fX12_takesKey_106 n k12 (nI w) (bI (decide (en - st = kl w) && aF (fun i => decide (B (st + i) = kc (ko w + i))) (kl w) 0)) m := by
        intro w hw k12
        obtain ⟨k1, k2, k3, k4, k5⟩ := kl_b w hw
        rw [← r_same (sm := decide (en - st = kl w)) hn hw ht hc hk h7 (fun e => by rw [decide_eq_true_eq] at e; omega)]
        unfold fX12_takesKey_12
        by_cases q : kl w = en - st
        · simp (disch := omega) only [ltE, bnE, bn2E, gdE, nc, nI_add, n_mul, n_sub, ib_nI, up_hit, up_miss, n_le, n_lt, n_eq, n_eq0, n_lt0, n_0le, n_0lt, n_le0, zb_0, zb_1, if_pos, if_neg, ↓reduceIte, Nat.reduceAdd, Nat.reduceMul, Nat.reduceSub, show ¬ 3 ≤ w from by omega, hk (w + 1) (by omega), hk w (by omega), k4, show ko w + kl w - ko w = kl w from by omega, h6, h7, q.symm, decide_true]
          rfl
        · simp (disch := omega) only [ltE, bnE, bn2E, gdE, nc, nI_add, n_mul, n_sub, ib_nI, up_hit, up_miss, n_le, n_lt, n_eq, n_eq0, n_lt0, n_0le, n_0lt, n_le0, zb_0, zb_1, if_pos, if_neg, ↓reduceIte, Nat.reduceAdd, Nat.reduceMul, Nat.reduceSub, show ¬ 3 ≤ w from by omega, hk (w + 1) (by omega), hk w (by omega), k4, show ko w + kl w - ko w = kl w from by omega, h6, h7, q, show ¬ en - st = kl w from fun e => q e.symm, decide_false]
          rfl
      obtain ⟨p, hp⟩ : ∃ p, n = p + 4 := ⟨n - 4, by omega⟩
      have QL : ∀ q w, w < 3 → fX12_takesKey_12L n (q + 1) (nI w) m = fX12_takesKey_106 n (fX12_takesKey_12L n q) (nI w) (bI (decide (en - st = kl w) && aF (fun i => decide (B (st + i) = kc (ko w + i))) (kl w) 0)) m := fun q w hw => Q w hw _
      have QE : ∀ q, fX12_takesKey_12L n (q + 1) (nI 3) m = some (nI 0, m) := fun q => by
        show fX12_takesKey_12 n (fX12_takesKey_12L n q) (nI 3) m = _
        unfold fX12_takesKey_12
        simp (disch := omega) only [ltE, bnE, bn2E, gdE, nc, nI_add, n_mul, n_sub, ib_nI, up_hit, up_miss, n_le, n_lt, n_eq, n_eq0, n_lt0, n_0le, n_0lt, n_le0, zb_0, zb_1, if_pos, if_neg, ↓reduceIte, Nat.reduceAdd, Nat.reduceMul, Nat.reduceSub]
      have T0 : fX12_takesKey_12L n n (nI 0) m = fX12_takesKey_12L n (p + 3 + 1) (nI 0) m := by rw [show p + 3 + 1 = n from hp.symm]
      rw [if_pos z3, T0]
      have hl : ∀ w, w < 3 → (decide (en - st = kl w) && aF (fun i => decide (B (st + i) = kc (ko w + i))) (kl w) 0) = true → st + 4 ≤ en := by
        intro w hw e
        rw [Bool.and_eq_true, decide_eq_true_eq] at e
        have := (kl_b w hw).1
        omega
      cases e0 : (decide (en - st = kl 0) && aF (fun i => decide (B (st + i) = kc (ko 0 + i))) (kl 0) 0)
      · cases e1 : (decide (en - st = kl 1) && aF (fun i => decide (B (st + i) = kc (ko 1 + i))) (kl 1) 0)
        · cases e2 : (decide (en - st = kl 2) && aF (fun i => decide (B (st + i) = kc (ko 2 + i))) (kl 2) 0)
          · right
            refine ⟨?_, ?_⟩
            · simp (disch := omega) only [ltE, bnE, bn2E, gdE, nc, nI_add, n_mul, n_sub, ib_nI, up_hit, up_miss, n_le, n_lt, n_eq, n_eq0, n_lt0, n_0le, n_0lt, n_le0, zb_0, zb_1, if_pos, if_neg, ↓reduceIte, Nat.reduceAdd, Nat.reduceMul, Nat.reduceSub, P 0 (by omega), P 1 (by omega), P 2 (by omega), e0, e1, e2, bI_ite, cond_false]
            · simp (disch := omega) only [ltE, bnE, bn2E, gdE, nc, nI_add, n_mul, n_sub, ib_nI, up_hit, up_miss, n_le, n_lt, n_eq, n_eq0, n_lt0, n_0le, n_0lt, n_le0, zb_0, zb_1, if_pos, if_neg, ↓reduceIte, Nat.reduceAdd, Nat.reduceMul, Nat.reduceSub, QL _ 0 (by omega), QL _ 1 (by omega), QL _ 2 (by omega), QE, fX12_takesKey_106, e0, e1, e2, bI_ite, cond_false]
          · left
            refine ⟨2, by omega, ?_, ?_, q, hl 2 (by omega) e2⟩
            · simp (disch := omega) only [ltE, bnE, bn2E, gdE, nc, nI_add, n_mul, n_sub, ib_nI, up_hit, up_miss, n_le, n_lt, n_eq, n_eq0, n_lt0, n_0le, n_0lt, n_le0, zb_0, zb_1, if_pos, if_neg, ↓reduceIte, Nat.reduceAdd, Nat.reduceMul, Nat.reduceSub, P 0 (by omega), P 1 (by omega), P 2 (by omega), e0, e1, e2, bI_ite, cond_false, cond_true]
            · simp (disch := omega) only [ltE, bnE, bn2E, gdE, nc, nI_add, n_mul, n_sub, ib_nI, up_hit, up_miss, n_le, n_lt, n_eq, n_eq0, n_lt0, n_0le, n_0lt, n_le0, zb_0, zb_1, if_pos, if_neg, ↓reduceIte, Nat.reduceAdd, Nat.reduceMul, Nat.reduceSub, QL _ 0 (by omega), QL _ 1 (by omega), QL _ 2 (by omega), QE, fX12_takesKey_106, e0, e1, e2, bI_ite, cond_false, cond_true]
        · left
          refine ⟨1, by omega, ?_, ?_, q, hl 1 (by omega) e1⟩
          · simp (disch := omega) only [ltE, bnE, bn2E, gdE, nc, nI_add, n_mul, n_sub, ib_nI, up_hit, up_miss, n_le, n_lt, n_eq, n_eq0, n_lt0, n_0le, n_0lt, n_le0, zb_0, zb_1, if_pos, if_neg, ↓reduceIte, Nat.reduceAdd, Nat.reduceMul, Nat.reduceSub, P 0 (by omega), P 1 (by omega), e0, e1, bI_ite, cond_false, cond_true]
          · simp (disch := omega) only [ltE, bnE, bn2E, gdE, nc, nI_add, n_mul, n_sub, ib_nI, up_hit, up_miss, n_le, n_lt, n_eq, n_eq0, n_lt0, n_0le, n_0lt, n_le0, zb_0, zb_1, if_pos, if_neg, ↓reduceIte, Nat.reduceAdd, Nat.reduceMul, Nat.reduceSub, QL _ 0 (by omega), QL _ 1 (by omega), fX12_takesKey_106, e0, e1, bI_ite, cond_false, cond_true]
      · left
        refine ⟨0, by omega, ?_, ?_, q, hl 0 (by omega) e0⟩
        · simp (disch := omega) only [ltE, bnE, bn2E, gdE, nc, nI_add, n_mul, n_sub, ib_nI, up_hit, up_miss, n_le, n_lt, n_eq, n_eq0, n_lt0, n_0le, n_0lt, n_le0, zb_0, zb_1, if_pos, if_neg, ↓reduceIte, Nat.reduceAdd, Nat.reduceMul, Nat.reduceSub, P 0 (by omega), e0, bI_ite, cond_false, cond_true]
        · simp (disch := omega) only [ltE, bnE, bn2E, gdE, nc, nI_add, n_mul, n_sub, ib_nI, up_hit, up_miss, n_le, n_lt, n_eq, n_eq0, n_lt0, n_0le, n_0lt, n_le0, zb_0, zb_1, if_pos, if_neg, ↓reduceIte, Nat.reduceAdd, Nat.reduceMul, Nat.reduceSub, QL _ 0 (by omega), fX12_takesKey_106, e0, bI_ite, cond_false, cond_true]
    · omega
    · omega
    · omega
  · right
    have n2 : ¬ f 100 2 = -2 := by
      rcases hk1 with ⟨_, z, _⟩ | ⟨z, _⟩ | ⟨_, z, _⟩ | ⟨_, z, _, _, z2, _⟩ | ⟨_, z, _⟩
      · rw [z]; decide
      · exact absurd z q
      · rw [z]; decide
      · rw [z]; rw [(nI_m2 (show v < 1000 by omega)).2.1]; exact id
      · rw [z]; decide
    have n1 : ¬ m 107 8 = nI 1 := by
      rcases hk1 with ⟨_, _, z, _⟩ | ⟨z, _⟩ | ⟨_, _, z, _⟩ | ⟨_, _, z, _⟩ | ⟨_, _, z, _⟩
      · rw [z]; decide
      · exact absurd z q
      · rw [z]; decide
      · rw [z]; decide
      · rw [z]; decide
    have P : ∀ w, fX9_isOpen n 100 w f = some (nI 0) := fun w => by unfold fX9_isOpen; rw [if_neg n2]
    refine ⟨?_, by rw [if_neg n1]⟩
    simp (disch := omega) only [ltE, bnE, bn2E, gdE, nc, nI_add, n_mul, n_sub, ib_nI, up_hit, up_miss, n_le, n_lt, n_eq, n_eq0, n_lt0, n_0le, n_0lt, n_le0, zb_0, zb_1, if_pos, if_neg, ↓reduceIte, Nat.reduceAdd, Nat.reduceMul, Nat.reduceSub, P]
end KY
