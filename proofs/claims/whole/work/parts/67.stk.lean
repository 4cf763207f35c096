/-! stacks and codes of the readers -/
def RR (r : Nat → Int32) : List Int32 → Prop
  | [] => True
  | c :: l => r l.length = c ∧ RR r l
theorem RR.cg {r r' : Nat → Int32} : ∀ l : List Int32, RR r l → (∀ i, i < l.length → r' i = r i) → RR r' l
  | [], _, _ => trivial
  | c :: l, h, e => ⟨(e l.length (by simp)).trans h.1, RR.cg l h.2 (fun i hi => e i (by simp; omega))⟩
theorem RR.app {r : Nat → Int32} : ∀ p l : List Int32, RR r (p ++ l) → RR r l
  | [], _, h => h
  | c :: p, l, h => RR.app p l h.2
def cN : List Int32 → Nat
  | [] => 0
  | c :: l => cN l + (if c = -10 then 1 else 0)
theorem cN_app : ∀ p l : List Int32, cN (p ++ l) = cN p + cN l
  | [], l => by simp [cN]
  | c :: p, l => by simp only [List.cons_append, cN, cN_app p l]; omega
theorem cN_rep : ∀ j, cN (List.replicate j (-10)) = j
  | 0 => rfl
  | j + 1 => by rw [List.replicate_succ]; simp only [cN, cN_rep j]; simp
def LZ (B : Nat → Nat) (T : Nat) (f m : Mm) (st en k v : Nat) : Prop := LX B T f m f m st en k v
theorem LZ.cg {B : Nat → Nat} {T st en k v : Nat} {f f' m m' : Mm} (h : LZ B T f m st en k v) (h0 : f' 100 = f 100) (h1 : f' 101 = f 101) (h2 : m' 111 = m 111) (h3 : ∀ j, 5 ≤ j → j ≤ 10 → m' 107 j = m 107 j) : LZ B T f' m' st en k v := by
  obtain ⟨⟨a0, a1, a2, a3⟩, ⟨b0, b1, b2, b3, b4⟩, c1, c2, c3, c4, c5, c6, c7⟩ := h
  refine ⟨⟨a0, by rw [h0]; exact a1, fun i hi => by rw [h1]; exact a2 i hi, fun _ _ => rfl⟩, ⟨b0, by rw [h3 5 (by omega) (by omega)]; exact b1, fun i hi => by rw [h2]; exact b2 i hi, fun _ _ => rfl, fun _ _ => rfl⟩, by rw [h0]; exact c1, by rw [h3 7 (by omega) (by omega)]; exact c2, by rw [h0]; exact c3, by rw [h3 6 (by omega) (by omega)]; exact c4, c5, c6, ?_⟩
  unfold TK at *
  rw [h0, h3 8 (by omega) (by omega), h3 9 (by omega) (by omega), h3 10 (by omega) (by omega)]
  exact c7
section PS
variable {n T : Nat} {B : Nat → Nat} {f m : Mm}
theorem LZ.next {st en k v : Nat} (hn : 2000 ≤ n) (h : LZ B T f m st en k v) (hk0 : k ≠ 0) (hk4 : k ≠ 4) : ∃ f' m' st' en' k' v', fX9_openNext n 100 f = some f' ∧ fX12_go n m = some m' ∧ st < st' ∧ LZ B T f' m' st' en' k' v' ∧ (∀ r, r ≠ 100 → f' r = f r) ∧ (∀ r, r ≠ 107 → m' r = m r) ∧ ∀ j, j < 6 ∨ 10 < j → m' 107 j = m 107 j := by
  obtain ⟨a, b, c1, c2, c3, c4, c5, c6, c7⟩ := h
  have hse : st < en ∧ (((f 100 2 = -2 ∨ f 100 2 = -3) ∧ m 107 10 = nI en) ∨ (f 100 2 ≠ -2 ∧ f 100 2 ≠ -3 ∧ (m 107 10 = -1 ∨ ∃ e, e < en ∧ m 107 10 = nI e))) := by
    rcases c7 with ⟨z, _⟩ | ⟨_, z1, _, z2, z3, _⟩ | ⟨_, z1, _, z2, z3, _⟩ | ⟨_, z1, _, _, z2, z3, z4⟩ | ⟨z, _⟩
    · exact absurd z hk0
    · exact ⟨z3, Or.inl ⟨Or.inl z1, z2⟩⟩
    · exact ⟨z3, Or.inl ⟨Or.inr z1, z2⟩⟩
    · obtain ⟨_, y2, y3, _⟩ := nI_m2 (b := v) (by omega)
      exact ⟨by omega, Or.inr ⟨by rw [z1]; exact fun e => y2.mp e, by rw [z1]; exact fun e => y3.mp e, z4⟩⟩
    · exact absurd z hk4
  obtain ⟨f', m', st', en', k', v', e1, e2, e3, d1, d2, d3⟩ := lex (n := n) hn a b c3 c4 c6 hse.2
  refine ⟨f', m', st', en', k', v', e1, e2, by have := hse.1; omega, ?_, d1.2.2.2, d2.2.2.2.1, d2.2.2.2.2⟩
  exact ⟨⟨d1.1, d1.2.1, d1.2.2.1, fun _ _ => rfl⟩, ⟨d2.1, d2.2.1, d2.2.2.1, fun _ _ => rfl, fun _ _ => rfl⟩, d3⟩
/-- where settling stops -/
def stp (n r : Nat) (base : List Int32) : Prop := base = [] ∨ ∃ c l, base = c :: l ∧ (c = -11 ∨ ∃ x, x < r ∧ x ≤ 6 ∧ fX12_rank n c = some (nI x))
theorem settle_sim {r : Nat} {base : List Int32} (hr : r ≤ 6) (hb : stp n r base) : ∀ (pend : List Int32) (q : Nat) (m : Mm) (rc : List Int32), pend.length < q → rc.length + (pend ++ base).length ≤ 95 → m 107 18 = nI (pend ++ base).length → RR (m 115) (pend ++ base) → m 107 15 = nI rc.length → RR (m 114) rc → (∀ c ∈ pend, c ≠ -11 ∧ ∃ x, r ≤ x ∧ x ≤ 6 ∧ fX12_rank n c = some (nI x)) →
    ∃ m', fX12_settle_0L n q (nI r) m = some m' ∧ m' 107 18 = nI base.length ∧ RR (m' 115) base ∧ m' 107 15 = nI (pend.reverse ++ rc).length ∧ RR (m' 114) (pend.reverse ++ rc) ∧ (∀ k, k ≠ 107 → k ≠ 114 → m' k = m k) ∧ ∀ j, j ≠ 15 → j ≠ 18 → m' 107 j = m 107 j
  | [], q, m, rc, h1, h2, h3, h4, h5, h6, h7 => by
    obtain ⟨q, rfl⟩ : ∃ p, q = p + 1 := ⟨q - 1, by simp at h1; omega⟩
    refine ⟨m, ?_, h3, h4, h5, h6, fun _ _ _ => rfl, fun _ _ _ => rfl⟩
    show fX12_settle_0 n (fX12_settle_0L n q) (nI r) m = _
    unfold fX12_settle_0
    rw [List.nil_append] at h3 h4 h2
    rcases hb with e | ⟨c, l, e, hc⟩
    · subst e
      rw [h3]
      simp (disch := omega) only [ltE, bnE, bn2E, gdE, nc, nI_add, n_mul, n_sub, ib_nI, up_hit, up_miss, n_le, n_lt, n_eq, n_eq0, n_lt0, n_0le, n_0lt, n_le0, zb_0, zb_1, if_pos, if_neg, ↓reduceIte, Nat.reduceAdd, Nat.reduceMul, Nat.reduceSub, List.length_nil]
    · subst e
      rw [List.length_cons] at h3 h2
      have e4 : m 115 l.length = c := h4.1
      rcases hc with hc | ⟨x, x1, x2, x3⟩
      · simp (disch := omega) only [ltE, bnE, bn2E, gdE, nc, nI_add, n_mul, n_sub, ib_nI, up_hit, up_miss, n_le, n_lt, n_eq, n_eq0, n_lt0, n_0le, n_0lt, n_le0, zb_0, zb_1, if_pos, if_neg, ↓reduceIte, Nat.reduceAdd, Nat.reduceMul, Nat.reduceSub, h3, e4, hc, Nat.add_sub_cancel]
      · by_cases e11 : c = -11
        · simp (disch := omega) only [ltE, bnE, bn2E, gdE, nc, nI_add, n_mul, n_sub, ib_nI, up_hit, up_miss, n_le, n_lt, n_eq, n_eq0, n_lt0, n_0le, n_0lt, n_le0, zb_0, zb_1, if_pos, if_neg, ↓reduceIte, Nat.reduceAdd, Nat.reduceMul, Nat.reduceSub, h3, e4, e11, Nat.add_sub_cancel]
        · simp (disch := omega) only [ltE, bnE, bn2E, gdE, nc, nI_add, n_mul, n_sub, ib_nI, up_hit, up_miss, n_le, n_lt, n_eq, n_eq0, n_lt0, n_0le, n_0lt, n_le0, zb_0, zb_1, if_pos, if_neg, ↓reduceIte, Nat.reduceAdd, Nat.reduceMul, Nat.reduceSub, h3, e4, e11, Nat.add_sub_cancel, x3, x1]
  | c :: p, q, m, rc, h1, h2, h3, h4, h5, h6, h7 => by
    obtain ⟨q, rfl⟩ : ∃ p, q = p + 1 := ⟨q - 1, by simp at h1; omega⟩
    rw [List.length_cons] at h1
    rw [List.cons_append, List.length_cons] at h2 h3
    have e4 : m 115 (p ++ base).length = c := h4.1
    obtain ⟨c11, x, x1, x2, x3⟩ := h7 c (by simp)
    have hl : (p ++ base).length = p.length + base.length := List.length_append
    obtain ⟨m', y1, y2, y3, y4, y5, y6, y7⟩ := settle_sim hr hb p q (up (up (up m 107 18 (nI (p ++ base).length)) 114 rc.length c) 107 15 (nI (rc.length + 1))) (c :: rc) (by omega) (by rw [List.length_cons]; omega) (by simp (disch := omega) only [ltE, bnE, bn2E, gdE, nc, nI_add, n_mul, n_sub, ib_nI, up_hit, up_miss, n_le, n_lt, n_eq, n_eq0, n_lt0, n_0le, n_0lt, n_le0, zb_0, zb_1, if_pos, if_neg, ↓reduceIte, Nat.reduceAdd, Nat.reduceMul, Nat.reduceSub]) (by simp (disch := omega) only [up_rn]; exact h4.2) (by simp (disch := omega) only [ltE, bnE, bn2E, gdE, nc, nI_add, n_mul, n_sub, ib_nI, up_hit, up_miss, n_le, n_lt, n_eq, n_eq0, n_lt0, n_0le, n_0lt, n_le0, zb_0, zb_1, if_pos, if_neg, ↓reduceIte, Nat.reduceAdd, Nat.reduceMul, Nat.reduceSub, List.length_cons]) ⟨by simp (disch := omega) only [ltE, bnE, bn2E, gdE, nc, nI_add, n_mul, n_sub, ib_nI, up_hit, up_miss, n_le, n_lt, n_eq, n_eq0, n_lt0, n_0le, n_0lt, n_le0, zb_0, zb_1, if_pos, if_neg, ↓reduceIte, Nat.reduceAdd, Nat.reduceMul, Nat.reduceSub], by
      simp (disch := omega) only [up_rn]
      exact RR.cg rc h6 (fun i hi => by simp (disch := omega) only [ltE, bnE, bn2E, gdE, nc, nI_add, n_mul, n_sub, ib_nI, up_hit, up_miss, n_le, n_lt, n_eq, n_eq0, n_lt0, n_0le, n_0lt, n_le0, zb_0, zb_1, if_pos, if_neg, ↓reduceIte, Nat.reduceAdd, Nat.reduceMul, Nat.reduceSub])⟩ (fun d hd => h7 d (by simp [hd]))
    refine ⟨m', ?_, y2, y3, by rw [y4]; simp, by rw [List.reverse_cons, List.append_assoc]; exact y5, fun k k1 k2 => by rw [y6 k k1 k2]; simp (disch := omega) only [up_rn], fun j j1 j2 => by rw [y7 j j1 j2]; simp (disch := omega) only [up_miss]⟩
    show fX12_settle_0 n (fX12_settle_0L n q) (nI r) m = _
    unfold fX12_settle_0
    simp (disch := omega) only [ltE, bnE, bn2E, gdE, nc, nI_add, n_mul, n_sub, ib_nI, up_hit, up_miss, n_le, n_lt, n_eq, n_eq0, n_lt0, n_0le, n_0lt, n_le0, zb_0, zb_1, if_pos, if_neg, ↓reduceIte, Nat.reduceAdd, Nat.reduceMul, Nat.reduceSub, h3, e4, c11, Nat.add_sub_cancel, x3, show ¬ x < r from by omega, h5, y1]
theorem settle_on {r : Nat} {base pend rc : List Int32} (hn : 2000 ≤ n) (hr : r ≤ 6) (hb : stp n r base) (h2 : rc.length + (pend ++ base).length ≤ 95) (h3 : m 107 18 = nI (pend ++ base).length) (h4 : RR (m 115) (pend ++ base)) (h5 : m 107 15 = nI rc.length) (h6 : RR (m 114) rc) (h7 : ∀ c ∈ pend, c ≠ -11 ∧ ∃ x, r ≤ x ∧ x ≤ 6 ∧ fX12_rank n c = some (nI x)) :
    ∃ m', fX12_settle n (nI r) m = some m' ∧ m' 107 18 = nI base.length ∧ RR (m' 115) base ∧ m' 107 15 = nI (pend.reverse ++ rc).length ∧ RR (m' 114) (pend.reverse ++ rc) ∧ (∀ k, k ≠ 107 → k ≠ 114 → m' k = m k) ∧ ∀ j, j ≠ 15 → j ≠ 18 → m' 107 j = m 107 j :=
  settle_sim hr hb pend n m rc (by rw [List.length_append] at h2; omega) h2 h3 h4 h5 h6 h7
theorem cN_cnt {r : Nat → Int32} : ∀ l : List Int32, RR r l → cnt (fun i => decide (r i = -10)) l.length = cN l
  | [], _ => rfl
  | c :: l, h => by
    rw [List.length_cons, cnt_s, cN_cnt l h.2, cN, h.1]
    simp
theorem nots_on {stk : List Int32} (hn : 2000 ≤ n) (hl : stk.length ≤ 96) (h3 : m 107 18 = nI stk.length) (h4 : RR (m 115) stk) : fX12_notsOpen n m = some (nI (cN stk)) := by
  unfold fX12_notsOpen
  rw [← cN_cnt stk h4]
  have L := loopInv (fun q i (s : Int32) => fX12_notsOpen_4L n q s (nI i) m) stk.length (fun i s => s = nI (cnt (fun i => decide (m 115 i = -10)) i)) (fun r => r = nI (cnt (fun i => decide (m 115 i = -10)) stk.length))
    (fun q s h => ⟨s, by simp (disch := omega) only [ltE, bnE, bn2E, gdE, nc, nI_add, n_mul, n_sub, ib_nI, up_hit, up_miss, n_le, n_lt, n_eq, n_eq0, n_lt0, n_0le, n_0lt, n_le0, zb_0, zb_1, if_pos, if_neg, ↓reduceIte, Nat.reduceAdd, Nat.reduceMul, Nat.reduceSub, fX12_notsOpen_29, fX12_notsOpen_4, fX12_notsOpen_4L, h3, Nat.le_refl], h⟩) ?_ n 0 (nI 0) (by omega) (by omega) rfl
  · obtain ⟨r, e, h⟩ := L
    rw [h] at e; exact e
  · intro q i s hi h
    refine Or.inr ⟨s + (if m 115 i = -10 then nI 1 else nI 0), ?_, ?_⟩
    · by_cases z : m 115 i = -10
      · simp (disch := omega) only [ltE, bnE, bn2E, gdE, nc, nI_add, n_mul, n_sub, ib_nI, up_hit, up_miss, n_le, n_lt, n_eq, n_eq0, n_lt0, n_0le, n_0lt, n_le0, zb_0, zb_1, if_pos, if_neg, ↓reduceIte, Nat.reduceAdd, Nat.reduceMul, Nat.reduceSub, fX12_notsOpen_29, fX12_notsOpen_4, fX12_notsOpen_4L, h3, show ¬ stk.length ≤ i from by omega, z]
      · simp (disch := omega) only [ltE, bnE, bn2E, gdE, nc, nI_add, n_mul, n_sub, ib_nI, up_hit, up_miss, n_le, n_lt, n_eq, n_eq0, n_lt0, n_0le, n_0lt, n_le0, zb_0, zb_1, if_pos, if_neg, ↓reduceIte, Nat.reduceAdd, Nat.reduceMul, Nat.reduceSub, fX12_notsOpen_29, fX12_notsOpen_4, fX12_notsOpen_4L, h3, show ¬ stk.length ≤ i from by omega, z]
    · rw [h, cnt_s]
      by_cases z : m 115 i = -10
      · simp [z, nI_add]
      · simp [z, nI_add]
theorem rk_not : fX12_rank n (-10) = some (nI 6) := by unfold fX12_rank; simp only [show ((-10 : Int32) = -1) = False from eq_false (by decide), show ((-10 : Int32) = -2) = False from eq_false (by decide), show ((-10 : Int32) < -5) = True from eq_true (by decide), show ((-10 : Int32) < -7) = True from eq_true (by decide), show ((-10 : Int32) < -9) = True from eq_true (by decide), if_true, if_false]
end PS
