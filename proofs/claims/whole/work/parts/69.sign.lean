/-! signs; the readers' promises -/
section SG
variable {n T key : Nat} {B : Nat → Nat} {f m : Mm}
theorem sign_sim {st en k v : Nat} (hZ : LZ B T f m st en k v) :
    (fX3_levelOf n (f 100 2) = some (-1) ∧ fX12_signHere n m = some (nI 0)) ∨
    (k = 3 ∧ f 100 2 = nI v ∧ v < 256 ∧ v ≠ 41 ∧ ∃ L c, L < 5 ∧ fX3_levelOf n (f 100 2) = some (nI L) ∧ fX12_signHere n m = some c ∧ c ≠ 0 ∧ fX12_rank n c = some (nI (L + 1)) ∧ c ≠ -11 ∧ c ≠ -10 ∧ ¬ 0 ≤ c ∧ ∀ key, trP key c = some (nI (10000 + v))) := by
  obtain ⟨_, _, _, _, _, _, _, _, c7⟩ := hZ
  have no3 : ∀ x, x ≠ 3 → x < 100 → m 107 8 = nI x → fX12_signHere n m = some (nI 0) := fun x hx hx2 e => by
    unfold fX12_signHere; rw [e, if_neg (by rw [n_eq (by omega) (by omega)]; exact hx)]
  rcases c7 with ⟨_, z1, z2, _⟩ | ⟨_, z1, z2, _⟩ | ⟨_, z1, z2, _⟩ | ⟨z0, z1, z2, z3, z4, _⟩ | ⟨_, z1, z2, _⟩
  · left; exact ⟨by rw [z1]; rfl, no3 0 (by omega) (by omega) z2⟩
  · left; exact ⟨by rw [z1]; rfl, no3 1 (by omega) (by omega) z2⟩
  · left; exact ⟨by rw [z1]; rfl, no3 2 (by omega) (by omega) z2⟩
  · by_cases q1 : v = 38
    · subst q1; right; exact ⟨z0, z1, z4, by decide, 1, -2, by decide, by rw [z1]; rfl, by unfold fX12_signHere; rw [z2, z3]; rfl, by decide, rfl, by decide, by decide, by decide, fun key => by unfold trP; rfl⟩
    by_cases q2 : v = 42
    · subst q2; right; exact ⟨z0, z1, z4, by decide, 4, -8, by decide, by rw [z1]; rfl, by unfold fX12_signHere; rw [z2, z3]; rfl, by decide, rfl, by decide, by decide, by decide, fun key => by unfold trP; rfl⟩
    by_cases q3 : v = 43
    · subst q3; right; exact ⟨z0, z1, z4, by decide, 3, -6, by decide, by rw [z1]; rfl, by unfold fX12_signHere; rw [z2, z3]; rfl, by decide, rfl, by decide, by decide, by decide, fun key => by unfold trP; rfl⟩
    by_cases q4 : v = 45
    · subst q4; right; exact ⟨z0, z1, z4, by decide, 3, -7, by decide, by rw [z1]; rfl, by unfold fX12_signHere; rw [z2, z3]; rfl, by decide, rfl, by decide, by decide, by decide, fun key => by unfold trP; rfl⟩
    by_cases q5 : v = 47
    · subst q5; right; exact ⟨z0, z1, z4, by decide, 4, -9, by decide, by rw [z1]; rfl, by unfold fX12_signHere; rw [z2, z3]; rfl, by decide, rfl, by decide, by decide, by decide, fun key => by unfold trP; rfl⟩
    by_cases q6 : v = 60
    · subst q6; right; exact ⟨z0, z1, z4, by decide, 2, -3, by decide, by rw [z1]; rfl, by unfold fX12_signHere; rw [z2, z3]; rfl, by decide, rfl, by decide, by decide, by decide, fun key => by unfold trP; rfl⟩
    by_cases q7 : v = 61
    · subst q7; right; exact ⟨z0, z1, z4, by decide, 2, -4, by decide, by rw [z1]; rfl, by unfold fX12_signHere; rw [z2, z3]; rfl, by decide, rfl, by decide, by decide, by decide, fun key => by unfold trP; rfl⟩
    by_cases q8 : v = 62
    · subst q8; right; exact ⟨z0, z1, z4, by decide, 2, -5, by decide, by rw [z1]; rfl, by unfold fX12_signHere; rw [z2, z3]; rfl, by decide, rfl, by decide, by decide, by decide, fun key => by unfold trP; rfl⟩
    by_cases q9 : v = 124
    · subst q9; right; exact ⟨z0, z1, z4, by decide, 0, -1, by decide, by rw [z1]; rfl, by unfold fX12_signHere; rw [z2, z3]; rfl, by decide, rfl, by decide, by decide, by decide, fun key => by unfold trP; rfl⟩
    left
    refine ⟨?_, ?_⟩
    · unfold fX3_levelOf; rw [z1]; simp (disch := omega) only [ltE, bnE, bn2E, gdE, nc, nI_add, n_mul, n_sub, ib_nI, up_hit, up_miss, n_le, n_lt, n_eq, n_eq0, n_lt0, n_0le, n_0lt, n_le0, zb_0, zb_1, if_pos, if_neg, ↓reduceIte, Nat.reduceAdd, Nat.reduceMul, Nat.reduceSub, q1, q2, q3, q4, q5, q6, q7, q8, q9]
    · unfold fX12_signHere; rw [z2, z3]; simp (disch := omega) only [ltE, bnE, bn2E, gdE, nc, nI_add, n_mul, n_sub, ib_nI, up_hit, up_miss, n_le, n_lt, n_eq, n_eq0, n_lt0, n_0le, n_0lt, n_le0, zb_0, zb_1, if_pos, if_neg, ↓reduceIte, Nat.reduceAdd, Nat.reduceMul, Nat.reduceSub, q1, q2, q3, q4, q5, q6, q7, q8, q9]
  · left; exact ⟨by rw [z1]; rfl, no3 4 (by omega) (by omega) z2⟩
end SG
def Kk (n q b k w : Nat) (m : Mm) : Option (Int32 × Mm) := fX12_takesE_28L n q (nI b) (nI k) (nI w) m
def FL (r x : Option (Int32 × Mm)) (f m : Mm) : Prop := ∃ f' m' s, r = some (nI 0, f') ∧ x = some (nI 0, m') ∧ s ≤ 96 ∧ f' 100 3 = nI s ∧ m' 107 7 = nI s ∧ FRM f m f' m'
def VALs (key : Nat) (W : List Int32) : Prop := ∀ c ∈ W, trP key c = some (trT key c)
theorem VALs.cons {key : Nat} {W : List Int32} {c p : Int32} (h : VALs key W) (hc : trP key c = some p) : VALs key (c :: W) := by
  intro d hd
  rcases List.mem_cons.mp hd with rfl | hd
  · unfold trT; rw [hc]; rfl
  · exact h d hd
def PieceOK (n : Nat) (B : Nat → Nat) (T key d b k : Nat) : Prop := ∀ (q : Nat) (f m : Mm) (W base0 : List Int32) (j a st en kk v h : Nat), ST B T key f m (W.map (trT key)) W (List.replicate j (-10) ++ base0) a st en kk v → stp n 6 base0 → cN base0 + j = k → VALs key W → hL W = some h → na W = a → T + 2 ≤ q + st →
  FL ((rd n 99 d).2.1 (nI b) (nI k) f) (Kk n q b k 1 m) f m ∨ ∃ f' m' q' W' a' st' en' kk' v', (rd n 99 d).2.1 (nI b) (nI k) f = some (nI 1, f') ∧ Kk n q b k 1 m = Kk n q' b (k - j) 0 m' ∧ ST B T key f' m' (W'.map (trT key)) (List.replicate j (-10) ++ W') base0 a' st' en' kk' v' ∧ VALs key W' ∧ hL W' = some (h + 1) ∧ na W' = a' ∧ T + 2 ≤ q' + st' ∧ st < st' ∧ (∀ i, i ≤ b → m' 116 i = m 116 i) ∧ FRM f m f' m'
def LevelOK (n : Nat) (B : Nat → Nat) (T key d L b k : Nat) : Prop := ∀ (q : Nat) (f m : Mm) (W base : List Int32) (a st en kk v h : Nat), ST B T key f m (W.map (trT key)) W base a st en kk v → stp n (L + 1) base → cN base = k → VALs key W → hL W = some h → na W = a → (m 116 b = nI 0 ∨ m 116 b = nI 1) → (L ≤ 2 → m 116 b = nI 0) → T + 2 ≤ q + st →
  FL ((rd n 99 d).1 (nI L) (nI b) (nI k) f) (Kk n q b k 1 m) f m ∨ ∃ f' m' q' W' rc pend a' st' en' kk' v', (rd n 99 d).1 (nI L) (nI b) (nI k) f = some (nI 1, f') ∧ Kk n q b k 1 m = Kk n q' b k 0 m' ∧ ST B T key f' m' (W'.map (trT key)) rc (pend ++ base) a' st' en' kk' v' ∧ W' = pend.reverse ++ rc ∧ VALs key W' ∧ hL W' = some (h + 1) ∧ na W' = a' ∧ (∀ c ∈ pend, c ≠ -11 ∧ ∃ x, L + 1 ≤ x ∧ x ≤ 6 ∧ fX12_rank n c = some (nI x)) ∧ T + 2 ≤ q' + st' ∧ st < st' ∧ (fX3_levelOf n (f' 100 2) = some (-1) ∨ ∃ l, l < 5 ∧ fX3_levelOf n (f' 100 2) = some (nI l) ∧ (l < L ∨ (l = 2 ∧ m' 116 b = nI 1))) ∧ (∀ i, i < b → m' 116 i = m 116 i) ∧ (m' 116 b = nI 0 ∨ m' 116 b = nI 1) ∧ (3 ≤ L → m' 116 b = m 116 b) ∧ FRM f m f' m'
section RS
variable {n T key : Nat} {B : Nat → Nat} {m f : Mm}
theorem nar01 : vp_nar .boolean (nI 0) = nI 0 ∧ vp_nar .boolean (nI 1) = nI 1 := by decide
/-- where the reference stops behind a part -/
theorem r_stop {q b k a st en kk v : Nat} {ps rc pend base : List Int32} (hn : 2000 ≤ n) (hS : ST B T key f m ps rc (pend ++ base) a st en kk v) (hb : b ≤ 8) (hst : stp n 0 base) (hp : ∀ c ∈ pend, c ≠ -11 ∧ ∃ x, 1 ≤ x ∧ x ≤ 6 ∧ fX12_rank n c = some (nI x))
    (post : fX3_levelOf n (f 100 2) = some (-1) ∨ ∃ l, l < 5 ∧ fX3_levelOf n (f 100 2) = some (nI l) ∧ (l = 2 ∧ m 116 b = nI 1)) (hno : ¬ (kk = 3 ∧ v = 41 ∧ 0 < b)) :
    (kk = 0 ∧ ∃ m', Kk n (q + 1) b k 0 m = some (if b = 0 then nI 1 else nI 0, m') ∧ m' 107 15 = nI (pend.reverse ++ rc).length ∧ RR (m' 114) (pend.reverse ++ rc) ∧ (∀ k, k ≠ 107 → k ≠ 114 → m' k = m k) ∧ ∀ j, j ≠ 15 → j ≠ 18 → m' 107 j = m 107 j) ∨ (kk ≠ 0 ∧ Kk n (q + 1) b k 0 m = some (nI 0, m)) := by
  have hs := hS.st
  obtain ⟨hZ, s1, s2, s3, s4, s5, s6, s7, s8, s9, s10, s11⟩ := hS
  have hsg := sign_sim (n := n) hZ
  obtain ⟨_, _, _, _, _, _, _, _, c7⟩ := hZ
  show (kk = 0 ∧ ∃ m', fX12_takesE_28 n (fX12_takesE_28L n q) (nI b) (nI k) (nI 0) m = _ ∧ _) ∨ (kk ≠ 0 ∧ fX12_takesE_28 n (fX12_takesE_28L n q) (nI b) (nI k) (nI 0) m = _)
  unfold fX12_takesE_28 fX12_takesE_39 fX12_takesE_237
  by_cases q0 : kk = 0
  · left
    refine ⟨q0, ?_⟩
    obtain ⟨m', y1, y2, y3, y4, y5, y6, y7⟩ := settle_on (n := n) (r := 0) hn (by omega) hst (by omega) s7 s8 s5 s6 (fun c hc => ⟨(hp c hc).1, by obtain ⟨x, x1, x2, x3⟩ := (hp c hc).2; exact ⟨x, by omega, x2, x3⟩⟩)
    have m8 : m 107 8 = nI 0 := by
      rcases c7 with ⟨_, _, z2, _⟩ | ⟨z0, _⟩ | ⟨z0, _⟩ | ⟨z0, _⟩ | ⟨z0, _⟩
      · exact z2
      · omega
      · omega
      · omega
      · omega
    refine ⟨m', ?_, y4, y5, y6, y7⟩
    by_cases b0 : b = 0
    · simp (disch := omega) only [ltE, bnE, bn2E, gdE, nc, nI_add, n_mul, n_sub, ib_nI, up_hit, up_miss, n_le, n_lt, n_eq, n_eq0, n_lt0, n_0le, n_0lt, n_le0, zb_0, zb_1, if_pos, if_neg, ↓reduceIte, Nat.reduceAdd, Nat.reduceMul, Nat.reduceSub, m8, y1, b0]
    · simp (disch := omega) only [ltE, bnE, bn2E, gdE, nc, nI_add, n_mul, n_sub, ib_nI, up_hit, up_miss, n_le, n_lt, n_eq, n_eq0, n_lt0, n_0le, n_0lt, n_le0, zb_0, zb_1, if_pos, if_neg, ↓reduceIte, Nat.reduceAdd, Nat.reduceMul, Nat.reduceSub, m8, y1, b0]
  · right
    refine ⟨q0, ?_⟩
    have m8 : ¬ m 107 8 = 0 := by
      rcases c7 with ⟨z0, _⟩ | ⟨_, _, z2, _⟩ | ⟨_, _, z2, _⟩ | ⟨_, _, z2, _⟩ | ⟨_, _, z2, _⟩
      · exact absurd z0 q0
      · rw [z2]; decide
      · rw [z2]; decide
      · rw [z2]; decide
      · rw [z2]; decide
    have hend : ∀ x2 : Int32, (bn (fX12_signHere n m) fun r19 => if r19 = 0 then some (nI 0, m) else bn (fX12_rank n r19) fun r22 => if r22 = nI 3 then gd (ib (nI b) 10) (if m 116 (nI b).toNatClampNeg = 0 then fX12_takesE_268 n (fX12_takesE_28L n q) (nI b) x2 r19 m else some (nI 0, m)) else fX12_takesE_268 n (fX12_takesE_28L n q) (nI b) x2 r19 m) = some (nI 0, m) := by
      intro x2
      rcases hsg with ⟨g1, g2⟩ | ⟨g0, g1, g2, g3, L, c, g4, g5, g6, g7, g8, _⟩
      · rw [g2]; rfl
      · rcases post with e | ⟨l, l1, l2, l3, l4⟩
        · rw [g5] at e
          exact absurd (Option.some.inj e).symm (fun e => (m1_nI (show L < 1000 by omega)).mp e)
        · rw [g5] at l2
          have := Option.some.inj l2
          rw [n_eq (by omega) (by omega)] at this
          subst this l3
          simp (disch := omega) only [ltE, bnE, bn2E, gdE, nc, nI_add, n_mul, n_sub, ib_nI, up_hit, up_miss, n_le, n_lt, n_eq, n_eq0, n_lt0, n_0le, n_0lt, n_le0, zb_0, zb_1, if_pos, if_neg, ↓reduceIte, Nat.reduceAdd, Nat.reduceMul, Nat.reduceSub, g6, g7, g8, l4, Nat.one_ne_zero]
    have m8' : (m 107 8 = 0) = False := eq_false m8
    simp only [if_true, m8', if_false, ltE, show ((nI 0 : Int32) = 0) = True from eq_true rfl]
    by_cases e3 : m 107 8 = nI 3
    · by_cases e41 : m 107 9 = nI 41
      · have b0 : b = 0 := by
          rcases c7 with ⟨z0, _⟩ | ⟨_, _, z2, _⟩ | ⟨_, _, z2, _⟩ | ⟨z0, _, z2, z3, z4, _⟩ | ⟨_, _, z2, _⟩
          · exact absurd z0 q0
          · rw [e3] at z2; exact absurd z2 (by decide)
          · rw [e3] at z2; exact absurd z2 (by decide)
          · rw [z3, n_eq (by omega) (by omega)] at e41
            by_cases b0 : b = 0
            · exact b0
            · exact absurd ⟨z0, e41, by omega⟩ hno
          · rw [e3] at z2; exact absurd z2 (by decide)
        rw [if_pos e3, if_pos e41, if_pos (by rw [b0]; decide)]
        exact hend (nI k)
      · rw [if_pos e3, if_neg e41]; exact hend (nI k)
    · rw [if_neg e3]; exact hend (nI k)
end RS
