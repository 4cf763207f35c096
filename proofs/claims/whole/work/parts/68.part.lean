/-! parts of a text, in both -/
def trT (key : Nat) (c : Int32) : Int32 := (trP key c).getD 0
def hL : List Int32 → Option Nat
  | [] => some 0
  | c :: l => (hL l).bind (hgt c)
def na : List Int32 → Nat
  | [] => 0
  | c :: l => na l + (if 0 ≤ c then 1 else 0)
def ST (B : Nat → Nat) (T key : Nat) (f m : Mm) (ps rc stk : List Int32) (a st en k v : Nat) : Prop :=
  LZ B T f m st en k v ∧ f 99 4 = nI key ∧ m 107 11 = nI key ∧ f 99 2 = nI ps.length ∧ RR (f 102) ps ∧ m 107 15 = nI rc.length ∧ RR (m 114) rc ∧ m 107 18 = nI stk.length ∧ RR (m 115) stk ∧ f 99 3 = nI a ∧ m 107 16 = nI a ∧ rc.length + stk.length + 4 ≤ st
def FRM (f m f' m' : Mm) : Prop := (∀ k, k ≠ 99 → k ≠ 100 → k ≠ 102 → f' k = f k) ∧ (∀ k, k ≠ 107 → k ≠ 114 → k ≠ 115 → k ≠ 116 → m' k = m k) ∧ ∀ j, j < 6 ∨ 18 < j → m' 107 j = m 107 j
theorem FRM.refl {f m : Mm} : FRM f m f m := ⟨fun _ _ _ _ => rfl, fun _ _ _ _ _ => rfl, fun _ _ => rfl⟩
theorem FRM.trans {f m f' m' f'' m'' : Mm} (h : FRM f m f' m') (g : FRM f' m' f'' m'') : FRM f m f'' m'' := ⟨fun k a b c => (g.1 k a b c).trans (h.1 k a b c), fun k a b c d => (g.2.1 k a b c d).trans (h.2.1 k a b c d), fun j hj => (g.2.2 j hj).trans (h.2.2 j hj)⟩
theorem ST.st {B : Nat → Nat} {T key a st en k v : Nat} {f m : Mm} {ps rc stk : List Int32} (h : ST B T key f m ps rc stk a st en k v) : st ≤ T ∧ T ≤ 96 ∧ f 100 3 = nI st ∧ m 107 7 = nI st ∧ (k = 0 ∨ st < T) := by
  obtain ⟨⟨a1, _, c1, c2, _, _, c5, c6, c7⟩, _⟩ := h
  refine ⟨by omega, a1.1, c1, c2, ?_⟩
  rcases c7 with ⟨z, _⟩ | ⟨_, _, _, _, z, _⟩ | ⟨_, _, _, _, z, _⟩ | ⟨_, _, _, _, _, z, _⟩ | ⟨_, _, _, z⟩
  · exact Or.inl z
  · right; omega
  · right; omega
  · right; omega
  · right; omega
section PA
variable {n T key : Nat} {B : Nat → Nat} {f m : Mm}
theorem c_addPiece {p : Nat} {x : Int32} (h : f 99 2 = nI p) (hp : p < 96) : fX3_addPiece n 99 x f = some (up (up f 102 p x) 99 2 (nI (p + 1))) := by
  unfold fX3_addPiece
  simp (disch := omega) only [ltE, bnE, bn2E, gdE, nc, nI_add, n_mul, n_sub, ib_nI, up_hit, up_miss, n_le, n_lt, n_eq, n_eq0, n_lt0, n_0le, n_0lt, n_le0, zb_0, zb_1, if_pos, if_neg, ↓reduceIte, Nat.reduceAdd, Nat.reduceMul, Nat.reduceSub, h, show ¬ 96 ≤ p from by omega]
theorem atom_sim {j a st en k v : Nat} {base0 W : List Int32} {c p : Int32} (hn : 2000 ≤ n) (hS : ST B T key f m (W.map (trT key)) W (List.replicate j (-10) ++ base0) a st en k v) (hk0 : k ≠ 0) (hk4 : k ≠ 4) (hb : stp n 6 base0) (hc : trP key c = some p) :
    ∃ f' m' st' en' k' v', (∀ u1 u2, fX3_readPiece_53 n u1 u2 99 p f = some (nI 1, f')) ∧ fX12_takesPart_87 n c (m 107 15) m = some (nI 1, m') ∧ ST B T key f' m' ((c :: W).map (trT key)) (List.replicate j (-10) ++ (c :: W)) base0 (a + 1) st' en' k' v' ∧ st < st' ∧ m' 116 = m 116 ∧ FRM f m f' m' := by
  have hst := hS.st
  obtain ⟨hZ, s1, s2, s3, s4, s5, s6, s7, s8, s9, s10, s11⟩ := hS
  have hq : st < T := by rcases hst.2.2.2.2 with z | z; exact absurd z hk0; exact z
  have hT := hst.2.1
  have hp : p = trT key c := by unfold trT; rw [hc]; rfl
  rw [List.length_map] at s3
  have hl : (List.replicate j (-10) ++ base0).length = j + base0.length := by simp
  rw [hl] at s7 s11
  have hW : W.length < 92 := by omega
  generalize hf5 : up (up (up f 102 W.length p) 99 2 (nI (W.length + 1))) 99 3 (nI (a + 1)) = f5
  generalize hm3 : up (up (up m 114 W.length c) 107 15 (nI (W.length + 1))) 107 16 (nI (a + 1)) = m3
  obtain ⟨m4, y1, y2, y3, y4, y5, y6, y7⟩ := settle_on (n := n) (m := m3) (r := 6) (base := base0) (pend := List.replicate j (-10)) (rc := c :: W) hn (by omega) hb (by rw [hl, List.length_cons]; omega) (by rw [← hm3, hl]; simp (disch := omega) only [ltE, bnE, bn2E, gdE, nc, nI_add, n_mul, n_sub, ib_nI, up_hit, up_miss, n_le, n_lt, n_eq, n_eq0, n_lt0, n_0le, n_0lt, n_le0, zb_0, zb_1, if_pos, if_neg, ↓reduceIte, Nat.reduceAdd, Nat.reduceMul, Nat.reduceSub, s7]) (by rw [← hm3]; simp (disch := omega) only [up_rn]; exact s8) (by rw [← hm3]; simp (disch := omega) only [ltE, bnE, bn2E, gdE, nc, nI_add, n_mul, n_sub, ib_nI, up_hit, up_miss, n_le, n_lt, n_eq, n_eq0, n_lt0, n_0le, n_0lt, n_le0, zb_0, zb_1, if_pos, if_neg, ↓reduceIte, Nat.reduceAdd, Nat.reduceMul, Nat.reduceSub, List.length_cons]) (by
      rw [← hm3]
      refine ⟨by simp (disch := omega) only [ltE, bnE, bn2E, gdE, nc, nI_add, n_mul, n_sub, ib_nI, up_hit, up_miss, n_le, n_lt, n_eq, n_eq0, n_lt0, n_0le, n_0lt, n_le0, zb_0, zb_1, if_pos, if_neg, ↓reduceIte, Nat.reduceAdd, Nat.reduceMul, Nat.reduceSub], ?_⟩
      simp (disch := omega) only [up_rn]
      exact RR.cg W s6 (fun i hi => by simp (disch := omega) only [ltE, bnE, bn2E, gdE, nc, nI_add, n_mul, n_sub, ib_nI, up_hit, up_miss, n_le, n_lt, n_eq, n_eq0, n_lt0, n_0le, n_0lt, n_le0, zb_0, zb_1, if_pos, if_neg, ↓reduceIte, Nat.reduceAdd, Nat.reduceMul, Nat.reduceSub])) (fun d hd => by
      rw [List.eq_of_mem_replicate hd]
      exact ⟨by decide, 6, by omega, by omega, rk_not⟩)
  rw [List.reverse_replicate] at y4 y5
  have hZ5 : LZ B T f5 m4 st en k v := hZ.cg (by rw [← hf5]; (simp (disch := omega) only [up_rn])) (by rw [← hf5]; (simp (disch := omega) only [up_rn])) (by rw [y6 111 (by omega) (by omega), ← hm3]; (simp (disch := omega) only [up_rn])) (fun i i1 i2 => by rw [y7 i (by omega) (by omega), ← hm3]; (simp (disch := omega) only [up_miss]))
  obtain ⟨f6, m5, st', en', k', v', e1, e2, e3, e4, e5, e6, e7⟩ := hZ5.next (n := n) hn hk0 hk4
  refine ⟨f6, m5, st', en', k', v', fun u1 u2 => ?_, ?_, ⟨e4, ?_, ?_, ?_, ?_, ?_, ?_, ?_, ?_, ?_, ?_, ?_⟩, e3, ?_, ?_, ?_, ?_⟩
  · unfold fX3_readPiece_53
    have := c_addPiece (n := n) (x := p) s3 (by omega)
    simp (disch := omega) only [ltE, bnE, bn2E, gdE, nc, nI_add, n_mul, n_sub, ib_nI, up_hit, up_miss, n_le, n_lt, n_eq, n_eq0, n_lt0, n_0le, n_0lt, n_le0, zb_0, zb_1, if_pos, if_neg, ↓reduceIte, Nat.reduceAdd, Nat.reduceMul, Nat.reduceSub, this, s9, hf5, e1]
  · unfold fX12_takesPart_87
    simp (disch := omega) only [ltE, bnE, bn2E, gdE, nc, nI_add, n_mul, n_sub, ib_nI, up_hit, up_miss, n_le, n_lt, n_eq, n_eq0, n_lt0, n_0le, n_0lt, n_le0, zb_0, zb_1, if_pos, if_neg, ↓reduceIte, Nat.reduceAdd, Nat.reduceMul, Nat.reduceSub, s5, s10, hm3, y1, e2]
  · rw [e5 99 (by omega), ← hf5]; simp (disch := omega) only [ltE, bnE, bn2E, gdE, nc, nI_add, n_mul, n_sub, ib_nI, up_hit, up_miss, n_le, n_lt, n_eq, n_eq0, n_lt0, n_0le, n_0lt, n_le0, zb_0, zb_1, if_pos, if_neg, ↓reduceIte, Nat.reduceAdd, Nat.reduceMul, Nat.reduceSub, s1]
  · rw [e7 11 (by omega), y7 11 (by omega) (by omega), ← hm3]; simp (disch := omega) only [ltE, bnE, bn2E, gdE, nc, nI_add, n_mul, n_sub, ib_nI, up_hit, up_miss, n_le, n_lt, n_eq, n_eq0, n_lt0, n_0le, n_0lt, n_le0, zb_0, zb_1, if_pos, if_neg, ↓reduceIte, Nat.reduceAdd, Nat.reduceMul, Nat.reduceSub, s2]
  · rw [e5 99 (by omega), ← hf5, List.length_map, List.length_cons]; simp (disch := omega) only [ltE, bnE, bn2E, gdE, nc, nI_add, n_mul, n_sub, ib_nI, up_hit, up_miss, n_le, n_lt, n_eq, n_eq0, n_lt0, n_0le, n_0lt, n_le0, zb_0, zb_1, if_pos, if_neg, ↓reduceIte, Nat.reduceAdd, Nat.reduceMul, Nat.reduceSub]
  · rw [e5 102 (by omega), ← hf5, List.map_cons]
    refine ⟨by rw [List.length_map]; simp (disch := omega) only [ltE, bnE, bn2E, gdE, nc, nI_add, n_mul, n_sub, ib_nI, up_hit, up_miss, n_le, n_lt, n_eq, n_eq0, n_lt0, n_0le, n_0lt, n_le0, zb_0, zb_1, if_pos, if_neg, ↓reduceIte, Nat.reduceAdd, Nat.reduceMul, Nat.reduceSub, hp], RR.cg _ s4 (fun i hi => ?_)⟩
    rw [List.length_map] at hi
    simp (disch := omega) only [ltE, bnE, bn2E, gdE, nc, nI_add, n_mul, n_sub, ib_nI, up_hit, up_miss, n_le, n_lt, n_eq, n_eq0, n_lt0, n_0le, n_0lt, n_le0, zb_0, zb_1, if_pos, if_neg, ↓reduceIte, Nat.reduceAdd, Nat.reduceMul, Nat.reduceSub]
  · rw [e7 15 (by omega)]; exact y4
  · rw [e6 114 (by omega)]; exact y5
  · rw [e7 18 (by omega)]; exact y2
  · rw [e6 115 (by omega)]; exact y3
  · rw [e5 99 (by omega), ← hf5]; simp (disch := omega) only [ltE, bnE, bn2E, gdE, nc, nI_add, n_mul, n_sub, ib_nI, up_hit, up_miss, n_le, n_lt, n_eq, n_eq0, n_lt0, n_0le, n_0lt, n_le0, zb_0, zb_1, if_pos, if_neg, ↓reduceIte, Nat.reduceAdd, Nat.reduceMul, Nat.reduceSub]
  · rw [e7 16 (by omega), y7 16 (by omega) (by omega), ← hm3]; simp (disch := omega) only [ltE, bnE, bn2E, gdE, nc, nI_add, n_mul, n_sub, ib_nI, up_hit, up_miss, n_le, n_lt, n_eq, n_eq0, n_lt0, n_0le, n_0lt, n_le0, zb_0, zb_1, if_pos, if_neg, ↓reduceIte, Nat.reduceAdd, Nat.reduceMul, Nat.reduceSub]
  · rw [List.length_append, List.length_replicate, List.length_cons]; omega
  · rw [e6 116 (by omega), y6 116 (by omega) (by omega), ← hm3]; (simp (disch := omega) only [up_rn])
  · intro k a1 a2 a3; rw [e5 k a2, ← hf5]; (simp (disch := omega) only [up_rn])
  · intro k a1 a2 a3 a4; rw [e6 k a1, y6 k a1 a2, ← hm3]; (simp (disch := omega) only [up_rn])
  · intro i hi; rw [e7 i (by omega), y7 i (by omega) (by omega), ← hm3]; (simp (disch := omega) only [up_miss])
theorem tr_num {v : Nat} (hv : v < 10000) : trP key (nI v) = some (nI v) := by
  have key2 : ∀ z : Int32, z.toInt < 0 → ¬ nI v = z := fun z hz e => by
    have := congrArg Int32.toInt e
    rw [nI_toInt (by omega)] at this
    omega
  unfold trP
  rw [if_neg (key2 _ (by decide)), if_neg (key2 _ (by decide)), if_neg (key2 _ (by decide)), if_neg (key2 _ (by decide)), if_neg (key2 _ (by decide)), if_neg (key2 _ (by decide)), if_neg (key2 _ (by decide)), if_neg (key2 _ (by decide)), if_neg (key2 _ (by decide)), if_neg (key2 _ (by decide)), if_neg (by rw [n_eq (by omega) (by omega)]; omega), if_neg (by rw [n_eq (by omega) (by omega)]; omega), if_neg (by rw [n_eq (by omega) (by omega)]; omega), nc (by omega), if_pos ⟨hv, rfl⟩]
/-- a name's code and piece -/
theorem name_sim {en st v k : Nat} (hkey : key ≤ 2) (hZ : LZ B T f m st en k v) (hk : k = 1) (s1 : f 99 4 = nI key) (s2 : m 107 11 = nI key) :
    (∃ x, x ≤ 2 ∧ fX3_isNameOpen n 99 f = some (nI 1) ∧ m 107 6 - m 107 7 = nI 1 ∧ fX12_nameOf n (m 107 9) m = some (nI x) ∧ trP key (nI (10000 + x)) = some (nI (10000 + v)) ∧ v < 256) ∨ (fX3_isNameOpen n 99 f = some (nI 0) ∧ (¬ m 107 6 - m 107 7 = nI 1 ∨ fX12_nameOf n (m 107 9) m = some (-1))) := by
  obtain ⟨a, b, c1, c2, c3, c4, c5, c6, c7⟩ := hZ
  have hT := a.1
  rcases c7 with ⟨z, _⟩ | ⟨_, z1, z2, z3, z4, z5, z6, z7⟩ | ⟨z, _⟩ | ⟨z, _⟩ | ⟨z, _⟩
  · omega
  · have hb := (a.2.2.1 st (by omega)).1
    have hk3 : key = 0 ∨ key = 1 ∨ key = 2 := by omega
    unfold fX3_isNameOpen fX12_nameOf
    by_cases q : en = st + 1
    · rw [if_pos q] at z7
      have d1 : m 107 6 - m 107 7 = nI 1 := by rw [c2, c4, q, n_sub (by omega)]; congr 1; omega
      rw [← z7] at z5 hb
      have tr0 : ∀ key, trP key (nI 10000) = some (nI 10115) := fun key => by unfold trP; rfl
      have tr1 : ∀ key, trP key (nI 10001) = some (nI 10100) := fun key => by unfold trP; rfl
      by_cases q1 : v = 115
      · left
        refine ⟨0, by omega, ?_, d1, ?_, by rw [q1]; exact tr0 key, hb⟩
        · simp (disch := omega) only [ltE, bnE, bn2E, gdE, nc, nI_add, n_mul, n_sub, ib_nI, up_hit, up_miss, n_le, n_lt, n_eq, n_eq0, n_lt0, n_0le, n_0lt, n_le0, zb_0, zb_1, if_pos, if_neg, ↓reduceIte, Nat.reduceAdd, Nat.reduceMul, Nat.reduceSub, z1, z6, q1, Nat.reduceEqDiff]
        · rcases hk3 with rfl | rfl | rfl <;> simp (disch := omega) only [ltE, bnE, bn2E, gdE, nc, nI_add, n_mul, n_sub, ib_nI, up_hit, up_miss, n_le, n_lt, n_eq, n_eq0, n_lt0, n_0le, n_0lt, n_le0, zb_0, zb_1, if_pos, if_neg, ↓reduceIte, Nat.reduceAdd, Nat.reduceMul, Nat.reduceSub, s2, z5, q1, fX12_nameOf_26, Nat.reduceEqDiff]
      by_cases q2 : v = 100
      · left
        refine ⟨1, by omega, ?_, d1, ?_, by rw [q2]; exact tr1 key, hb⟩
        · simp (disch := omega) only [ltE, bnE, bn2E, gdE, nc, nI_add, n_mul, n_sub, ib_nI, up_hit, up_miss, n_le, n_lt, n_eq, n_eq0, n_lt0, n_0le, n_0lt, n_le0, zb_0, zb_1, if_pos, if_neg, ↓reduceIte, Nat.reduceAdd, Nat.reduceMul, Nat.reduceSub, z1, z6, q2, Nat.reduceEqDiff]
        · rcases hk3 with rfl | rfl | rfl <;> simp (disch := omega) only [ltE, bnE, bn2E, gdE, nc, nI_add, n_mul, n_sub, ib_nI, up_hit, up_miss, n_le, n_lt, n_eq, n_eq0, n_lt0, n_0le, n_0lt, n_le0, zb_0, zb_1, if_pos, if_neg, ↓reduceIte, Nat.reduceAdd, Nat.reduceMul, Nat.reduceSub, s2, z5, q1, q2, fX12_nameOf_26, Nat.reduceEqDiff]
      by_cases q3 : (key = 0 ∧ v = 119) ∨ (key = 1 ∧ v = 112)
      · left
        rcases q3 with ⟨rfl, rfl⟩ | ⟨rfl, rfl⟩
        · refine ⟨2, by omega, ?_, d1, ?_, by unfold trP; rfl, hb⟩
          · simp (disch := omega) only [ltE, bnE, bn2E, gdE, nc, nI_add, n_mul, n_sub, ib_nI, up_hit, up_miss, n_le, n_lt, n_eq, n_eq0, n_lt0, n_0le, n_0lt, n_le0, zb_0, zb_1, if_pos, if_neg, ↓reduceIte, Nat.reduceAdd, Nat.reduceMul, Nat.reduceSub, z1, z6, s1, Nat.reduceEqDiff]
          · simp (disch := omega) only [ltE, bnE, bn2E, gdE, nc, nI_add, n_mul, n_sub, ib_nI, up_hit, up_miss, n_le, n_lt, n_eq, n_eq0, n_lt0, n_0le, n_0lt, n_le0, zb_0, zb_1, if_pos, if_neg, ↓reduceIte, Nat.reduceAdd, Nat.reduceMul, Nat.reduceSub, s2, z5, fX12_nameOf_26, Nat.reduceEqDiff]
        · refine ⟨2, by omega, ?_, d1, ?_, by unfold trP; rfl, hb⟩
          · simp (disch := omega) only [ltE, bnE, bn2E, gdE, nc, nI_add, n_mul, n_sub, ib_nI, up_hit, up_miss, n_le, n_lt, n_eq, n_eq0, n_lt0, n_0le, n_0lt, n_le0, zb_0, zb_1, if_pos, if_neg, ↓reduceIte, Nat.reduceAdd, Nat.reduceMul, Nat.reduceSub, z1, z6, s1, Nat.reduceEqDiff]
          · simp (disch := omega) only [ltE, bnE, bn2E, gdE, nc, nI_add, n_mul, n_sub, ib_nI, up_hit, up_miss, n_le, n_lt, n_eq, n_eq0, n_lt0, n_0le, n_0lt, n_le0, zb_0, zb_1, if_pos, if_neg, ↓reduceIte, Nat.reduceAdd, Nat.reduceMul, Nat.reduceSub, s2, z5, fX12_nameOf_26, Nat.reduceEqDiff]
      · right
        refine ⟨?_, Or.inr ?_⟩
        · by_cases q4 : v = 112
          · simp (disch := omega) only [ltE, bnE, bn2E, gdE, nc, nI_add, n_mul, n_sub, ib_nI, up_hit, up_miss, n_le, n_lt, n_eq, n_eq0, n_lt0, n_0le, n_0lt, n_le0, zb_0, zb_1, if_pos, if_neg, ↓reduceIte, Nat.reduceAdd, Nat.reduceMul, Nat.reduceSub, z1, z6, q4, s1, show ¬ key = 1 from fun e => q3 (Or.inr ⟨e, q4⟩), Nat.reduceEqDiff]
          · by_cases q5 : v = 119
            · simp (disch := omega) only [ltE, bnE, bn2E, gdE, nc, nI_add, n_mul, n_sub, ib_nI, up_hit, up_miss, n_le, n_lt, n_eq, n_eq0, n_lt0, n_0le, n_0lt, n_le0, zb_0, zb_1, if_pos, if_neg, ↓reduceIte, Nat.reduceAdd, Nat.reduceMul, Nat.reduceSub, z1, z6, q5, s1, show ¬ key = 0 from fun e => q3 (Or.inl ⟨e, q5⟩), Nat.reduceEqDiff]
            · simp (disch := omega) only [ltE, bnE, bn2E, gdE, nc, nI_add, n_mul, n_sub, ib_nI, up_hit, up_miss, n_le, n_lt, n_eq, n_eq0, n_lt0, n_0le, n_0lt, n_le0, zb_0, zb_1, if_pos, if_neg, ↓reduceIte, Nat.reduceAdd, Nat.reduceMul, Nat.reduceSub, z1, z6, q1, q2, q4, q5]
        · obtain ⟨y1, _⟩ := nI_m2 (b := v) (by omega)
          rcases hk3 with rfl | rfl | rfl
          · simp (disch := omega) only [ltE, bnE, bn2E, gdE, nc, nI_add, n_mul, n_sub, ib_nI, up_hit, up_miss, n_le, n_lt, n_eq, n_eq0, n_lt0, n_0le, n_0lt, n_le0, zb_0, zb_1, if_pos, if_neg, ↓reduceIte, Nat.reduceAdd, Nat.reduceMul, Nat.reduceSub, s2, z5, fX12_nameOf_26, q1, q2, show ¬ v = 119 from fun e => q3 (Or.inl ⟨rfl, e⟩)]
          · simp (disch := omega) only [ltE, bnE, bn2E, gdE, nc, nI_add, n_mul, n_sub, ib_nI, up_hit, up_miss, n_le, n_lt, n_eq, n_eq0, n_lt0, n_0le, n_0lt, n_le0, zb_0, zb_1, if_pos, if_neg, ↓reduceIte, Nat.reduceAdd, Nat.reduceMul, Nat.reduceSub, s2, z5, fX12_nameOf_26, q1, q2, show ¬ v = 112 from fun e => q3 (Or.inr ⟨rfl, e⟩), Nat.one_ne_zero]
          · simp (disch := omega) only [ltE, bnE, bn2E, gdE, nc, nI_add, n_mul, n_sub, ib_nI, up_hit, up_miss, n_le, n_lt, n_eq, n_eq0, n_lt0, n_0le, n_0lt, n_le0, zb_0, zb_1, if_pos, if_neg, ↓reduceIte, Nat.reduceAdd, Nat.reduceMul, Nat.reduceSub, s2, z5, fX12_nameOf_26, q1, q2, y1, Nat.reduceEqDiff]
    · right
      rw [if_neg q] at z7
      subst z7
      refine ⟨?_, Or.inl ?_⟩
      · simp (disch := omega) only [ltE, bnE, bn2E, gdE, nc, nI_add, n_mul, n_sub, ib_nI, up_hit, up_miss, n_le, n_lt, n_eq, n_eq0, n_lt0, n_0le, n_0lt, n_le0, zb_0, zb_1, if_pos, if_neg, ↓reduceIte, Nat.reduceAdd, Nat.reduceMul, Nat.reduceSub, z1, z6, Nat.reduceEqDiff]
      · rw [c2, c4, n_sub (by omega), n_eq (by omega) (by omega)]; omega
  · omega
  · omega
  · omega
end PA
