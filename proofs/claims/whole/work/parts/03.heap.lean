/-! memory: a row of ints a cell; layout of the new cells by their number from the law's start on -/
abbrev Mm : Type := Nat → Nat → Int32
def upR (m : Mm) (a : Nat) (r : Nat → Int32) : Mm := fun b => if b = a then r else m b
def up (m : Mm) (a k : Nat) (v : Int32) : Mm := upR m a (upd (m a) k v)
def layT : List (Nat × Nat) := [(11, 0), (10, 0), (1, 0), (20, 6), (20, 6), (20, 6), (7, 0), (20, 20), (20, 20), (20, 20), (8, 0), (20, 40), (20, 40), (20, 40), (20, 40), (25, 14), (20, 3), (20, 60), (7, 0), (20, 20), (20, 20), (20, 20), (4, 0), (20, 8), (20, 8), (10, 0), (1, 0), (20, 6), (20, 6), (20, 6), (7, 0), (20, 20), (20, 20), (20, 20), (8, 0), (20, 40), (20, 40), (20, 40), (20, 40), (25, 14), (20, 3), (20, 60), (7, 0), (20, 20), (20, 20), (20, 20), (4, 0), (20, 8), (20, 8), (10, 0), (1, 0), (20, 6), (20, 6), (20, 6), (7, 0), (20, 20), (20, 20), (20, 20), (8, 0), (20, 40), (20, 40), (20, 40), (20, 40), (25, 14), (20, 3), (20, 60), (7, 0), (20, 20), (20, 20), (20, 20), (4, 0), (20, 8), (20, 8), (23, 4), (5, 0), (20, 24), (5, 0), (20, 24), (5, 0), (20, 24), (5, 0), (20, 24), (24, 5), (6, 0), (5, 0), (20, 24), (6, 0), (5, 0), (20, 24), (6, 0), (5, 0), (20, 24), (6, 0), (5, 0), (20, 24), (6, 0), (5, 0), (20, 24), (20, 60), (3, 0), (9, 0), (20, 96), (20, 96), (0, 0), (20, 60), (21, 60), (20, 73), (12, 0), (20, 1719), (20, 1719), (20, 1719), (20, 96), (22, 14), (20, 4), (20, 96), (20, 96), (21, 10), (20, 96), (20, 4), (20, 60), (21, 60), (20, 4), (20, 4), (20, 96), (20, 5), (20, 5), (20, 5), (20, 120), (20, 24), (20, 60)]
def lay (k : Nat) : Nat × Nat := if k < 130 then layT.getD k (20, 0) else if (k - 130) % 3 = 0 then (2, 0) else (26, 0)
def kdT : List (List Nat) := [[0, 0, 0, 0, 1, 2, 3], [1, 2, 3, 0], [0, 0, 1, 2], [1, 3, 0, 0, 0], [1, 2, 0], [0, 0, 1], [0, 0, 0, 0, 1], [1, 2, 3, 0, 0], [1, 2, 3, 4, 0], [1, 0, 0, 0, 0, 0], [0, 0, 0, 0, 0, 0, 1, 5, 9, 14, 0, 15, 16, 0, 17, 21], [1, 25, 49, 0, 73, 82, 98, 0, 99, 103], [1, 2, 3, 0, 4, 0, 0, 0, 0, 0, 0, 0, 5, 6, 7, 0, 0, 8, 0, 9, 10, 11, 12, 13, 14, 15, 16, 17, 18, 19, 20, 21, 22, 0]]
def kd (ci j : Nat) : Nat := (kdT.getD ci []).getD j 0
def nFT : List Nat := [7, 4, 4, 5, 3, 3, 5, 5, 5, 6, 16, 10, 34]
def fvv (z k d : Nat) (x : Int32) : Value := if d = 0 then .int x else .ref (z + (k + d))
def obF (z k ci : Nat) (r : Nat → Int32) : List Value := (List.range (nFT.getD ci 0)).map (fun j => fvv z k (kd ci j) (r j))
def lref (z : Nat) (v : Int32) : Option Nat := if v = 0 then none else some (z + (130 + 3 * (v.toNatClampNeg - 1)))
def cE (z k : Nat) (cA : Nat → ClassId) (sh : Nat × Nat) (r : Nat → Int32) : va_E :=
  if sh.1 < 13 then .inr (sh.1, obF z k sh.1 r)
  else if sh.1 = 20 then .inl (cA 0, sh.2, .inl r)
  else if sh.1 = 21 then .inl (cA 1, sh.2, .inl r)
  else if sh.1 = 22 then .inl (cA 2, sh.2, .inl r)
  else if sh.1 = 23 then .inl (cA 3, sh.2, .inr (.inr (.inr (.inr (fun i => some (z + (k + 1 + 2 * i)))))))
  else if sh.1 = 24 then .inl (cA 4, sh.2, .inr (.inr (.inr (.inr (fun i => some (z + (k + 1 + 3 * i)))))))
  else if sh.1 = 25 then .inl (cA 5, sh.2, .inr (.inr (.inr (.inr (fun i => lref z (r i))))))
  else .inl (cA 0, (r 5000).toNatClampNeg, .inl r)
def rowOf (f m : Mm) (k : Nat) : Nat → Int32 := if 107 ≤ k ∧ k < 130 then m k else f k
def CL (z : Nat) (cA : Nat → ClassId) (N : Nat) (f m : Mm) : va_W := (List.range (130 + 3 * N)).map (fun k => (z + k, cE z k cA (lay k) (rowOf f m k)))
theorem CL_at {z : Nat} {cA : Nat → ClassId} {N : Nat} {f m : Mm} {k : Nat} (h : k < 130 + 3 * N) : (CL z cA N f m)[k]? = some (z + k, cE z k cA (lay k) (rowOf f m k)) := by
  simp [CL, h]
theorem CL_len {z : Nat} {cA : Nat → ClassId} {N : Nat} {f m : Mm} : (CL z cA N f m).length = 130 + 3 * N := by simp [CL]
theorem CL_D {z : Nat} {cA : Nat → ClassId} {N : Nat} {f m : Mm} : va_D (fun q => z ≤ q) (CL z cA N f m) := by
  have g : ∀ (k : Nat) (q : Nat × va_E), (CL z cA N f m)[k]? = some q → q.1 = z + k := by
    intro k q h
    have hk : k < 130 + 3 * N := by
      have := (List.getElem?_eq_some_iff.mp h).1
      rwa [CL_len] at this
    rw [CL_at hk] at h
    exact (congrArg Prod.fst (Option.some.inj h)).symm
  refine ⟨fun i j p q hi hj hpq => ?_, fun k q h => ?_⟩
  · have := g i p hi
    have := g j q hj
    omega
  · show z ≤ q.1
    rw [g k q h]
    exact Nat.le_add_right _ _
theorem rowOf_F {f m : Mm} {k : Nat} (h : ¬ (107 ≤ k ∧ k < 130)) : rowOf f m k = f k := if_neg h
theorem rowOf_M {f m : Mm} {k : Nat} (h : 107 ≤ k ∧ k < 130) : rowOf f m k = m k := if_pos h
theorem CL_setF {z : Nat} {cA : Nat → ClassId} {N : Nat} {f m : Mm} {k : Nat} {r : Nat → Int32} (hk : ¬ (107 ≤ k ∧ k < 130)) : (CL z cA N f m).set k (z + k, cE z k cA (lay k) r) = CL z cA N (upR f k r) m := by
  apply List.ext_getElem?
  intro i
  by_cases hi : i < 130 + 3 * N
  · rw [List.getElem?_set, CL_at hi, CL_at hi, CL_len]
    by_cases e : k = i
    · subst e
      rw [if_pos rfl, if_pos hi, rowOf_F hk]
      simp [upR]
    · rw [if_neg e]
      by_cases h2 : 107 ≤ i ∧ i < 130
      · rw [rowOf_M h2, rowOf_M h2]
      · rw [rowOf_F h2, rowOf_F h2]
        simp [upR, Ne.symm e]
  · have h1 : ∀ w : va_W, w.length = 130 + 3 * N → w[i]? = none := fun w h => List.getElem?_eq_none (by omega)
    rw [h1 _ (by rw [List.length_set, CL_len]), h1 _ CL_len]
theorem CL_setM {z : Nat} {cA : Nat → ClassId} {N : Nat} {f m : Mm} {k : Nat} {r : Nat → Int32} (hk : 107 ≤ k ∧ k < 130) : (CL z cA N f m).set k (z + k, cE z k cA (lay k) r) = CL z cA N f (upR m k r) := by
  apply List.ext_getElem?
  intro i
  by_cases hi : i < 130 + 3 * N
  · rw [List.getElem?_set, CL_at hi, CL_at hi, CL_len]
    by_cases e : k = i
    · subst e
      rw [if_pos rfl, if_pos hi, rowOf_M hk]
      simp [upR]
    · rw [if_neg e]
      by_cases h2 : 107 ≤ i ∧ i < 130
      · rw [rowOf_M h2, rowOf_M h2]
        simp [upR, Ne.symm e]
      · rw [rowOf_F h2, rowOf_F h2]
  · have h1 : ∀ w : va_W, w.length = 130 + 3 * N → w[i]? = none := fun w h => List.getElem?_eq_none (by omega)
    rw [h1 _ (by rw [List.length_set, CL_len]), h1 _ CL_len]
theorem obF_at {z k ci j : Nat} {r : Nat → Int32} (h : j < nFT.getD ci 0) : (obF z k ci r)[j]? = some (fvv z k (kd ci j) (r j)) := by
  simp only [obF, List.getElem?_map, List.getElem?_range h, Option.map_some]
theorem obF_set {z k ci j : Nat} {r : Nat → Int32} {x : Int32} (h : j < nFT.getD ci 0) (hd : kd ci j = 0) : (obF z k ci r).set j (.int x) = obF z k ci (upd r j x) := by
  apply List.ext_getElem?
  intro i
  by_cases hi : i < nFT.getD ci 0
  · rw [List.getElem?_set, obF_at hi, obF_at hi]
    by_cases e : j = i
    · subst e
      rw [if_pos rfl, if_pos (by simpa [obF] using h), fvv, if_pos hd]
      simp [upd]
    · rw [if_neg e]
      simp [upd, Ne.symm e]
  · have h1 : ∀ w : List Value, w.length = nFT.getD ci 0 → w[i]? = none := fun w h => List.getElem?_eq_none (by omega)
    rw [h1 _ (by simp [obF]), h1 _ (by simp [obF])]
/-- where a cell stands: of the class's own side (f), of the reference's (m) -/
def AF (N k : Nat) (sh : Nat × Nat) : Prop := (k < 107 ∨ (130 ≤ k ∧ k < 130 + 3 * N)) ∧ lay k = sh
def AM (k : Nat) (sh : Nat × Nat) : Prop := (107 ≤ k ∧ k < 130) ∧ lay k = sh
theorem AF.lt {N k : Nat} {sh : Nat × Nat} (h : AF N k sh) : k < 130 + 3 * N := by rcases h.1 with h1 | h1 <;> omega
theorem AF.no {N k : Nat} {sh : Nat × Nat} (h : AF N k sh) : ¬ (107 ≤ k ∧ k < 130) := by rcases h.1 with h1 | h1 <;> omega
theorem AM.lt {N k : Nat} {sh : Nat × Nat} (h : AM k sh) : k < 130 + 3 * N := by have := h.1; omega
theorem AF.lit {N k : Nat} {sh : Nat × Nat} (h : (decide (k < 107) && decide (lay k = sh)) = true) : AF N k sh := by
  simp only [Bool.and_eq_true, decide_eq_true_eq] at h
  exact ⟨Or.inl h.1, h.2⟩
theorem AM.lit {k : Nat} {sh : Nat × Nat} (h : (decide (107 ≤ k) && decide (k < 130) && decide (lay k = sh)) = true) : AM k sh := by
  simp only [Bool.and_eq_true, decide_eq_true_eq] at h
  exact ⟨h.1, h.2⟩
/-- a class's block at o: its cells' shapes -/
def blkT : List (List (Nat × Nat)) := [[(0, 0), (20, 60), (21, 60), (20, 73)], [(1, 0), (20, 6), (20, 6), (20, 6)], [], [(3, 0), (9, 0), (20, 96), (20, 96)], [(4, 0), (20, 8), (20, 8)], [(5, 0), (20, 24)], [(6, 0), (5, 0), (20, 24)], [(7, 0), (20, 20), (20, 20), (20, 20)], [(8, 0), (20, 40), (20, 40), (20, 40), (20, 40)], [(9, 0), (20, 96)], [(10, 0), (1, 0), (20, 6), (20, 6), (20, 6), (7, 0), (20, 20), (20, 20), (20, 20), (8, 0), (20, 40), (20, 40), (20, 40), (20, 40), (25, 14), (20, 3), (20, 60), (7, 0), (20, 20), (20, 20), (20, 20), (4, 0), (20, 8), (20, 8)], [(11, 0), (10, 0), (1, 0), (20, 6), (20, 6), (20, 6), (7, 0), (20, 20), (20, 20), (20, 20), (8, 0), (20, 40), (20, 40), (20, 40), (20, 40), (25, 14), (20, 3), (20, 60), (7, 0), (20, 20), (20, 20), (20, 20), (4, 0), (20, 8), (20, 8), (10, 0), (1, 0), (20, 6), (20, 6), (20, 6), (7, 0), (20, 20), (20, 20), (20, 20), (8, 0), (20, 40), (20, 40), (20, 40), (20, 40), (25, 14), (20, 3), (20, 60), (7, 0), (20, 20), (20, 20), (20, 20), (4, 0), (20, 8), (20, 8), (10, 0), (1, 0), (20, 6), (20, 6), (20, 6), (7, 0), (20, 20), (20, 20), (20, 20), (8, 0), (20, 40), (20, 40), (20, 40), (20, 40), (25, 14), (20, 3), (20, 60), (7, 0), (20, 20), (20, 20), (20, 20), (4, 0), (20, 8), (20, 8), (23, 4), (5, 0), (20, 24), (5, 0), (20, 24), (5, 0), (20, 24), (5, 0), (20, 24), (24, 5), (6, 0), (5, 0), (20, 24), (6, 0), (5, 0), (20, 24), (6, 0), (5, 0), (20, 24), (6, 0), (5, 0), (20, 24), (6, 0), (5, 0), (20, 24), (20, 60), (3, 0), (9, 0), (20, 96), (20, 96), (0, 0), (20, 60), (21, 60), (20, 73)], []]
def rg (ci o : Nat) : Prop := o + (blkT.getD ci []).length ≤ 107 ∧ ∀ j, j < (blkT.getD ci []).length → lay (o + j) = (blkT.getD ci []).getD j (99, 0)
theorem rg.at {ci o N : Nat} (h : rg ci o) (j : Nat) {sh : Nat × Nat} (hj : (blkT.getD ci [])[j]? = some sh) : AF N (o + j) sh := by
  have hl : j < (blkT.getD ci []).length := (List.getElem?_eq_some_iff.mp hj).1
  refine ⟨Or.inl (by have := h.1; omega), ?_⟩
  rw [h.2 j hl, List.getD_eq_getElem?_getD, hj]
  rfl
theorem rg.at0 {ci o N : Nat} (h : rg ci o) {sh : Nat × Nat} (hj : (blkT.getD ci [])[0]? = some sh) : AF N o sh := h.at 0 hj
theorem rg.sub {ci cj o : Nat} (h : rg ci o) (d : Nat) (hd : (((List.range (blkT.getD cj []).length).all (fun j => decide ((blkT.getD ci []).getD (d + j) (99, 0) = (blkT.getD cj []).getD j (99, 0)))) && decide (d + (blkT.getD cj []).length ≤ (blkT.getD ci []).length)) = true) : rg cj (o + d) := by
  simp only [Bool.and_eq_true, decide_eq_true_eq, List.all_eq_true, List.mem_range] at hd
  refine ⟨by have := h.1; omega, fun j hj => ?_⟩
  rw [← hd.1 j hj, Nat.add_assoc]
  exact h.2 (d + j) (by omega)
theorem rg.lit {ci o : Nat} (h : ((decide (o + (blkT.getD ci []).length ≤ 107)) && (List.range (blkT.getD ci []).length).all (fun j => decide (lay (o + j) = (blkT.getD ci []).getD j (99, 0)))) = true) : rg ci o := by
  simp only [Bool.and_eq_true, decide_eq_true_eq, List.all_eq_true, List.mem_range] at h
  exact h
/-- a law of the pool -/
def lk (N : Nat) (a : Nat) : Prop := ∃ j, j < N ∧ a = 130 + 3 * j
theorem lk.a0 {N a : Nat} (h : lk N a) : AF N a (2, 0) := by
  obtain ⟨j, hj, rfl⟩ := h
  refine ⟨Or.inr (by omega), ?_⟩
  simp [lay, show ¬ (130 + 3 * j < 130) by omega, show (130 + 3 * j - 130) % 3 = 0 by omega]
theorem lk.a1 {N a : Nat} (h : lk N a) : AF N (a + 1) (26, 0) := by
  obtain ⟨j, hj, rfl⟩ := h
  refine ⟨Or.inr (by omega), ?_⟩
  unfold lay
  rw [if_neg (by omega), if_neg (by omega)]
theorem lk.a2 {N a : Nat} (h : lk N a) : AF N (a + 2) (26, 0) := by
  obtain ⟨j, hj, rfl⟩ := h
  refine ⟨Or.inr (by omega), ?_⟩
  unfold lay
  rw [if_neg (by omega), if_neg (by omega)]
/-! the ghost names, the standing facts, the heap -/
abbrev GE : Type := Nat × va_G × (Nat → ClassId) × Heap × (Nat → Nat) × (Nat → Nat)
def gz (G : GE) : Nat := G.1
def gD (G : GE) : va_G := G.2.1
def gA (G : GE) : Nat → ClassId := G.2.2.1
def gH (G : GE) : Heap := G.2.2.2.1
def gK (G : GE) : Nat → Nat := G.2.2.2.2.1
def gV (G : GE) : Nat → Nat := G.2.2.2.2.2
def tyG (cA : Nat → ClassId) : List (ClassId × FieldType) := [(cA 0, .int), (cA 1, .boolean), (cA 2, .char), (cA 3, .object "FluxWatch$Sheet"), (cA 4, .object "FluxWatch$Slot"), (cA 5, .object "FluxWatch$Law")]
def isNest : Cond → Bool
  | .methodLinkNest _ _ _ _ => true
  | _ => false
def nwT : List Cond := lw_tbl.filter isNest
def STa (G : GE) (n : String) (xs : List Int32) (U : State) : Prop := ∃ b : Nat, b < gz G ∧ va_Z "FluxWatch" n "[I" (.ref b) (fun q => gz G ≤ q) U (gH G) ∧ va_T .int b xs.length (fun j => .int (xs.getD j 0)) (fun q => gz G ≤ q) U (gH G)
def STc (G : GE) (U : State) : Prop := STa G "ABOVE" [-1, 0, 0, 1, 2, 0] U ∧ STa G "LEAST" [1, 0, 0, 0] U ∧ STa G "MOST" [999, 99, 10000, 1] U ∧ va_Z "java/lang/String" "COMPACT_STRINGS" "Z" (.int 1) (fun q => gz G ≤ q) U (gH G) ∧ vk_S 3 [4, 5, 5] [[114, 97, 116, 101], [107, 110, 111, 99, 107], [115, 116, 97, 114, 115]] (gK G) (gV G) (fun q => gz G ≤ q) U (gH G) ∧ vk_R "FluxWatch$LawReader" 60 "rate" (gK G 0) U ∧ vk_R "FluxWatch$LawReader" 66 "knock" (gK G 1) U ∧ vk_R "FluxWatch$LawReader" 68 "stars" (gK G 2) U ∧ va_Zq "jdk/internal/util/Preconditions" "SIOOBE_FORMATTER" "Ljava/util/function/BiFunction;" (fun q => gz G ≤ q) U (gH G)
def KG (G : GE) (U : State) : Prop := va_K (gD G) vwCl (tyG (gA G)) U ∧ (∀ w ∈ nwT, va_Nw w U) ∧ STc G U ∧ (gH G).size = gz G
theorem STa.moved {G : GE} {n : String} {xs : List Int32} {u U : State} (hv : u.vm.Alike U.vm) (h : STa G n xs u) : STa G n xs U := by
  obtain ⟨b, h1, h2, h3⟩ := h
  exact ⟨b, h1, va_Z.moved hv h2, va_T.moved hv h3⟩
theorem KG.warm {G : GE} {s U : State} (hW : s.WarmedH U.vm) (h : KG G s) : KG G U := by
  obtain ⟨h1, h2, ⟨a1, a2, a3, a4, a5, a6, a7, a8, a9⟩, h4⟩ := h
  have hv : s.vm.Alike U.vm := hW.alike
  refine ⟨va_K.moved hv h1, fun w hw => ?_, ⟨a1.moved hv, a2.moved hv, a3.moved hv, va_Z.moved hv a4, vk_S.moved hv a5, vk_R.warm hW a6, vk_R.warm hW a7, vk_R.warm hW a8, va_Zq.moved hv a9⟩, h4⟩
  have h3 := (List.mem_filter.mp hw).2
  have h5 := h2 w hw
  cases w <;> first | (exact va_Nw.warmM hW h5) | (simp [isNest] at h3)
theorem KG.same {G : GE} {s U : State} (hv : U.vm = s.vm) (h : KG G s) : KG G U := by
  obtain ⟨h1, h2, ⟨a1, a2, a3, a4, a5, a6, a7, a8, a9⟩, h4⟩ := h
  have ha : s.vm.Alike U.vm := by rw [hv]; exact Vm.Alike.refl _
  refine ⟨va_K.moved ha h1, fun w hw => ?_, ⟨a1.moved ha, a2.moved ha, a3.moved ha, va_Z.moved ha a4, vk_S.moved ha a5, vk_R.same hv a6, vk_R.same hv a7, vk_R.same hv a8, va_Zq.moved ha a9⟩, h4⟩
  have h3 := (List.mem_filter.mp hw).2
  have h5 := h2 w hw
  cases w <;> first | (exact va_Nw.same rfl hv.symm h5) | (simp [isNest] at h3)
def RP (G : GE) (N : Nat) (f m : Mm) (H : Heap) : Prop := va_P (gD G) vwCl (CL (gz G) (gA G) N f m) H ∧ H.size = gz G + (130 + 3 * N) ∧ ∀ q : Nat, q < gz G → H[q]? = (gH G)[q]?
/-! the judgement -/
abbrev VE : Type := Program × Launch × Env × Room × State × MethodId × Array Value × List Frame × Method × Code
def WX (V : VE) (G : GE) (N : Nat) (f m : Mm) (ce sl : Nat) (Q : State → Prop) (pc : Nat) (ls : Array Slot) (st : List Value) : Prop :=
  ∀ (H : Heap) (locs : List Loc), RP G N f m H → va_S (fun q => gz G ≤ q) V.2.2.2.2.1.heap H locs → W V.1 V.2.1 V.2.2.1 V.2.2.2.1 V.2.2.2.2.1 V.2.2.2.2.2.1 V.2.2.2.2.2.2.1 V.2.2.2.2.2.2.2.1 V.2.2.2.2.2.2.2.2.1 V.2.2.2.2.2.2.2.2.2 H locs ce sl Q (F0 V.2.2.2.2.2.1 pc ls st)
def CX (V : VE) (G : GE) (cc : ByteArray) (nL : Nat) (own : String) (ret : Option FieldType) : Prop :=
  V.1.tables.exec = Jvm.exec ∧ V.2.2.2.2.2.2.2.2.2.code = cc ∧ V.2.2.2.2.2.2.2.2.2.maxLocals = nL ∧ V.2.2.2.2.1.vm.findClass own = some V.2.2.2.2.2.1.cls ∧ (∀ w ∈ gT, w.before V.2.2.2.2.2.2.1 V.2.2.2.2.1 = true) ∧ V.2.2.2.2.2.2.2.2.1.sig.returnType = ret ∧ V.2.2.2.2.2.2.2.2.1.locks = false ∧ KG G V.2.2.2.2.1
def QX (G : GE) (v : Option Value) (N : Nat) (f m : Mm) : Array Value → State → Outcome → State → Prop := fun _ s0 o t => o = .returned v ∧ RP G N f m t.heap ∧ va_F (fun q => gz G ≤ q) s0 t
def PX (G : GE) (av : List Value) (N : Nat) (f m : Mm) : Array Value → State → Prop := va_Pc av (fun U => KG G U ∧ RP G N f m U.heap)
def QQ (V : VE) (G : GE) (v : Option Value) (N : Nat) (f m : Mm) (mc ms : Nat) : State → Prop := MQ V.2.2.2.2.2.2.2.1 (QX G v N f m) V.2.2.2.2.2.2.1 V.2.2.2.2.1 mc ms (fun q => gz G ≤ q)
def MT (l : Launch) (G : GE) (y : MethodName) (cc : ByteArray) (nL : Nat) (ret : Option FieldType) (rm : Room) (av : List Value) (N : Nat) (f m : Mm) (v : Option Value) (N' : Nat) (f' m' : Mm) : Prop :=
  Met l y (.code y cc nL ret :: gT) rm (PX G av N f m) (QX G v N' f' m') rm.cells rm.slots (fun q => gz G ≤ q)
theorem MT.of {l : Launch} {G : GE} {y : MethodName} {cc : ByteArray} {nL : Nat} {ret : Option FieldType} {rm : Room} {av : List Value} {N : Nat} {f m : Mm} {v : Option Value} {N' : Nat} {f' m' : Mm} (hy : plainName y.cls = true) (hn : (lg_sl av).length ≤ nL)
    (body : ∀ (V : VE) (ls : Array Slot), V.2.1 = l → V.2.2.2.1 = rm → CX V G cc nL y.cls ret → lv_has ls nL (lv_args 0 av) → WX V G N f m 0 0 (QQ V G v N' f' m' rm.cells rm.slots) 0 ls []) : MT l G y cc nL ret rm av N f m v N' f' m' := by
  refine Met.ofW (cc := cc) (maxL := nL) (ret := ret) hy rfl ?_
  intro p e s mm args below meth c s₁ B hml hv
  obtain ⟨rfl, hK, hP⟩ := hv
  have hts := atoms_spec (ws := Cond.code y cc nL ret :: gT) B.pre
  rw [lg_entry_eq]
  exact body (p, l, e, rm, s, mm, av.toArray, below, meth, c) _ rfl rfl ⟨B.exec, B.bytes, hml, findClass_of_methodNamed B.named, fun w h => hts w (List.mem_cons_of_mem _ h), B.returns, B.notSynchronized, hK⟩ (lv_entry av hn) s.heap [] hP va_S.rf
