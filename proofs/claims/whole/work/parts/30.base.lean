/-! the pure side: numbers, memory, loops -/
theorem lt_eq {α β : Type} {x : α} {k : α → β} : lt x k = k x := rfl
theorem bn_s {α β : Type} {a : α} {k : α → Option β} : bn (some a) k = k a := rfl
theorem bn2_s {α β γ : Type} {a : α} {b : β} {k : α → β → Option γ} : bn2 (some (a, b)) k = k a b := rfl
theorem gd_t {α : Type} {k : Option α} : gd true k = k := rfl
theorem gd_of {α : Type} {b : Bool} {k : Option α} (h : b = true) : gd b k = k := by rw [h]; rfl
theorem ib_nI {i n : Nat} (h : i < n) (hn : n < 2147483648) : ib (nI i) n = true := by
  have := nI_in h hn
  simpa [ib] using this
theorem nc {n : Nat} (h : n < 2147483648) : (nI n).toNatClampNeg = n := nI_clamp h
theorem n_le {a b : Nat} (ha : a < 2147483648) (hb : b < 2147483648) : (nI a ≤ nI b) = (a ≤ b) := propext (nI_leI ha hb)
theorem n_lt {a b : Nat} (ha : a < 2147483648) (hb : b < 2147483648) : (nI a < nI b) = (a < b) := propext (nI_ltI ha hb)
theorem n_eq {a b : Nat} (ha : a < 2147483648) (hb : b < 2147483648) : (nI a = nI b) = (a = b) := propext (nI_eq ha hb)
theorem n_eq0 {a : Nat} (ha : a < 2147483648) : (nI a = 0) = (a = 0) := n_eq (b := 0) ha (by omega)
theorem n_lt0 {a : Nat} (ha : a < 2147483648) : (nI a < 0) = False := propext ⟨fun h => nI_pos ha h, False.elim⟩
theorem n_0le {a : Nat} (ha : a < 2147483648) : (0 ≤ nI a) = True := propext ⟨fun _ => trivial, fun _ => nI_pos' ha⟩
theorem n_0lt {a : Nat} (ha : a < 2147483648) : (0 < nI a) = (0 < a) := n_lt (a := 0) (by omega) ha
theorem n_le0 {a : Nat} (ha : a < 2147483648) : (nI a ≤ 0) = (a = 0) := by
  have := n_le (b := 0) ha (by omega)
  rw [show (nI 0 : Int32) = 0 from rfl] at this
  rw [this]
  exact propext ⟨fun h => by omega, fun h => by omega⟩
theorem n_sub {a b : Nat} (h : b ≤ a) : nI a - nI b = nI (a - b) := pk_sub h
theorem up_at {m : Mm} {a k b j : Nat} {v : Int32} : up m a k v b j = if b = a ∧ j = k then v else m b j := by
  unfold up upR upd
  by_cases h : b = a
  · subst h
    by_cases h2 : j = k <;> simp [h2]
  · simp [h]
theorem up_row {m : Mm} {a k b : Nat} {v : Int32} : up m a k v b = if b = a then upd (m a) k v else m b := rfl
theorem up_self {m : Mm} {a k : Nat} {v : Int32} : up m a k v a = upd (m a) k v := if_pos rfl
theorem up_ne {m : Mm} {a k b : Nat} {v : Int32} (h : b ≠ a) : up m a k v b = m b := if_neg h
theorem upd_at {g : Nat → Int32} {k j : Nat} {v : Int32} : upd g k v j = if j = k then v else g j := rfl
/-- counting, adding, finding below n -/
def cnt (p : Nat → Bool) : Nat → Nat
  | 0 => 0
  | n + 1 => cnt p n + (if p n then 1 else 0)
def exs (p : Nat → Bool) : Nat → Bool
  | 0 => false
  | n + 1 => exs p n || p n
def smI (g : Nat → Int32) : Nat → Int32
  | 0 => 0
  | n + 1 => smI g n + g n
theorem cnt_le {p : Nat → Bool} : ∀ n, cnt p n ≤ n
  | 0 => Nat.le_refl _
  | n + 1 => by have := cnt_le (p := p) n; unfold cnt; split <;> omega
theorem cnt_congr {p q : Nat → Bool} : ∀ n, (∀ i, i < n → p i = q i) → cnt p n = cnt q n
  | 0, _ => rfl
  | n + 1, h => by unfold cnt; rw [cnt_congr n (fun i hi => h i (by omega)), h n (by omega)]
theorem exs_congr {p q : Nat → Bool} : ∀ n, (∀ i, i < n → p i = q i) → exs p n = exs q n
  | 0, _ => rfl
  | n + 1, h => by unfold exs; rw [exs_congr n (fun i hi => h i (by omega)), h n (by omega)]
theorem smI_congr {p q : Nat → Int32} : ∀ n, (∀ i, i < n → p i = q i) → smI p n = smI q n
  | 0, _ => rfl
  | n + 1, h => by unfold smI; rw [smI_congr n (fun i hi => h i (by omega)), h n (by omega)]
theorem exs_iff {p : Nat → Bool} : ∀ n, exs p n = true ↔ ∃ i, i < n ∧ p i = true
  | 0 => by simp [exs]
  | n + 1 => by
    unfold exs
    rw [Bool.or_eq_true, exs_iff n]
    constructor
    · rintro (⟨i, h1, h2⟩ | h)
      · exact ⟨i, by omega, h2⟩
      · exact ⟨n, by omega, h⟩
    · rintro ⟨i, h1, h2⟩
      by_cases e : i = n
      · subst e; exact Or.inr h2
      · exact Or.inl ⟨i, by omega, h2⟩
/-- a loop that counts up from i to n, with a state: what it gives when each round gives the next -/
theorem loopUp {σ ρ : Type} (F : Nat → Nat → σ → Option ρ) (n : Nat) (stp : Nat → σ → σ) (fin : σ → Option ρ)
    (hend : ∀ q s, F (q + 1) n s = fin s) (hstp : ∀ q i s, i < n → F (q + 1) i s = F q (i + 1) (stp i s)) :
    ∀ q i s, i ≤ n → n - i < q → F q i s = fin ((List.range' i (n - i)).foldl (fun s j => stp j s) s) := by
  intro q
  induction q with
  | zero => intro i s h1 h2; omega
  | succ q ih =>
    intro i s h1 h2
    by_cases e : i = n
    · subst e
      rw [hend, Nat.sub_self]
      rfl
    · rw [hstp q i s (by omega), ih (i + 1) _ (by omega) (by omega)]
      have e2 : n - i = (n - (i + 1)) + 1 := by omega
      rw [e2, List.range'_succ]
      rfl
theorem fold_cnt {p : Nat → Bool} : ∀ n c, (List.range' 0 n).foldl (fun s j => s + (if p j then nI 1 else nI 0)) (nI c) = nI (c + cnt p n) := by
  intro n
  induction n with
  | zero => intro c; rfl
  | succ n ih =>
    intro c
    rw [List.range'_concat, List.foldl_append, ih]
    simp only [List.foldl_cons, List.foldl_nil, Nat.zero_add, Nat.one_mul, cnt]
    cases p n <;> simp [nI_add, Nat.add_assoc]
/-- two loops side by side, from i up to n: they end together, or both go on, related -/
theorem loopSim {σ τ ρ π : Type} (F : Nat → Nat → σ → Option ρ) (K : Nat → Nat → τ → Option π) (n : Nat) (R : Nat → σ → τ → Prop) (Z : ρ → π → Prop)
    (hend : ∀ q s t, R n s t → ∃ r p, F (q + 1) n s = some r ∧ K (q + 1) n t = some p ∧ Z r p)
    (hstp : ∀ q i s t, i < n → R i s t → (∃ r p, F (q + 1) i s = some r ∧ K (q + 1) i t = some p ∧ Z r p) ∨ (∃ s' t', F (q + 1) i s = F q (i + 1) s' ∧ K (q + 1) i t = K q (i + 1) t' ∧ R (i + 1) s' t')) :
    ∀ q i s t, i ≤ n → n - i < q → R i s t → ∃ r p, F q i s = some r ∧ K q i t = some p ∧ Z r p := by
  intro q
  induction q with
  | zero => intro i s t h1 h2; omega
  | succ q ih =>
    intro i s t h1 h2 hR
    by_cases e : i = n
    · subst e
      exact hend q s t hR
    · rcases hstp q i s t (by omega) hR with h | ⟨s', t', e1, e2, h⟩
      · exact h
      · rw [e1, e2]
        exact ih (i + 1) s' t' (by omega) (by omega) h
/-- one loop, with an invariant that gives its result -/
theorem loopInv {σ ρ : Type} (F : Nat → Nat → σ → Option ρ) (n : Nat) (R : Nat → σ → Prop) (Z : ρ → Prop)
    (hend : ∀ q s, R n s → ∃ r, F (q + 1) n s = some r ∧ Z r)
    (hstp : ∀ q i s, i < n → R i s → (∃ r, F (q + 1) i s = some r ∧ Z r) ∨ (∃ s', F (q + 1) i s = F q (i + 1) s' ∧ R (i + 1) s')) :
    ∀ q i s, i ≤ n → n - i < q → R i s → ∃ r, F q i s = some r ∧ Z r := by
  intro q
  induction q with
  | zero => intro i s h1 h2; omega
  | succ q ih =>
    intro i s h1 h2 hR
    by_cases e : i = n
    · subst e
      exact hend q s hR
    · rcases hstp q i s (by omega) hR with h | ⟨s', e1, h⟩
      · exact h
      · rw [e1]
        exact ih (i + 1) s' (by omega) (by omega) h
theorem up_hit {m : Mm} {a k : Nat} {v : Int32} : up m a k v a k = v := by rw [up_at, if_pos ⟨rfl, rfl⟩]
theorem up_miss {m : Mm} {a k b j : Nat} {v : Int32} (h : b ≠ a ∨ j ≠ k) : up m a k v b j = m b j := by rw [up_at, if_neg (fun e => h.elim (fun g => g e.1) (fun g => g e.2))]
theorem n_mul {a b : Nat} : nI a * nI b = nI (a * b) := pk_mul a b
theorem zb_0 : zb (nI 0) = true := by decide
theorem zb_1 : zb (nI 1) = true := by decide
theorem rng (x : Int32) (lo hi : Nat) (hlo : lo < 2147483648) (hhi : hi < 2147483648) : x < nI lo ∨ nI hi < x ∨ ∃ j, lo ≤ j ∧ j ≤ hi ∧ x = nI j := by
  by_cases h1 : x < nI lo
  · exact Or.inl h1
  by_cases h2 : nI hi < x
  · exact Or.inr (Or.inl h2)
  refine Or.inr (Or.inr ?_)
  rw [Int32.lt_iff_toInt_lt, nI_toInt hlo] at h1
  rw [Int32.lt_iff_toInt_lt, nI_toInt hhi] at h2
  have h3 : ¬ x < 0 := by
    rw [Int32.lt_iff_toInt_lt]
    have : (0 : Int32).toInt = 0 := rfl
    omega
  obtain ⟨j, hj, rfl⟩ := nI_of h3
  rw [nI_toInt hj] at h1 h2
  exact ⟨j, by omega, by omega, rfl⟩
