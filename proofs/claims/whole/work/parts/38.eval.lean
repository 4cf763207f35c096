/-! laws, worked out on a stack -/
theorem n_m1 {a : Nat} (h : 1 ≤ a) : nI a + (-1 : Int32) = nI (a - 1) := by
  have := pk_m1 (a - 1)
  rw [show a - 1 + 1 = a by omega] at this
  exact this
def twoS (c x y : Int32) : Int32 := (fX12_two 0 c x y).getD 0
theorem r_two {n : Nat} {c x y : Int32} : fX12_two n c x y = some (twoS c x y) := by
  unfold twoS fX12_two
  by_cases h : y = 0
  · simp only [h, if_true]
    repeat' split
    all_goals rfl
  · have : nz y = true := by simp [nz, h]
    simp only [h, if_false, gd_of this]
    repeat' split
    all_goals rfl
def stepS (fa : Nat → Int32) (c : Int32) (s : Nat × (Nat → Int32)) : Nat × (Nat → Int32) :=
  if c < 0 then (if c = -10 then (s.1, upd s.2 (s.1 - 1) (if s.2 (s.1 - 1) = 0 then nI 1 else nI 0)) else (s.1 - 1, upd s.2 (s.1 - 2) (twoS c (s.2 (s.1 - 2)) (s.2 (s.1 - 1)))))
  else (s.1 + 1, upd s.2 s.1 (if nI 10000 ≤ c then fa (c - nI 10000).toNatClampNeg else c))
def evS (a : Nat → Int32) (b : Nat) (fa : Nat → Int32) : Nat → Nat × (Nat → Int32)
  | 0 => (0, fun _ => 0)
  | k + 1 => stepS fa (a (b + k)) (evS a b fa k)
theorem evS_s {a : Nat → Int32} {b k : Nat} {fa : Nat → Int32} : evS a b fa (k + 1) = stepS fa (a (b + k)) (evS a b fa k) := rfl
theorem runH_s {a : Nat → Int32} {b mx k h' : Nat} (e : runH a b mx (k + 1) = some h') : ∃ h, runH a b mx k = some h ∧ hgt (a (b + k)) h = some h' ∧ h' ≤ mx := by
  have e1 : runH a b mx (k + 1) = (match runH a b mx k with
    | none => none
    | some h => match hgt (a (b + k)) h with
      | none => none
      | some h' => if h' ≤ mx then some h' else none) := rfl
  rw [e1] at e
  cases h1 : runH a b mx k with
  | none => rw [h1] at e; cases e
  | some h =>
    rw [h1] at e
    simp only [] at e
    cases h2 : hgt (a (b + k)) h with
    | none => rw [h2] at e; cases e
    | some h3 =>
      rw [h2] at e
      simp only [] at e
      split at e
      · cases e
        exact ⟨h, rfl, h2, by assumption⟩
      · cases e
theorem runH_pre {a : Nat → Int32} {b mx : Nat} : ∀ n x, runH a b mx n = some x → ∀ k, k ≤ n → ∃ h, runH a b mx k = some h
  | 0, x, e, k, hk => by rw [show k = 0 by omega]; exact ⟨x, e⟩
  | n + 1, x, e, k, hk => by
    by_cases q : k = n + 1
    · rw [q]; exact ⟨x, e⟩
    · obtain ⟨h, e1, _⟩ := runH_s e
      exact runH_pre n h e1 k (by omega)
theorem neg_lt {c : Int32} : c < 0 ↔ ¬ (0 ≤ c) := ⟨fun h => Int32.not_le.mpr h, fun h => Int32.not_le.mp h⟩
theorem evS_h {a : Nat → Int32} {b mx : Nat} {fa : Nat → Int32} : ∀ k h, runH a b mx k = some h → (evS a b fa k).1 = h
  | 0, h, e => by cases e; rfl
  | k + 1, h, e => by
    obtain ⟨h0, e0, e1, _⟩ := runH_s e
    have ih := evS_h (fa := fa) k h0 e0
    rw [evS_s]
    unfold stepS
    unfold hgt at e1
    by_cases q : a (b + k) < 0
    · rw [if_neg (neg_lt.mp q)] at e1
      rw [if_pos q]
      by_cases q2 : a (b + k) = -10
      · rw [if_pos q2] at e1
        rw [if_pos q2]
        split at e1
        · cases e1; exact ih
        · cases e1
      · rw [if_neg q2] at e1
        rw [if_neg q2]
        split at e1
        · cases e1
          show (evS a b fa k).1 - 1 = h0 - 1
          rw [ih]
        · cases e1
    · rw [if_pos (Decidable.not_not.mp (fun h => q (neg_lt.mpr h)))] at e1
      rw [if_neg q]
      cases e1
      show (evS a b fa k).1 + 1 = h0 + 1
      rw [ih]
/-- a code that stands for two things, and the class's byte of it -/
def isTw (c : Int32) (s : Nat) : Prop := (c = -1 ∧ s = 124) ∨ (c = -2 ∧ s = 38) ∨ (c = -3 ∧ s = 60) ∨ (c = -4 ∧ s = 61) ∨ (c = -5 ∧ s = 62) ∨ (c = -6 ∧ s = 43) ∨ (c = -7 ∧ s = 45) ∨ (c = -8 ∧ s = 42) ∨ (c = -9 ∧ s = 47)
theorem trP_c {key : Nat} {c p : Int32} (h : trP key c = some p) : (∃ k, k < 10000 ∧ c = nI k ∧ p = nI k) ∨ (c = nI 10000 ∧ p = nI 10115) ∨ (c = nI 10001 ∧ p = nI 10100) ∨ (c = nI 10002 ∧ ((key = 0 ∧ p = nI 10119) ∨ (key = 1 ∧ p = nI 10112))) ∨ (c = -10 ∧ p = nI 10033) ∨ ∃ s, isTw c s ∧ p = nI (10000 + s) := by
  unfold trP at h
  by_cases c1 : c = -1
  · rw [if_pos c1] at h; cases h; exact Or.inr (Or.inr (Or.inr (Or.inr (Or.inr ⟨124, by unfold isTw; simp [c1], rfl⟩))))
  rw [if_neg c1] at h
  by_cases c2 : c = -2
  · rw [if_pos c2] at h; cases h; exact Or.inr (Or.inr (Or.inr (Or.inr (Or.inr ⟨38, by unfold isTw; simp [c2], rfl⟩))))
  rw [if_neg c2] at h
  by_cases c3 : c = -3
  · rw [if_pos c3] at h; cases h; exact Or.inr (Or.inr (Or.inr (Or.inr (Or.inr ⟨60, by unfold isTw; simp [c3], rfl⟩))))
  rw [if_neg c3] at h
  by_cases c4 : c = -4
  · rw [if_pos c4] at h; cases h; exact Or.inr (Or.inr (Or.inr (Or.inr (Or.inr ⟨61, by unfold isTw; simp [c4], rfl⟩))))
  rw [if_neg c4] at h
  by_cases c5 : c = -5
  · rw [if_pos c5] at h; cases h; exact Or.inr (Or.inr (Or.inr (Or.inr (Or.inr ⟨62, by unfold isTw; simp [c5], rfl⟩))))
  rw [if_neg c5] at h
  by_cases c6 : c = -6
  · rw [if_pos c6] at h; cases h; exact Or.inr (Or.inr (Or.inr (Or.inr (Or.inr ⟨43, by unfold isTw; simp [c6], rfl⟩))))
  rw [if_neg c6] at h
  by_cases c7 : c = -7
  · rw [if_pos c7] at h; cases h; exact Or.inr (Or.inr (Or.inr (Or.inr (Or.inr ⟨45, by unfold isTw; simp [c7], rfl⟩))))
  rw [if_neg c7] at h
  by_cases c8 : c = -8
  · rw [if_pos c8] at h; cases h; exact Or.inr (Or.inr (Or.inr (Or.inr (Or.inr ⟨42, by unfold isTw; simp [c8], rfl⟩))))
  rw [if_neg c8] at h
  by_cases c9 : c = -9
  · rw [if_pos c9] at h; cases h; exact Or.inr (Or.inr (Or.inr (Or.inr (Or.inr ⟨47, by unfold isTw; simp [c9], rfl⟩))))
  rw [if_neg c9] at h
  by_cases c10 : c = -10
  · rw [if_pos c10] at h; cases h; exact Or.inr (Or.inr (Or.inr (Or.inr (Or.inl ⟨c10, rfl⟩))))
  rw [if_neg c10] at h
  by_cases d0 : c = nI 10000
  · rw [if_pos d0] at h; cases h; exact Or.inr (Or.inl ⟨d0, rfl⟩)
  rw [if_neg d0] at h
  by_cases d1 : c = nI 10001
  · rw [if_pos d1] at h; cases h; exact Or.inr (Or.inr (Or.inl ⟨d1, rfl⟩))
  rw [if_neg d1] at h
  by_cases d2 : c = nI 10002
  · rw [if_pos d2] at h
    by_cases k0 : key = 0
    · rw [if_pos k0] at h; cases h; exact Or.inr (Or.inr (Or.inr (Or.inl ⟨d2, Or.inl ⟨k0, rfl⟩⟩)))
    rw [if_neg k0] at h
    by_cases k1 : key = 1
    · rw [if_pos k1] at h; cases h; exact Or.inr (Or.inr (Or.inr (Or.inl ⟨d2, Or.inr ⟨k1, rfl⟩⟩)))
    rw [if_neg k1] at h; cases h
  rw [if_neg d2] at h
  split at h
  · rename_i h1
    cases h
    exact Or.inl ⟨_, h1.1, h1.2, h1.2⟩
  · cases h
theorem joined_tw {n s : Nat} {c x y : Int32} (h : isTw c s) : fX2_joined n (nI s) x y = some (twoS c x y) := by
  rw [← r_two (n := n)]
  rcases h with ⟨rfl, rfl⟩ | ⟨rfl, rfl⟩ | ⟨rfl, rfl⟩ | ⟨rfl, rfl⟩ | ⟨rfl, rfl⟩ | ⟨rfl, rfl⟩ | ⟨rfl, rfl⟩ | ⟨rfl, rfl⟩ | ⟨rfl, rfl⟩ <;> rfl
theorem isTw_b {c : Int32} {s : Nat} (h : isTw c s) : c < 0 ∧ ¬ c = -10 ∧ s < 97 ∨ c < 0 ∧ ¬ c = -10 ∧ s = 124 := by
  rcases h with ⟨rfl, rfl⟩ | ⟨rfl, rfl⟩ | ⟨rfl, rfl⟩ | ⟨rfl, rfl⟩ | ⟨rfl, rfl⟩ | ⟨rfl, rfl⟩ | ⟨rfl, rfl⟩ | ⟨rfl, rfl⟩ | ⟨rfl, rfl⟩ <;> decide
