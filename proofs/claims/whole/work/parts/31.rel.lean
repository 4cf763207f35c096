/-! what ties the class's memory to the reference's -/
def NONEi : Int32 := -1000000005
def hOK (x : Int32) : Prop := -999 ≤ x.toInt ∧ x.toInt ≤ 999
/-- the world's numbers -/
def cSc (f : Mm) (o : Nat) (a : Nat → Int32) : Prop :=
  f o 0 = a 1 ∧ f o 1 = a 4 ∧ f o 2 = a 2 ∧ f o 3 = a 3 ∧ f o 4 = a 5 ∧ f o 5 = a 0 ∧ (∃ d, d ≤ 2100 ∧ a 1 = nI d) ∧ (∃ b, b ≤ 10000 ∧ a 4 = nI b) ∧ (∃ w, 1 ≤ w ∧ w ≤ 999 ∧ a 2 = nI w) ∧ (∃ p, p ≤ 99 ∧ a 3 = nI p) ∧ (∃ x, x ≤ 1 ∧ a 5 = nI x)
/-- one coil's mate -/
def mtOK (f : Mm) (o : Nat) (a : Nat → Int32) (nc i : Nat) : Prop := (f (o + 4) i = NONEi ∧ a (15 + 3 * i) = -1) ∨ ∃ j, j < nc ∧ j ≠ i ∧ f (o + 4) i = nI j ∧ a (15 + 3 * i) = nI j ∧ a (15 + 3 * j) = nI i
def cCo (f : Mm) (o : Nat) (a : Nat → Int32) (nc : Nat) : Prop :=
  nc ≤ 6 ∧ f (o + 1) 3 = nI nc ∧ a 6 = nI nc ∧ (∀ i, i < nc → ∃ s, 1 ≤ s ∧ s ≤ 9 ∧ f (o + 2) i = nI s ∧ a (13 + 3 * i) = nI s) ∧ (∀ i, i < nc → f (o + 3) i = a (14 + 3 * i)) ∧ (∀ i, i < nc → mtOK f o a nc i)
def cWa (f : Mm) (o : Nat) (a : Nat → Int32) (nc nw : Nat) : Prop :=
  nw ≤ 20 ∧ f (o + 5) 4 = nI nw ∧ a 7 = nI nw ∧ f (o + 5) 3 = nI 20 ∧ (∀ i, i < nw → ∃ c, c < nc ∧ f (o + 6) i = nI c ∧ a (31 + 3 * i) = nI c) ∧ (∀ i, i < nw → f (o + 7) i = a (32 + 3 * i)) ∧ (∀ i, i < nw → f (o + 8) i = a (33 + 3 * i))
def cSt (f : Mm) (o : Nat) (a : Nat → Int32) (nc ns : Nat) : Prop :=
  ns ≤ 40 ∧ f (o + 9) 4 = nI ns ∧ a 8 = nI ns ∧ (∀ i, i < ns → ∃ k, k ≤ 5 ∧ f (o + 10) i = nI k ∧ a (91 + 4 * i) = nI k) ∧ (∀ i, i < ns → ∃ c, c < nc ∧ f (o + 11) i = nI c ∧ a (92 + 4 * i) = nI c) ∧ (∀ i, i < ns → f (o + 12) i = a (93 + 4 * i)) ∧ (∀ i, i < ns → f (o + 13) i = a (94 + 4 * i) ∧ hOK (a (94 + 4 * i)))
def cKn (f : Mm) (o : Nat) (a : Nat → Int32) (nk : Nat) : Prop := nk ≤ 60 ∧ f o 13 = nI nk ∧ a 10 = nI nk ∧ ∀ i, i < nk → f (o + 16) i = a (251 + i) ∧ hOK (a (251 + i))
def cKy (f : Mm) (o : Nat) (a : Nat → Int32) (ny : Nat) : Prop := ny ≤ 10 ∧ f (o + 17) 4 = nI ny ∧ a 11 = nI ny ∧ f (o + 17) 3 = nI 10 ∧ (∀ i, i < ny → f (o + 19) i = a (311 + 2 * i)) ∧ (∀ i, i < ny → f (o + 20) i = a (312 + 2 * i))
def cOf (f : Mm) (o : Nat) (a : Nat → Int32) (no : Nat) : Prop := no ≤ 8 ∧ f (o + 21) 2 = nI no ∧ a 12 = nI no ∧ (∀ i, i < no → ∃ s, 1 ≤ s ∧ s ≤ 9 ∧ f (o + 22) i = nI s ∧ a (331 + 2 * i) = nI s) ∧ (∀ i, i < no → ∃ p, p ≤ 999 ∧ f (o + 23) i = nI p ∧ a (332 + 2 * i) = nI p)
/-! laws: a piece of the class's, a code of the reference's; both run on a stack -/
/-- the class's piece for the reference's code, under a key -/
def trP (key : Nat) (c : Int32) : Option Int32 :=
  if c = -1 then some (nI 10124) else if c = -2 then some (nI 10038) else if c = -3 then some (nI 10060) else if c = -4 then some (nI 10061) else if c = -5 then some (nI 10062)
  else if c = -6 then some (nI 10043) else if c = -7 then some (nI 10045) else if c = -8 then some (nI 10042) else if c = -9 then some (nI 10047) else if c = -10 then some (nI 10033)
  else if c = nI 10000 then some (nI 10115) else if c = nI 10001 then some (nI 10100) else if c = nI 10002 then (if key = 0 then some (nI 10119) else if key = 1 then some (nI 10112) else none)
  else if c.toNatClampNeg < 10000 ∧ c = nI c.toNatClampNeg then some c else none
/-- how high the stack stands behind a code; none: it can't be run -/
def hgt (c : Int32) (h : Nat) : Option Nat := if 0 ≤ c then some (h + 1) else if c = -10 then (if 1 ≤ h then some h else none) else (if 2 ≤ h then some (h - 1) else none)
/-- the heights along a row of codes: never above the most, at the end one -/
def runH (a : Nat → Int32) (b mx : Nat) : Nat → Option Nat
  | 0 => some 0
  | k + 1 => match runH a b mx k with
    | none => none
    | some h => match hgt (a (b + k)) h with
      | none => none
      | some h' => if h' ≤ mx then some h' else none
def lawOK (f : Mm) (a : Nat → Int32) (j t : Nat) : Prop :=
  ∃ key cs at_, key ≤ 2 ∧ cs ≤ 95 ∧ at_ ≤ 95 ∧ a (347 + 2 * t) = nI (1000 * key + cs) ∧ a (348 + 2 * t) = nI at_ ∧ f (130 + 3 * j) 0 = nI key ∧ f (130 + 3 * j) 1 = nI at_ ∧ f (130 + 3 * j + 1) 5000 = nI cs ∧ f (130 + 3 * j + 2) 5000 = nI (max 1 at_) ∧ (∀ k, k < cs → trP key (a (375 + 96 * t + k)) = some (f (130 + 3 * j + 1) k)) ∧ runH a (375 + 96 * t) (max 1 at_) cs = some 1
/-- the last text below n whose key is k -/
def lastK (a : Nat → Int32) (k : Nat) : Nat → Option Nat
  | 0 => none
  | n + 1 => if (a (347 + 2 * n)).toNatClampNeg / 1000 = k then some n else lastK a k n
def lastV (o : Option Nat) : Int32 := match o with
  | none => NONEi
  | some t => nI t
def cLw (N : Nat) (f : Mm) (o : Nat) (a : Nat → Int32) (nt : Nat) : Prop :=
  nt ≤ 14 ∧ f o 10 = nI nt ∧ a 9 = nI nt ∧ (∀ t, t < nt → ∃ j, j < N ∧ f (o + 14) t = nI (j + 1) ∧ lawOK f a j t) ∧ (∀ t, t < 14 → f (o + 14) t = 0 ∨ ∃ j, j < N ∧ f (o + 14) t = nI (j + 1)) ∧ (∀ k, k < 3 → f (o + 15) k = lastV (lastK a k nt))
def RW (N : Nat) (f : Mm) (o : Nat) (a : Nat → Int32) : Prop :=
  cSc f o a ∧ ∃ nc nw ns nk ny no nt, cCo f o a nc ∧ cWa f o a nc nw ∧ cSt f o a nc ns ∧ cKn f o a nk ∧ cKy f o a ny ∧ cOf f o a no ∧ cLw N f o a nt
/-! a part of the world stays where its rows and places stay -/
theorem cSc.cg {f f' : Mm} {o : Nat} {a a' : Nat → Int32} (h : cSc f o a) (hf : ∀ j, j < 6 → f' o j = f o j) (ha : ∀ i, i < 6 → a' i = a i) : cSc f' o a' := by
  unfold cSc at *
  rw [hf 0 (by omega), hf 1 (by omega), hf 2 (by omega), hf 3 (by omega), hf 4 (by omega), hf 5 (by omega), ha 0 (by omega), ha 1 (by omega), ha 2 (by omega), ha 3 (by omega), ha 4 (by omega), ha 5 (by omega)]
  exact h
theorem cCo.cg {f f' : Mm} {o nc : Nat} {a a' : Nat → Int32} (h : cCo f o a nc) (hc : f' (o + 1) 3 = f (o + 1) 3) (h2 : f' (o + 2) = f (o + 2)) (h3 : f' (o + 3) = f (o + 3)) (h4 : f' (o + 4) = f (o + 4)) (ha : ∀ i, i = 6 ∨ (13 ≤ i ∧ i < 31) → a' i = a i) : cCo f' o a' nc := by
  obtain ⟨g1, g2, g3, g4, g5, g6⟩ := h
  refine ⟨g1, by rw [hc]; exact g2, by rw [ha 6 (Or.inl rfl)]; exact g3, fun i hi => ?_, fun i hi => ?_, fun i hi => ?_⟩
  · rw [h2, ha (13 + 3 * i) (by omega)]; exact g4 i hi
  · rw [h3, ha (14 + 3 * i) (by omega)]; exact g5 i hi
  · have := g6 i hi
    unfold mtOK at *
    rw [h4, ha (15 + 3 * i) (by omega)]
    rcases this with q | ⟨j, q1, q2, q3, q4, q5⟩
    · exact Or.inl q
    · exact Or.inr ⟨j, q1, q2, q3, q4, by rw [ha (15 + 3 * j) (by omega)]; exact q5⟩
theorem cWa.cg {f f' : Mm} {o nc nw : Nat} {a a' : Nat → Int32} (h : cWa f o a nc nw) (h5 : ∀ j, f' (o + 5) j = f (o + 5) j) (h6 : f' (o + 6) = f (o + 6)) (h7 : f' (o + 7) = f (o + 7)) (h8 : f' (o + 8) = f (o + 8)) (ha : ∀ i, i = 7 ∨ (31 ≤ i ∧ i < 91) → a' i = a i) : cWa f' o a' nc nw := by
  obtain ⟨g1, g2, g3, g4, g5, g6, g7⟩ := h
  refine ⟨g1, by rw [h5]; exact g2, by rw [ha 7 (Or.inl rfl)]; exact g3, by rw [h5]; exact g4, fun i hi => ?_, fun i hi => ?_, fun i hi => ?_⟩
  · rw [h6, ha (31 + 3 * i) (by omega)]; exact g5 i hi
  · rw [h7, ha (32 + 3 * i) (by omega)]; exact g6 i hi
  · rw [h8, ha (33 + 3 * i) (by omega)]; exact g7 i hi
theorem cWa.mono {f : Mm} {o nc nc' nw : Nat} {a : Nat → Int32} (h : cWa f o a nc nw) (hn : nc ≤ nc') : cWa f o a nc' nw := by
  obtain ⟨g1, g2, g3, g4, g5, g6, g7⟩ := h
  exact ⟨g1, g2, g3, g4, fun i hi => by obtain ⟨c, q1, q2⟩ := g5 i hi; exact ⟨c, by omega, q2⟩, g6, g7⟩
theorem cSt.cg {f f' : Mm} {o nc ns : Nat} {a a' : Nat → Int32} (h : cSt f o a nc ns) (h9 : f' (o + 9) 4 = f (o + 9) 4) (h10 : f' (o + 10) = f (o + 10)) (h11 : f' (o + 11) = f (o + 11)) (h12 : f' (o + 12) = f (o + 12)) (h13 : f' (o + 13) = f (o + 13)) (ha : ∀ i, i = 8 ∨ (91 ≤ i ∧ i < 251) → a' i = a i) : cSt f' o a' nc ns := by
  obtain ⟨g1, g2, g3, g4, g5, g6, g7⟩ := h
  refine ⟨g1, by rw [h9]; exact g2, by rw [ha 8 (Or.inl rfl)]; exact g3, fun i hi => ?_, fun i hi => ?_, fun i hi => ?_, fun i hi => ?_⟩
  · rw [h10, ha (91 + 4 * i) (by omega)]; exact g4 i hi
  · rw [h11, ha (92 + 4 * i) (by omega)]; exact g5 i hi
  · rw [h12, ha (93 + 4 * i) (by omega)]; exact g6 i hi
  · rw [h13, ha (94 + 4 * i) (by omega)]; exact g7 i hi
theorem cSt.mono {f : Mm} {o nc nc' ns : Nat} {a : Nat → Int32} (h : cSt f o a nc ns) (hn : nc ≤ nc') : cSt f o a nc' ns := by
  obtain ⟨g1, g2, g3, g4, g5, g6⟩ := h
  exact ⟨g1, g2, g3, g4, fun i hi => by obtain ⟨c, q1, q2⟩ := g5 i hi; exact ⟨c, by omega, q2⟩, g6⟩
theorem cKn.cg {f f' : Mm} {o nk : Nat} {a a' : Nat → Int32} (h : cKn f o a nk) (hc : f' o 13 = f o 13) (h16 : f' (o + 16) = f (o + 16)) (ha : ∀ i, i = 10 ∨ (251 ≤ i ∧ i < 311) → a' i = a i) : cKn f' o a' nk := by
  obtain ⟨g1, g2, g3, g4⟩ := h
  refine ⟨g1, by rw [hc]; exact g2, by rw [ha 10 (Or.inl rfl)]; exact g3, fun i hi => ?_⟩
  rw [h16, ha (251 + i) (by omega)]; exact g4 i hi
theorem cKy.cg {f f' : Mm} {o ny : Nat} {a a' : Nat → Int32} (h : cKy f o a ny) (h17 : ∀ j, f' (o + 17) j = f (o + 17) j) (h19 : f' (o + 19) = f (o + 19)) (h20 : f' (o + 20) = f (o + 20)) (ha : ∀ i, i = 11 ∨ (311 ≤ i ∧ i < 331) → a' i = a i) : cKy f' o a' ny := by
  obtain ⟨g1, g2, g3, g4, g5, g6⟩ := h
  refine ⟨g1, by rw [h17]; exact g2, by rw [ha 11 (Or.inl rfl)]; exact g3, by rw [h17]; exact g4, fun i hi => ?_, fun i hi => ?_⟩
  · rw [h19, ha (311 + 2 * i) (by omega)]; exact g5 i hi
  · rw [h20, ha (312 + 2 * i) (by omega)]; exact g6 i hi
theorem cOf.cg {f f' : Mm} {o no : Nat} {a a' : Nat → Int32} (h : cOf f o a no) (h21 : f' (o + 21) 2 = f (o + 21) 2) (h22 : f' (o + 22) = f (o + 22)) (h23 : f' (o + 23) = f (o + 23)) (ha : ∀ i, i = 12 ∨ (331 ≤ i ∧ i < 347) → a' i = a i) : cOf f' o a' no := by
  obtain ⟨g1, g2, g3, g4, g5⟩ := h
  refine ⟨g1, by rw [h21]; exact g2, by rw [ha 12 (Or.inl rfl)]; exact g3, fun i hi => ?_, fun i hi => ?_⟩
  · rw [h22, ha (331 + 2 * i) (by omega)]; exact g4 i hi
  · rw [h23, ha (332 + 2 * i) (by omega)]; exact g5 i hi
theorem runH.cg {a a' : Nat → Int32} {b mx : Nat} : ∀ k, (∀ i, b ≤ i → i < b + k → a' i = a i) → runH a' b mx k = runH a b mx k
  | 0, _ => rfl
  | k + 1, h => by
    unfold runH
    rw [runH.cg k (fun i h1 h2 => h i h1 (by omega)), h (b + k) (by omega) (by omega)]
theorem lastK.cg {a a' : Nat → Int32} {k : Nat} : ∀ n, (∀ t, t < n → a' (347 + 2 * t) = a (347 + 2 * t)) → lastK a' k n = lastK a k n
  | 0, _ => rfl
  | n + 1, h => by
    unfold lastK
    rw [lastK.cg n (fun t ht => h t (by omega)), h n (by omega)]
/-- the laws stand: what they hold (but for the room to work in) is as it was -/
def lwSame (N : Nat) (f f' : Mm) : Prop := ∀ j, j < N → (∀ i, f' (130 + 3 * j) i = f (130 + 3 * j) i) ∧ (∀ i, f' (130 + 3 * j + 1) i = f (130 + 3 * j + 1) i) ∧ f' (130 + 3 * j + 2) 5000 = f (130 + 3 * j + 2) 5000
theorem lawOK.cg {N : Nat} {f f' : Mm} {a a' : Nat → Int32} {j t : Nat} (h : lawOK f a j t) (hj : j < N) (hl : lwSame N f f') (ha : ∀ i, 347 ≤ i → a' i = a i) : lawOK f' a' j t := by
  obtain ⟨key, cs, at_, g1, g2, g2b, g3, g4, g5, g6, g7, g8, g9, g10⟩ := h
  obtain ⟨l1, l2, l3⟩ := hl j hj
  refine ⟨key, cs, at_, g1, g2, g2b, by rw [ha _ (by omega)]; exact g3, by rw [ha _ (by omega)]; exact g4, by rw [l1]; exact g5, by rw [l1]; exact g6, by rw [l2]; exact g7, by rw [l3]; exact g8, fun k hk => ?_, ?_⟩
  · rw [ha _ (by omega), l2]; exact g9 k hk
  · rw [runH.cg cs (fun i h1 _ => ha i (by omega))]; exact g10
theorem cLw.cg {N : Nat} {f f' : Mm} {o nt : Nat} {a a' : Nat → Int32} (h : cLw N f o a nt) (hc : f' o 10 = f o 10) (h14 : f' (o + 14) = f (o + 14)) (h15 : f' (o + 15) = f (o + 15)) (hl : lwSame N f f') (ha : ∀ i, i = 9 ∨ 347 ≤ i → a' i = a i) : cLw N f' o a' nt := by
  obtain ⟨g1, g2, g3, g4, g5, g6⟩ := h
  refine ⟨g1, by rw [hc]; exact g2, by rw [ha 9 (Or.inl rfl)]; exact g3, fun t ht => ?_, fun t ht => ?_, fun k hk => ?_⟩
  · obtain ⟨j, q1, q2, q3⟩ := g4 t ht
    exact ⟨j, q1, by rw [h14]; exact q2, q3.cg q1 hl (fun i hi => ha i (Or.inr hi))⟩
  · rw [h14]; exact g5 t ht
  · rw [h15, lastK.cg nt (fun t _ => ha _ (by omega))]; exact g6 k hk
/-! sheets, slots, what was told, the tape, the image -/
def cSh (f m : Mm) : Prop := ∀ i, i < 4 → ((f (74 + 2 * i) 0 = -1 ∧ m 121 i = -1) ∨ ∃ s, s ≤ 1 ∧ f (74 + 2 * i) 0 = nI s ∧ m 121 i = nI s) ∧ (∃ k, k ≤ 24 ∧ f (74 + 2 * i) 1 = nI k ∧ m 122 i = nI k) ∧ ∀ k, k < 24 → f (75 + 2 * i) k = m 123 (24 * i + k)
def cSl (f m : Mm) : Prop := ∀ i, i < 5 → ∃ th, th ≤ 3 ∧ f (83 + 3 * i) 0 = nI th ∧ m 124 i = nI th ∧ (th = 1 → (∃ k, k ≤ 5 ∧ f (83 + 3 * i) 1 = nI k ∧ m 125 i = nI k) ∧ f (83 + 3 * i) 2 = m 126 i ∧ hOK (m 126 i)) ∧ (th = 2 → (∃ k, k ≤ 24 ∧ f (84 + 3 * i) 1 = nI k ∧ m 125 i = nI k) ∧ ∀ k, k < 24 → f (85 + 3 * i) k = m 127 (24 * i + k)) ∧ (th = 3 → f (83 + 3 * i) 3 = m 125 i)
def cTe (f m : Mm) : Prop := ∃ k, k ≤ 60 ∧ f 0 7 = nI k ∧ m 107 33 = nI k ∧ ∀ i, i < k → f 98 i = m 129 i
def cTp (f m : Mm) : Prop := ∃ k, k ≤ 96 ∧ f 100 1 = nI k ∧ m 107 5 = nI k ∧ ∀ i, i < k → ∃ b, b < 256 ∧ f 101 i = nI b ∧ m 111 i = nI b
def cIm (N : Nat) (f m : Mm) : Prop := (m 108 1).toNatClampNeg ≤ 1999 ∧ ((f 0 3 = 0 ∧ m 107 3 = 0) ∨ (f 0 3 = nI 1 ∧ m 107 3 = nI 1 ∧ RW N f 25 (m 109) ∧ (m 109 1).toNatClampNeg ≤ 1999))
def cCn (m : Mm) : Prop := (∀ i, i < 14 → m 112 i = m0 112 i) ∧ ∀ i, i < 4 → m 113 i = m0 113 i
/-- rooms of the image's and the trial's spans -/
def cRm (f : Mm) : Prop := f 30 3 = nI 20 ∧ f 42 3 = nI 10 ∧ f 54 3 = nI 20 ∧ f 66 3 = nI 10
def ROt (N : Nat) (f m : Mm) : Prop := cIm N f m ∧ cSh f m ∧ cSl f m ∧ cTe f m ∧ cTp f m ∧ cCn m ∧ cRm f
def Inv (N : Nat) (f m : Mm) : Prop := N ≤ 65 ∧ RW N f 1 (m 108) ∧ ROt N f m
theorem RW.cg {N o : Nat} {f f' : Mm} {a a' : Nat → Int32} (h : RW N f o a) (hr : ∀ k, o ≤ k → k < o + 24 → f' k = f k) (hl : lwSame N f f') (ha : ∀ i, a' i = a i) : RW N f' o a' := by
  obtain ⟨h0, nc, nw, ns, nk, ny, no, nt, h1, h2, h3, h4, h5, h6, h7⟩ := h
  have r : ∀ d, d < 24 → f' (o + d) = f (o + d) := fun d hd => hr (o + d) (by omega) (by omega)
  have r0 : f' o = f o := hr o (by omega) (by omega)
  exact ⟨h0.cg (fun j _ => by rw [r0]) (fun i _ => ha i), nc, nw, ns, nk, ny, no, nt, h1.cg (by rw [r 1 (by omega)]) (r 2 (by omega)) (r 3 (by omega)) (r 4 (by omega)) (fun i _ => ha i), h2.cg (fun j => by rw [r 5 (by omega)]) (r 6 (by omega)) (r 7 (by omega)) (r 8 (by omega)) (fun i _ => ha i), h3.cg (by rw [r 9 (by omega)]) (r 10 (by omega)) (r 11 (by omega)) (r 12 (by omega)) (r 13 (by omega)) (fun i _ => ha i), h4.cg (by rw [r0]) (r 16 (by omega)) (fun i _ => ha i), h5.cg (fun j => by rw [r 17 (by omega)]) (r 19 (by omega)) (r 20 (by omega)) (fun i _ => ha i), h6.cg (by rw [r 21 (by omega)]) (r 22 (by omega)) (r 23 (by omega)) (fun i _ => ha i), h7.cg (by rw [r0]) (r 14 (by omega)) (r 15 (by omega)) hl (fun i _ => ha i)⟩
theorem ROt.cgF {N : Nat} {f f' m m' : Mm} (h : ROt N f m) (hf : ∀ k, k = 0 ∨ (25 ≤ k ∧ k < 49) ∨ (73 ≤ k ∧ k < 102) → f' k = f k) (h54 : f' 54 3 = f 54 3) (h66 : f' 66 3 = f 66 3) (hl : lwSame N f f') (hm : ∀ k, k = 107 ∨ k = 109 ∨ (111 ≤ k ∧ k ≤ 113) ∨ (121 ≤ k ∧ k ≤ 127) ∨ k = 129 → m' k = m k) (hd : (m' 108 1).toNatClampNeg ≤ 1999) : ROt N f' m' := by
  obtain ⟨h1, h2, h3, h4, h5, ⟨h6, h7⟩, h8⟩ := h
  refine ⟨?_, fun i hi => ?_, fun i hi => ?_, ?_, ?_, ⟨fun i hi => ?_, fun i hi => ?_⟩, ?_⟩
  · unfold cIm at *
    rw [hf 0 (by omega), hm 107 (by omega), hm 109 (by omega)]
    exact ⟨hd, h1.2.elim Or.inl (fun q => Or.inr ⟨q.1, q.2.1, q.2.2.1.cg (fun k k1 k2 => hf k (by omega)) hl (fun _ => rfl), q.2.2.2⟩)⟩
  · rw [hf (74 + 2 * i) (by omega), hf (75 + 2 * i) (by omega), hm 121 (by omega), hm 122 (by omega), hm 123 (by omega)]
    exact h2 i hi
  · rw [hf (83 + 3 * i) (by omega), hf (84 + 3 * i) (by omega), hf (85 + 3 * i) (by omega), hm 124 (by omega), hm 125 (by omega), hm 126 (by omega), hm 127 (by omega)]
    exact h3 i hi
  · unfold cTe at *
    rw [hf 0 (by omega), hf 98 (by omega), hm 107 (by omega), hm 129 (by omega)]
    exact h4
  · unfold cTp at *
    rw [hf 100 (by omega), hf 101 (by omega), hm 107 (by omega), hm 111 (by omega)]
    exact h5
  · rw [hm 112 (by omega)]; exact h6 i hi
  · rw [hm 113 (by omega)]; exact h7 i hi
  · unfold cRm at *
    rw [hf 30 (by omega), hf 42 (by omega), h54, h66]
    exact h8
theorem ROt.cg {N : Nat} {f f' m m' : Mm} (h : ROt N f m) (hf : ∀ k, k = 0 ∨ (25 ≤ k ∧ k < 49) ∨ k = 54 ∨ k = 66 ∨ (73 ≤ k ∧ k < 102) → f' k = f k) (hl : lwSame N f f') (hm : ∀ k, k = 107 ∨ k = 109 ∨ (111 ≤ k ∧ k ≤ 113) ∨ (121 ≤ k ∧ k ≤ 127) ∨ k = 129 → m' k = m k) (hd : (m' 108 1).toNatClampNeg ≤ 1999) : ROt N f' m' :=
  h.cgF (fun k hk => hf k (by omega)) (by rw [hf 54 (by omega)]) (by rw [hf 66 (by omega)]) hl hm hd
theorem lwSame.of {N : Nat} {f f' : Mm} (h : ∀ k, 130 ≤ k → f' k = f k) : lwSame N f f' := fun j _ => ⟨fun i => by rw [h _ (by omega)], fun i => by rw [h _ (by omega)], by rw [h _ (by omega)]⟩
theorem up_rn {m : Mm} {a k b : Nat} {v : Int32} (h : b ≠ a) : up m a k v b = m b := if_neg h
