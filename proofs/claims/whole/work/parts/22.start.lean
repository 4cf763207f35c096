def f0T : List (Nat → Int32) := [(fun _ => 0),
  (fun j => ([0, (nI 5000), (nI 80), (nI 4), 0, (nI 1)] : List Int32).getD j 0),
  (fun _ => 0),
  (fun _ => 0),
  (fun _ => 0),
  (fun _ => 0),
  (fun j => ([0, 0, 0, (minI (nI 20) (nI 20))] : List Int32).getD j 0),
  (fun _ => 0),
  (fun _ => 0),
  (fun _ => 0),
  (fun _ => 0),
  (fun _ => 0),
  (fun _ => 0),
  (fun _ => 0),
  (fun _ => 0),
  (fun _ => 0),
  (upd (upd (upd (fun _ => 0) (nI 0).toNatClampNeg (-1000000005 : Int32)) (nI 1).toNatClampNeg (-1000000005 : Int32)) (nI 2).toNatClampNeg (-1000000005 : Int32)),
  (fun _ => 0),
  (fun j => ([0, 0, 0, (minI (nI 10) (nI 20))] : List Int32).getD j 0),
  (fun _ => 0),
  (fun _ => 0),
  (fun _ => 0),
  (fun _ => 0),
  (fun _ => 0),
  (fun _ => 0),
  (fun j => ([0, (nI 5000), (nI 80), (nI 4), 0, (nI 1)] : List Int32).getD j 0),
  (fun _ => 0),
  (fun _ => 0),
  (fun _ => 0),
  (fun _ => 0),
  (fun j => ([0, 0, 0, (minI (nI 20) (nI 20))] : List Int32).getD j 0),
  (fun _ => 0),
  (fun _ => 0),
  (fun _ => 0),
  (fun _ => 0),
  (fun _ => 0),
  (fun _ => 0),
  (fun _ => 0),
  (fun _ => 0),
  (fun _ => 0),
  (upd (upd (upd (fun _ => 0) (nI 0).toNatClampNeg (-1000000005 : Int32)) (nI 1).toNatClampNeg (-1000000005 : Int32)) (nI 2).toNatClampNeg (-1000000005 : Int32)),
  (fun _ => 0),
  (fun j => ([0, 0, 0, (minI (nI 10) (nI 20))] : List Int32).getD j 0),
  (fun _ => 0),
  (fun _ => 0),
  (fun _ => 0),
  (fun _ => 0),
  (fun _ => 0),
  (fun _ => 0),
  (fun j => ([0, (nI 5000), (nI 80), (nI 4), 0, (nI 1)] : List Int32).getD j 0),
  (fun _ => 0),
  (fun _ => 0),
  (fun _ => 0),
  (fun _ => 0),
  (fun j => ([0, 0, 0, (minI (nI 20) (nI 20))] : List Int32).getD j 0),
  (fun _ => 0),
  (fun _ => 0),
  (fun _ => 0),
  (fun _ => 0),
  (fun _ => 0),
  (fun _ => 0),
  (fun _ => 0),
  (fun _ => 0),
  (fun _ => 0),
  (upd (upd (upd (fun _ => 0) (nI 0).toNatClampNeg (-1000000005 : Int32)) (nI 1).toNatClampNeg (-1000000005 : Int32)) (nI 2).toNatClampNeg (-1000000005 : Int32)),
  (fun _ => 0),
  (fun j => ([0, 0, 0, (minI (nI 10) (nI 20))] : List Int32).getD j 0),
  (fun _ => 0),
  (fun _ => 0),
  (fun _ => 0),
  (fun _ => 0),
  (fun _ => 0),
  (fun _ => 0),
  (fun _ => 0),
  (fun j => ([(-1 : Int32)] : List Int32).getD j 0),
  (fun _ => 0),
  (fun j => ([(-1 : Int32)] : List Int32).getD j 0),
  (fun _ => 0),
  (fun j => ([(-1 : Int32)] : List Int32).getD j 0),
  (fun _ => 0),
  (fun j => ([(-1 : Int32)] : List Int32).getD j 0),
  (fun _ => 0),
  (fun _ => 0),
  (fun j => ([(nI 0)] : List Int32).getD j 0),
  (fun j => ([(-1 : Int32)] : List Int32).getD j 0),
  (fun _ => 0),
  (fun j => ([(nI 0)] : List Int32).getD j 0),
  (fun j => ([(-1 : Int32)] : List Int32).getD j 0),
  (fun _ => 0),
  (fun j => ([(nI 0)] : List Int32).getD j 0),
  (fun j => ([(-1 : Int32)] : List Int32).getD j 0),
  (fun _ => 0),
  (fun j => ([(nI 0)] : List Int32).getD j 0),
  (fun j => ([(-1 : Int32)] : List Int32).getD j 0),
  (fun _ => 0),
  (fun j => ([(nI 0)] : List Int32).getD j 0),
  (fun j => ([(-1 : Int32)] : List Int32).getD j 0),
  (fun _ => 0),
  (fun _ => 0),
  (fun _ => 0),
  (fun _ => 0),
  (fun _ => 0),
  (fun _ => 0),
  (fun _ => 0),
  (fun _ => 0),
  (fun _ => 0),
  (fun _ => 0)]
def m0T : List (Nat → Int32) := [(fun _ => 0),
  (upd (upd (upd (upd (fun _ => 0) (nI 0).toNatClampNeg (nI 1)) (nI 2).toNatClampNeg (nI 80)) (nI 3).toNatClampNeg (nI 4)) (nI 4).toNatClampNeg (nI 5000)),
  (fun _ => 0),
  (fun _ => 0),
  (fun _ => 0),
  (upd (upd (upd (upd (upd (upd (upd (upd (upd (upd (upd (upd (upd (upd (fun _ => 0) (nI 0).toNatClampNeg (nI 114)) (nI 1).toNatClampNeg (nI 97)) (nI 2).toNatClampNeg (nI 116)) (nI 3).toNatClampNeg (nI 101)) (nI 4).toNatClampNeg (nI 107)) (nI 5).toNatClampNeg (nI 110)) (nI 6).toNatClampNeg (nI 111)) (nI 7).toNatClampNeg (nI 99)) (nI 8).toNatClampNeg (nI 107)) (nI 9).toNatClampNeg (nI 115)) (nI 10).toNatClampNeg (nI 116)) (nI 11).toNatClampNeg (nI 97)) (nI 12).toNatClampNeg (nI 114)) (nI 13).toNatClampNeg (nI 115)),
  (upd (upd (upd (upd (fun _ => 0) (nI 0).toNatClampNeg (nI 0)) (nI 1).toNatClampNeg (nI 4)) (nI 2).toNatClampNeg (nI 9)) (nI 3).toNatClampNeg (nI 14)),
  (fun _ => 0),
  (fun _ => 0),
  (fun _ => 0),
  (fun _ => 0),
  (fun _ => 0),
  (fun _ => 0),
  (fun _ => 0),
  (upd (upd (upd (upd (fun _ => 0) (nI 0).toNatClampNeg (-1 : Int32)) (nI 1).toNatClampNeg (-1 : Int32)) (nI 2).toNatClampNeg (-1 : Int32)) (nI 3).toNatClampNeg (-1 : Int32)),
  (fun _ => 0),
  (fun _ => 0),
  (fun _ => 0),
  (fun _ => 0),
  (fun _ => 0),
  (fun _ => 0),
  (fun _ => 0),
  (fun _ => 0)]
def f0 : Mm := fun k => f0T.getD k (fun _ => 0)
def m0 : Mm := fun k => m0T.getD (k - 107) (fun _ => 0)
theorem refs_eq {G : GE} {H : Heap} {k t n : Nat} {g1 g2 : Nat → Option Nat} (h : va_at (gD G) vwCl (gz G + k, .inl (gA G t, n, .inr (.inr (.inr (.inr g1))))) H) (e : ∀ j, j < n → g1 j = g2 j) : va_at (gD G) vwCl (gz G + k, .inl (gA G t, n, .inr (.inr (.inr (.inr g2))))) H := by
  refine (show H[_]? = some (vp_cell _ _) from h).trans ?_
  congr 1
  rw [vp_cell_q, vp_cell_q]
  exact arrV_eq (fun j hj => by rw [e j hj])
set_option maxHeartbeats 4000000 in
set_option maxRecDepth 100000 in
theorem start_RP {G : GE} {H : Heap} (h : PL G (bk11 G 0 ++ bk12 G 107) H) : RP G 0 f0 m0 H :=
  PL.toRP (fun k hk => match k, hk with
    | 0, _ => h.1 0 _ rfl
    | 1, _ => h.1 1 _ rfl
    | 2, _ => h.1 2 _ rfl
    | 3, _ => h.1 3 _ rfl
    | 4, _ => h.1 4 _ rfl
    | 5, _ => h.1 5 _ rfl
    | 6, _ => h.1 6 _ rfl
    | 7, _ => h.1 7 _ rfl
    | 8, _ => h.1 8 _ rfl
    | 9, _ => h.1 9 _ rfl
    | 10, _ => h.1 10 _ rfl
    | 11, _ => h.1 11 _ rfl
    | 12, _ => h.1 12 _ rfl
    | 13, _ => h.1 13 _ rfl
    | 14, _ => h.1 14 _ rfl
    | 15, _ => h.1 15 _ rfl
    | 16, _ => h.1 16 _ rfl
    | 17, _ => h.1 17 _ rfl
    | 18, _ => h.1 18 _ rfl
    | 19, _ => h.1 19 _ rfl
    | 20, _ => h.1 20 _ rfl
    | 21, _ => h.1 21 _ rfl
    | 22, _ => h.1 22 _ rfl
    | 23, _ => h.1 23 _ rfl
    | 24, _ => h.1 24 _ rfl
    | 25, _ => h.1 25 _ rfl
    | 26, _ => h.1 26 _ rfl
    | 27, _ => h.1 27 _ rfl
    | 28, _ => h.1 28 _ rfl
    | 29, _ => h.1 29 _ rfl
    | 30, _ => h.1 30 _ rfl
    | 31, _ => h.1 31 _ rfl
    | 32, _ => h.1 32 _ rfl
    | 33, _ => h.1 33 _ rfl
    | 34, _ => h.1 34 _ rfl
    | 35, _ => h.1 35 _ rfl
    | 36, _ => h.1 36 _ rfl
    | 37, _ => h.1 37 _ rfl
    | 38, _ => h.1 38 _ rfl
    | 39, _ => h.1 39 _ rfl
    | 40, _ => h.1 40 _ rfl
    | 41, _ => h.1 41 _ rfl
    | 42, _ => h.1 42 _ rfl
    | 43, _ => h.1 43 _ rfl
    | 44, _ => h.1 44 _ rfl
    | 45, _ => h.1 45 _ rfl
    | 46, _ => h.1 46 _ rfl
    | 47, _ => h.1 47 _ rfl
    | 48, _ => h.1 48 _ rfl
    | 49, _ => h.1 49 _ rfl
    | 50, _ => h.1 50 _ rfl
    | 51, _ => h.1 51 _ rfl
    | 52, _ => h.1 52 _ rfl
    | 53, _ => h.1 53 _ rfl
    | 54, _ => h.1 54 _ rfl
    | 55, _ => h.1 55 _ rfl
    | 56, _ => h.1 56 _ rfl
    | 57, _ => h.1 57 _ rfl
    | 58, _ => h.1 58 _ rfl
    | 59, _ => h.1 59 _ rfl
    | 60, _ => h.1 60 _ rfl
    | 61, _ => h.1 61 _ rfl
    | 62, _ => h.1 62 _ rfl
    | 63, _ => h.1 63 _ rfl
    | 64, _ => h.1 64 _ rfl
    | 65, _ => h.1 65 _ rfl
    | 66, _ => h.1 66 _ rfl
    | 67, _ => h.1 67 _ rfl
    | 68, _ => h.1 68 _ rfl
    | 69, _ => h.1 69 _ rfl
    | 70, _ => h.1 70 _ rfl
    | 71, _ => h.1 71 _ rfl
    | 72, _ => h.1 72 _ rfl
    | 73, _ => refs_eq (n := 4) (h.1 73 _ rfl) (fun j hj => by rcases (show j = 0 ∨ j = 1 ∨ j = 2 ∨ j = 3 by omega) with rfl | rfl | rfl | rfl <;> rfl)
    | 74, _ => h.1 74 _ rfl
    | 75, _ => h.1 75 _ rfl
    | 76, _ => h.1 76 _ rfl
    | 77, _ => h.1 77 _ rfl
    | 78, _ => h.1 78 _ rfl
    | 79, _ => h.1 79 _ rfl
    | 80, _ => h.1 80 _ rfl
    | 81, _ => h.1 81 _ rfl
    | 82, _ => refs_eq (n := 5) (h.1 82 _ rfl) (fun j hj => by rcases (show j = 0 ∨ j = 1 ∨ j = 2 ∨ j = 3 ∨ j = 4 by omega) with rfl | rfl | rfl | rfl | rfl <;> rfl)
    | 83, _ => h.1 83 _ rfl
    | 84, _ => h.1 84 _ rfl
    | 85, _ => h.1 85 _ rfl
    | 86, _ => h.1 86 _ rfl
    | 87, _ => h.1 87 _ rfl
    | 88, _ => h.1 88 _ rfl
    | 89, _ => h.1 89 _ rfl
    | 90, _ => h.1 90 _ rfl
    | 91, _ => h.1 91 _ rfl
    | 92, _ => h.1 92 _ rfl
    | 93, _ => h.1 93 _ rfl
    | 94, _ => h.1 94 _ rfl
    | 95, _ => h.1 95 _ rfl
    | 96, _ => h.1 96 _ rfl
    | 97, _ => h.1 97 _ rfl
    | 98, _ => h.1 98 _ rfl
    | 99, _ => h.1 99 _ rfl
    | 100, _ => h.1 100 _ rfl
    | 101, _ => h.1 101 _ rfl
    | 102, _ => h.1 102 _ rfl
    | 103, _ => h.1 103 _ rfl
    | 104, _ => h.1 104 _ rfl
    | 105, _ => h.1 105 _ rfl
    | 106, _ => h.1 106 _ rfl
    | 107, _ => h.1 107 _ rfl
    | 108, _ => h.1 108 _ rfl
    | 109, _ => h.1 109 _ rfl
    | 110, _ => h.1 110 _ rfl
    | 111, _ => h.1 111 _ rfl
    | 112, _ => h.1 112 _ rfl
    | 113, _ => h.1 113 _ rfl
    | 114, _ => h.1 114 _ rfl
    | 115, _ => h.1 115 _ rfl
    | 116, _ => h.1 116 _ rfl
    | 117, _ => h.1 117 _ rfl
    | 118, _ => h.1 118 _ rfl
    | 119, _ => h.1 119 _ rfl
    | 120, _ => h.1 120 _ rfl
    | 121, _ => h.1 121 _ rfl
    | 122, _ => h.1 122 _ rfl
    | 123, _ => h.1 123 _ rfl
    | 124, _ => h.1 124 _ rfl
    | 125, _ => h.1 125 _ rfl
    | 126, _ => h.1 126 _ rfl
    | 127, _ => h.1 127 _ rfl
    | 128, _ => h.1 128 _ rfl
    | 129, _ => h.1 129 _ rfl
    | n + 130, hk => absurd hk (by omega)) h.2.1 h.2.2
set_option maxHeartbeats 4000000 in
set_option maxRecDepth 100000 in
theorem ex_D {s : State} {args : Array Value} (hts : ∀ w ∈ gT, w.before args s = true) : ∃ D : va_G, ∀ (c : Nat) (q : vw_C), vwCl[c]? = some q → u_Kn s q.1 q.2.1 q.2.2 (D.1 c) (D.2 c) := by
  have h : ∀ c : Nat, ∃ p : ClassId × (Nat → Nat), ∀ q : vw_C, vwCl[c]? = some q → u_Kn s q.1 q.2.1 q.2.2 p.1 p.2 := by
    intro c
    by_cases e0 : c = 0
    · subst e0
      obtain ⟨cC, iS, h9⟩ := u_known (C := RX0) (T := TX0) (N := 7) hts inX0 (hts _ q_356)
      exact ⟨(cC, iS), fun q hq => by cases hq; exact h9⟩
    by_cases e1 : c = 1
    · subst e1
      obtain ⟨cC, iS, h9⟩ := u_known (C := RX1) (T := TX1) (N := 4) hts inX1 (hts _ q_81)
      exact ⟨(cC, iS), fun q hq => by cases hq; exact h9⟩
    by_cases e2 : c = 2
    · subst e2
      obtain ⟨cC, iS, h9⟩ := u_known (C := RX2) (T := TX2) (N := 4) hts inX2 (hts _ q_843)
      exact ⟨(cC, iS), fun q hq => by cases hq; exact h9⟩
    by_cases e3 : c = 3
    · subst e3
      obtain ⟨cC, iS, h9⟩ := u_known (C := RX3) (T := TX3) (N := 5) hts inX3 (hts _ q_304)
      exact ⟨(cC, iS), fun q hq => by cases hq; exact h9⟩
    by_cases e4 : c = 4
    · subst e4
      obtain ⟨cC, iS, h9⟩ := u_known (C := RX4) (T := TX4) (N := 3) hts inX4 (hts _ q_169)
      exact ⟨(cC, iS), fun q hq => by cases hq; exact h9⟩
    by_cases e5 : c = 5
    · subst e5
      obtain ⟨cC, iS, h9⟩ := u_known (C := RX5) (T := TX5) (N := 3) hts inX5 (hts _ q_258)
      exact ⟨(cC, iS), fun q hq => by cases hq; exact h9⟩
    by_cases e6 : c = 6
    · subst e6
      obtain ⟨cC, iS, h9⟩ := u_known (C := RX6) (T := TX6) (N := 5) hts inX6 (hts _ q_278)
      exact ⟨(cC, iS), fun q hq => by cases hq; exact h9⟩
    by_cases e7 : c = 7
    · subst e7
      obtain ⟨cC, iS, h9⟩ := u_known (C := RX7) (T := TX7) (N := 5) hts inX7 (hts _ q_108)
      exact ⟨(cC, iS), fun q hq => by cases hq; exact h9⟩
    by_cases e8 : c = 8
    · subst e8
      obtain ⟨cC, iS, h9⟩ := u_known (C := RX8) (T := TX8) (N := 5) hts inX8 (hts _ q_134)
      exact ⟨(cC, iS), fun q hq => by cases hq; exact h9⟩
    by_cases e9 : c = 9
    · subst e9
      obtain ⟨cC, iS, h9⟩ := u_known (C := RX9) (T := TX9) (N := 6) hts inX9 (hts _ q_310)
      exact ⟨(cC, iS), fun q hq => by cases hq; exact h9⟩
    by_cases e10 : c = 10
    · subst e10
      obtain ⟨cC, iS, h9⟩ := u_known (C := RX10) (T := TX10) (N := 16) hts inX10 (hts _ q_75)
      exact ⟨(cC, iS), fun q hq => by cases hq; exact h9⟩
    by_cases e11 : c = 11
    · subst e11
      obtain ⟨cC, iS, h9⟩ := u_known (C := RX11) (T := TX11) (N := 10) hts inX11 (hts _ q_67)
      exact ⟨(cC, iS), fun q hq => by cases hq; exact h9⟩
    by_cases e12 : c = 12
    · subst e12
      obtain ⟨cC, iS, h9⟩ := u_known (C := RX12) (T := TX12) (N := 34) hts inX12 (hts _ q_1107)
      exact ⟨(cC, iS), fun q hq => by cases hq; exact h9⟩
    exact ⟨(0, fun _ => 0), fun q hq => by
      have hl : c < 13 := (List.getElem?_eq_some_iff.mp hq).1
      omega⟩
  exact ⟨(fun c => (Classical.choose (h c)).1, fun c => (Classical.choose (h c)).2), fun c q hq => Classical.choose_spec (h c) q hq⟩
theorem ex_A {s : State} {args : Array Value} {ty : FieldType} (hra : ∀ cA, va_RA s cA ty = (s.vm.findClass ("[" ++ ty.toString) = some cA)) (h : (Cond.arrayClass ty).before args s = true) : ∃ cA : ClassId, ArrOfT s cA ty ∧ va_RA s cA ty := by
  obtain ⟨c, k, comp, h1, h2, h3⟩ := Cond.arrayClass_spec h
  exact ⟨c, fun n z => ⟨fun q h => (by cases h), k, h2, comp, h3⟩, by rw [hra]; exact h1⟩
theorem ex_O {s : State} {C : String} (h : va_AO C s) : ∃ cA : ClassId, ArrOfT s cA (.object C) ∧ va_RA s cA (.object C) := by
  obtain ⟨comp, c, k, h1, h2, h3, h4, h5⟩ := Cond.arrayOver_spec (va_AO.use (A := #[]) h)
  exact ⟨c, fun n z => ⟨fun q h => (by cases h), k, h3, comp, h4⟩, k, comp, h3, h4, h1, h5⟩
set_option maxHeartbeats 4000000 in
set_option maxRecDepth 100000 in
theorem st_ABOVE {s : State} {args : Array Value} {G : GE} (hz : gz G = s.heap.size) (hH : gH G = s.heap) (htl : ∀ w ∈ lw_tbl, w.before args s = true) (hts : ∀ w ∈ gT, w.before args s = true) (hg : ∀ c ∈ flatC (Jvm.Cond.and given_1 narrow_1), c.before args s = true) : STa G "ABOVE" [-1, 0, 0, 1, 2, 0] s := by
  unfold STa
  rw [hz, hH]
  obtain ⟨t, ht, hT⟩ := va_Tof (ty := .int) (N := 6) (f := fun j => .int (([-1, 0, 0, 1, 2, 0] : List Int32).getD j 0)) (A := fun q => s.heap.size ≤ q) (by decide) (hg _ (by decide +kernel : Cond.arrayOf (.static "FluxWatch" "ABOVE" "[I") .int ∈ flatC (Jvm.Cond.and given_1 narrow_1))) (va_eqt (hg _ (by decide +kernel : Cond.eq (.length (.static "FluxWatch" "ABOVE" "[I")) (.int 6) ∈ flatC (Jvm.Cond.and given_1 narrow_1)))) (fun j hj => by
    rcases (show j = 0 ∨ j = 1 ∨ j = 2 ∨ j = 3 ∨ j = 4 ∨ j = 5 by omega) with rfl | rfl | rfl | rfl | rfl | rfl
    · exact va_eqt (hg _ (by decide +kernel : Cond.eq (.elem (.static "FluxWatch" "ABOVE" "[I") (.int 0)) (.int (-1)) ∈ flatC (Jvm.Cond.and given_1 narrow_1)))
    · exact va_eqt (hg _ (by decide +kernel : Cond.eq (.elem (.static "FluxWatch" "ABOVE" "[I") (.int 1)) (.int (0)) ∈ flatC (Jvm.Cond.and given_1 narrow_1)))
    · exact va_eqt (hg _ (by decide +kernel : Cond.eq (.elem (.static "FluxWatch" "ABOVE" "[I") (.int 2)) (.int (0)) ∈ flatC (Jvm.Cond.and given_1 narrow_1)))
    · exact va_eqt (hg _ (by decide +kernel : Cond.eq (.elem (.static "FluxWatch" "ABOVE" "[I") (.int 3)) (.int (1)) ∈ flatC (Jvm.Cond.and given_1 narrow_1)))
    · exact va_eqt (hg _ (by decide +kernel : Cond.eq (.elem (.static "FluxWatch" "ABOVE" "[I") (.int 4)) (.int (2)) ∈ flatC (Jvm.Cond.and given_1 narrow_1)))
    · exact va_eqt (hg _ (by decide +kernel : Cond.eq (.elem (.static "FluxWatch" "ABOVE" "[I") (.int 5)) (.int (0)) ∈ flatC (Jvm.Cond.and given_1 narrow_1)))) (fun a ha => Nat.not_le.mpr ha)
  have hZ := va_Zof (A := fun q => s.heap.size ≤ q) (htl (.laysStatic "FluxWatch" "ABOVE" "[I") (by decide +kernel)) (hts _ q_45) ht (fun a ha => Nat.not_le.mpr ha)
  have hb : t < s.heap.size := by
    obtain ⟨cell, h1, -⟩ := hT
    exact (Array.getElem?_eq_some_iff.mp h1).1
  exact ⟨t, hb, hZ, hT⟩
set_option maxHeartbeats 4000000 in
set_option maxRecDepth 100000 in
theorem st_LEAST {s : State} {args : Array Value} {G : GE} (hz : gz G = s.heap.size) (hH : gH G = s.heap) (htl : ∀ w ∈ lw_tbl, w.before args s = true) (hts : ∀ w ∈ gT, w.before args s = true) (hg : ∀ c ∈ flatC (Jvm.Cond.and given_1 narrow_1), c.before args s = true) : STa G "LEAST" [1, 0, 0, 0] s := by
  unfold STa
  rw [hz, hH]
  obtain ⟨t, ht, hT⟩ := va_Tof (ty := .int) (N := 4) (f := fun j => .int (([1, 0, 0, 0] : List Int32).getD j 0)) (A := fun q => s.heap.size ≤ q) (by decide) (hg _ (by decide +kernel : Cond.arrayOf (.static "FluxWatch" "LEAST" "[I") .int ∈ flatC (Jvm.Cond.and given_1 narrow_1))) (va_eqt (hg _ (by decide +kernel : Cond.eq (.length (.static "FluxWatch" "LEAST" "[I")) (.int 4) ∈ flatC (Jvm.Cond.and given_1 narrow_1)))) (fun j hj => by
    rcases (show j = 0 ∨ j = 1 ∨ j = 2 ∨ j = 3 by omega) with rfl | rfl | rfl | rfl
    · exact va_eqt (hg _ (by decide +kernel : Cond.eq (.elem (.static "FluxWatch" "LEAST" "[I") (.int 0)) (.int (1)) ∈ flatC (Jvm.Cond.and given_1 narrow_1)))
    · exact va_eqt (hg _ (by decide +kernel : Cond.eq (.elem (.static "FluxWatch" "LEAST" "[I") (.int 1)) (.int (0)) ∈ flatC (Jvm.Cond.and given_1 narrow_1)))
    · exact va_eqt (hg _ (by decide +kernel : Cond.eq (.elem (.static "FluxWatch" "LEAST" "[I") (.int 2)) (.int (0)) ∈ flatC (Jvm.Cond.and given_1 narrow_1)))
    · exact va_eqt (hg _ (by decide +kernel : Cond.eq (.elem (.static "FluxWatch" "LEAST" "[I") (.int 3)) (.int (0)) ∈ flatC (Jvm.Cond.and given_1 narrow_1)))) (fun a ha => Nat.not_le.mpr ha)
  have hZ := va_Zof (A := fun q => s.heap.size ≤ q) (htl (.laysStatic "FluxWatch" "LEAST" "[I") (by decide +kernel)) (hts _ q_45) ht (fun a ha => Nat.not_le.mpr ha)
  have hb : t < s.heap.size := by
    obtain ⟨cell, h1, -⟩ := hT
    exact (Array.getElem?_eq_some_iff.mp h1).1
  exact ⟨t, hb, hZ, hT⟩
set_option maxHeartbeats 4000000 in
set_option maxRecDepth 100000 in
theorem st_MOST {s : State} {args : Array Value} {G : GE} (hz : gz G = s.heap.size) (hH : gH G = s.heap) (htl : ∀ w ∈ lw_tbl, w.before args s = true) (hts : ∀ w ∈ gT, w.before args s = true) (hg : ∀ c ∈ flatC (Jvm.Cond.and given_1 narrow_1), c.before args s = true) : STa G "MOST" [999, 99, 10000, 1] s := by
  unfold STa
  rw [hz, hH]
  obtain ⟨t, ht, hT⟩ := va_Tof (ty := .int) (N := 4) (f := fun j => .int (([999, 99, 10000, 1] : List Int32).getD j 0)) (A := fun q => s.heap.size ≤ q) (by decide) (hg _ (by decide +kernel : Cond.arrayOf (.static "FluxWatch" "MOST" "[I") .int ∈ flatC (Jvm.Cond.and given_1 narrow_1))) (va_eqt (hg _ (by decide +kernel : Cond.eq (.length (.static "FluxWatch" "MOST" "[I")) (.int 4) ∈ flatC (Jvm.Cond.and given_1 narrow_1)))) (fun j hj => by
    rcases (show j = 0 ∨ j = 1 ∨ j = 2 ∨ j = 3 by omega) with rfl | rfl | rfl | rfl
    · exact va_eqt (hg _ (by decide +kernel : Cond.eq (.elem (.static "FluxWatch" "MOST" "[I") (.int 0)) (.int (999)) ∈ flatC (Jvm.Cond.and given_1 narrow_1)))
    · exact va_eqt (hg _ (by decide +kernel : Cond.eq (.elem (.static "FluxWatch" "MOST" "[I") (.int 1)) (.int (99)) ∈ flatC (Jvm.Cond.and given_1 narrow_1)))
    · exact va_eqt (hg _ (by decide +kernel : Cond.eq (.elem (.static "FluxWatch" "MOST" "[I") (.int 2)) (.int (10000)) ∈ flatC (Jvm.Cond.and given_1 narrow_1)))
    · exact va_eqt (hg _ (by decide +kernel : Cond.eq (.elem (.static "FluxWatch" "MOST" "[I") (.int 3)) (.int (1)) ∈ flatC (Jvm.Cond.and given_1 narrow_1)))) (fun a ha => Nat.not_le.mpr ha)
  have hZ := va_Zof (A := fun q => s.heap.size ≤ q) (htl (.laysStatic "FluxWatch" "MOST" "[I") (by decide +kernel)) (hts _ q_45) ht (fun a ha => Nat.not_le.mpr ha)
  have hb : t < s.heap.size := by
    obtain ⟨cell, h1, -⟩ := hT
    exact (Array.getElem?_eq_some_iff.mp h1).1
  exact ⟨t, hb, hZ, hT⟩
def sTm (i : Nat) : Term := if i = 0 then .string "FluxWatch$LawReader" 60 else if i = 1 then .string "FluxWatch$LawReader" 66 else .string "FluxWatch$LawReader" 68
set_option maxHeartbeats 4000000 in
set_option maxRecDepth 100000 in
theorem st_str {s : State} {args : Array Value} (hg : ∀ c ∈ flatC (Jvm.Cond.and given_1 narrow_1), c.before args s = true) : ∃ adK adV : Nat → Nat, vk_S 3 [4, 5, 5] [[114, 97, 116, 101], [107, 110, 111, 99, 107], [115, 116, 97, 114, 115]] adK adV (fun q => s.heap.size ≤ q) s s.heap ∧ ∀ i : Nat, i < 3 → (sTm i).eval args s none [] s = some (.ref (adK i)) := by
  refine vk_Sof (tm := sTm) (fun i hi => by rcases (show i = 0 ∨ i = 1 ∨ i = 2 by omega) with rfl | rfl | rfl <;> decide)
    (fun i hi => by
      rcases (show i = 0 ∨ i = 1 ∨ i = 2 by omega) with rfl | rfl | rfl
      · exact hg _ (by decide +kernel : Cond.exactly (.string "FluxWatch$LawReader" 60) "java/lang/String" ∈ flatC (Jvm.Cond.and given_1 narrow_1))
      · exact hg _ (by decide +kernel : Cond.exactly (.string "FluxWatch$LawReader" 66) "java/lang/String" ∈ flatC (Jvm.Cond.and given_1 narrow_1))
      · exact hg _ (by decide +kernel : Cond.exactly (.string "FluxWatch$LawReader" 68) "java/lang/String" ∈ flatC (Jvm.Cond.and given_1 narrow_1)))
    (fun i hi => by
      rcases (show i = 0 ∨ i = 1 ∨ i = 2 by omega) with rfl | rfl | rfl
      · exact hg _ (by decide +kernel : Cond.eq (.field (.string "FluxWatch$LawReader" 60) "java/lang/String" "coder" "B") (.int 0) ∈ flatC (Jvm.Cond.and given_1 narrow_1))
      · exact hg _ (by decide +kernel : Cond.eq (.field (.string "FluxWatch$LawReader" 66) "java/lang/String" "coder" "B") (.int 0) ∈ flatC (Jvm.Cond.and given_1 narrow_1))
      · exact hg _ (by decide +kernel : Cond.eq (.field (.string "FluxWatch$LawReader" 68) "java/lang/String" "coder" "B") (.int 0) ∈ flatC (Jvm.Cond.and given_1 narrow_1)))
    (fun i hi => by
      rcases (show i = 0 ∨ i = 1 ∨ i = 2 by omega) with rfl | rfl | rfl
      · exact hg _ (by decide +kernel : Cond.arrayOf (.field (.string "FluxWatch$LawReader" 60) "java/lang/String" "value" "[B") .byte ∈ flatC (Jvm.Cond.and given_1 narrow_1))
      · exact hg _ (by decide +kernel : Cond.arrayOf (.field (.string "FluxWatch$LawReader" 66) "java/lang/String" "value" "[B") .byte ∈ flatC (Jvm.Cond.and given_1 narrow_1))
      · exact hg _ (by decide +kernel : Cond.arrayOf (.field (.string "FluxWatch$LawReader" 68) "java/lang/String" "value" "[B") .byte ∈ flatC (Jvm.Cond.and given_1 narrow_1)))
    (fun i hi => by
      rcases (show i = 0 ∨ i = 1 ∨ i = 2 by omega) with rfl | rfl | rfl
      · exact hg _ (by decide +kernel : Cond.eq (.length (.field (.string "FluxWatch$LawReader" 60) "java/lang/String" "value" "[B")) (.int 4) ∈ flatC (Jvm.Cond.and given_1 narrow_1))
      · exact hg _ (by decide +kernel : Cond.eq (.length (.field (.string "FluxWatch$LawReader" 66) "java/lang/String" "value" "[B")) (.int 5) ∈ flatC (Jvm.Cond.and given_1 narrow_1))
      · exact hg _ (by decide +kernel : Cond.eq (.length (.field (.string "FluxWatch$LawReader" 68) "java/lang/String" "value" "[B")) (.int 5) ∈ flatC (Jvm.Cond.and given_1 narrow_1)))
    (fun i hi j hj => by
      rcases (show i = 0 ∨ i = 1 ∨ i = 2 by omega) with rfl | rfl | rfl
      · have hj : j < 4 := hj
        rcases (show j = 0 ∨ j = 1 ∨ j = 2 ∨ j = 3 by omega) with rfl | rfl | rfl | rfl
        · exact hg _ (by decide +kernel : Cond.eq (.elem (.field (.string "FluxWatch$LawReader" 60) "java/lang/String" "value" "[B") (.int 0)) (.int 114) ∈ flatC (Jvm.Cond.and given_1 narrow_1))
        · exact hg _ (by decide +kernel : Cond.eq (.elem (.field (.string "FluxWatch$LawReader" 60) "java/lang/String" "value" "[B") (.int 1)) (.int 97) ∈ flatC (Jvm.Cond.and given_1 narrow_1))
        · exact hg _ (by decide +kernel : Cond.eq (.elem (.field (.string "FluxWatch$LawReader" 60) "java/lang/String" "value" "[B") (.int 2)) (.int 116) ∈ flatC (Jvm.Cond.and given_1 narrow_1))
        · exact hg _ (by decide +kernel : Cond.eq (.elem (.field (.string "FluxWatch$LawReader" 60) "java/lang/String" "value" "[B") (.int 3)) (.int 101) ∈ flatC (Jvm.Cond.and given_1 narrow_1))
      · have hj : j < 5 := hj
        rcases (show j = 0 ∨ j = 1 ∨ j = 2 ∨ j = 3 ∨ j = 4 by omega) with rfl | rfl | rfl | rfl | rfl
        · exact hg _ (by decide +kernel : Cond.eq (.elem (.field (.string "FluxWatch$LawReader" 66) "java/lang/String" "value" "[B") (.int 0)) (.int 107) ∈ flatC (Jvm.Cond.and given_1 narrow_1))
        · exact hg _ (by decide +kernel : Cond.eq (.elem (.field (.string "FluxWatch$LawReader" 66) "java/lang/String" "value" "[B") (.int 1)) (.int 110) ∈ flatC (Jvm.Cond.and given_1 narrow_1))
        · exact hg _ (by decide +kernel : Cond.eq (.elem (.field (.string "FluxWatch$LawReader" 66) "java/lang/String" "value" "[B") (.int 2)) (.int 111) ∈ flatC (Jvm.Cond.and given_1 narrow_1))
        · exact hg _ (by decide +kernel : Cond.eq (.elem (.field (.string "FluxWatch$LawReader" 66) "java/lang/String" "value" "[B") (.int 3)) (.int 99) ∈ flatC (Jvm.Cond.and given_1 narrow_1))
        · exact hg _ (by decide +kernel : Cond.eq (.elem (.field (.string "FluxWatch$LawReader" 66) "java/lang/String" "value" "[B") (.int 4)) (.int 107) ∈ flatC (Jvm.Cond.and given_1 narrow_1))
      · have hj : j < 5 := hj
        rcases (show j = 0 ∨ j = 1 ∨ j = 2 ∨ j = 3 ∨ j = 4 by omega) with rfl | rfl | rfl | rfl | rfl
        · exact hg _ (by decide +kernel : Cond.eq (.elem (.field (.string "FluxWatch$LawReader" 68) "java/lang/String" "value" "[B") (.int 0)) (.int 115) ∈ flatC (Jvm.Cond.and given_1 narrow_1))
        · exact hg _ (by decide +kernel : Cond.eq (.elem (.field (.string "FluxWatch$LawReader" 68) "java/lang/String" "value" "[B") (.int 1)) (.int 116) ∈ flatC (Jvm.Cond.and given_1 narrow_1))
        · exact hg _ (by decide +kernel : Cond.eq (.elem (.field (.string "FluxWatch$LawReader" 68) "java/lang/String" "value" "[B") (.int 2)) (.int 97) ∈ flatC (Jvm.Cond.and given_1 narrow_1))
        · exact hg _ (by decide +kernel : Cond.eq (.elem (.field (.string "FluxWatch$LawReader" 68) "java/lang/String" "value" "[B") (.int 3)) (.int 114) ∈ flatC (Jvm.Cond.and given_1 narrow_1))
        · exact hg _ (by decide +kernel : Cond.eq (.elem (.field (.string "FluxWatch$LawReader" 68) "java/lang/String" "value" "[B") (.int 4)) (.int 115) ∈ flatC (Jvm.Cond.and given_1 narrow_1)))
    (fun i j hi hj hij => by
      rcases (show (i = 0 ∧ j = 1) ∨ (i = 0 ∧ j = 2) ∨ (i = 1 ∧ j = 2) ∨ (i = 1 ∧ j = 0) ∨ (i = 2 ∧ j = 0) ∨ (i = 2 ∧ j = 1) by omega) with ⟨rfl, rfl⟩ | ⟨rfl, rfl⟩ | ⟨rfl, rfl⟩ | ⟨rfl, rfl⟩ | ⟨rfl, rfl⟩ | ⟨rfl, rfl⟩
      · exact Or.inl (hg _ (by decide +kernel : Cond.not (Cond.eq (.string "FluxWatch$LawReader" 60) (.string "FluxWatch$LawReader" 66)) ∈ flatC (Jvm.Cond.and given_1 narrow_1)))
      · exact Or.inl (hg _ (by decide +kernel : Cond.not (Cond.eq (.string "FluxWatch$LawReader" 60) (.string "FluxWatch$LawReader" 68)) ∈ flatC (Jvm.Cond.and given_1 narrow_1)))
      · exact Or.inl (hg _ (by decide +kernel : Cond.not (Cond.eq (.string "FluxWatch$LawReader" 66) (.string "FluxWatch$LawReader" 68)) ∈ flatC (Jvm.Cond.and given_1 narrow_1)))
      · exact Or.inr (hg _ (by decide +kernel : Cond.not (Cond.eq (.string "FluxWatch$LawReader" 60) (.string "FluxWatch$LawReader" 66)) ∈ flatC (Jvm.Cond.and given_1 narrow_1)))
      · exact Or.inr (hg _ (by decide +kernel : Cond.not (Cond.eq (.string "FluxWatch$LawReader" 60) (.string "FluxWatch$LawReader" 68)) ∈ flatC (Jvm.Cond.and given_1 narrow_1)))
      · exact Or.inr (hg _ (by decide +kernel : Cond.not (Cond.eq (.string "FluxWatch$LawReader" 66) (.string "FluxWatch$LawReader" 68)) ∈ flatC (Jvm.Cond.and given_1 narrow_1))))
    (fun a ha => Nat.not_le.mpr ha)
set_option maxHeartbeats 4000000 in
set_option maxRecDepth 100000 in
theorem st_KC {s : State} {args : Array Value} (htl : ∀ w ∈ lw_tbl, w.before args s = true) (hgv : (Jvm.Cond.and given_1 narrow_1).before args s = true) : ∃ G : GE, gz G = s.heap.size ∧ gH G = s.heap ∧ KC G s := by
  have hts : ∀ w ∈ gT, w.before args s = true := fun w h => htl w (List.mem_filter.mp h).1
  have hg := flat_of_before _ hgv
  obtain ⟨D, hD⟩ := ex_D hts
  have aoL : va_AO "FluxWatch$Law" s := va_AO.of (htl (.arrayOver (.object "FluxWatch$Law")) (by decide +kernel))
  have aoS : va_AO "FluxWatch$Sheet" s := va_AO.of (htl (.arrayOver (.object "FluxWatch$Sheet")) (by decide +kernel))
  have aoT : va_AO "FluxWatch$Slot" s := va_AO.of (htl (.arrayOver (.object "FluxWatch$Slot")) (by decide +kernel))
  obtain ⟨c0, a0⟩ := ex_A (ty := .int) (fun _ => rfl) (hts _ q_106)
  obtain ⟨c1, a1⟩ := ex_A (ty := .boolean) (fun _ => rfl) (hts _ q_387)
  obtain ⟨c2, a2⟩ := ex_A (ty := .char) (fun _ => rfl) (hts _ q_1215)
  obtain ⟨c3, a3⟩ := ex_O aoS
  obtain ⟨c4, a4⟩ := ex_O aoT
  obtain ⟨c5, a5⟩ := ex_O aoL
  obtain ⟨adK, adV, hS, hE⟩ := st_str hg
  let G : GE := (s.heap.size, D, fun t => [c0, c1, c2, c3, c4, c5].getD t 0, s.heap, adK, adV)
  have e0 := hE 0 (by decide)
  have e1 := hE 1 (by decide)
  have e2 := hE 2 (by decide)
  refine ⟨G, rfl, rfl, ⟨⟨hD, fun k q hk => ?_⟩, fun w hw => ?_, ⟨st_ABOVE rfl rfl htl hts hg, st_LEAST rfl rfl htl hts hg, st_MOST rfl rfl htl hts hg, ?_, hS, ?_, ?_, ?_, ?_⟩, rfl⟩, aoL, aoS, aoT⟩
  · have hl : k < 6 := (List.getElem?_eq_some_iff.mp hk).1
    rcases (show k = 0 ∨ k = 1 ∨ k = 2 ∨ k = 3 ∨ k = 4 ∨ k = 5 by omega) with rfl | rfl | rfl | rfl | rfl | rfl <;> cases hk
    · exact a0
    · exact a1
    · exact a2
    · exact a3
    · exact a4
    · exact a5
  · have h3 := (List.mem_filter.mp hw)
    have h5 := htl w h3.1
    have h4 := h3.2
    cases w <;> first | (exact va_Nw.of rfl h5) | (simp [isNest] at h4)
  · exact va_Zof (htl (.laysStatic "java/lang/String" "COMPACT_STRINGS" "Z") (by decide +kernel)) (hts _ q_61) (va_eqi (hg _ (by decide +kernel : Cond.eq (.static "java/lang/String" "COMPACT_STRINGS" "Z") (.int 1) ∈ flatC (Jvm.Cond.and given_1 narrow_1)))) (fun a ha => Nat.not_le.mpr ha)
  · refine vk_R.of (A := args) ?_ ?_
    · exact htl (.stringRef "FluxWatch$LawReader" 60 "rate") (by decide +kernel)
    · exact e0
  · refine vk_R.of (A := args) ?_ ?_
    · exact htl (.stringRef "FluxWatch$LawReader" 66 "knock") (by decide +kernel)
    · exact e1
  · refine vk_R.of (A := args) ?_ ?_
    · exact htl (.stringRef "FluxWatch$LawReader" 68 "stars") (by decide +kernel)
    · exact e2
  · exact va_Zqof (htl (.laysStatic "jdk/internal/util/Preconditions" "SIOOBE_FORMATTER" "Ljava/util/function/BiFunction;") (by decide +kernel)) (hts _ q_63) (hg _ (by decide +kernel : Cond.isRef (.static "jdk/internal/util/Preconditions" "SIOOBE_FORMATTER" "Ljava/util/function/BiFunction;") ∈ flatC (Jvm.Cond.and given_1 narrow_1))) (fun a ha => Nat.not_le.mpr ha)
theorem cwL_X11_init : cwB room_1 rmX11_init yX11_init cX11_init 2 none 0 := ⟨q_70, q_45, by decide, by decide⟩
theorem cwL_X12_init : cwB room_1 rmX12_init yX12_init cX12_init 1 none 0 := ⟨q_1110, q_57, by decide, by decide⟩
set_option maxHeartbeats 4000000 in
set_option maxRecDepth 100000 in
theorem law_start {V : VE} {G : GE} {b L n : Nat} {xs : Nat → Int32} {Inv : Nat → Mm → Mm → Prop} {ls : Array Slot} (B : CX V G code 4 "FluxWatchLaw" (some .boolean)) (hK : KC G V.2.2.2.2.1) (hR : V.2.2.2.1 = room_1) (hA : V.2.2.2.2.2.2.1 = #[Value.ref b]) (hz : V.2.2.2.2.1.heap.size = gz G) (hb : b < gz G) (hX : va_X b L xs V.2.2.2.2.1 (gH G)) (hL : L ≤ 384) (h0 : Inv 0 f0 m0) (hl : lv_has ls 4 [(0, .ref b)]) (s0 : SP_coil Inv n) (s1 : SP_coilTold Inv n) (s2 : SP_creep Inv n) (s3 : SP_pair Inv n) (s4 : SP_part Inv n) (s5 : SP_watch Inv n) (s6 : SP_seen Inv n) (s7 : SP_line Inv n) (s8 : SP_step Inv n) (s9 : SP_told Inv n) (s10 : SP_as Inv n) (s11 : SP_turns Inv n) (s12 : SP_drop Inv n) (s13 : SP_set Inv n) (s14 : SP_fit Inv n) (s15 : SP_run Inv n) (s16 : SP_news Inv n) (s17 : SP_since Inv n) (s18 : SP_falls Inv n) (s19 : SP_await Inv n) (s20 : SP_beyond Inv n) (s21 : SP_seed Inv n) (s22 : SP_feed Inv n) (s23 : SP_trim Inv n) (s24 : SP_text Inv n) (s25 : SP_textTold Inv n) (s26 : SP_why Inv n) (s27 : SP_knock Inv n) (s28 : SP_pour Inv n) (s29 : SP_chance Inv n) (s30 : SP_width Inv n) (s31 : SP_key Inv n) (s32 : SP_keys Inv n) (s33 : SP_jokes Inv n) (s34 : SP_offer Inv n) (s35 : SP_clear Inv n) (s36 : SP_best Inv n) (s37 : SP_soonest Inv n) (s38 : SP_sheet Inv n) (s39 : SP_mark Inv n) (s40 : SP_reads Inv n) (s41 : SP_copy Inv n) (s42 : SP_lay Inv n) (s43 : SP_ask Inv n) (s44 : SP_item Inv n) (s45 : SP_rest Inv n) (s46 : SP_tell Inv n) (s47 : SP_check Inv n) (s48 : SP_keep Inv n) (s49 : SP_back Inv n) (s50 : SP_count Inv n) : WL V G [] 0 0 (lw_Z V.2.2.2.2.2.2.2.1 V.2.2.2.2.2.2.1 V.2.2.2.2.1) 0 ls [] := by
  refine p_new (P := []) (B := []) (B1 := [.inr (11, [.null, .null, .null, .int 0, .null, .null, .null, .int 0, .null, .null])]) (C := RX11) (T := TX11) (NN := 10) (ty := tyX11) (nB := 0) B inX11 tyX11_ok rfl q_66 q_67 q_45 rfl rfl rfl (by rw [hR]; decide) (by rw [hR]; decide) dL_law_0 ?_
  refine l_dup B dL_law_3 rfl ?_
  refine p_ctor (P := []) (B := []) (B2 := bk11 G (0 + 0)) (bk := bk11 G) (nB := 0) (As := []) (rest := [.ref (gz G + (0 + 0))]) B hK (fun P' => iX11_init) rfl q_68 q_69 (by rw [hR]; exact cwL_X11_init) rfl rfl rfl rfl rfl hl.1 (Nat.le_of_ble_eq_true rfl) dL_law_4 ?_ ?_
  · rw [hR]; decide
  refine l_astore_n (x := gz G + 0) (lv' := [(1, .ref (gz G + 0)), (0, .ref b)]) B dL_law_7 rfl hl (by decide) rfl (fun ls hl => ?_)
  refine p_new (P := bk11 G 0) (B := []) (B1 := [.inr (12, [.null, .null, .null, .int 0, .null, .int 0, .int 0, .int 0, .int 0, .int 0, .int 0, .int 0, .null, .null, .null, .int 0, .int 0, .null, .int 0, .null, .null, .null, .null, .null, .null, .null, .null, .null, .null, .null, .null, .null, .null, .int 0])]) (C := RX12) (T := TX12) (NN := 34) (ty := tyX12) (nB := 0) B inX12 tyX12_ok rfl q_1106 q_1107 q_57 rfl rfl rfl (by rw [hR]; decide) (by rw [hR]; decide) dL_law_8 ?_
  refine l_dup B dL_law_11 rfl ?_
  refine p_ctor (P := bk11 G 0) (B := []) (B2 := bk12 G ((bk11 G 0).length + 0)) (bk := bk12 G) (nB := 0) (As := []) (rest := [.ref (gz G + ((bk11 G 0).length + 0))]) B hK (fun P' => iX12_init) rfl q_1108 q_1109 (by rw [hR]; exact cwL_X12_init) rfl rfl rfl rfl rfl hl.1 (Nat.le_of_ble_eq_true rfl) dL_law_12 ?_ ?_
  · rw [hR]; decide
  refine l_astore_n (x := gz G + 107) (lv' := [(2, .ref (gz G + 107)), (1, .ref (gz G + 0)), (0, .ref b)]) B dL_law_15 rfl hl (by decide) rfl (fun ls hl => ?_)
  intro H locs h1 h2
  have hRP : RP G 0 f0 m0 H := start_RP h1
  refine (show WX V G 0 f0 m0 130 8087 (lw_Z V.2.2.2.2.2.2.2.1 V.2.2.2.2.2.2.1 V.2.2.2.2.1) 16 ls [] from ?_) H locs hRP h2
  refine x_iconst (v := nI 0) B dL_law_16 (by decide) ?_
  refine x_istore_n (lv' := [(3, .int (nI 0)), (2, .ref (gz G + 107)), (1, .ref (gz G + 0)), (0, .ref b)]) B dL_law_17 rfl hl (by decide) rfl (fun ls hl => ?_)
  exact law_loop B hR hA hz hb hX hL s0 s1 s2 s3 s4 s5 s6 s7 s8 s9 s10 s11 s12 s13 s14 s15 s16 s17 s18 s19 s20 s21 s22 s23 s24 s25 s26 s27 s28 s29 s30 s31 s32 s33 s34 s35 s36 s37 s38 s39 s40 s41 s42 s43 s44 s45 s46 s47 s48 s49 s50 65 0 0 f0 m0 ls (by omega) (by omega) (by omega) hl h0
set_option maxHeartbeats 4000000 in
set_option maxRecDepth 100000 in
theorem whole_open {p : Program} {e : Env} {s : State} {m : MethodId} {below : List Frame} {meth : Method} {c : Code} (l : Launch) {b L n : Nat} {xs : Nat → Int32} {Inv : Nat → Mm → Mm → Prop} (hL : L ≤ 384) (C0 : lw_At p s m meth c b L xs) (h0 : Inv 0 f0 m0) (s0 : SP_coil Inv n) (s1 : SP_coilTold Inv n) (s2 : SP_creep Inv n) (s3 : SP_pair Inv n) (s4 : SP_part Inv n) (s5 : SP_watch Inv n) (s6 : SP_seen Inv n) (s7 : SP_line Inv n) (s8 : SP_step Inv n) (s9 : SP_told Inv n) (s10 : SP_as Inv n) (s11 : SP_turns Inv n) (s12 : SP_drop Inv n) (s13 : SP_set Inv n) (s14 : SP_fit Inv n) (s15 : SP_run Inv n) (s16 : SP_news Inv n) (s17 : SP_since Inv n) (s18 : SP_falls Inv n) (s19 : SP_await Inv n) (s20 : SP_beyond Inv n) (s21 : SP_seed Inv n) (s22 : SP_feed Inv n) (s23 : SP_trim Inv n) (s24 : SP_text Inv n) (s25 : SP_textTold Inv n) (s26 : SP_why Inv n) (s27 : SP_knock Inv n) (s28 : SP_pour Inv n) (s29 : SP_chance Inv n) (s30 : SP_width Inv n) (s31 : SP_key Inv n) (s32 : SP_keys Inv n) (s33 : SP_jokes Inv n) (s34 : SP_offer Inv n) (s35 : SP_clear Inv n) (s36 : SP_best Inv n) (s37 : SP_soonest Inv n) (s38 : SP_sheet Inv n) (s39 : SP_mark Inv n) (s40 : SP_reads Inv n) (s41 : SP_copy Inv n) (s42 : SP_lay Inv n) (s43 : SP_ask Inv n) (s44 : SP_item Inv n) (s45 : SP_rest Inv n) (s46 : SP_tell Inv n) (s47 : SP_check Inv n) (s48 : SP_keep Inv n) (s49 : SP_back Inv n) (s50 : SP_count Inv n) : W p l e room_1 s m #[Value.ref b] below meth c s.heap [] 0 0 (lw_Z below #[Value.ref b] s) (entryFrame m ([Value.ref b] : List Value).toArray 4) := by
  obtain ⟨hx, hcc, hr, hml, hown, htl, hX, hb, hlocks, hgv⟩ := C0
  obtain ⟨G, hz, hH, hK⟩ := st_KC htl hgv
  have hts : ∀ w ∈ gT, w.before #[Value.ref b] s = true := fun w h => htl w (List.mem_filter.mp h).1
  have hl := lv_entry ([.ref b]) (n := 4) (Nat.le_of_ble_eq_true rfl)
  rw [lg_entry_eq]
  generalize (lg_sl ([.ref b]) ++ List.replicate (4 - (lg_sl ([.ref b])).length) Slot.unset).toArray = ls at hl ⊢
  have hl : lv_has ls 4 [(0, .ref b)] := hl
  have key := law_start (V := (p, l, e, room_1, s, m, #[Value.ref b], below, meth, c)) (G := G) (b := b) (L := L) (n := n) (xs := xs) (Inv := Inv) (ls := ls) ⟨hx, hcc, hml, hown, hts, hr, hlocks, hK.1⟩ hK rfl rfl hz.symm (by rw [hz]; exact hb) (by rw [hH]; exact hX) hL h0 hl s0 s1 s2 s3 s4 s5 s6 s7 s8 s9 s10 s11 s12 s13 s14 s15 s16 s17 s18 s19 s20 s21 s22 s23 s24 s25 s26 s27 s28 s29 s30 s31 s32 s33 s34 s35 s36 s37 s38 s39 s40 s41 s42 s43 s44 s45 s46 s47 s48 s49 s50
  refine key s.heap [] ⟨fun k e hk => (by cases hk), (by rw [hz]; rfl), fun q _ => (by rw [hH])⟩ ?_
  exact va_S.rf
