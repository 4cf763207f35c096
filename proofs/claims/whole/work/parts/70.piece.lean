/-! a piece: a number, a name, a not, a bracket -/
def Pd (b k : Nat) : Nat := 1 + 8 * (8 - b) + 2 * (8 - k)
theorem rep_s {j : Nat} {W : List Int32} : List.replicate (j + 1) (-10 : Int32) ++ W = List.replicate j (-10) ++ (-10 :: W) := by
  rw [List.replicate_succ']; simp
section PC
variable {n T key : Nat} {B : Nat → Nat}
theorem hgt_not {h : Nat} : hgt (-10) (h + 1) = some (h + 1) := by
  unfold hgt
  rw [if_neg (by decide), if_pos rfl, if_pos (by omega)]
theorem hgt_at {h : Nat} {c : Int32} (hc : 0 ≤ c) : hgt c h = some (h + 1) := by unfold hgt; rw [if_pos hc]
/-- a part, when it is taken -/
theorem part_done {d b k q j a st en kk v h : Nat} {f m : Mm} {W base0 : List Int32} {c p : Int32} (hn : 2000 ≤ n) (hS : ST B T key f m (W.map (trT key)) W (List.replicate j (-10) ++ base0) a st en kk v) (hk0 : kk ≠ 0) (hk4 : kk ≠ 4) (hb : stp n 6 base0) (hc : trP key c = some p) (hc0 : 0 ≤ c) (hk : cN base0 + j = k) (hV : VALs key W) (hh : hL W = some h) (ha : na W = a) (hq : T + 2 ≤ q + 1 + st)
    (e1 : (rd n 99 d).2.1 (nI b) (nI k) f = fX3_readPiece_53 n (rd n 99 (d - 1)).2.2.2 (rd n 99 (d - 1)).2.2.1 99 p f) (e2 : Kk n (q + 1) b k 1 m = (bn2 (fX12_takesPart_87 n c (m 107 15) m) fun r66 f65 => if r66 = 0 then some (nI 0, f65) else (bn (fX12_notsOpen n f65) fun r69 => fX12_takesE_28L n q (nI b) r69 (nI 0) f65))) :
    ∃ f' m' q' W' a' st' en' kk' v', (rd n 99 d).2.1 (nI b) (nI k) f = some (nI 1, f') ∧ Kk n (q + 1) b k 1 m = Kk n q' b (k - j) 0 m' ∧ ST B T key f' m' (W'.map (trT key)) (List.replicate j (-10) ++ W') base0 a' st' en' kk' v' ∧ VALs key W' ∧ hL W' = some (h + 1) ∧ na W' = a' ∧ T + 2 ≤ q' + st' ∧ st < st' ∧ (∀ i, i ≤ b → m' 116 i = m 116 i) ∧ FRM f m f' m' := by
  obtain ⟨f', m', st', en', k', v', y1, y2, y3, y4, y5, y6⟩ := atom_sim hn hS hk0 hk4 hb hc
  refine ⟨f', m', q, c :: W, a + 1, st', en', k', v', by rw [e1]; exact y1 _ _, ?_, y3, hV.cons hc, by simp only [hL, hh, Option.bind_some]; exact hgt_at hc0, by simp only [na, ha, hc0, if_true], by omega, y4, fun i _ => by rw [y5], y6⟩
  have hs := y3.st
  have nn := nots_on (n := n) (m := m') (stk := base0) hn (by have := y3.2.2.2.2.2.2.2.2.2.2.2; omega) y3.2.2.2.2.2.2.2.1 y3.2.2.2.2.2.2.2.2.1
  rw [e2, y2]
  simp (disch := omega) only [ltE, bnE, bn2E, gdE, nc, nI_add, n_mul, n_sub, ib_nI, up_hit, up_miss, n_le, n_lt, n_eq, n_eq0, n_lt0, n_0le, n_0lt, n_le0, zb_0, zb_1, if_pos, if_neg, ↓reduceIte, Nat.reduceAdd, Nat.reduceMul, Nat.reduceSub, nn, Nat.one_ne_zero]
  show _ = fX12_takesE_28L n q (nI b) (nI (k - j)) (nI 0) m'
  rw [show cN base0 = k - j from by omega]
theorem piece_ok {d b k : Nat} (hn : 2000 ≤ n) (hkey : key ≤ 2) (hb8 : b ≤ 8) (hk8 : k ≤ 8) (hd : Pd b k ≤ d) (ihP : ∀ d', d' < d → ∀ b k, b ≤ 8 → k ≤ 8 → Pd b k ≤ d' → PieceOK n B T key d' b k) (ihL : ∀ d', d' < d → ∀ b k, b ≤ 8 → k ≤ 8 → 6 + Pd b k ≤ d' → LevelOK n B T key d' 0 b k) : PieceOK n B T key d b k := by
  intro q f m W base0 j a st en kk v h hS hb hk hV hh ha hq
  have hs := hS.st
  obtain ⟨q, rfl⟩ : ∃ p, q = p + 1 := ⟨q - 1, by omega⟩
  obtain ⟨d1, rfl⟩ : ∃ p, d = p + 1 := ⟨d - 1, by unfold Pd at hd; omega⟩
  have cF : (rd n 99 (d1 + 1)).2.1 (nI b) (nI k) f = fX3_readPiece n (rd n 99 d1).2.2.2 (rd n 99 d1).2.2.1 99 (nI b) (nI k) f := rfl
  have cK : Kk n (q + 1) b k 1 m = fX12_takesE_28 n (fX12_takesE_28L n q) (nI b) (nI k) (nI 1) m := rfl
  have hZ := hS.1
  have hS' := hS
  obtain ⟨_, s1, s2, s3, s4, s5, s6, s7, s8, s9, s10, s11⟩ := hS
  have hZc := hZ
  obtain ⟨_, _, _, _, _, _, _, _, c7⟩ := hZc
  have fail : (rd n 99 (d1 + 1)).2.1 (nI b) (nI k) f = some (nI 0, f) → Kk n (q + 1) b k 1 m = some (nI 0, m) → FL ((rd n 99 (d1 + 1)).2.1 (nI b) (nI k) f) (Kk n (q + 1) b k 1 m) f m := fun x y => ⟨f, m, st, x, y, by omega, hs.2.2.1, hs.2.2.2.1, FRM.refl⟩
  have nz1 : ¬ (nI 1 : Int32) = 0 := by decide
  rcases c7 with ⟨z0, z1, z2, z3⟩ | ⟨z0, z1, z2, z3⟩ | ⟨z0, z1, z2, z3, z4, z5, z6, z7⟩ | ⟨z0, z1, z2, z3, z4, z5, z6⟩ | ⟨z0, z1, z2, z3⟩
  · left
    refine fail ?_ ?_
    · rw [cF]; unfold fX3_readPiece fX3_isNameOpen fX3_readPiece_102; rw [z1]; rfl
    · rw [cK]; unfold fX12_takesE_28 fX12_takesE_39 fX12_takesE_97 fX12_takesE_158 fX12_takesPart fX12_takesPart_36 fX12_takesPart_37; rw [z2]; rfl
  · have r97 : Kk n (q + 1) b k 1 m = fX12_takesE_158 n (fX12_takesE_28L n q) (nI b) m := by
      rw [cK]; unfold fX12_takesE_28 fX12_takesE_39 fX12_takesE_97; rw [z2]; rfl
    have r2 : ¬ (nI 1 : Int32) = nI 2 := by decide
    rcases name_sim (n := n) hkey hZ z0 s1 s2 with ⟨x, x1, x2, x3, x4, x5, x6⟩ | ⟨x1, x2⟩
    · right
      refine part_done (c := nI (10000 + x)) (p := nI (10000 + v)) hn hS' (by omega) (by omega) hb x5 (by rw [n_0le (by omega)]; trivial) hk hV hh ha hq ?_ ?_
      · rw [cF]; unfold fX3_readPiece fX3_readPiece_19
        have v5 : f 100 5 = nI v := z3.2.2.2.1
        rw [z1, x2]
        simp (disch := omega) only [ltE, bnE, bn2E, gdE, nc, nI_add, n_mul, n_sub, ib_nI, up_hit, up_miss, n_le, n_lt, n_eq, n_eq0, n_lt0, n_0le, n_0lt, n_le0, zb_0, zb_1, if_pos, if_neg, ↓reduceIte, Nat.reduceAdd, Nat.reduceMul, Nat.reduceSub, show ¬ ((-2 : Int32) = -3) from by decide, nz1, v5]
        rfl
      · rw [r97]; unfold fX12_takesE_158 fX12_takesPart fX12_takesPart_37 fX12_takesPart_52 fX12_takesE_172
        rw [z2, if_pos rfl, if_pos x3, x4]
        simp (disch := omega) only [ltE, bnE, bn2E, gdE, nc, nI_add, n_mul, n_sub, ib_nI, up_hit, up_miss, n_le, n_lt, n_eq, n_eq0, n_lt0, n_0le, n_0lt, n_le0, zb_0, zb_1, if_pos, if_neg, ↓reduceIte, Nat.reduceAdd, Nat.reduceMul, Nat.reduceSub, nz1, r2]
    · left
      refine fail ?_ ?_
      · rw [cF]; unfold fX3_readPiece fX3_readPiece_102
        rw [z1, x1]; rfl
      · rw [r97]; unfold fX12_takesE_158 fX12_takesPart fX12_takesPart_36 fX12_takesPart_37
        rw [z2, if_pos rfl]
        rcases x2 with x2 | x2
        · rw [if_neg x2]; rfl
        · rw [x2]
          split <;> rfl
  · right
    refine part_done (c := nI v) (p := nI v) hn hS' (by omega) (by omega) hb (tr_num z5) (by rw [n_0le (by omega)]; trivial) hk hV hh ha hq ?_ ?_
    · rw [cF]; unfold fX3_readPiece fX3_readPiece_19
      rw [z1, z6]; rfl
    · rw [cK]; unfold fX12_takesE_28 fX12_takesE_39 fX12_takesE_97 fX12_takesE_158 fX12_takesPart fX12_takesPart_36 fX12_takesPart_37 fX12_takesPart_52 fX12_takesE_172
      rw [z2, z7]; rfl
  · obtain ⟨n1, n2, n3, n4⟩ := nI_m2 (b := v) (by omega)
    have hk0 : kk ≠ 0 := by omega
    have hk4 : kk ≠ 4 := by omega
    have hl : (List.replicate j (-10) ++ base0).length = j + base0.length := by simp
    have c1 : fX3_isNameOpen n 99 f = some (nI 0) := by unfold fX3_isNameOpen; rw [show 99 + 1 = 100 from rfl, z1]; simp only [n2, if_false]
    by_cases q33 : v = 33 ∧ k < 8
    · obtain ⟨rfl, k7⟩ := q33
      obtain ⟨d2, rfl⟩ : ∃ p, d1 = p + 1 := ⟨d1 - 1, by unfold Pd at hd; omega⟩
      generalize hm2 : up (up m 115 (j + base0.length) (-10)) 107 18 (nI (j + base0.length + 1)) = m2
      have hZ2 : LZ B T f m2 st en kk 33 := hZ.cg rfl rfl (by rw [← hm2]; (simp (disch := omega) only [up_rn])) (fun i i1 i2 => by rw [← hm2]; (simp (disch := omega) only [up_miss]))
      obtain ⟨f3, m3, st3, en3, k3, v3, y1, y2, y3, y4, y5, y6, y7⟩ := hZ2.next (n := n) hn hk0 hk4
      have hST : ST B T key f3 m3 (W.map (trT key)) W (List.replicate (j + 1) (-10) ++ base0) a st3 en3 k3 v3 := by
        refine ⟨y4, by rw [y5 99 (by omega)]; exact s1, by rw [y7 11 (by omega), ← hm2]; simp (disch := omega) only [ltE, bnE, bn2E, gdE, nc, nI_add, n_mul, n_sub, ib_nI, up_hit, up_miss, n_le, n_lt, n_eq, n_eq0, n_lt0, n_0le, n_0lt, n_le0, zb_0, zb_1, if_pos, if_neg, ↓reduceIte, Nat.reduceAdd, Nat.reduceMul, Nat.reduceSub, s2], by rw [y5 99 (by omega)]; exact s3, by rw [y5 102 (by omega)]; exact s4, by rw [y7 15 (by omega), ← hm2]; simp (disch := omega) only [ltE, bnE, bn2E, gdE, nc, nI_add, n_mul, n_sub, ib_nI, up_hit, up_miss, n_le, n_lt, n_eq, n_eq0, n_lt0, n_0le, n_0lt, n_le0, zb_0, zb_1, if_pos, if_neg, ↓reduceIte, Nat.reduceAdd, Nat.reduceMul, Nat.reduceSub, s5], by rw [y6 114 (by omega), ← hm2]; simp (disch := omega) only [up_rn]; exact s6, ?_, ?_, by rw [y5 99 (by omega)]; exact s9, by rw [y7 16 (by omega), ← hm2]; simp (disch := omega) only [ltE, bnE, bn2E, gdE, nc, nI_add, n_mul, n_sub, ib_nI, up_hit, up_miss, n_le, n_lt, n_eq, n_eq0, n_lt0, n_0le, n_0lt, n_le0, zb_0, zb_1, if_pos, if_neg, ↓reduceIte, Nat.reduceAdd, Nat.reduceMul, Nat.reduceSub, s10], ?_⟩
        · rw [y7 18 (by omega), ← hm2, up_hit, List.length_append, List.length_replicate]; congr 1; omega
        · rw [y6 115 (by omega), ← hm2, List.replicate_succ, List.cons_append]
          refine ⟨by rw [hl]; simp (disch := omega) only [ltE, bnE, bn2E, gdE, nc, nI_add, n_mul, n_sub, ib_nI, up_hit, up_miss, n_le, n_lt, n_eq, n_eq0, n_lt0, n_0le, n_0lt, n_le0, zb_0, zb_1, if_pos, if_neg, ↓reduceIte, Nat.reduceAdd, Nat.reduceMul, Nat.reduceSub], RR.cg _ s8 (fun i hi => ?_)⟩
          rw [hl] at hi
          simp (disch := omega) only [ltE, bnE, bn2E, gdE, nc, nI_add, n_mul, n_sub, ib_nI, up_hit, up_miss, n_le, n_lt, n_eq, n_eq0, n_lt0, n_0le, n_0lt, n_le0, zb_0, zb_1, if_pos, if_neg, ↓reduceIte, Nat.reduceAdd, Nat.reduceMul, Nat.reduceSub]
        · rw [List.length_append, List.length_replicate]; rw [hl] at s11; omega
      have nn := nots_on (n := n) (m := m3) hn (by have := hST.2.2.2.2.2.2.2.2.2.2.2; have := hST.st; omega) hST.2.2.2.2.2.2.2.1 hST.2.2.2.2.2.2.2.2.1
      rw [cN_app, cN_rep, show j + 1 + cN base0 = k + 1 from by omega] at nn
      have eC : (rd n 99 (d2 + 1 + 1)).2.1 (nI b) (nI k) f = (bn2 ((bn2 ((rd n 99 d2).2.1 (nI b) (nI (k + 1)) f3) fun r5 f4 => if r5 = 0 then some (nI 0, f4) else bn (fX3_addPiece n 99 (nI 10033) f4) fun f8 => some (nI 1, f8))) fun r22 f21 => gd (zb r22) (some (r22, f21))) := by
        rw [cF]
        unfold fX3_readPiece
        rw [show 99 + 1 = 100 from rfl, z1, c1]
        simp only [n3, if_false, bnE, if_true, show ((nI 0 : Int32) = 0) = True from eq_true rfl]
        have : (rd n 99 (d2 + 1)).2.2.1 (nI b) (nI (k + 1)) f = (bn2 ((rd n 99 d2).2.1 (nI b) (nI (k + 1)) f3) fun r5 f4 => if r5 = 0 then some (nI 0, f4) else bn (fX3_addPiece n 99 (nI 10033) f4) fun f8 => some (nI 1, f8)) := by
          show fX3_readNot n (rd n 99 d2).2.1 99 (nI b) (nI (k + 1)) f = _
          unfold fX3_readNot
          rw [show 99 + 1 = 100 from rfl, y1]; rfl
        simp (disch := omega) only [ltE, bnE, bn2E, gdE, nc, nI_add, n_mul, n_sub, ib_nI, up_hit, up_miss, n_le, n_lt, n_eq, n_eq0, n_lt0, n_0le, n_0lt, n_le0, zb_0, zb_1, if_pos, if_neg, ↓reduceIte, Nat.reduceAdd, Nat.reduceMul, Nat.reduceSub, show ¬ 8 ≤ k from by omega, this]
      have eK : Kk n (q + 1) b k 1 m = Kk n q b (k + 1) 1 m3 := by
        rw [cK]
        unfold fX12_takesE_28 fX12_takesE_39 fX12_takesE_172
        rw [hl] at s7
        simp (disch := omega) only [ltE, bnE, bn2E, gdE, nc, nI_add, n_mul, n_sub, ib_nI, up_hit, up_miss, n_le, n_lt, n_eq, n_eq0, n_lt0, n_0le, n_0lt, n_le0, zb_0, zb_1, if_pos, if_neg, ↓reduceIte, Nat.reduceAdd, Nat.reduceMul, Nat.reduceSub, nz1, z2, z3, show ¬ 8 ≤ k from by omega, s7, hm2, y2, nn]
        rfl
      have fr : FRM f m f3 m3 := ⟨fun r _ r2 _ => y5 r r2, fun r r1 _ r3 _ => by rw [y6 r r1, ← hm2]; (simp (disch := omega) only [up_rn]), fun i hi => by rw [y7 i (by omega), ← hm2]; (simp (disch := omega) only [up_miss])⟩
      rcases ihP d2 (by omega) b (k + 1) hb8 (by omega) (by unfold Pd at *; omega) q f3 m3 W base0 (j + 1) a st3 en3 k3 v3 h hST hb (by omega) hV hh ha (by omega) with ⟨f', m', s, w1, w2, w3, w4, w5, w6⟩ | ⟨f', m', q', W', a', st', en', kk', v', w1, w2, w3, w4, w5, w6, w7, w8, w9, w10⟩
      · left
        refine ⟨f', m', s, ?_, by rw [eK]; exact w2, w3, w4, w5, fr.trans w6⟩
        rw [eC, w1]; rfl
      · right
        have hs3 := w3.st
        have p3 := w3.2.2.2.1
        have p11 := w3.2.2.2.2.2.2.2.2.2.2.2
        have p4 := w3.2.2.2.2.1
        rw [List.length_map] at p3
        have hWl : W'.length < 95 := by rw [List.length_append, List.length_replicate] at p11; omega
        refine ⟨up (up f' 102 W'.length (nI 10033)) 99 2 (nI (W'.length + 1)), m', q', -10 :: W', a', st', en', kk', v', ?_, by rw [eK, w2, show k + 1 - (j + 1) = k - j from by omega], ?_, w4.cons (p := nI 10033) (by unfold trP; rfl), by simp only [hL, w5, Option.bind_some]; exact hgt_not, by simp only [na, w6, show ¬ (0 : Int32) ≤ -10 from by decide, if_false, Nat.add_zero], w7, by omega, ?_, ?_⟩
        · rw [eC, w1]
          have := c_addPiece (n := n) (x := nI 10033) p3 (by omega)
          simp (disch := omega) only [ltE, bnE, bn2E, gdE, nc, nI_add, n_mul, n_sub, ib_nI, up_hit, up_miss, n_le, n_lt, n_eq, n_eq0, n_lt0, n_0le, n_0lt, n_le0, zb_0, zb_1, if_pos, if_neg, ↓reduceIte, Nat.reduceAdd, Nat.reduceMul, Nat.reduceSub, nz1, this]
        · rw [← rep_s]
          obtain ⟨t0, t1, t2, t3, t4, t5, t6, t7, t8, t9, t10, t11⟩ := w3
          refine ⟨t0.cg (by (simp (disch := omega) only [up_rn])) (by (simp (disch := omega) only [up_rn])) rfl (fun _ _ _ => rfl), by simp (disch := omega) only [ltE, bnE, bn2E, gdE, nc, nI_add, n_mul, n_sub, ib_nI, up_hit, up_miss, n_le, n_lt, n_eq, n_eq0, n_lt0, n_0le, n_0lt, n_le0, zb_0, zb_1, if_pos, if_neg, ↓reduceIte, Nat.reduceAdd, Nat.reduceMul, Nat.reduceSub, t1], t2, by rw [List.length_map, List.length_cons]; simp (disch := omega) only [ltE, bnE, bn2E, gdE, nc, nI_add, n_mul, n_sub, ib_nI, up_hit, up_miss, n_le, n_lt, n_eq, n_eq0, n_lt0, n_0le, n_0lt, n_le0, zb_0, zb_1, if_pos, if_neg, ↓reduceIte, Nat.reduceAdd, Nat.reduceMul, Nat.reduceSub], ?_, t5, t6, t7, t8, by simp (disch := omega) only [ltE, bnE, bn2E, gdE, nc, nI_add, n_mul, n_sub, ib_nI, up_hit, up_miss, n_le, n_lt, n_eq, n_eq0, n_lt0, n_0le, n_0lt, n_le0, zb_0, zb_1, if_pos, if_neg, ↓reduceIte, Nat.reduceAdd, Nat.reduceMul, Nat.reduceSub, t9], t10, t11⟩
          rw [up_rn (by omega), List.map_cons]
          refine ⟨by rw [List.length_map, up_hit]; unfold trT trP; rfl, RR.cg _ t4 (fun i hi => ?_)⟩
          rw [List.length_map] at hi
          simp (disch := omega) only [ltE, bnE, bn2E, gdE, nc, nI_add, n_mul, n_sub, ib_nI, up_hit, up_miss, n_le, n_lt, n_eq, n_eq0, n_lt0, n_0le, n_0lt, n_le0, zb_0, zb_1, if_pos, if_neg, ↓reduceIte, Nat.reduceAdd, Nat.reduceMul, Nat.reduceSub]
        · intro i hi
          rw [w9 i hi, y6 116 (by omega), ← hm2]; simp (disch := omega) only [ltE, bnE, bn2E, gdE, nc, nI_add, n_mul, n_sub, ib_nI, up_hit, up_miss, n_le, n_lt, n_eq, n_eq0, n_lt0, n_0le, n_0lt, n_le0, zb_0, zb_1, if_pos, if_neg, ↓reduceIte, Nat.reduceAdd, Nat.reduceMul, Nat.reduceSub]
        · refine (fr.trans w10).trans ⟨fun r r1 r2 r3 => by (simp (disch := omega) only [up_rn]), fun _ _ _ _ _ => rfl, fun _ _ => rfl⟩
    · have c33 : (rd n 99 (d1 + 1)).2.1 (nI b) (nI k) f = fX3_readPiece_102 n (rd n 99 d1).2.2.2 (rd n 99 d1).2.2.1 99 (nI b) (nI k) f := by
        rw [cF]
        unfold fX3_readPiece
        rw [show 99 + 1 = 100 from rfl, z1, c1]
        simp only [n3, if_false, bnE, if_true, show ((nI 0 : Int32) = 0) = True from eq_true rfl]
        by_cases e : v = 33
        · have : 8 ≤ k := by omega
          simp (disch := omega) only [ltE, bnE, bn2E, gdE, nc, nI_add, n_mul, n_sub, ib_nI, up_hit, up_miss, n_le, n_lt, n_eq, n_eq0, n_lt0, n_0le, n_0lt, n_le0, zb_0, zb_1, if_pos, if_neg, ↓reduceIte, Nat.reduceAdd, Nat.reduceMul, Nat.reduceSub, e, this]
        · simp (disch := omega) only [ltE, bnE, bn2E, gdE, nc, nI_add, n_mul, n_sub, ib_nI, up_hit, up_miss, n_le, n_lt, n_eq, n_eq0, n_lt0, n_0le, n_0lt, n_le0, zb_0, zb_1, if_pos, if_neg, ↓reduceIte, Nat.reduceAdd, Nat.reduceMul, Nat.reduceSub, e]
      have r33 : Kk n (q + 1) b k 1 m = fX12_takesE_97 n (fX12_takesE_28L n q) (nI b) (nI 1) m := by
        rw [cK]
        unfold fX12_takesE_28 fX12_takesE_39
        by_cases e : v = 33
        · have : 8 ≤ k := by omega
          simp (disch := omega) only [ltE, bnE, bn2E, gdE, nc, nI_add, n_mul, n_sub, ib_nI, up_hit, up_miss, n_le, n_lt, n_eq, n_eq0, n_lt0, n_0le, n_0lt, n_le0, zb_0, zb_1, if_pos, if_neg, ↓reduceIte, Nat.reduceAdd, Nat.reduceMul, Nat.reduceSub, nz1, z2, z3, e, this]
        · simp (disch := omega) only [ltE, bnE, bn2E, gdE, nc, nI_add, n_mul, n_sub, ib_nI, up_hit, up_miss, n_le, n_lt, n_eq, n_eq0, n_lt0, n_0le, n_0lt, n_le0, zb_0, zb_1, if_pos, if_neg, ↓reduceIte, Nat.reduceAdd, Nat.reduceMul, Nat.reduceSub, nz1, z2, z3, e]
      by_cases q40 : v = 40 ∧ b < 8
      · obtain ⟨rfl, b7⟩ := q40
        obtain ⟨d2, rfl⟩ : ∃ p, d1 = p + 1 := ⟨d1 - 1, by unfold Pd at hd; omega⟩
        generalize hm2 : up (up (up m 115 (j + base0.length) (-11)) 107 18 (nI (j + base0.length + 1))) 116 (b + 1) (nI 0) = m2
        have hZ2 : LZ B T f m2 st en kk 40 := hZ.cg rfl rfl (by rw [← hm2]; (simp (disch := omega) only [up_rn])) (fun i i1 i2 => by rw [← hm2]; (simp (disch := omega) only [up_miss]))
        obtain ⟨f3, m3, st3, en3, k3, v3, y1, y2, y3, y4, y5, y6, y7⟩ := hZ2.next (n := n) hn hk0 hk4
        have hST : ST B T key f3 m3 (W.map (trT key)) W (-11 :: (List.replicate j (-10) ++ base0)) a st3 en3 k3 v3 := by
          refine ⟨y4, by rw [y5 99 (by omega)]; exact s1, by rw [y7 11 (by omega), ← hm2]; simp (disch := omega) only [ltE, bnE, bn2E, gdE, nc, nI_add, n_mul, n_sub, ib_nI, up_hit, up_miss, n_le, n_lt, n_eq, n_eq0, n_lt0, n_0le, n_0lt, n_le0, zb_0, zb_1, if_pos, if_neg, ↓reduceIte, Nat.reduceAdd, Nat.reduceMul, Nat.reduceSub, s2], by rw [y5 99 (by omega)]; exact s3, by rw [y5 102 (by omega)]; exact s4, by rw [y7 15 (by omega), ← hm2]; simp (disch := omega) only [ltE, bnE, bn2E, gdE, nc, nI_add, n_mul, n_sub, ib_nI, up_hit, up_miss, n_le, n_lt, n_eq, n_eq0, n_lt0, n_0le, n_0lt, n_le0, zb_0, zb_1, if_pos, if_neg, ↓reduceIte, Nat.reduceAdd, Nat.reduceMul, Nat.reduceSub, s5], by rw [y6 114 (by omega), ← hm2]; simp (disch := omega) only [up_rn]; exact s6, ?_, ?_, by rw [y5 99 (by omega)]; exact s9, by rw [y7 16 (by omega), ← hm2]; simp (disch := omega) only [ltE, bnE, bn2E, gdE, nc, nI_add, n_mul, n_sub, ib_nI, up_hit, up_miss, n_le, n_lt, n_eq, n_eq0, n_lt0, n_0le, n_0lt, n_le0, zb_0, zb_1, if_pos, if_neg, ↓reduceIte, Nat.reduceAdd, Nat.reduceMul, Nat.reduceSub, s10], ?_⟩
          · rw [y7 18 (by omega), ← hm2, List.length_cons, hl]; simp (disch := omega) only [ltE, bnE, bn2E, gdE, nc, nI_add, n_mul, n_sub, ib_nI, up_hit, up_miss, n_le, n_lt, n_eq, n_eq0, n_lt0, n_0le, n_0lt, n_le0, zb_0, zb_1, if_pos, if_neg, ↓reduceIte, Nat.reduceAdd, Nat.reduceMul, Nat.reduceSub]
          · rw [y6 115 (by omega), ← hm2]
            refine ⟨by rw [hl]; simp (disch := omega) only [ltE, bnE, bn2E, gdE, nc, nI_add, n_mul, n_sub, ib_nI, up_hit, up_miss, n_le, n_lt, n_eq, n_eq0, n_lt0, n_0le, n_0lt, n_le0, zb_0, zb_1, if_pos, if_neg, ↓reduceIte, Nat.reduceAdd, Nat.reduceMul, Nat.reduceSub], RR.cg _ s8 (fun i hi => ?_)⟩
            rw [hl] at hi
            simp (disch := omega) only [ltE, bnE, bn2E, gdE, nc, nI_add, n_mul, n_sub, ib_nI, up_hit, up_miss, n_le, n_lt, n_eq, n_eq0, n_lt0, n_0le, n_0lt, n_le0, zb_0, zb_1, if_pos, if_neg, ↓reduceIte, Nat.reduceAdd, Nat.reduceMul, Nat.reduceSub]
          · rw [List.length_cons]; omega
        have nn := nots_on (n := n) (m := m3) hn (by have := hST.2.2.2.2.2.2.2.2.2.2.2; have := hST.st; omega) hST.2.2.2.2.2.2.2.1 hST.2.2.2.2.2.2.2.2.1
        have cNs : cN (-11 :: (List.replicate j (-10) ++ base0)) = k := by
          simp only [cN, cN_app, cN_rep, show ¬ ((-11 : Int32) = -10) from by decide, if_false]; omega
        rw [cNs] at nn
        have eC : (rd n 99 (d2 + 1 + 1)).2.1 (nI b) (nI k) f = (bn2 ((bn2 ((rd n 99 d2).1 (nI 0) (nI (b + 1)) (nI k) f3) fun r5 f4 => if r5 = 0 then some (nI 0, f4) else if f4 100 2 = nI 41 then (bn (fX9_openNext n 100 f4) fun f9 => some (nI 1, f9)) else some (nI 0, f4))) fun r18 f17 => if r18 = 0 then some (nI 0, f17) else some (nI 1, f17)) := by
          rw [c33]
          unfold fX3_readPiece_102
          have : (rd n 99 (d2 + 1)).2.2.2 (nI b + nI 1) (nI k) f = (bn2 ((rd n 99 d2).1 (nI 0) (nI (b + 1)) (nI k) f3) fun r5 f4 => if r5 = 0 then some (nI 0, f4) else if f4 100 2 = nI 41 then (bn (fX9_openNext n 100 f4) fun f9 => some (nI 1, f9)) else some (nI 0, f4)) := by
            show fX3_readBracket n (rd n 99 d2).1 99 (nI b + nI 1) (nI k) f = _
            unfold fX3_readBracket
            rw [show 99 + 1 = 100 from rfl, y1, nI_add]; rfl
          rw [show 99 + 1 = 100 from rfl, z1, if_pos rfl, if_neg (by rw [n_le (by omega) (by omega)]; omega), this]
        have eK : Kk n (q + 1) b k 1 m = Kk n q (b + 1) k 1 m3 := by
          rw [r33]
          unfold fX12_takesE_97 fX12_takesE_172
          rw [hl] at s7
          simp (disch := omega) only [ltE, bnE, bn2E, gdE, nc, nI_add, n_mul, n_sub, ib_nI, up_hit, up_miss, n_le, n_lt, n_eq, n_eq0, n_lt0, n_0le, n_0lt, n_le0, zb_0, zb_1, if_pos, if_neg, ↓reduceIte, Nat.reduceAdd, Nat.reduceMul, Nat.reduceSub, z2, z3, show ¬ 8 ≤ b from by omega, s7, nar01.1, hm2, y2, nn]
          rfl
        have fr : FRM f m f3 m3 := ⟨fun r _ r2 _ => y5 r r2, fun r r1 _ r3 r4 => by rw [y6 r r1, ← hm2]; (simp (disch := omega) only [up_rn]), fun i hi => by rw [y7 i (by omega), ← hm2]; (simp (disch := omega) only [up_miss])⟩
        have t116 : m3 116 (b + 1) = nI 0 := by rw [y6 116 (by omega), ← hm2]; simp (disch := omega) only [ltE, bnE, bn2E, gdE, nc, nI_add, n_mul, n_sub, ib_nI, up_hit, up_miss, n_le, n_lt, n_eq, n_eq0, n_lt0, n_0le, n_0lt, n_le0, zb_0, zb_1, if_pos, if_neg, ↓reduceIte, Nat.reduceAdd, Nat.reduceMul, Nat.reduceSub]
        rcases ihL d2 (by omega) (b + 1) k (by omega) hk8 (by unfold Pd at *; omega) q f3 m3 W (-11 :: (List.replicate j (-10) ++ base0)) a st3 en3 k3 v3 h hST (Or.inr ⟨-11, _, rfl, Or.inl rfl⟩) cNs hV hh ha (Or.inl t116) (fun _ => t116) (by omega) with ⟨f', m', s, w1, w2, w3, w4, w5, w6⟩ | ⟨f4, m4, q4, W', rc, pend, a', st4, en4, kk4, v4, w1, w2, w3, w4, w5, w6, w7, w8, w9, w10, w11, w12, w13, w14, w15⟩
        · left
          refine ⟨f', m', s, ?_, by rw [eK]; exact w2, w3, w4, w5, fr.trans w6⟩
          rw [eC, w1]; rfl
        · have hs4 := w3.st
          obtain ⟨q5, rfl⟩ : ∃ p, q4 = p + 1 := ⟨q4 - 1, by omega⟩
          by_cases q41 : kk4 = 3 ∧ v4 = 41
          · obtain ⟨rfl, rfl⟩ := q41
            right
            have w3' := w3
            obtain ⟨t0, t1, t2, t3, t4, t5, t6, t7, t8, t9, t10, t11⟩ := w3
            have tk : f4 100 2 = nI 41 ∧ m4 107 8 = nI 3 ∧ m4 107 9 = nI 41 := by
              obtain ⟨_, _, _, _, _, _, _, _, c7⟩ := t0
              rcases c7 with ⟨x0, _⟩ | ⟨x0, _⟩ | ⟨x0, _⟩ | ⟨_, x1, x2, x3, _⟩ | ⟨x0, _⟩
              · omega
              · omega
              · omega
              · exact ⟨x1, x2, x3⟩
              · omega
            obtain ⟨m5, g1, g2, g3, g4, g5, g6, g7⟩ := settle_on (n := n) (m := m4) (r := 0) (base := -11 :: (List.replicate j (-10) ++ base0)) (pend := pend) (rc := rc) hn (by omega) (Or.inr ⟨-11, _, rfl, Or.inl rfl⟩) (by omega) t7 t8 t5 t6 (fun c hc => ⟨(w8 c hc).1, by obtain ⟨x, x1, x2, x3⟩ := (w8 c hc).2; exact ⟨x, by omega, x2, x3⟩⟩)
            rw [← w4] at g4 g5
            rw [List.length_cons, hl] at g2
            have hWr : W'.length = pend.length + rc.length := by rw [w4]; simp
            have hsz : W'.length + (j + base0.length) + 5 ≤ st4 := by
              rw [List.length_append, List.length_cons, hl] at t11; omega
            obtain ⟨m6, i1, i2, i3, i4, i5, i6, i7⟩ := settle_on (n := n) (m := up m5 107 18 (nI (j + base0.length))) (r := 6) (base := base0) (pend := List.replicate j (-10)) (rc := W') hn (by omega) hb (by rw [hl]; omega) (by rw [hl, up_hit]) (by rw [up_rn (by omega)]; exact g3.2) (by rw [up_miss (by omega)]; exact g4) (by rw [up_rn (by omega)]; exact g5) (fun d hd => by
              rw [List.eq_of_mem_replicate hd]
              exact ⟨by decide, 6, by omega, by omega, rk_not⟩)
            rw [List.reverse_replicate] at i4 i5
            have hZ6 : LZ B T f4 m6 st4 en4 3 41 := t0.cg rfl rfl (by rw [i6 111 (by omega) (by omega), up_rn (by omega), g6 111 (by omega) (by omega)]) (fun i x1 x2 => by rw [i7 i (by omega) (by omega), up_miss (by omega), g7 i (by omega) (by omega)])
            obtain ⟨f7, m7, st7, en7, k7, v7, o1, o2, o3, o4, o5, o6, o7⟩ := hZ6.next (n := n) hn (by omega) (by omega)
            have nn6 := nots_on (n := n) (m := m6) (stk := base0) hn (by omega) i2 i3
            refine ⟨f7, m7, q5, W', a', st7, en7, k7, v7, ?_, ?_, ⟨o4, by rw [o5 99 (by omega)]; exact t1, ?_, by rw [o5 99 (by omega)]; exact t3, by rw [o5 102 (by omega)]; exact t4, by rw [o7 15 (by omega)]; exact i4, by rw [o6 114 (by omega)]; exact i5, by rw [o7 18 (by omega)]; exact i2, by rw [o6 115 (by omega)]; exact i3, by rw [o5 99 (by omega)]; exact t9, ?_, ?_⟩, w5, w6, w7, by omega, by omega, fun i hi => ?_, ?_⟩
            · rw [eC, w1]
              simp (disch := omega) only [ltE, bnE, bn2E, gdE, nc, nI_add, n_mul, n_sub, ib_nI, up_hit, up_miss, n_le, n_lt, n_eq, n_eq0, n_lt0, n_0le, n_0lt, n_le0, zb_0, zb_1, if_pos, if_neg, ↓reduceIte, Nat.reduceAdd, Nat.reduceMul, Nat.reduceSub, nz1, tk.1, o1]
            · rw [eK, w2]
              show fX12_takesE_28 n (fX12_takesE_28L n q5) (nI (b + 1)) (nI k) (nI 0) m4 = _
              unfold fX12_takesE_28 fX12_takesE_39
              have bm : nI (b + 1) + (-1 : Int32) = nI b := by
                rw [show (-1 : Int32) = 0 - nI 1 from by decide, ← nI_add, Int32.add_assoc, show nI 1 + (0 - nI 1) = (0 : Int32) from by decide, Int32.add_zero]
              simp (disch := omega) only [ltE, bnE, bn2E, gdE, nc, nI_add, n_mul, n_sub, ib_nI, up_hit, up_miss, n_le, n_lt, n_eq, n_eq0, n_lt0, n_0le, n_0lt, n_le0, zb_0, zb_1, if_pos, if_neg, ↓reduceIte, Nat.reduceAdd, Nat.reduceMul, Nat.reduceSub, tk.2.1, tk.2.2, Nat.reduceEqDiff, Nat.add_eq_zero_iff, Nat.one_ne_zero, and_false, g1, g2, Nat.add_sub_cancel, i1, nn6, o2, bm]
              show _ = fX12_takesE_28L n q5 (nI b) (nI (k - j)) (nI 0) m7
              rw [show cN base0 = k - j from by omega]
            · rw [o7 11 (by omega), i7 11 (by omega) (by omega), up_miss (by omega), g7 11 (by omega) (by omega)]; exact t2
            · rw [o7 16 (by omega), i7 16 (by omega) (by omega), up_miss (by omega), g7 16 (by omega) (by omega)]; exact t10
            · rw [List.length_append, List.length_replicate]; omega
            · rw [o6 116 (by omega), i6 116 (by omega) (by omega), up_rn (by omega), g6 116 (by omega) (by omega), w12 i (by omega), y6 116 (by omega), ← hm2]; simp (disch := omega) only [ltE, bnE, bn2E, gdE, nc, nI_add, n_mul, n_sub, ib_nI, up_hit, up_miss, n_le, n_lt, n_eq, n_eq0, n_lt0, n_0le, n_0lt, n_le0, zb_0, zb_1, if_pos, if_neg, ↓reduceIte, Nat.reduceAdd, Nat.reduceMul, Nat.reduceSub]
            · refine (fr.trans w15).trans ⟨fun r r1 r2 r3 => o5 r r2, fun r r1 r2 r3 r4 => ?_, fun i hi => ?_⟩
              · rw [o6 r r1, i6 r r1 r2, up_rn r1, g6 r r1 r2]
              · rw [o7 i (by omega), i7 i (by omega) (by omega), up_miss (by omega), g7 i (by omega) (by omega)]
          · left
            have hf41 : ¬ f4 100 2 = nI 41 := by
              obtain ⟨⟨_, _, _, _, _, _, _, _, c7⟩, _⟩ := w3
              rcases c7 with ⟨_, x0, _⟩ | ⟨_, x0, _⟩ | ⟨_, x0, _⟩ | ⟨x, x1, x2, x3, x4, _⟩ | ⟨_, x0, _⟩
              · rw [x0]; decide
              · rw [x0]; decide
              · rw [x0]; decide
              · rw [x1, n_eq (by omega) (by omega)]
                exact fun e => q41 ⟨x, e⟩
              · rw [x0]; decide
            have eF : (rd n 99 (d2 + 1 + 1)).2.1 (nI b) (nI k) f = some (nI 0, f4) := by
              rw [eC, w1]
              simp (disch := omega) only [ltE, bnE, bn2E, gdE, nc, nI_add, n_mul, n_sub, ib_nI, up_hit, up_miss, n_le, n_lt, n_eq, n_eq0, n_lt0, n_0le, n_0lt, n_le0, zb_0, zb_1, if_pos, if_neg, ↓reduceIte, Nat.reduceAdd, Nat.reduceMul, Nat.reduceSub, nz1, hf41]
            have post : fX3_levelOf n (f4 100 2) = some (-1) ∨ ∃ l, l < 5 ∧ fX3_levelOf n (f4 100 2) = some (nI l) ∧ (l = 2 ∧ m4 116 (b + 1) = nI 1) := by
              rcases w11 with x | ⟨l, l1, l2, l3 | l3⟩
              · exact Or.inl x
              · omega
              · exact Or.inr ⟨l, l1, l2, l3⟩
            rcases r_stop (q := q5) (k := k) hn w3 (by omega) (Or.inr ⟨-11, _, rfl, Or.inl rfl⟩) w8 post (fun e => q41 ⟨e.1, e.2.1⟩) with ⟨_, m', x1, _, _, x4, x5⟩ | ⟨_, x1⟩
            · refine ⟨f4, m', st4, eF, ?_, by omega, hs4.2.2.1, by rw [x5 7 (by omega) (by omega)]; exact hs4.2.2.2.1, (fr.trans w15).trans ⟨fun _ _ _ _ => rfl, fun r r1 r2 _ _ => x4 r r1 r2, fun i hi => x5 i (by omega) (by omega)⟩⟩
              rw [eK, w2, x1, if_neg (by omega)]
            · exact ⟨f4, m4, st4, eF, by rw [eK, w2, x1], by omega, hs4.2.2.1, hs4.2.2.2.1, fr.trans w15⟩
      · left
        refine fail ?_ ?_
        · rw [c33]
          unfold fX3_readPiece_102
          rw [show 99 + 1 = 100 from rfl, z1]
          by_cases e : v = 40
          · have : 8 ≤ b := by omega
            simp (disch := omega) only [ltE, bnE, bn2E, gdE, nc, nI_add, n_mul, n_sub, ib_nI, up_hit, up_miss, n_le, n_lt, n_eq, n_eq0, n_lt0, n_0le, n_0lt, n_le0, zb_0, zb_1, if_pos, if_neg, ↓reduceIte, Nat.reduceAdd, Nat.reduceMul, Nat.reduceSub, e, this]
          · simp (disch := omega) only [ltE, bnE, bn2E, gdE, nc, nI_add, n_mul, n_sub, ib_nI, up_hit, up_miss, n_le, n_lt, n_eq, n_eq0, n_lt0, n_0le, n_0lt, n_le0, zb_0, zb_1, if_pos, if_neg, ↓reduceIte, Nat.reduceAdd, Nat.reduceMul, Nat.reduceSub, e]
        · rw [r33]
          unfold fX12_takesE_97 fX12_takesE_158 fX12_takesPart fX12_takesPart_36 fX12_takesPart_37
          by_cases e : v = 40
          · have : 8 ≤ b := by omega
            simp (disch := omega) only [ltE, bnE, bn2E, gdE, nc, nI_add, n_mul, n_sub, ib_nI, up_hit, up_miss, n_le, n_lt, n_eq, n_eq0, n_lt0, n_0le, n_0lt, n_le0, zb_0, zb_1, if_pos, if_neg, ↓reduceIte, Nat.reduceAdd, Nat.reduceMul, Nat.reduceSub, z2, z3, e, this, Nat.reduceEqDiff]
          · simp (disch := omega) only [ltE, bnE, bn2E, gdE, nc, nI_add, n_mul, n_sub, ib_nI, up_hit, up_miss, n_le, n_lt, n_eq, n_eq0, n_lt0, n_0le, n_0lt, n_le0, zb_0, zb_1, if_pos, if_neg, ↓reduceIte, Nat.reduceAdd, Nat.reduceMul, Nat.reduceSub, z2, z3, e, Nat.reduceEqDiff]
  · left
    refine fail ?_ ?_
    · rw [cF]; unfold fX3_readPiece fX3_isNameOpen fX3_readPiece_102; rw [z1]; rfl
    · rw [cK]; unfold fX12_takesE_28 fX12_takesE_39 fX12_takesE_97 fX12_takesE_158 fX12_takesPart fX12_takesPart_36 fX12_takesPart_37; rw [z2]; rfl
end PC
