/-! the heap of memory as a list -/
def CLe (z : Nat) (cA : Nat → ClassId) (N : Nat) (f m : Mm) : List va_E := (List.range (130 + 3 * N)).map (fun k => cE z k cA (lay k) (rowOf f m k))
theorem CLe_len {z : Nat} {cA : Nat → ClassId} {N : Nat} {f m : Mm} : (CLe z cA N f m).length = 130 + 3 * N := by simp [CLe]
theorem CLe_at {z : Nat} {cA : Nat → ClassId} {N : Nat} {f m : Mm} {k : Nat} (h : k < 130 + 3 * N) : (CLe z cA N f m)[k]? = some (cE z k cA (lay k) (rowOf f m k)) := by simp [CLe, h]
theorem RP.toPL {G : GE} {N : Nat} {f m : Mm} {H : Heap} (h : RP G N f m H) : PL G (CLe (gz G) (gA G) N f m) H := by
  refine ⟨fun k e hk => ?_, by rw [CLe_len]; exact h.2.1, h.2.2⟩
  have hl : k < 130 + 3 * N := by have := (List.getElem?_eq_some_iff.mp hk).1; rwa [CLe_len] at this
  rw [CLe_at hl] at hk
  cases hk
  exact h.1 k _ (CL_at hl)
theorem PL.toRP {G : GE} {N : Nat} {f m : Mm} {H : Heap} (h : ∀ k, k < 130 + 3 * N → va_at (gD G) vwCl (gz G + k, cE (gz G) k (gA G) (lay k) (rowOf f m k)) H) (hz : H.size = gz G + (130 + 3 * N)) (ho : ∀ q : Nat, q < gz G → H[q]? = (gH G)[q]?) : RP G N f m H := by
  refine ⟨fun k e hk => ?_, hz, ho⟩
  have hl : k < 130 + 3 * N := by have := (List.getElem?_eq_some_iff.mp hk).1; rwa [CL_len] at this
  rw [CL_at hl] at hk
  cases hk
  exact h k hl
theorem arrV_eq {cI : ClassId} {n : Nat} {f g : Nat → Value} (h : ∀ j, j < n → f j = g j) : arrV cI n f = arrV cI n g := by
  unfold arrV
  congr 1
  apply Array.ext
  · simp
  · intro i h1 h2
    simp at h1
    simp [h i h1]
section XT
variable {V : VE} {G : GE} {L : List va_E} {ce sl : Nat} {Q : State → Prop} {pc : Nat} {ls : Array Slot} {rest : List Value} {cc : ByteArray} {nL : Nat} {own : String} {ret : Option FieldType}
def QLr (G : GE) (v : Option Value) (L : List va_E) : Array Value → State → Outcome → State → Prop := fun _ s0 o t => o = .returned v ∧ PL G L t.heap ∧ va_F (fun q => gz G ≤ q) s0 t
def PLy (G : GE) (av : List Value) (L : List va_E) : Array Value → State → Prop := va_Pc av (fun U => KG G U ∧ PL G L U.heap)
def MLr (l : Launch) (G : GE) (y : MethodName) (cc : ByteArray) (nL : Nat) (ret : Option FieldType) (rm : Room) (av : List Value) (v : Option Value) (L L' : List va_E) : Prop := Met l y (.code y cc nL ret :: gT) rm (PLy G av L) (QLr G v L') rm.cells rm.slots (fun q => gz G ≤ q)
theorem MLr.of {l : Launch} {y : MethodName} {rm : Room} {av : List Value} {v : Option Value} {L' : List va_E} (hy : plainName y.cls = true) (hn : (lg_sl av).length ≤ nL)
    (body : ∀ (V : VE) (ls : Array Slot), V.2.1 = l → V.2.2.2.1 = rm → CX V G cc nL y.cls ret → (y.name = "<init>" → V.2.2.2.2.2.2.2.2.1.name = "<init>") → lv_has ls nL (lv_args 0 av) → WL V G L 0 0 (MQ V.2.2.2.2.2.2.2.1 (QLr G v L') V.2.2.2.2.2.2.1 V.2.2.2.2.1 rm.cells rm.slots (fun q => gz G ≤ q)) 0 ls []) : MLr l G y cc nL ret rm av v L L' := by
  refine Met.ofW (cc := cc) (maxL := nL) (ret := ret) hy rfl ?_
  intro p e s mm args below meth c s₁ B hml hv
  obtain ⟨rfl, hK, hP⟩ := hv
  have hts := atoms_spec (ws := Cond.code y cc nL ret :: gT) B.pre
  rw [lg_entry_eq]
  exact body (p, l, e, rm, s, mm, av.toArray, below, meth, c) _ rfl rfl ⟨B.exec, B.bytes, hml, findClass_of_methodNamed B.named, fun w h => hts w (List.mem_cons_of_mem _ h), B.returns, B.notSynchronized, hK⟩ (fun h => (name_of_methodNamed B.named B.method).1.trans h) (lv_entry av hn) s.heap [] hP va_S.rf
theorem l_afterR {v : Option Value} {L1 : List va_E} {a : Array Value} {mc ms : Nat} {H : Heap} {locs : List Loc} {st0 : List Value} (h2 : va_S (fun q => gz G ≤ q) V.2.2.2.2.1.heap H locs)
    (hr : va_Run V.1 V.2.1 V.2.2.1 V.2.2.2.1 V.2.2.2.2.1 V.2.2.2.2.2.1 V.2.2.2.2.2.2.1 V.2.2.2.2.2.2.2.1 V.2.2.2.2.2.2.2.2.1 V.2.2.2.2.2.2.2.2.2 H locs ce sl mc ms (F0 V.2.2.2.2.2.1 pc ls st0) rest (QLr G v L1 a) (fun q => gz G ≤ q))
    (kk : WL V G L1 (ce + mc) (sl + ms) Q (pc + 3) ls (v.toList ++ rest)) : W V.1 V.2.1 V.2.2.1 V.2.2.2.1 V.2.2.2.2.1 V.2.2.2.2.2.1 V.2.2.2.2.2.2.1 V.2.2.2.2.2.2.2.1 V.2.2.2.2.2.2.2.2.1 V.2.2.2.2.2.2.2.2.2 H locs ce sl Q (F0 V.2.2.2.2.2.1 pc ls st0) := by
  intro T hT X
  obtain ⟨v', st₀, t, T', LL, h0, X', hL, e1, e2, ⟨hv, hb, hz, hk⟩, st⟩ := hr T hT X
  cases hv
  rw [h0] at hz hk
  obtain ⟨t2, a1, b1⟩ := kk T'.heap (locs ++ LL) (by rw [e1]; exact hb)
    ⟨Nat.le_trans h2.1 (by rw [e1]; exact hz), fun q g1 g2 => by rw [e1, hk q (Nat.lt_of_lt_of_le g1 h2.1) g2]; exact h2.2.1 q g1 g2, fun q hq => by
      rcases List.mem_append.mp hq with h | h
      · exact h2.2.2 q h
      · exact hL q h⟩ T' rfl X'
  exact ⟨t2, st t2 a1, b1⟩
theorem PLy_blind {av : List Value} : FrameBlind (PLy G av L) := fun a U g mk h => ⟨h.1, KG.same (s := U) (U := U.calling g mk a) rfl h.2.1, h.2.2⟩
theorem l_callS (B : CX V G cc nL own ret) {y : MethodName} {c1 : ByteArray} {n1 n idx : Nat} {r1 : Option FieldType} {rm : Room} {As : List Value} {v : Option Value} {L1 : List va_E} (hM : MLr V.2.1 G y c1 n1 r1 rm As v L L1) (hl : Cond.methodLink own idx y ∈ gT) (hs : Cond.static y ∈ gT) (cw : cwB V.2.2.2.1 rm y c1 n1 r1 n) (hn : As.length = n) {st0 : List Value} (hst : st0 = As.reverse ++ rest) (hls : ls.size = nL) (hw : (rest.map fun v => v.category).sum ≤ 8) (hd : decode cc pc = .ok (.invokestatic idx, 3)) (hf : ce + rm.cells ≤ V.2.2.2.1.cells ∧ sl + rm.slots ≤ V.2.2.2.1.slots) (kk : WL V G L1 (ce + rm.cells) (sl + rm.slots) Q (pc + 3) ls (v.toList ++ rest)) : WL V G L ce sl Q pc ls st0 := by
  intro H locs h1 h2
  have hts := B.2.2.2.2.1
  exact l_afterR h2 (va_runS (Ts := gT) (own := own) (n := n) ⟨B.1, B.2.1, B.2.2.1, B.2.2.2.1, hts⟩ hM ⟨callB_of n hts (gT_ws cw.1) rfl rfl rfl (hts _ cw.2.1) (hts _ hl) cw.2.2.1 cw.2.2.2, hts _ hs⟩ ⟨PLy_blind, fun U hU hW => ⟨rfl, KG.warm hW B.2.2.2.2.2.2.2, by rw [hU]; exact h1⟩⟩ rfl hn hls hst (by show 2 * 0 + _ ≤ 8; omega) hd hf) kk
theorem l_ctorR (B : CX V G cc nL own ret) {y : MethodName} {c1 : ByteArray} {n1 n idx a : Nat} {rm : Room} {As : List Value} {L1 : List va_E} (hM : MLr V.2.1 G y c1 n1 none rm (.ref (gz G + a) :: As) none L L1) (hy : y.name = "<init>") (hl : Cond.methodLink own idx y ∈ gT) (hi : Cond.instanceMethod y ∈ gT) (cw : cwB V.2.2.2.1 rm y c1 n1 none n) (hn : As.length = n) {st0 : List Value} (hst : st0 = As.reverse ++ .ref (gz G + a) :: rest) (hls : ls.size = nL) (hw : (rest.map fun v => v.category).sum ≤ 8) (hd : decode cc pc = .ok (.invokespecial idx, 3)) (hf : ce + rm.cells ≤ V.2.2.2.1.cells ∧ sl + rm.slots ≤ V.2.2.2.1.slots) (kk : WL V G L1 (ce + rm.cells) (sl + rm.slots) Q (pc + 3) ls rest) : WL V G L ce sl Q pc ls st0 := by
  intro H locs h1 h2
  have hts := B.2.2.2.2.1
  exact l_afterR h2 (va_runI (Ts := gT) (own := own) (n := n) ⟨B.1, B.2.1, B.2.2.1, B.2.2.2.1, hts⟩ hM ⟨callB_of n hts (gT_ws cw.1) rfl rfl rfl (hts _ cw.2.1) (hts _ hl) cw.2.2.1 cw.2.2.2, hy, hts _ hi⟩ ⟨PLy_blind, fun U hU hW => ⟨rfl, KG.warm hW B.2.2.2.2.2.2.2, by rw [hU]; exact h1⟩⟩ rfl hn hls hst (by show 2 * 0 + _ ≤ 8; omega) hd hf) kk
theorem l_alen (B : CX V G cc nL own ret) {k n : Nat} {g : Nat → Int32} (he : L[k]? = some (.inl (gA G 0, n, .inl g))) (hd : decode cc pc = .ok (.arraylength, 1)) (kk : WL V G L ce sl Q (pc + 1) ls (.int (nI n) :: rest)) : WL V G L ce sl Q pc ls (.ref (gz G + k) :: rest) := by
  intro H locs h1 h2
  exact W.alen (n := nI n) B.1 B.2.1 (h1.1 k _ he) ((B.2.2.2.2.2.2.2.1.2 0 _ rfl).1 n (fun j => .int (g j))) (by show (arrV _ _ _).slots.size.toInt32 = _; rw [arrV_size]; rfl) rfl rfl hd (kk H locs h1 h2)
theorem l_icmp_neT (B : CX V G cc nL own ret) {x y : Int32} {off : Int} {tgt : Nat} (hd : decode cc pc = .ok (.if_icmp .ne off, 3)) (ht : (pc : Int) + off = (tgt : Int)) (h : ¬ x = y) (kt : WL V G L ce sl Q tgt ls rest) : WL V G L ce sl Q pc ls (.int y :: .int x :: rest) := fun H locs h1 h2 => lv_icmp_ne B.1 B.2.1 hd ht (fun _ => kt H locs h1 h2) (fun g => absurd g h)
theorem l_max (B : CX V G cc nL own ret) {idx : Nat} {x y : Int32} (hl : Cond.methodLink own idx Lib.Math.max.name ∈ gT) (hs : Cond.static Lib.Math.max.name ∈ gT) (hi : Cond.initialized "java/lang/Math" ∈ gT) (hc : Cond.code Lib.Math.max.name Lib.Math.max.code 2 (some .int) ∈ gT) (hls : ls.size = nL) (hfr : 1 ≤ V.2.2.2.1.frames) (hlo : 21 ≤ V.2.2.2.1.locals) (hw : (rest.map fun v => v.category).sum ≤ 8) (hce : ce ≤ V.2.2.2.1.cells ∧ sl ≤ V.2.2.2.1.slots) (hd : decode cc pc = .ok (.invokestatic idx, 3)) (kk : WL V G L ce sl Q (pc + 3) ls (.int (maxI x y) :: rest)) : WL V G L ce sl Q pc ls (.int y :: .int x :: rest) := by
  intro H locs h1 h2
  have hts := B.2.2.2.2.1
  exact va_mmax B.1 B.2.1 (B.2.2.1.trans hls.symm) B.2.2.2.1 (hts _ hl) (hts _ hs) (hts _ hi) (hts _ hc) hfr (by omega) hce.1 hce.2 hd (kk H locs h1 h2)
theorem l_copy (B : CX V G cc nL own ret) {idx k0 k1 n0 n1 : Nat} {g0 g1 : Nat → Int32} {sp dp n : Int32} (he0 : L[k0]? = some (.inl (gA G 0, n0, .inl g0))) (he1 : L[k1]? = some (.inl (gA G 0, n1, .inl g1))) (hac : acb sp dp n n0 n1 = true) (hl : Cond.methodLink own idx arraycopyName ∈ gT) (hna : Cond.native arraycopyName ∈ gT) (hst : Cond.static arraycopyName ∈ gT) (hi : Cond.initialized "java/lang/System" ∈ gT) (hls : ls.size = nL) (hfr : 1 ≤ V.2.2.2.1.frames) (hlo : 8 + (nativeFrameWords "java/lang/System" "arraycopy" 5 + 11) ≤ V.2.2.2.1.locals) (hw : (rest.map fun v => v.category).sum ≤ 8) (hd : decode cc pc = .ok (.invokestatic idx, 3))
    (kk : WL V G (L.set k1 (.inl (gA G 0, n1, .inl (va_cpy g0 g1 sp.toNatClampNeg dp.toNatClampNeg n.toNatClampNeg)))) ce sl Q (pc + 3) ls rest) : WL V G L ce sl Q pc ls (.int n :: .int dp :: .ref (gz G + k1) :: .int sp :: .ref (gz G + k0) :: rest) := by
  intro H locs h1 h2
  exact x_copyc (mk := fun z => .int z) (t0 := 0) (ty := .int) B hl hna hst hi hls hfr hlo hw hd rfl (h1.1 k0 _ he0) (h1.1 k1 _ he1) hac h2 (fun _ _ _ _ _ _ _ _ _ _ => ⟨rfl, trivial⟩) (fun H1 locs1 e1 e2 e3 e4 => kk H1 locs1 (h1.set he1 e1 e3 e2) e4)
theorem l_aret {rt : FieldType} (B : CX V G cc nL own (some rt)) (hrt : (∃ n, rt = .object n) ∨ ∃ t, rt = .array t) {a : Nat} {mc ms : Nat} (hd : decode cc pc = .ok (.areturn, 1)) : WL V G L mc ms (MQ V.2.2.2.2.2.2.2.1 (QLr G (some (.ref a)) L) V.2.2.2.2.2.2.1 V.2.2.2.2.1 mc ms (fun q => gz G ≤ q)) pc ls [.ref a] := by
  intro H locs h1 h2
  exact W.aret B.1 B.2.1 B.2.2.2.2.2.1 hrt (Or.inr ⟨a, rfl⟩) (fun t ht hW => ⟨rfl, by rw [ht]; exact h1, h2.F ht⟩) h2.2.2 hd B.2.2.2.2.2.2.1
theorem l_vretR (B : CX V G cc nL own none) {mc ms : Nat} (hd : decode cc pc = .ok (.return_, 1)) : WL V G L mc ms (MQ V.2.2.2.2.2.2.2.1 (QLr G none L) V.2.2.2.2.2.2.1 V.2.2.2.2.1 mc ms (fun q => gz G ≤ q)) pc ls [] := by
  intro H locs h1 h2
  exact W.vret B.1 B.2.1 B.2.2.2.2.2.1 (fun t ht hW => ⟨rfl, by rw [ht]; exact h1, h2.F ht⟩) h2.2.2 hd B.2.2.2.2.2.2.1
end XT
def rmJ7_copyOf : Room := { frames := 1, cells := 1, slots := 96, locals := 68 }
theorem minI_nI {a b : Nat} (h : b ≤ a) (ha : a < 2 ^ 31) : minI (nI a) (nI b) = nI b := by
  unfold minI
  by_cases e : a = b
  · subst e
    rw [if_neg (nI_nlt (Nat.le_refl _) ha)]
  · rw [if_pos (nI_lt (by omega) ha)]
theorem maxI_nI {p : Nat} (hp : p < 2 ^ 31) : maxI (nI 1) (nI p) = nI (max 1 p) := by
  unfold maxI
  by_cases h : 1 < p
  · rw [if_pos (nI_lt h hp), Nat.max_eq_right (by omega)]
  · rw [if_neg (nI_nlt (by omega) (by omega)), Nat.max_eq_left (by omega)]
set_option maxHeartbeats 4000000 in
set_option maxRecDepth 100000 in
theorem kJ7_copyOf {l : Launch} {G : GE} {L : List va_E} {k n0 c : Nat} {g : Nat → Int32} (he : L[k]? = some (.inl (gA G 0, n0, .inl g))) (hc : c < n0) (hn : n0 ≤ 96) : MLr l G yJ7_copyOf_59c91 cJ7_copyOf_59c91 3 (some (.array .int)) rmJ7_copyOf [.ref (gz G + k), .int (nI c)] (some (.ref (gz G + L.length))) L (L ++ [.inl (gA G 0, c, .inl (va_cpy g (fun _ => 0) 0 0 c))]) := by
  refine MLr.of (by decide) (Nat.le_of_ble_eq_true rfl) (fun V ls hV hR B _ hl => ?_)
  have B : CX V G cJ7_copyOf_59c91 3 "java/util/Arrays" (some (.array .int)) := B
  have hl : lv_has ls 3 [(0, .ref (gz G + k)), (1, .int (nI c))] := hl
  have hkl : k < L.length := (List.getElem?_eq_some_iff.mp he).1
  refine l_iload_n B dJ7_copyOf_59c91_0 rfl (lv_at hl 1 rfl) ?_
  refine l_aload_n B dJ7_copyOf_59c91_1 rfl (lv_at hl 0 rfl) ?_
  refine l_alen B he dJ7_copyOf_59c91_2 ?_
  refine l_icmp_neT (tgt := 14) B dJ7_copyOf_59c91_3 (by decide) (fun e => by have := (nI_eq (by omega) (by omega)).mp e; omega) ?_
  refine l_iload_n B dJ7_copyOf_59c91_14 rfl (lv_at hl 1 rfl) ?_
  refine l_newa (ty := .int) (t := 0) (n := c) B rfl q_106 rfl rfl rfl rfl (by omega) (by decide) rfl (by rw [hR]; decide) (by rw [hR]; show 0 + c ≤ 96; omega) dJ7_copyOf_59c91_15 ?_
  refine l_astore_n (lv' := [(2, .ref (gz G + L.length)), (0, .ref (gz G + k)), (1, .int (nI c))]) B dJ7_copyOf_59c91_17 rfl hl (by decide) rfl (fun ls hl => ?_)
  have he' : (L ++ [(.inl (gA G 0, c, .inl (fun _ => 0)) : va_E)])[k]? = some (.inl (gA G 0, n0, .inl g)) := by rw [List.getElem?_append_left hkl]; exact he
  have he2 : (L ++ [(.inl (gA G 0, c, .inl (fun _ => 0)) : va_E)])[L.length]? = some (.inl (gA G 0, c, .inl (fun _ => 0))) := by simp
  refine l_aload_n B dJ7_copyOf_59c91_18 rfl (lv_at hl 1 rfl) ?_
  refine l_iconst (v := nI 0) B dJ7_copyOf_59c91_19 (by decide) ?_
  refine l_aload_n B dJ7_copyOf_59c91_20 rfl (lv_at hl 0 rfl) ?_
  refine l_iconst (v := nI 0) B dJ7_copyOf_59c91_21 (by decide) ?_
  refine l_aload_n B dJ7_copyOf_59c91_22 rfl (lv_at hl 1 rfl) ?_
  refine l_alen B he' dJ7_copyOf_59c91_23 ?_
  refine l_iload_n B dJ7_copyOf_59c91_24 rfl (lv_at hl 2 rfl) ?_
  refine l_min B q_854 q_114 q_49 q_115 hl.1 (by rw [hR]; decide) (by rw [hR]; decide) (Nat.le_of_ble_eq_true rfl) (by rw [hR]; exact ⟨by decide, by show 0 + c ≤ 96; omega⟩) dJ7_copyOf_59c91_25 ?_
  rw [minI_nI (by omega) (by omega)]
  have hcc : (nI c).toNatClampNeg = c := nI_clamp (by omega)
  refine l_copy B he' he2 (by
    have e0 : (nI 0).toNatClampNeg = 0 := rfl
    simp only [acb, hcc, e0, decide_eq_true_eq]
    exact ⟨by decide, by decide, nI_pos (by omega), by omega, by omega⟩) q_855 q_580 q_579 q_58 hl.1 (by rw [hR]; decide) (by rw [hR]; decide) (Nat.le_of_ble_eq_true rfl) dJ7_copyOf_59c91_28 ?_
  refine l_aload_n B dJ7_copyOf_59c91_31 rfl (lv_at hl 0 rfl) ?_
  refine l_L (L2 := L ++ [.inl (gA G 0, c, .inl (va_cpy g (fun _ => 0) 0 0 c))]) (by rw [hcc, List.set_append_right _ _ (Nat.le_refl _), Nat.sub_self]; rfl) ?_
  refine l_wid (c2 := 1) (s2 := 96) (by omega) (by omega) ?_
  exact l_aret B (Or.inr ⟨_, rfl⟩) dJ7_copyOf_59c91_32
def rmX2_init : Room := { frames := 1, cells := 1, slots := 97, locals := 68 }
set_option maxHeartbeats 4000000 in
set_option maxRecDepth 100000 in
theorem kX2_init {l : Launch} {G : GE} {P : List va_E} {ar : va_E} {key : Int32} {p : Nat} (hp : p ≤ 96) : MLr l G yX2_init cX2_init 4 none rmX2_init [.ref (gz G + (P.length + 0)), .int key, .int (nI p), .ref (gz G + (P.length + 1))] none (P ++ [.inr (2, [.int 0, .int 0, .null, .null]), ar]) (P ++ [.inr (2, [.int key, .int (nI p), .ref (gz G + (P.length + 1)), .ref (gz G + (P.length + 2))]), ar, .inl (gA G 0, max 1 p, .inl (fun _ => 0))]) := by
  refine MLr.of (by decide) (Nat.le_of_ble_eq_true rfl) (fun V ls hV hR B hin hl => ?_)
  have hmn := hin rfl
  have B : CX V G cX2_init 4 "FluxWatch$Law" none := B
  have hl : lv_has ls 4 [(0, .ref (gz G + (P.length + 0))), (1, .int key), (2, .int (nI p)), (3, .ref (gz G + (P.length + 1)))] := hl
  refine l_aload_n B dX2_init_0 rfl (lv_at hl 0 rfl) ?_
  refine l_obj B q_859 q_72 q_73 hl.1 dX2_init_1 (by rw [hR]; decide) (by rw [hR]; decide) (Nat.le_of_ble_eq_true rfl) ?_
  refine l_aload_n B dX2_init_4 rfl (lv_at hl 0 rfl) ?_
  refine l_iload_n B dX2_init_5 rfl (lv_at hl 1 rfl) ?_
  refine p_put (B1 := [.inr (2, [.int key, .int 0, .null, .null]), ar]) (C := RX2) (T := TX2) (NN := 4) (ty0 := tyX2) (ty := .int) (jj := 0) B rfl inX2 tyX2_ok nmX2 rfl (j := 0) (by decide) q_861 rfl rfl hmn (by decide +kernel) rfl rfl rfl rfl dX2_init_6 ?_
  refine l_aload_n B dX2_init_9 rfl (lv_at hl 0 rfl) ?_
  refine l_iload_n B dX2_init_10 rfl (lv_at hl 2 rfl) ?_
  refine p_put (B1 := [.inr (2, [.int key, .int (nI p), .null, .null]), ar]) (C := RX2) (T := TX2) (NN := 4) (ty0 := tyX2) (ty := .int) (jj := 0) B rfl inX2 tyX2_ok nmX2 rfl (j := 1) (by decide) q_864 rfl rfl hmn (by decide +kernel) rfl rfl rfl rfl dX2_init_11 ?_
  refine l_aload_n B dX2_init_14 rfl (lv_at hl 0 rfl) ?_
  refine l_aload_n B dX2_init_15 rfl (lv_at hl 3 rfl) ?_
  refine p_put (B1 := [.inr (2, [.int key, .int (nI p), .ref (gz G + (P.length + 1)), .null]), ar]) (C := RX2) (T := TX2) (NN := 4) (ty0 := tyX2) (ty := .array .int) (jj := 0) B rfl inX2 tyX2_ok nmX2 rfl (j := 2) (by decide) q_866 rfl rfl hmn (by decide +kernel) rfl rfl rfl rfl dX2_init_16 ?_
  refine l_aload_n B dX2_init_19 rfl (lv_at hl 0 rfl) ?_
  refine l_iconst (v := nI 1) B dX2_init_20 (by decide) ?_
  refine l_iload_n B dX2_init_21 rfl (lv_at hl 2 rfl) ?_
  refine l_max B q_860 q_632 q_49 q_633 hl.1 (by rw [hR]; decide) (by rw [hR]; decide) (Nat.le_of_ble_eq_true rfl) (by rw [hR]; decide) dX2_init_22 ?_
  rw [maxI_nI (by omega)]
  refine p_newa (B1 := [.inr (2, [.int key, .int (nI p), .ref (gz G + (P.length + 1)), .null]), ar, .inl (gA G 0, max 1 p, .inl (fun _ => 0))]) (ty := .int) (t := 0) (n := max 1 p) (nB := 2) B rfl q_106 rfl rfl rfl rfl (by omega) (by decide) rfl rfl (by rw [hR]; decide) (by rw [hR]; show 0 + max 1 p ≤ 97; omega) dX2_init_25 ?_
  refine p_put (B1 := [.inr (2, [.int key, .int (nI p), .ref (gz G + (P.length + 1)), .ref (gz G + (P.length + 2))]), ar, .inl (gA G 0, max 1 p, .inl (fun _ => 0))]) (C := RX2) (T := TX2) (NN := 4) (ty0 := tyX2) (ty := .array .int) (jj := 0) B rfl inX2 tyX2_ok nmX2 rfl (j := 3) (by decide) q_867 rfl rfl hmn (by decide +kernel) rfl rfl rfl rfl dX2_init_27 ?_
  refine l_wid (c2 := 1) (s2 := 97) (by omega) (by omega) ?_
  exact l_vretR B dX2_init_30
/-! lawRead -/
def pbI (x : Int32) : Bool := decide (x.toNatClampNeg ≤ 96 ∧ x = nI x.toNatClampNeg)
def nwLaw (N o : Nat) (f : Mm) : Mm := upR (upR (upR f (130 + 3 * N) (upd (upd (fun _ => 0) 0 (f o 4)) 1 (f o 3))) (130 + 3 * N + 1) (upd (va_cpy (f (o + 3)) (fun _ => 0) 0 0 (f o 2).toNatClampNeg) 5000 (f o 2))) (130 + 3 * N + 2) (upd (fun _ => 0) 5000 (nI (max 1 (f o 3).toNatClampNeg)))
def fX3_lawRead (N o : Nat) (f : Mm) : Option Mm := gd (pbI (f o 2) && decide ((f o 2).toNatClampNeg < 96) && pbI (f o 3)) (some (nwLaw N o f))
def rmX3_lawRead : Room := { frames := 2, cells := 3, slots := 300, locals := 150 }
theorem PL.grow {G : GE} {N o : Nat} {f m : Mm} {H : Heap} (ho : o < 107) (hc : (f o 2).toNatClampNeg ≤ 96 ∧ f o 2 = nI (f o 2).toNatClampNeg) (hp : (f o 3).toNatClampNeg ≤ 96)
    (h : PL G (CLe (gz G) (gA G) N f m ++ [.inr (2, [.int (f o 4), .int (f o 3), .ref (gz G + (130 + 3 * N + 1)), .ref (gz G + (130 + 3 * N + 2))]), .inl (gA G 0, (f o 2).toNatClampNeg, .inl (va_cpy (f (o + 3)) (fun _ => 0) 0 0 (f o 2).toNatClampNeg)), .inl (gA G 0, max 1 (f o 3).toNatClampNeg, .inl (fun _ => 0))]) H) : RP G (N + 1) (nwLaw N o f) m H := by
  refine PL.toRP (fun k hk => ?_) (by rw [h.2.1, List.length_append, CLe_len]; simp; omega) h.2.2
  have hg : ∀ i, i < 3 → ∀ e : va_E, ([.inr (2, [.int (f o 4), .int (f o 3), .ref (gz G + (130 + 3 * N + 1)), .ref (gz G + (130 + 3 * N + 2))]), .inl (gA G 0, (f o 2).toNatClampNeg, .inl (va_cpy (f (o + 3)) (fun _ => 0) 0 0 (f o 2).toNatClampNeg)), .inl (gA G 0, max 1 (f o 3).toNatClampNeg, .inl (fun _ => 0))] : List va_E)[i]? = some e → va_at (gD G) vwCl (gz G + (130 + 3 * N + i), e) H := by
    intro i hi e he
    have := h.1 (130 + 3 * N + i) e (by rw [List.getElem?_append_right (by rw [CLe_len]; omega), CLe_len, Nat.add_sub_cancel_left]; exact he)
    exact this
  by_cases h1 : k < 130 + 3 * N
  · have h2 := h.1 k (cE (gz G) k (gA G) (lay k) (rowOf f m k)) (by rw [List.getElem?_append_left (by rw [CLe_len]; exact h1)]; exact CLe_at h1)
    have e : rowOf (nwLaw N o f) m k = rowOf f m k := by
      unfold rowOf
      by_cases h3 : 107 ≤ k ∧ k < 130
      · rw [if_pos h3, if_pos h3]
      · rw [if_neg h3, if_neg h3]
        unfold nwLaw upR
        rw [if_neg (by omega), if_neg (by omega), if_neg (by omega)]
    rw [e]
    exact h2
  · have hrow : rowOf (nwLaw N o f) m k = nwLaw N o f k := rowOf_F (by omega)
    rw [hrow]
    rcases (show k = 130 + 3 * N + 0 ∨ k = 130 + 3 * N + 1 ∨ k = 130 + 3 * N + 2 by omega) with e | e | e <;> subst e
    · have hl : lay (130 + 3 * N + 0) = (2, 0) := by unfold lay; rw [if_neg (by omega), if_pos (by omega)]
      rw [hl, cE_ob (by decide)]
      have hr : nwLaw N o f (130 + 3 * N + 0) = upd (upd (fun _ => 0) 0 (f o 4)) 1 (f o 3) := by
        unfold nwLaw upR
        rw [if_neg (by omega), if_neg (by omega), if_pos (by omega)]
      rw [hr]
      exact hg 0 (by decide) _ rfl
    · have hl : lay (130 + 3 * N + 1) = (26, 0) := by unfold lay; rw [if_neg (by omega), if_neg (by omega)]
      have hr : nwLaw N o f (130 + 3 * N + 1) = upd (va_cpy (f (o + 3)) (fun _ => 0) 0 0 (f o 2).toNatClampNeg) 5000 (f o 2) := by
        unfold nwLaw upR
        rw [if_neg (by omega), if_pos (by omega)]
      rw [hl, cE_p, hr]
      have h2 := hg 1 (by decide) _ rfl
      have h5 : upd (va_cpy (f (o + 3)) (fun _ => 0) 0 0 (f o 2).toNatClampNeg) 5000 (f o 2) 5000 = f o 2 := by simp [upd]
      rw [h5]
      show H[_]? = some (vp_cell _ _)
      refine (show H[_]? = some (vp_cell _ _) from h2).trans ?_
      congr 1
      rw [vp_cell_i, vp_cell_i]
      refine arrV_eq (fun j hj => ?_)
      simp [upd, show ¬ j = 5000 by omega]
    · have hl : lay (130 + 3 * N + 2) = (26, 0) := by unfold lay; rw [if_neg (by omega), if_neg (by omega)]
      have hr : nwLaw N o f (130 + 3 * N + 2) = upd (fun _ => 0) 5000 (nI (max 1 (f o 3).toNatClampNeg)) := by
        unfold nwLaw upR
        rw [if_pos (by omega)]
      rw [hl, cE_p, hr]
      have h2 := hg 2 (by decide) _ rfl
      have h5 : (upd (fun _ => 0) 5000 (nI (max 1 (f o 3).toNatClampNeg)) 5000).toNatClampNeg = max 1 (f o 3).toNatClampNeg := by simp only [upd, if_pos]; exact nI_clamp (by omega)
      rw [h5]
      refine (show H[_]? = some (vp_cell _ _) from h2).trans ?_
      congr 1
      rw [vp_cell_i, vp_cell_i]
      refine arrV_eq (fun j hj => ?_)
      simp [upd, show ¬ j = 5000 by omega]
theorem cw_X3_lawRead_copyOf : cwB rmX3_lawRead rmJ7_copyOf yJ7_copyOf_59c91 cJ7_copyOf_59c91 3 (some (.array .int)) 2 := ⟨q_846, q_65, by decide, by decide⟩
theorem cw_X3_lawRead_init : cwB rmX3_lawRead rmX2_init yX2_init cX2_init 4 none 3 := ⟨q_858, q_59, by decide, by decide⟩
theorem x_retL {V : VE} {G : GE} {N : Nat} {f m : Mm} {L : List va_E} {cc : ByteArray} {nL : Nat} {own : String} {pc : Nat} {ls : Array Slot} {C : String} (B : CX V G cc nL own (some (.object C))) {a mc ms : Nat} (hL : ∀ H, PL G L H → RP G N f m H) (hd : decode cc pc = .ok (.areturn, 1)) : WL V G L mc ms (QQ V G (some (.ref a)) N f m mc ms) pc ls [.ref a] := by
  intro H locs h1 h2
  exact W.aret B.1 B.2.1 B.2.2.2.2.2.1 (Or.inl ⟨_, rfl⟩) (Or.inr ⟨a, rfl⟩) (fun t ht hW => ⟨rfl, by rw [ht]; exact hL H h1, h2.F ht⟩) h2.2.2 hd B.2.2.2.2.2.2.1
set_option maxHeartbeats 4000000 in
set_option maxRecDepth 100000 in
theorem kX3_lawRead {l : Launch} {G : GE} {N o : Nat} {f m g : Mm} (ho : rg 3 o) (hf : fX3_lawRead N o f = some g) : MT l G yX3_lawRead cX3_lawRead 1 (some (.object "FluxWatch$Law")) rmX3_lawRead [.ref (gz G + o)] N f m (some (.ref (gz G + (130 + 3 * N)))) (N + 1) g m := by
  obtain ⟨h0, hf⟩ := gd_some hf
  obtain rfl := rt1 hf
  simp only [Bool.and_eq_true, pbI, decide_eq_true_eq] at h0
  obtain ⟨⟨⟨c1, c2⟩, c3⟩, p1, p2⟩ := h0
  refine MT.of (by decide) (Nat.le_of_ble_eq_true rfl) (fun V ls hV hR B hl => ?_)
  have B : CX V G cX3_lawRead 1 "FluxWatch$LawReader" (some (.object "FluxWatch$Law")) := B
  have hl : lv_has ls 1 [(0, .ref (gz G + o))] := hl
  have hA : AF N o (3, 0) := ho.at0 rfl
  have hA3 : AF N (o + 3) (20, 96) := ho.at 3 rfl
  have hlen : (CLe (gz G) (gA G) N f m).length = 130 + 3 * N := CLe_len
  have hrd : ∀ Bx : List va_E, (CLe (gz G) (gA G) N f m ++ Bx)[o]? = some (.inr (3, obF (gz G) o 3 (f o))) := fun Bx => by
    rw [List.getElem?_append_left (by rw [CLe_len]; exact hA.lt), CLe_at hA.lt, hA.2, cE_ob (by decide), rowOf_F hA.no]
  have hpc : ∀ Bx : List va_E, (CLe (gz G) (gA G) N f m ++ Bx)[o + 3]? = some (.inl (gA G 0, 96, .inl (f (o + 3)))) := fun Bx => by
    rw [List.getElem?_append_left (by rw [CLe_len]; exact hA3.lt), CLe_at hA3.lt, hA3.2, cE_i, rowOf_F hA3.no]
  have key : WL V G (CLe (gz G) (gA G) N f m ++ []) 0 0 (QQ V G (some (.ref (gz G + (130 + 3 * N)))) (N + 1) (nwLaw N o f) m rmX3_lawRead.cells rmX3_lawRead.slots) 0 ls [] := by
    refine p_new (B1 := [.inr (2, [.int 0, .int 0, .null, .null])]) (C := RX2) (T := TX2) (NN := 4) (ty := tyX2) (nB := 0) B inX2 tyX2_ok rfl q_842 q_843 q_59 rfl rfl rfl (by rw [hR]; decide) (by rw [hR]; decide) dX3_lawRead_0 ?_
    refine l_dup B dX3_lawRead_3 rfl ?_
    refine l_aload_n B dX3_lawRead_4 rfl (lv_at hl 0 rfl) ?_
    refine l_get (C := RX3) (T := TX3) (NN := 5) B (hrd _) inX3 rfl (j := 4) (by decide) q_343 rfl (v := .int (f o 4)) rfl dX3_lawRead_5 ?_
    refine l_aload_n B dX3_lawRead_8 rfl (lv_at hl 0 rfl) ?_
    refine l_get (C := RX3) (T := TX3) (NN := 5) B (hrd _) inX3 rfl (j := 3) (by decide) q_342 rfl (v := .int (f o 3)) rfl dX3_lawRead_9 ?_
    refine l_aload_n B dX3_lawRead_12 rfl (lv_at hl 0 rfl) ?_
    refine l_get (C := RX3) (T := TX3) (NN := 5) B (hrd _) inX3 rfl (j := 1) (by decide) q_340 rfl (v := .ref (gz G + (o + 3))) rfl dX3_lawRead_13 ?_
    refine l_aload_n B dX3_lawRead_16 rfl (lv_at hl 0 rfl) ?_
    refine l_get (C := RX3) (T := TX3) (NN := 5) B (hrd _) inX3 rfl (j := 2) (by decide) q_341 rfl (v := .int (f o 2)) rfl dX3_lawRead_17 ?_
    refine l_val (vb := .int (nI (f o 2).toNatClampNeg)) (by rw [← c2]) ?_
    refine l_callS (rest := [.int (f o 3), .int (f o 4), .ref (gz G + ((CLe (gz G) (gA G) N f m).length + 0)), .ref (gz G + ((CLe (gz G) (gA G) N f m).length + 0))]) B (kJ7_copyOf (hpc _) c3 (by decide)) q_844 q_845 (by rw [hR]; exact cw_X3_lawRead_copyOf) rfl rfl hl.1 (Nat.le_of_ble_eq_true rfl) dX3_lawRead_20 (by rw [hR]; decide) ?_
    refine l_L (L2 := CLe (gz G) (gA G) N f m ++ [.inr (2, [.int 0, .int 0, .null, .null]), .inl (gA G 0, (f o 2).toNatClampNeg, .inl (va_cpy (f (o + 3)) (fun _ => 0) 0 0 (f o 2).toNatClampNeg))]) (by rw [List.append_assoc]; rfl) ?_
    have e1 : (CLe (gz G) (gA G) N f m ++ [(.inr (2, [.int 0, .int 0, .null, .null]) : va_E)]).length = (CLe (gz G) (gA G) N f m).length + 1 := by simp
    refine l_val (vb := .ref (gz G + ((CLe (gz G) (gA G) N f m).length + 1))) (by rw [e1]) ?_
    have hM := kX2_init (l := V.2.1) (G := G) (P := CLe (gz G) (gA G) N f m) (ar := .inl (gA G 0, (f o 2).toNatClampNeg, .inl (va_cpy (f (o + 3)) (fun _ => 0) 0 0 (f o 2).toNatClampNeg))) (key := f o 4) (p := (f o 3).toNatClampNeg) p1
    rw [← p2] at hM
    refine l_ctorR (rest := [.ref (gz G + ((CLe (gz G) (gA G) N f m).length + 0))]) B hM rfl q_856 q_857 (by rw [hR]; exact cw_X3_lawRead_init) rfl rfl hl.1 (Nat.le_of_ble_eq_true rfl) dX3_lawRead_23 (by rw [hR]; decide) ?_
    refine l_val (vb := .ref (gz G + (130 + 3 * N))) (by rw [hlen]; rfl) ?_
    refine l_wid (c2 := 3) (s2 := 300) (by decide) (by decide) ?_
    refine x_retL B (fun H h => PL.grow (by have := ho.1; have : (blkT.getD 3 []).length = 4 := rfl; omega) ⟨c1, c2⟩ p1 ?_) dX3_lawRead_26
    rw [hlen] at h
    exact h
  intro H locs h1 h2
  exact key H locs (by rw [List.append_nil]; exact h1.toPL) h2
/-! text -/
def fX11_text (n N : Nat) (f : Mm) : Option (Int32 × Nat × Mm) :=
  bn2 (fX3_readLaw n 99 f) fun r1 f1 =>
  lt (up f1 100 1 (nI 0)) fun f2 =>
  if r1 = 0 then some ((-100 : Int32) - f1 100 3, N, f2) else
  bn (fX3_lawRead N 99 f2) fun f3 =>
  bn2 (fX10_addLaw n 1 (130 + 3 * N) f3) fun r4 f4 =>
  some (r4, N + 1, f4)
def rmX11_text : Room := { frames := 140, cells := 3, slots := 300, locals := 8000 }
theorem cw_X11_text_readLaw : cwB rmX11_text rmX3_readLaw yX3_readLaw cX3_readLaw 1 (some .boolean) 0 := ⟨q_726, q_54, by decide, by decide⟩
theorem cw_X11_text_lawRead : cwB rmX11_text rmX3_lawRead yX3_lawRead cX3_lawRead 1 (some (.object "FluxWatch$Law")) 0 := ⟨q_841, q_54, by decide, by decide⟩
theorem cw_X11_text_addLaw : cwB rmX11_text rmX10_addLaw yX10_addLaw cX10_addLaw 2 (some .int) 1 := ⟨q_881, q_46, by decide, by decide⟩
theorem x_wid {V : VE} {G : GE} {N : Nat} {f m : Mm} {ce sl : Nat} {Q : State → Prop} {pc : Nat} {ls : Array Slot} {st : List Value} {c2 s2 : Nat} (hc : ce ≤ c2) (hs : sl ≤ s2) (kk : WX V G N f m c2 s2 Q pc ls st) : WX V G N f m ce sl Q pc ls st := fun H locs h1 h2 => W.widen hc hs (kk H locs h1 h2)
set_option maxHeartbeats 4000000 in
set_option maxRecDepth 100000 in
theorem kX11_text {l : Launch} {G : GE} {N N1 : Nat} {f m g : Mm} {n : Nat} {r : Int32} (hf : fX11_text n N f = some (r, N1, g)) : MT l G yX11_text cX11_text 3 (some .int) rmX11_text [.ref (gz G + 0)] N f m (some (.int r)) N1 g m := by
  unfold fX11_text at hf
  refine MT.of (by decide) (Nat.le_of_ble_eq_true rfl) (fun V ls hV hR B hl => ?_)
  have B : CX V G cX11_text 3 "FluxWatch" (some .int) := B
  have hl : lv_has ls 3 [(0, .ref (gz G + 0))] := hl
  obtain ⟨r1, f1, h1, hf⟩ := bn2_some hf
  refine x_aload_n B dX11_text_0 rfl (lv_at hl 0 rfl) ?_
  refine y_getFs (C := RX11) (T := TX11) (NN := 10) (d := 99) B (rg_11_0.at0 rfl) inX11 rfl (j := 8) (by decide) q_396 rfl rfl (by decide) dX11_text_1 ?_
  refine x_callV0 (rest := []) B (kX3_readLaw rg_3_99 h1) ⟨rfl, rfl⟩ (rg_3_99.at0 (N := N) rfl).lt (rg_3_99.at0 (N := N) rfl).2 rfl (by decide) q_723 q_724 q_725 (by rw [hR]; exact cw_X11_text_readLaw) rfl rfl hl.1 (Nat.le_of_ble_eq_true rfl) dX11_text_4 ⟨Nat.zero_le _, Nat.zero_le _⟩ ?_
  refine x_istore_n (lv' := [(1, .int r1), (0, .ref (gz G + 0))]) B dX11_text_7 rfl hl (by decide) rfl (fun ls hl => ?_)
  refine x_aload_n B dX11_text_8 rfl (lv_at hl 1 rfl) ?_
  refine y_getFs (C := RX11) (T := TX11) (NN := 10) (d := 99) B (rg_11_0.at0 rfl) inX11 rfl (j := 8) (by decide) q_396 rfl rfl (by decide) dX11_text_9 ?_
  refine y_getFs (C := RX3) (T := TX3) (NN := 5) (d := 1) B (rg_3_99.at0 rfl) inX3 rfl (j := 0) (by decide) q_339 rfl rfl (by decide) dX11_text_12 ?_
  refine y_getFi (C := RX9) (T := TX9) (NN := 6) B (rg_9_100.at0 rfl) inX9 rfl (j := 3) (by decide) q_321 rfl rfl dX11_text_15 ?_
  refine x_istore_n (lv' := [(2, .int (f1 100 3)), (1, .int r1), (0, .ref (gz G + 0))]) B dX11_text_18 rfl hl (by decide) rfl (fun ls hl => ?_)
  refine x_aload_n B dX11_text_19 rfl (lv_at hl 2 rfl) ?_
  refine y_getFs (C := RX11) (T := TX11) (NN := 10) (d := 99) B (rg_11_0.at0 rfl) inX11 rfl (j := 8) (by decide) q_396 rfl rfl (by decide) dX11_text_20 ?_
  refine y_getFs (C := RX3) (T := TX3) (NN := 5) (d := 1) B (rg_3_99.at0 rfl) inX3 rfl (j := 0) (by decide) q_339 rfl rfl (by decide) dX11_text_23 ?_
  refine x_iconst (v := nI 0) B dX11_text_26 (by decide) ?_
  refine x_putF (C := RX9) (T := TX9) (NN := 6) (ty0 := tyX9) (ty := .int) (k := 100) B (rg_9_100.at0 rfl) inX9 tyX9_ok nmX9 rfl (j := 1) (by decide) q_317 rfl rfl rfl rfl rfl rfl dX11_text_27 (fun f2 e2 => ?_)
  have hf := lt_some hf e2
  refine x_iload_n B dX11_text_30 rfl (lv_at hl 1 rfl) ?_
  refine x_if_ne (tgt := 39) B dX11_text_31 (by decide) (fun h3 => ?_) (fun h3 => ?_)
  · have hf := ip h3 hf
    have e5 := Option.some.inj hf
    have e6 : r = (-100 : Int32) - f1 100 3 := (congrArg Prod.fst e5).symm
    have e7 : N1 = N := (congrArg (fun z => z.2.1) e5).symm
    have e8 : g = f2 := (congrArg (fun z => z.2.2) e5).symm
    subst e6
    subst e7
    subst e8
    refine x_bipush (v := (-100 : Int32)) B dX11_text_34 (by decide) ?_
    refine x_iload_n B dX11_text_36 rfl (lv_at hl 0 rfl) ?_
    refine x_isub B dX11_text_37 ?_
    refine x_wid (c2 := 3) (s2 := 300) (by omega) (by omega) ?_
    exact x_iret B dX11_text_38
  · have hf := iq h3 hf
    obtain ⟨f3, h4, hf⟩ := bn_some hf
    obtain ⟨r4, f4, h5, hf⟩ := bn2_some hf
    have e5 := Option.some.inj hf
    have e6 : r = r4 := (congrArg Prod.fst e5).symm
    have e7 : N1 = N + 1 := (congrArg (fun z => z.2.1) e5).symm
    have e8 : g = f4 := (congrArg (fun z => z.2.2) e5).symm
    subst e6
    subst e7
    subst e8
    refine x_aload_n B dX11_text_39 rfl (lv_at hl 2 rfl) ?_
    refine y_getFs (C := RX11) (T := TX11) (NN := 10) (d := 1) B (rg_11_0.at0 rfl) inX11 rfl (j := 0) (by decide) q_388 rfl rfl (by decide) dX11_text_40 ?_
    refine x_aload_n B dX11_text_43 rfl (lv_at hl 2 rfl) ?_
    refine y_getFs (C := RX11) (T := TX11) (NN := 10) (d := 99) B (rg_11_0.at0 rfl) inX11 rfl (j := 8) (by decide) q_396 rfl rfl (by decide) dX11_text_44 ?_
    refine x_callV (rest := [.ref (gz G + (0 + 1))]) B (kX3_lawRead rg_3_99 h4) (rg_3_99.at0 (N := N) rfl).lt (rg_3_99.at0 (N := N) rfl).2 rfl (by decide) q_838 q_839 q_840 (by rw [hR]; exact cw_X11_text_lawRead) rfl rfl hl.1 (Nat.le_of_ble_eq_true rfl) dX11_text_47 (by rw [hR]; decide) ?_
    refine x_callV0 (rest := []) B (kX10_addLaw rg_10_1 (⟨N, by omega, rfl⟩ : lk (N + 1) (130 + 3 * N)) h5) ⟨rfl, rfl⟩ (rg_10_1.at0 (N := N + 1) rfl).lt (rg_10_1.at0 (N := N + 1) rfl).2 rfl (by decide) q_878 q_879 q_880 (by rw [hR]; exact cw_X11_text_addLaw) rfl rfl hl.1 (Nat.le_of_ble_eq_true rfl) dX11_text_50 (by rw [hR]; decide) ?_
    exact x_iret B dX11_text_53
