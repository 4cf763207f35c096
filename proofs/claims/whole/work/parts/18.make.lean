/-! making: the cells as a list, from the law's start on -/
def PL (G : GE) (L : List va_E) (H : Heap) : Prop := (∀ (k : Nat) (e : va_E), L[k]? = some e → va_at (gD G) vwCl (gz G + k, e) H) ∧ H.size = gz G + L.length ∧ ∀ q : Nat, q < gz G → H[q]? = (gH G)[q]?
def WL (V : VE) (G : GE) (L : List va_E) (ce sl : Nat) (Q : State → Prop) (pc : Nat) (ls : Array Slot) (st : List Value) : Prop :=
  ∀ (H : Heap) (locs : List Loc), PL G L H → va_S (fun q => gz G ≤ q) V.2.2.2.2.1.heap H locs → W V.1 V.2.1 V.2.2.1 V.2.2.2.1 V.2.2.2.2.1 V.2.2.2.2.2.1 V.2.2.2.2.2.2.1 V.2.2.2.2.2.2.2.1 V.2.2.2.2.2.2.2.2.1 V.2.2.2.2.2.2.2.2.2 H locs ce sl Q (F0 V.2.2.2.2.2.1 pc ls st)
theorem PL.set {G : GE} {L : List va_E} {H H1 : Heap} {k : Nat} {e e' : va_E} (h : PL G L H) (hk : L[k]? = some e) (hn : va_at (gD G) vwCl (gz G + k, e') H1) (ho : ∀ q : Nat, q ≠ gz G + k → H1[q]? = H[q]?) (hz : H1.size = H.size) : PL G (L.set k e') H1 := by
  refine ⟨fun i x hi => ?_, by rw [List.length_set, hz]; exact h.2.1, fun q hq => (ho q (by omega)).trans (h.2.2 q hq)⟩
  rw [List.getElem?_set] at hi
  by_cases e1 : k = i
  · subst e1
    rw [if_pos rfl, if_pos (List.getElem?_eq_some_iff.mp hk).1] at hi
    cases hi
    exact hn
  · rw [if_neg e1] at hi
    exact (h.1 i x hi).kept (ho _ (by omega))
theorem PL.push {G : GE} {L : List va_E} {H H1 : Heap} {e : va_E} (h : PL G L H) (hn : va_at (gD G) vwCl (gz G + L.length, e) H1) (ho : ∀ q : Nat, q < H.size → H1[q]? = H[q]?) (hz : H1.size = H.size + 1) : PL G (L ++ [e]) H1 := by
  refine ⟨fun i x hi => ?_, by rw [List.length_append, hz, h.2.1]; simp; omega, fun q hq => (ho q (by rw [h.2.1]; omega)).trans (h.2.2 q hq)⟩
  by_cases e1 : i < L.length
  · rw [List.getElem?_append_left e1] at hi
    exact (h.1 i x hi).kept (ho _ (by rw [h.2.1]; exact Nat.add_lt_add_left e1 _))
  · rw [List.getElem?_append_right (by omega)] at hi
    have e2 : i - L.length < 1 := (List.getElem?_eq_some_iff.mp hi).1
    have e3 : i = L.length := by omega
    subst e3
    rw [Nat.sub_self] at hi
    cases hi
    exact hn
section XL
variable {V : VE} {G : GE} {L : List va_E} {ce sl : Nat} {Q : State → Prop} {pc : Nat} {ls : Array Slot} {rest : List Value} {cc : ByteArray} {nL : Nat} {own : String} {ret : Option FieldType}
theorem l_iconst (B : CX V G cc nL own ret) {n : Int} {v : Int32} (hd : decode cc pc = .ok (.iconst n, 1)) (hv : Int32.ofInt n = v) (kk : WL V G L ce sl Q (pc + 1) ls (.int v :: rest)) : WL V G L ce sl Q pc ls rest := fun H locs h1 h2 => lv_iconst B.1 B.2.1 hd hv (kk H locs h1 h2)
theorem l_bipush (B : CX V G cc nL own ret) {n : Int} {v : Int32} (hd : decode cc pc = .ok (.bipush n, 2)) (hv : (Int8.ofInt n).toInt32 = v) (kk : WL V G L ce sl Q (pc + 2) ls (.int v :: rest)) : WL V G L ce sl Q pc ls rest := fun H locs h1 h2 => lv_bipush B.1 B.2.1 hd hv (kk H locs h1 h2)
theorem l_sipush (B : CX V G cc nL own ret) {n : Int} {v : Int32} (hd : decode cc pc = .ok (.sipush n, 3)) (hv : (Int16.ofInt n).toInt32 = v) (kk : WL V G L ce sl Q (pc + 3) ls (.int v :: rest)) : WL V G L ce sl Q pc ls rest := fun H locs h1 h2 => lv_sipush B.1 B.2.1 hd hv (kk H locs h1 h2)
theorem l_iload_n (B : CX V G cc nL own ret) {k : Fin 4} {i : Nat} {x : Int32} (hd : decode cc pc = .ok (.iload_n k, 1)) (hi : (k : Nat) = i) (hl : ls[i]? = some (.val (.int x))) (kk : WL V G L ce sl Q (pc + 1) ls (.int x :: rest)) : WL V G L ce sl Q pc ls rest := fun H locs h1 h2 => lv_iload_n B.1 B.2.1 hd hi hl (kk H locs h1 h2)
theorem l_aload_n (B : CX V G cc nL own ret) {k : Fin 4} {i : Nat} {x : Nat} (hd : decode cc pc = .ok (.aload_n k, 1)) (hi : (k : Nat) = i) (hl : ls[i]? = some (.val (.ref x))) (kk : WL V G L ce sl Q (pc + 1) ls (.ref x :: rest)) : WL V G L ce sl Q pc ls rest := fun H locs h1 h2 => lv_aload_n B.1 B.2.1 hd hi hl (kk H locs h1 h2)
theorem l_dup (B : CX V G cc nL own ret) {va : Value} (hd : decode cc pc = .ok (.dup, 1)) (hva : va.category = 1) (kk : WL V G L ce sl Q (pc + 1) ls (va :: va :: rest)) : WL V G L ce sl Q pc ls (va :: rest) := fun H locs h1 h2 => lv_dup B.1 B.2.1 hd hva (kk H locs h1 h2)
theorem l_ldc (B : CX V G cc nL own ret) {idx : Nat} {v : Int32} (hw : Cond.constant own idx v ∈ gT) (hd : decode cc pc = .ok (.ldc idx, 2)) (kk : WL V G L ce sl Q (pc + 2) ls (.int v :: rest)) : WL V G L ce sl Q pc ls rest := fun H locs h1 h2 => lv_ldc B.1 B.2.1 B.2.2.2.1 (B.2.2.2.2.1 _ hw) hd (kk H locs h1 h2)
theorem l_goto (B : CX V G cc nL own ret) {off : Int} {tgt : Nat} (hd : decode cc pc = .ok (.goto off, 3)) (ht : (pc : Int) + off = (tgt : Int)) (kk : WL V G L ce sl Q tgt ls rest) : WL V G L ce sl Q pc ls rest := fun H locs h1 h2 => lv_goto B.1 B.2.1 hd ht (kk H locs h1 h2)
theorem l_icmp_geT (B : CX V G cc nL own ret) {x y : Int32} {off : Int} {tgt : Nat} (hd : decode cc pc = .ok (.if_icmp .ge off, 3)) (ht : (pc : Int) + off = (tgt : Int)) (h : y ≤ x) (kt : WL V G L ce sl Q tgt ls rest) : WL V G L ce sl Q pc ls (.int y :: .int x :: rest) := fun H locs h1 h2 => lv_icmp_ge B.1 B.2.1 hd ht (fun _ => kt H locs h1 h2) (fun g => absurd h g)
theorem l_icmp_geF (B : CX V G cc nL own ret) {x y : Int32} {off : Int} {tgt : Nat} (hd : decode cc pc = .ok (.if_icmp .ge off, 3)) (ht : (pc : Int) + off = (tgt : Int)) (h : ¬ y ≤ x) (kf : WL V G L ce sl Q (pc + 3) ls rest) : WL V G L ce sl Q pc ls (.int y :: .int x :: rest) := fun H locs h1 h2 => lv_icmp_ge B.1 B.2.1 hd ht (fun g => absurd g h) (fun _ => kf H locs h1 h2)
theorem l_istore_n (B : CX V G cc nL own ret) {k : Fin 4} {i : Nat} {x : Int32} {lv lv' : List (Nat × Value)} (hd : decode cc pc = .ok (.istore_n k, 1)) (hi : (k : Nat) = i) (h : lv_has ls nL lv) (hn : i < nL) (hl : (i, Value.int x) :: lv.filter (fun q => !(q.1 == i) && !(q.1 + 1 == i && q.2.category == 2)) = lv') (kk : ∀ ls' : Array Slot, lv_has ls' nL lv' → WL V G L ce sl Q (pc + 1) ls' rest) : WL V G L ce sl Q pc ls (.int x :: rest) := fun H locs h1 h2 => lv_istore_n B.1 B.2.1 hd hi h hn hl (fun ls' h9 => kk ls' h9 H locs h1 h2)
theorem l_astore_n (B : CX V G cc nL own ret) {k : Fin 4} {i : Nat} {x : Nat} {lv lv' : List (Nat × Value)} (hd : decode cc pc = .ok (.astore_n k, 1)) (hi : (k : Nat) = i) (h : lv_has ls nL lv) (hn : i < nL) (hl : (i, Value.ref x) :: lv.filter (fun q => !(q.1 == i) && !(q.1 + 1 == i && q.2.category == 2)) = lv') (kk : ∀ ls' : Array Slot, lv_has ls' nL lv' → WL V G L ce sl Q (pc + 1) ls' rest) : WL V G L ce sl Q pc ls (.ref x :: rest) := fun H locs h1 h2 => lv_astore_n B.1 B.2.1 hd hi h hn hl (fun ls' h9 => kk ls' h9 H locs h1 h2)
theorem l_iinc (B : CX V G cc nL own ret) {i k : Nat} {n : Int} {x v : Int32} {lv lv' : List (Nat × Value)} (hd : decode cc pc = .ok (.iinc i n, 3)) (h : lv_has ls nL lv) (hk : lv[k]? = some (i, .int x)) (hv : x + Int32.ofInt n = v) (hn : i < nL) (hl : (i, Value.int v) :: lv.filter (fun q => !(q.1 == i) && !(q.1 + 1 == i && q.2.category == 2)) = lv') (kk : ∀ ls' : Array Slot, lv_has ls' nL lv' → WL V G L ce sl Q (pc + 3) ls' rest) : WL V G L ce sl Q pc ls rest := fun H locs h1 h2 => lv_iinc B.1 B.2.1 hd h hk hv hn hl (fun ls' h9 => kk ls' h9 H locs h1 h2)
theorem l_obj (B : CX V G cc nL own ret) {idx a : Nat} (hl : Cond.methodLink own idx objectInit ∈ gT) (hi : Cond.instanceMethod objectInit ∈ gT) (hc : Cond.code objectInit ⟨#[0xb1]⟩ 1 none ∈ gT) (hls : ls.size = nL) (hd : decode cc pc = .ok (.invokespecial idx, 3)) (hf : 1 ≤ V.2.2.2.1.frames) (hlo : 28 ≤ V.2.2.2.1.locals) (hw : (rest.map fun v => v.category).sum ≤ 8) (kk : WL V G L ce sl Q (pc + 3) ls rest) : WL V G L ce sl Q pc ls (.ref a :: rest) := by
  intro H locs h1 h2
  have hts := B.2.2.2.2.1
  exact W.objInit B.1 B.2.1 B.2.2.2.1 (hts _ hl) (hts _ hi) (hts _ hc) rfl (by rw [B.2.2.1]; exact hls) rfl hd hf (by show 2 * 0 + _ + 12 ≤ _; omega) (kk H locs h1 h2)
theorem l_new (B : CX V G cc nL own ret) {idx ci NN : Nat} {C : String} {T : u_T} {ty : Nat → FieldType} {fs : List Value} {a : Nat} (hin : ∀ w ∈ u_ws C T NN, w ∈ gT) (hty : ∀ k, k < NN → parseFieldDescriptor (T k).2.2.1 = some (ty k)) (hc : vwCl[ci]? = some (C, T, NN)) (hcl : Cond.classLink own idx C ∈ gT) (hins : Cond.instantiable C NN ∈ gT) (hini : Cond.initialized C ∈ gT) (hfs : ((List.range NN).map fun j => defaultValue (ty j)) = fs) (ha : L.length = a) (hce : ce + 1 ≤ V.2.2.2.1.cells) (hsl : sl + NN ≤ V.2.2.2.1.slots) (hd : decode cc pc = .ok (.new idx, 3)) (kk : WL V G (L ++ [.inr (ci, fs)]) (ce + 1) (sl + NN) Q (pc + 3) ls (.ref (gz G + a) :: rest)) : WL V G L ce sl Q pc ls rest := by
  subst ha
  intro H locs h1 h2
  have hts := B.2.2.2.2.1
  have hKn := B.2.2.2.2.2.2.2.1.1 ci _ hc
  refine W.newcK B.1 B.2.1 B.2.2.2.1 (hts _ hcl) (hts _ hins) (hts _ hini) rfl hd hce hsl hKn.2.1 h1.2.1 fun H1 kC hkC e1 z1 o1 => ?_
  refine kk H1 locs (h1.push ?_ (fun q hq => o1 q (by rw [← h1.2.1]; exact hq)) (by rw [z1, h1.2.1])) ⟨Nat.le_trans h2.1 (by rw [z1, h1.2.1]; omega), fun q g1 g2 => (o1 q (by have := h2.1; rw [h1.2.1] at this; omega)).trans (h2.2.1 q g1 g2), h2.2.2⟩
  refine ⟨_, hc, (u_born ty hts hin hKn hkC e1 hty).to (fun j hj => ?_)⟩
  subst hfs
  simp [vp_V, hj]
/-- a new row of ints, booleans or chars, all 0 -/
theorem l_newa (B : CX V G cc nL own ret) {at_ : ArrayType} {ty : FieldType} {t n a : Nat} {v : Int32} (hty : newarray.typeOf at_ = ty) (hac : Cond.arrayClass ty ∈ gT) (ht : (tyG (gA G))[t]? = some (gA G t, ty)) (hra : va_RA V.2.2.2.2.1 (gA G t) ty = (V.2.2.2.2.1.vm.findClass ("[" ++ ty.toString) = some (gA G t))) (hdv : defaultValue ty = .int 0) (hv : v = nI n) (hn : n < 1000000) (hcb : componentBytes ty ≤ 8) (ha : L.length = a) (hce : ce + 1 ≤ V.2.2.2.1.cells) (hsl : sl + n ≤ V.2.2.2.1.slots) (hd : decode cc pc = .ok (.newarray at_, 2)) (kk : WL V G (L ++ [.inl (gA G t, n, .inl (fun _ => 0))]) (ce + 1) (sl + n) Q (pc + 2) ls (.ref (gz G + a) :: rest)) : WL V G L ce sl Q pc ls (.int v :: rest) := by
  subst ha
  subst hv
  subst hty
  intro H locs h1 h2
  have hts := B.2.2.2.2.1
  have hnn : (nI n).toNatClampNeg = n := nI_clamp (by omega)
  refine va_newaK B.1 B.2.1 (hts _ hac) rfl hd rfl (nI_pos (by omega)) hnn (by have := Nat.mul_le_mul (Nat.le_of_lt hn) hcb; omega) hce hsl h1.2.1 fun H1 cA e1 z1 o1 hAr hNm => ?_
  have h9 := (B.2.2.2.2.2.2.2.1.2 t _ ht).2
  have h9 : V.2.2.2.2.1.vm.findClass ("[" ++ (newarray.typeOf at_).toString) = some (gA G t) := hra ▸ h9
  have e : cA = gA G t := Option.some.inj (hNm.symm.trans h9)
  subst e
  refine kk H1 locs (h1.push ?_ (fun q hq => o1 q (by rw [← h1.2.1]; exact hq)) (by rw [z1, h1.2.1])) ⟨Nat.le_trans h2.1 (by rw [z1, h1.2.1]; omega), fun q g1 g2 => (o1 q (by have := h2.1; rw [h1.2.1] at this; omega)).trans (h2.2.1 q g1 g2), h2.2.2⟩
  show H1[gz G + L.length]? = some (vp_cell _ _)
  rw [e1, vp_cell_i, hdv]
/-- a new row of references, all null -/
theorem l_anew (B : CX V G cc nL own ret) {idx t n a : Nat} {C : String} {v : Int32} (hcl : Cond.classLink own idx C ∈ gT) (hao : va_AO C V.2.2.2.2.1) (ht : (tyG (gA G))[t]? = some (gA G t, .object C)) (hv : v = nI n) (hn : n < 1000000) (ha : L.length = a) (hce : ce + 1 ≤ V.2.2.2.1.cells) (hsl : sl + n ≤ V.2.2.2.1.slots) (hd : decode cc pc = .ok (.anewarray idx, 3)) (kk : WL V G (L ++ [.inl (gA G t, n, .inr (.inr (.inr (.inr (fun _ => none)))))]) (ce + 1) (sl + n) Q (pc + 3) ls (.ref (gz G + a) :: rest)) : WL V G L ce sl Q pc ls (.int v :: rest) := by
  subst ha
  subst hv
  intro H locs h1 h2
  have hts := B.2.2.2.2.1
  have hnn : (nI n).toNatClampNeg = n := nI_clamp (by omega)
  refine W.anew B.1 B.2.1 B.2.2.2.1 (hts _ hcl) (va_AO.use hao) rfl hd rfl (nI_pos (by omega)) (by rw [hnn]; omega) hce (by rw [hnn]; exact hsl) fun cA kA comp g1 g2 g3 g4 => ?_
  obtain ⟨kA', comp', r1, r2, r3, r4⟩ := (B.2.2.2.2.2.2.2.1.2 t _ ht).2
  have e : cA = gA G t := Option.some.inj (g1.symm.trans r4)
  subst e
  rw [hnn, h1.2.1]
  have z1 : (H.push { cls := gA G t, slots := Array.replicate n .null, vm := .none }).size = H.size + 1 := by simp
  have o1 : ∀ q : Nat, q < H.size → (H.push { cls := gA G t, slots := Array.replicate n .null, vm := .none })[q]? = H[q]? := fun q hq => by rw [Array.getElem?_push, if_neg (Nat.ne_of_lt hq)]
  refine kk _ locs (h1.push ?_ o1 z1) ⟨Nat.le_trans h2.1 (by rw [z1]; omega), fun q q1 q2 => (o1 q (by have := h2.1; omega)).trans (h2.2.1 q q1 q2), h2.2.2⟩
  show (H.push _)[gz G + L.length]? = some (vp_cell _ _)
  rw [← h1.2.1, vp_cell_q]
  simp only [Array.getElem?_push_size]
  congr 1
  unfold arrV
  congr 1
  apply Array.ext
  · simp
  · intro i g1 g2
    simp [va_rf]
/-- putfield in a constructor -/
theorem l_put (B : CX V G cc nL own ret) {k ci j idx : Nat} {C : String} {T : u_T} {NN : Nat} {r2 : String} {ty0 : Nat → FieldType} {fs : List Value} {v : Value} {fin : Bool} (he : L[k]? = some (.inr (ci, fs))) (hin : ∀ w ∈ u_ws C T NN, w ∈ gT) (hty : ∀ k, k < NN → parseFieldDescriptor (T k).2.2.1 = some (ty0 k)) (hnm : ∀ a, a < NN → ∀ b, b < NN → a ≠ b → (T a).2.1 ≠ (T b).2.1) (hc : vwCl[ci]? = some (C, T, NN)) (hj : j < NN) (hq : Cond.fieldLink own idx r2 (T j).2.1 (T j).2.2.1 ∈ gT) (hr : (T j).1 = r2) (hown : r2 = own) (hmn : V.2.2.2.2.2.2.2.2.1.name = "<init>") {ty : FieldType} (hdd : parseFieldDescriptor (T j).2.2.1 = some ty) (hn : narrow ty v = v) (hfit : fits ty v = true) (hfl : fs.length = NN) (hd : decode cc pc = .ok (.putfield idx, 3))
    (kk : WL V G (L.set k (.inr (ci, fs.set j v))) ce sl Q (pc + 3) ls rest) : WL V G L ce sl Q pc ls (v :: .ref (gz G + k) :: rest) := by
  subst hr
  intro H locs h1 h2
  have hK := B.2.2.2.2.2.2.2.1
  have hts := B.2.2.2.2.1
  have hap := va_apart (own := own) hts hin ty0 hty hnm hK hc
  obtain ⟨r, hh1, cell, q1, q2, q3, q4⟩ := h1.1 k _ he
  have hr : r = (C, T, NN) := Option.some.inj (hh1.symm.trans hc)
  subst hr
  obtain ⟨hS, hfc, kC, hkC, hkind⟩ := hK.1 ci _ hc
  obtain ⟨cf, kf, fi, ff, hi, hsl⟩ := hS j hj
  have hst := (u_facts hfc hkC (u_lays hts hin hj) hi).1
  have hls2 := u_lays hts hin hj
  have hll : j < fs.length := by rw [hfl]; exact hj
  have fin : ∀ (H' : Heap) (locs' : List Loc), H'[gz G + k]? = some (cell.setSlot ff.slot v) → H'.size = H.size → (∀ q : Nat, q ≠ gz G + k → H'[q]? = H[q]?) → va_S (fun q => gz G ≤ q) V.2.2.2.2.1.heap H' locs' → W V.1 V.2.1 V.2.2.1 V.2.2.2.1 V.2.2.2.2.1 V.2.2.2.2.2.1 V.2.2.2.2.2.2.1 V.2.2.2.2.2.2.2.1 V.2.2.2.2.2.2.2.2.1 V.2.2.2.2.2.2.2.2.2 H' locs' ce sl Q (F0 V.2.2.2.2.2.1 (pc + 3) ls rest) := by
    intro H' locs' e1 e2 e3 e4
    rw [hsl] at e1
    exact kk H' locs' (h1.set he ⟨_, hc, t_OB.to (V := updV (vp_V fs) j v) ⟨_, e1, q2, q3, t_set q4 hap hj v⟩ (fun i _ => vp_updV_set hll v i)⟩ e3 e2) e4
  cases hfn : (T j).2.2.2 with
  | false =>
    have hlay := hts _ (hin _ (u_in_lay hj))
    unfold u_lay at hlay
    rw [if_neg (by rw [hfn]; decide)] at hlay
    have h6 := u_store hfc hkC hkind hlay hi hdd hn hfit
    exact W.putK B.1 B.2.1 (f := ff) ⟨B.2.2.2.1, hts _ hq, ⟨_, _, _, hi⟩, hst⟩ (by rw [q2]; exact h6) q1 q3 (by rw [hsl]; exact k2_hasslot (q4 j hj)) rfl rfl hd fun H' e1 e2 e3 => fin H' _ e1 e2 e3 (h2.put e2 e3 (Nat.le_add_right _ _))
  | true =>
    have hlay := hts _ (hin _ (u_in_lay hj))
    unfold u_lay at hlay
    rw [if_pos hfn] at hlay
    have hcf : V.2.2.2.2.2.1.cls = cf := by
      obtain ⟨_, _, c', _, _, _, -, -, hf', -, -, -, hown2, -⟩ := Cond.laysFinal_spec hlay
      have e1 : c' = cf := by have := hi.symm.trans hf'; simp at this; exact this.1.symm
      rw [hown] at hown2
      rw [← e1]; exact Option.some.inj (B.2.2.2.1.symm.trans hown2)
    have h6 := u_fits hfc hkC hkind (Or.inr hlay) hi hdd hn hfit
    exact W.putFinK B.1 B.2.1 B.2.2.2.1 (hts _ hq) hi hst hcf hmn (by rw [q2]; exact h6) q1 q3 (by rw [hsl]; exact k2_hasslot (q4 j hj)) rfl rfl hd fun H' e1 e2 e3 => fin H' _ e1 e2 e3 (h2.put e2 e3 (Nat.le_add_right _ _))
theorem l_get (B : CX V G cc nL own ret) {k ci j idx : Nat} {C : String} {T : u_T} {NN : Nat} {r2 : String} {fs : List Value} {v : Value} (he : L[k]? = some (.inr (ci, fs))) (hin : ∀ w ∈ u_ws C T NN, w ∈ gT) (hc : vwCl[ci]? = some (C, T, NN)) (hj : j < NN) (hq : Cond.fieldLink own idx r2 (T j).2.1 (T j).2.2.1 ∈ gT) (hr : (T j).1 = r2) (hv : fs[j]? = some v) (hd : decode cc pc = .ok (.getfield idx, 3)) (kk : WL V G L ce sl Q (pc + 3) ls (v :: rest)) : WL V G L ce sl Q pc ls (.ref (gz G + k) :: rest) := by
  subst hr
  intro H locs h1 h2
  have hP : va_P (gD G) vwCl [(gz G + k, .inr (ci, fs))] H := fun i q hi => by
    cases i with
    | zero => cases hi; exact h1.1 k _ he
    | succ i => cases hi
  exact va_get (D := gD G) (ci := ci) (C := C) (T := T) (N := NN) B.1 B.2.1 B.2.2.2.2.1 hin B.2.2.2.1 B.2.2.2.2.2.2.2.1 hP 0 rfl hc j hj (B.2.2.2.2.1 _ hq) (fun _ h9 => h9) hv hd (kk H locs h1 h2)
theorem l_iast (B : CX V G cc nL own ret) {k n : Nat} {g : Nat → Int32} {i x : Int32} (he : L[k]? = some (.inl (gA G 0, n, .inl g))) (hi : ib i n = true) (hd : decode cc pc = .ok (.iastore, 1)) (kk : WL V G (L.set k (.inl (gA G 0, n, .inl (upd g i.toNatClampNeg x)))) ce sl Q (pc + 1) ls rest) : WL V G L ce sl Q pc ls (.int x :: .int i :: .ref (gz G + k) :: rest) := by
  intro H locs h1 h2
  refine W.iast B.1 B.2.1 (h1.1 k _ he) ((B.2.2.2.2.2.2.2.1.2 0 _ rfl).1 n (fun j => .int (g j))) (fun q => by cases q) (by show ¬ (i < 0 ∨ (arrV _ _ _).slots.size ≤ _); rw [arrV_size]; exact ib_in hi) rfl rfl hd fun H1 e z oq => ?_
  refine kk H1 _ (h1.set he ?_ oq z) (h2.put z oq (Nat.le_add_right _ _))
  show H1[gz G + k]? = some (vp_cell _ _)
  rw [e, vp_cell_i, vp_cell_i, arrV_store]
  congr 2
  funext q
  by_cases hq : q = i.toNatClampNeg
  · subst hq
    simp [updV, upd]
  · simp [updV, upd, hq]
theorem l_cast (B : CX V G cc nL own ret) {k n : Nat} {g : Nat → Int32} {i x : Int32} (he : L[k]? = some (.inl (gA G 2, n, .inl g))) (hi : ib i n = true) (hx : vp_nar .char x = x) (hd : decode cc pc = .ok (.castore, 1)) (kk : WL V G (L.set k (.inl (gA G 2, n, .inl (upd g i.toNatClampNeg x)))) ce sl Q (pc + 1) ls rest) : WL V G L ce sl Q pc ls (.int x :: .int i :: .ref (gz G + k) :: rest) := by
  intro H locs h1 h2
  refine W.cast B.1 B.2.1 (h1.1 k _ he) ((B.2.2.2.2.2.2.2.1.2 2 _ rfl).1 n (fun j => .int (g j))) (fun q => by cases q) (by show ¬ (i < 0 ∨ (arrV _ _ _).slots.size ≤ _); rw [arrV_size]; exact ib_in hi) rfl rfl hd fun H1 e z oq => ?_
  refine kk H1 _ (h1.set he ?_ oq z) (h2.put z oq (Nat.le_add_right _ _))
  show H1[gz G + k]? = some (vp_cell _ _)
  rw [e, vp_cell_i, vp_cell_i, arrV_store]
  congr 2
  funext q
  by_cases hq : q = i.toNatClampNeg
  · subst hq
    have : narrow .char (.int x) = .int x := (show narrow .char (.int x) = .int (vp_nar .char x) from rfl).trans (by rw [hx])
    simp [updV, upd, this]
  · simp [updV, upd, hq]
theorem l_aast (B : CX V G cc nL own ret) {k n t ci k2 : Nat} {g : Nat → Option Nat} {i : Int32} {fs : List Value} {C : vw_C} (ht : (tyG (gA G))[t]? = some (gA G t, .object C.1)) (hc : vwCl[ci]? = some C) (he : L[k]? = some (.inl (gA G t, n, .inr (.inr (.inr (.inr g)))))) (he2 : L[k2]? = some (.inr (ci, fs))) (hi : ib i n = true) (hd : decode cc pc = .ok (.aastore, 1)) (kk : WL V G (L.set k (.inl (gA G t, n, .inr (.inr (.inr (.inr (va_up g i.toNatClampNeg (some (gz G + k2))))))))) ce sl Q (pc + 1) ls rest) : WL V G L ce sl Q pc ls (.ref (gz G + k2) :: .int i :: .ref (gz G + k) :: rest) := by
  intro H locs h1 h2
  have hin := ib_in hi
  have hlt := ib_lt hi
  have h0 : ¬ i < 0 := fun q => hin (Or.inl q)
  obtain ⟨r', hr', cellV, g1, g2, g3, -⟩ := h1.1 k2 _ he2
  have hcls := (B.2.2.2.2.2.2.2.1.1 ci C hc).2
  obtain ⟨kA, comp, k1, k2', k3, -⟩ := (B.2.2.2.2.2.2.2.1.2 t _ ht).2
  have hcomp : comp = (gD G).1 ci := Option.some.inj (k3.symm.trans hcls.1)
  subst hcomp
  obtain ⟨kC, hkC, -⟩ := hcls.2
  refine W.aast B.1 B.2.1 (h1.1 k _ he) (fun q h => by cases h) (fun h => by cases h) k1 k2' rfl hkC ⟨h0, by show _ < (arrV _ _ _).slots.size; rw [arrV_size]; exact hlt⟩ g1 (fun q h => by rw [g3] at h; cases h) (by rw [g2]; exact hkC) (by rw [g2]; exact va_assign hcls) rfl rfl hd fun H1 e z oq => ?_
  refine kk H1 _ (h1.set he ?_ oq z) (h2.put z oq (Nat.le_add_right _ _))
  show H1[gz G + k]? = some (vp_cell _ _)
  rw [e, vp_cell_q, vp_cell_q, arrV_store]
  congr 2
  funext q
  by_cases hq : q = i.toNatClampNeg
  · subst hq
    simp [updV, va_up, va_rf]
  · simp [updV, va_up, hq]
theorem l_min (B : CX V G cc nL own ret) {idx : Nat} {x y : Int32} (hl : Cond.methodLink own idx Lib.Math.min.name ∈ gT) (hs : Cond.static Lib.Math.min.name ∈ gT) (hi : Cond.initialized "java/lang/Math" ∈ gT) (hc : Cond.code Lib.Math.min.name Lib.Math.min.code 2 (some .int) ∈ gT) (hls : ls.size = nL) (hfr : 1 ≤ V.2.2.2.1.frames) (hlo : 21 ≤ V.2.2.2.1.locals) (hw : (rest.map fun v => v.category).sum ≤ 8) (hce : ce ≤ V.2.2.2.1.cells ∧ sl ≤ V.2.2.2.1.slots) (hd : decode cc pc = .ok (.invokestatic idx, 3)) (kk : WL V G L ce sl Q (pc + 3) ls (.int (minI x y) :: rest)) : WL V G L ce sl Q pc ls (.int y :: .int x :: rest) := by
  intro H locs h1 h2
  have hts := B.2.2.2.2.1
  exact va_mmin B.1 B.2.1 (B.2.2.1.trans hls.symm) B.2.2.2.1 (hts _ hl) (hts _ hs) (hts _ hi) (hts _ hc) hfr (by omega) hce.1 hce.2 hd (kk H locs h1 h2)
theorem l_val {va vb : Value} (e : va = vb) (kk : WL V G L ce sl Q pc ls (vb :: rest)) : WL V G L ce sl Q pc ls (va :: rest) := by rw [e]; exact kk
theorem l_wid {c2 s2 : Nat} {st : List Value} (hc : ce ≤ c2) (hs : sl ≤ s2) (kk : WL V G L c2 s2 Q pc ls st) : WL V G L ce sl Q pc ls st := fun H locs h1 h2 => W.widen hc hs (kk H locs h1 h2)
theorem l_L {L2 : List va_E} {st : List Value} (e : L = L2) (kk : WL V G L2 ce sl Q pc ls st) : WL V G L ce sl Q pc ls st := by rw [e]; exact kk
end XL
/-! contracts of constructors -/
def KC (G : GE) (U : State) : Prop := KG G U ∧ va_AO "FluxWatch$Law" U ∧ va_AO "FluxWatch$Sheet" U ∧ va_AO "FluxWatch$Slot" U
def QL (G : GE) (L : List va_E) : Array Value → State → Outcome → State → Prop := fun _ s0 o t => o = .returned none ∧ PL G L t.heap ∧ va_F (fun q => gz G ≤ q) s0 t
def PLx (G : GE) (av : List Value) (L : List va_E) : Array Value → State → Prop := va_Pc av (fun U => KC G U ∧ PL G L U.heap)
def ML (l : Launch) (G : GE) (y : MethodName) (cc : ByteArray) (nL : Nat) (rm : Room) (av : List Value) (L L' : List va_E) : Prop := Met l y (.code y cc nL none :: gT) rm (PLx G av L) (QL G L') rm.cells rm.slots (fun q => gz G ≤ q)
theorem ML.of {l : Launch} {G : GE} {y : MethodName} {cc : ByteArray} {nL : Nat} {rm : Room} {av : List Value} {L L' : List va_E} (hy : plainName y.cls = true) (hyn : y.name = "<init>") (hn : (lg_sl av).length ≤ nL)
    (body : ∀ (V : VE) (ls : Array Slot), V.2.1 = l → V.2.2.2.1 = rm → CX V G cc nL y.cls none → KC G V.2.2.2.2.1 → V.2.2.2.2.2.2.2.2.1.name = "<init>" → lv_has ls nL (lv_args 0 av) → WL V G L 0 0 (MQ V.2.2.2.2.2.2.2.1 (QL G L') V.2.2.2.2.2.2.1 V.2.2.2.2.1 rm.cells rm.slots (fun q => gz G ≤ q)) 0 ls []) : ML l G y cc nL rm av L L' := by
  refine Met.ofW (cc := cc) (maxL := nL) (ret := none) hy rfl ?_
  intro p e s mm args below meth c s₁ B hml hv
  obtain ⟨rfl, hK, hP⟩ := hv
  have hts := atoms_spec (ws := Cond.code y cc nL none :: gT) B.pre
  have hin : meth.name = "<init>" := (name_of_methodNamed B.named B.method).1.trans hyn
  rw [lg_entry_eq]
  exact body (p, l, e, rm, s, mm, av.toArray, below, meth, c) _ rfl rfl ⟨B.exec, B.bytes, hml, findClass_of_methodNamed B.named, fun w h => hts w (List.mem_cons_of_mem _ h), B.returns, B.notSynchronized, hK.1⟩ hK hin (lv_entry av hn) s.heap [] hP va_S.rf
section XC
variable {V : VE} {G : GE} {L : List va_E} {ce sl : Nat} {Q : State → Prop} {pc : Nat} {ls : Array Slot} {rest : List Value} {cc : ByteArray} {nL : Nat} {own : String} {ret : Option FieldType}
theorem l_vret (B : CX V G cc nL own none) {mc ms : Nat} (hd : decode cc pc = .ok (.return_, 1)) : WL V G L mc ms (MQ V.2.2.2.2.2.2.2.1 (QL G L) V.2.2.2.2.2.2.1 V.2.2.2.2.1 mc ms (fun q => gz G ≤ q)) pc ls [] := by
  intro H locs h1 h2
  exact W.vret B.1 B.2.1 B.2.2.2.2.2.1 (fun t ht hW => ⟨rfl, by rw [ht]; exact h1, h2.F ht⟩) h2.2.2 hd B.2.2.2.2.2.2.1
theorem l_after {L1 : List va_E} {a : Array Value} {mc ms : Nat} {H : Heap} {locs : List Loc} {st0 : List Value} (h2 : va_S (fun q => gz G ≤ q) V.2.2.2.2.1.heap H locs)
    (hr : va_Run V.1 V.2.1 V.2.2.1 V.2.2.2.1 V.2.2.2.2.1 V.2.2.2.2.2.1 V.2.2.2.2.2.2.1 V.2.2.2.2.2.2.2.1 V.2.2.2.2.2.2.2.2.1 V.2.2.2.2.2.2.2.2.2 H locs ce sl mc ms (F0 V.2.2.2.2.2.1 pc ls st0) rest (QL G L1 a) (fun q => gz G ≤ q))
    (kk : WL V G L1 (ce + mc) (sl + ms) Q (pc + 3) ls rest) : W V.1 V.2.1 V.2.2.1 V.2.2.2.1 V.2.2.2.2.1 V.2.2.2.2.2.1 V.2.2.2.2.2.2.1 V.2.2.2.2.2.2.2.1 V.2.2.2.2.2.2.2.2.1 V.2.2.2.2.2.2.2.2.2 H locs ce sl Q (F0 V.2.2.2.2.2.1 pc ls st0) := by
  intro T hT X
  obtain ⟨v', st₀, t, T', LL, h0, X', hL, e1, e2, ⟨hv, hb, hz, hk⟩, st⟩ := hr T hT X
  cases hv
  rw [h0] at hz hk
  obtain ⟨t2, a1, b1⟩ := kk T'.heap (locs ++ LL) (by rw [e1]; exact hb)
    ⟨Nat.le_trans h2.1 (by rw [e1]; exact hz), fun q g1 g2 => by rw [e1, hk q (Nat.lt_of_lt_of_le g1 h2.1) g2]; exact h2.2.1 q g1 g2, fun q hq => by
      rcases List.mem_append.mp hq with h | h
      · exact h2.2.2 q h
      · exact hL q h⟩ T' rfl X'
  exact ⟨t2, st t2 a1, b1⟩
theorem KC.warm {s U : State} (hW : s.WarmedH U.vm) (h : KC G s) : KC G U := ⟨KG.warm hW h.1, va_AO.moved hW.alike h.2.1, va_AO.moved hW.alike h.2.2.1, va_AO.moved hW.alike h.2.2.2⟩
theorem PLx_blind {av : List Value} : FrameBlind (PLx G av L) := fun a U g mk h => ⟨h.1, ⟨KG.same (s := U) (U := U.calling g mk a) rfl h.2.1.1, va_AO.moved (u := U) (U := U.calling g mk a) (Vm.Alike.refl _) h.2.1.2.1, va_AO.moved (u := U) (U := U.calling g mk a) (Vm.Alike.refl _) h.2.1.2.2.1, va_AO.moved (u := U) (U := U.calling g mk a) (Vm.Alike.refl _) h.2.1.2.2.2⟩, h.2.2⟩
/-- a constructor's call, of a nest mate (private) or not -/
theorem l_ctorN (B : CX V G cc nL own ret) (hK : KC G V.2.2.2.2.1) {y : MethodName} {c1 : ByteArray} {n1 n idx a : Nat} {host : String} {rm : Room} {As : List Value} {L1 : List va_E} (hM : ML V.2.1 G y c1 n1 rm (.ref (gz G + a) :: As) L L1) (hy : y.name = "<init>") (hl : Cond.methodLinkNest own idx y host ∈ nwT) (hi : Cond.instanceMethod y ∈ gT) (cw : cwB V.2.2.2.1 rm y c1 n1 none n) (hn : As.length = n) {st0 : List Value} (hst : st0 = As.reverse ++ .ref (gz G + a) :: rest) (hls : ls.size = nL) (hw : (rest.map fun v => v.category).sum ≤ 8) (hd : decode cc pc = .ok (.invokespecial idx, 3)) (hf : ce + rm.cells ≤ V.2.2.2.1.cells ∧ sl + rm.slots ≤ V.2.2.2.1.slots)
    (kk : WL V G L1 (ce + rm.cells) (sl + rm.slots) Q (pc + 3) ls rest) : WL V G L ce sl Q pc ls st0 := by
  intro H locs h1 h2
  have hts := B.2.2.2.2.1
  exact l_after h2 (va_runIN (Ts := gT) (own := own) (n := n) ⟨B.1, B.2.1, B.2.2.1, B.2.2.2.1, hts⟩ hM ⟨va_cnB n hts (gT_ws cw.1) rfl rfl rfl (B.2.2.2.2.2.2.2.2.1 _ hl) (hts _ cw.2.1) cw.2.2.1 cw.2.2.2, hy, hts _ hi⟩ ⟨PLx_blind, fun U hU hW => ⟨rfl, KC.warm hW hK, by rw [hU]; exact h1⟩⟩ rfl hn hls hst (by show 2 * 0 + _ ≤ 8; omega) hd hf) kk
theorem l_ctor (B : CX V G cc nL own ret) (hK : KC G V.2.2.2.2.1) {y : MethodName} {c1 : ByteArray} {n1 n idx a : Nat} {rm : Room} {As : List Value} {L1 : List va_E} (hM : ML V.2.1 G y c1 n1 rm (.ref (gz G + a) :: As) L L1) (hy : y.name = "<init>") (hl : Cond.methodLink own idx y ∈ gT) (hi : Cond.instanceMethod y ∈ gT) (cw : cwB V.2.2.2.1 rm y c1 n1 none n) (hn : As.length = n) {st0 : List Value} (hst : st0 = As.reverse ++ .ref (gz G + a) :: rest) (hls : ls.size = nL) (hw : (rest.map fun v => v.category).sum ≤ 8) (hd : decode cc pc = .ok (.invokespecial idx, 3)) (hf : ce + rm.cells ≤ V.2.2.2.1.cells ∧ sl + rm.slots ≤ V.2.2.2.1.slots)
    (kk : WL V G L1 (ce + rm.cells) (sl + rm.slots) Q (pc + 3) ls rest) : WL V G L ce sl Q pc ls st0 := by
  intro H locs h1 h2
  have hts := B.2.2.2.2.1
  exact l_after h2 (va_runI (Ts := gT) (own := own) (n := n) ⟨B.1, B.2.1, B.2.2.1, B.2.2.2.1, hts⟩ hM ⟨callB_of n hts (gT_ws cw.1) rfl rfl rfl (hts _ cw.2.1) (hts _ hl) cw.2.2.1 cw.2.2.2, hy, hts _ hi⟩ ⟨PLx_blind, fun U hU hW => ⟨rfl, KC.warm hW hK, by rw [hU]; exact h1⟩⟩ rfl hn hls hst (by show 2 * 0 + _ ≤ 8; omega) hd hf) kk
end XC
