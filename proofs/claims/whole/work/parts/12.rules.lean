section XS
variable {V : VE} {G : GE} {N : Nat} {f m : Mm} {ce sl : Nat} {Q : State → Prop} {pc : Nat} {ls : Array Slot} {rest : List Value} {cc : ByteArray} {nL : Nat} {own : String} {ret : Option FieldType}
theorem x_val {va vb : Value} (e : va = vb) (kk : WX V G N f m ce sl Q pc ls (vb :: rest)) : WX V G N f m ce sl Q pc ls (va :: rest) := by rw [e]; exact kk
theorem y_getFs (B : CX V G cc nL own ret) {k ci j idx : Nat} {C : String} {T : u_T} {NN d : Nat} {r2 : String} (A : AF N k (ci, 0)) (hin : ∀ w ∈ u_ws C T NN, w ∈ gT) (hc : vwCl[ci]? = some (C, T, NN)) (hj : j < NN) (hq : Cond.fieldLink own idx r2 (T j).2.1 (T j).2.2.1 ∈ gT) (hr : (T j).1 = r2) (hl : (decide (ci < 13) && decide (j < nFT.getD ci 0) && decide (kd ci j = d)) = true) (hd0 : ¬ d = 0) (hd : decode cc pc = .ok (.getfield idx, 3)) (kk : WX V G N f m ce sl Q (pc + 3) ls (.ref (gz G + (k + d)) :: rest)) : WX V G N f m ce sl Q pc ls (.ref (gz G + k) :: rest) := by
  refine x_getF B A hin hc hj hq hr hl hd ?_
  rw [fvv, if_neg hd0]
  exact kk
/-! laws -/
def lkb (N : Nat) (v : Int32) : Bool := decide (1 ≤ v.toNatClampNeg ∧ v.toNatClampNeg ≤ N)
theorem lk_of {N : Nat} {v : Int32} (h : lkb N v = true) : lk N (130 + 3 * (v.toNatClampNeg - 1)) := by
  have h : 1 ≤ v.toNatClampNeg ∧ v.toNatClampNeg ≤ N := by simpa [lkb] using h
  exact ⟨v.toNatClampNeg - 1, by omega, rfl⟩
theorem lvv_z {z : Nat} {v : Int32} (h : v = 0) : lvv z v = .null := by subst h; exact lvv_0
theorem lvv_or {z : Nat} {v : Int32} : lvv z v = .null ∨ ∃ a, lvv z v = .ref a := by
  by_cases h : v = 0
  · exact Or.inl (lvv_z h)
  · exact Or.inr ⟨_, lvv_1 h⟩
theorem y_null (B : CX V G cc nL own ret) (hd : decode cc pc = .ok (.aconst_null, 1)) (kk : WX V G N f m ce sl Q (pc + 1) ls (lvv (gz G) (nI 0) :: rest)) : WX V G N f m ce sl Q pc ls rest := by
  rw [show nI 0 = (0 : Int32) from rfl, lvv_0] at kk
  exact fun H locs h1 h2 => lv_null B.1 B.2.1 hd (kk H locs h1 h2)
theorem y_aload_nN (B : CX V G cc nL own ret) {k : Fin 4} {i : Nat} (hd : decode cc pc = .ok (.aload_n k, 1)) (hi : (k : Nat) = i) (hl : ls[i]? = some (.val .null)) (kk : WX V G N f m ce sl Q (pc + 1) ls (.null :: rest)) : WX V G N f m ce sl Q pc ls rest := fun H locs h1 h2 => lv_aload_nN B.1 B.2.1 hd hi hl (kk H locs h1 h2)
theorem y_astore_nN (B : CX V G cc nL own ret) {k : Fin 4} {i : Nat} {lv lv' : List (Nat × Value)} (hd : decode cc pc = .ok (.astore_n k, 1)) (hi : (k : Nat) = i) (h : lv_has ls nL lv) (hn : i < nL) (hl : (i, Value.null) :: lv.filter (fun q => !(q.1 == i) && !(q.1 + 1 == i && q.2.category == 2)) = lv') (kk : ∀ ls' : Array Slot, lv_has ls' nL lv' → WX V G N f m ce sl Q (pc + 1) ls' rest) : WX V G N f m ce sl Q pc ls (.null :: rest) := fun H locs h1 h2 => lv_astore_nN B.1 B.2.1 hd hi h hn hl (fun ls' h9 => kk ls' h9 H locs h1 h2)
theorem x_ifnull (B : CX V G cc nL own ret) {x : Nat} {off : Int} (hd : decode cc pc = .ok (.ifnull off, 3)) (kk : WX V G N f m ce sl Q (pc + 3) ls rest) : WX V G N f m ce sl Q pc ls (.ref x :: rest) := fun H locs h1 h2 => lv_ifnull B.1 B.2.1 hd (kk H locs h1 h2)
theorem x_ifnullN (B : CX V G cc nL own ret) {off : Int} {tgt : Nat} (hd : decode cc pc = .ok (.ifnull off, 3)) (ht : (pc : Int) + off = (tgt : Int)) (kk : WX V G N f m ce sl Q tgt ls rest) : WX V G N f m ce sl Q pc ls (.null :: rest) := fun H locs h1 h2 => lv_ifnullN B.1 B.2.1 hd ht (kk H locs h1 h2)
theorem x_ifnonnull (B : CX V G cc nL own ret) {x : Nat} {off : Int} {tgt : Nat} (hd : decode cc pc = .ok (.ifnonnull off, 3)) (ht : (pc : Int) + off = (tgt : Int)) (kk : WX V G N f m ce sl Q tgt ls rest) : WX V G N f m ce sl Q pc ls (.ref x :: rest) := fun H locs h1 h2 => lv_ifnonnull B.1 B.2.1 hd ht (kk H locs h1 h2)
theorem x_ifnonnullN (B : CX V G cc nL own ret) {off : Int} (hd : decode cc pc = .ok (.ifnonnull off, 3)) (kk : WX V G N f m ce sl Q (pc + 3) ls rest) : WX V G N f m ce sl Q pc ls (.null :: rest) := fun H locs h1 h2 => lv_ifnonnullN B.1 B.2.1 hd (kk H locs h1 h2)
theorem x_lret {C : String} (B : CX V G cc nL own (some (.object C))) {v : Int32} {mc ms : Nat} (hd : decode cc pc = .ok (.areturn, 1)) : WX V G N f m mc ms (QQ V G (some (lvv (gz G) v)) N f m mc ms) pc ls [lvv (gz G) v] := x_aret B lvv_or hd
/-! places among sheets and slots -/
theorem ib_lt {i : Int32} {n : Nat} (h : ib i n = true) : i.toNatClampNeg < n := by
  have := ib_in h
  exact Nat.not_le.mp fun q => this (Or.inr q)
theorem rg_she {i : Int32} (h : ib i 4 = true) : rg 5 (73 + 1 + 2 * i.toNatClampNeg) := by
  have h1 := ib_lt h
  rcases (show i.toNatClampNeg = 0 ∨ i.toNatClampNeg = 1 ∨ i.toNatClampNeg = 2 ∨ i.toNatClampNeg = 3 by omega) with e | e | e | e <;> rw [e] <;> exact rg.lit (by decide)
theorem rg_slo {i : Int32} (h : ib i 5 = true) : rg 6 (82 + 1 + 3 * i.toNatClampNeg) := by
  have h1 := ib_lt h
  rcases (show i.toNatClampNeg = 0 ∨ i.toNatClampNeg = 1 ∨ i.toNatClampNeg = 2 ∨ i.toNatClampNeg = 3 ∨ i.toNatClampNeg = 4 by omega) with e | e | e | e | e <;> rw [e] <;> exact rg.lit (by decide)
/-! static rows -/
theorem x_gst (B : CX V G cc nL own ret) {n : String} {xs : List Int32} {idx : Nat} (hS : STa G n xs V.2.2.2.2.1) (hq : Cond.fieldLink own idx "FluxWatch" n "[I" ∈ gT) (hd : decode cc pc = .ok (.getstatic idx, 3)) (kk : ∀ b : Nat, b < gz G → va_T .int b xs.length (fun j => .int (xs.getD j 0)) (fun q => gz G ≤ q) V.2.2.2.2.1 (gH G) → WX V G N f m ce sl Q (pc + 3) ls (.ref b :: rest)) : WX V G N f m ce sl Q pc ls rest := by
  obtain ⟨b, hb, hZ, hX⟩ := hS
  obtain ⟨cf, kf, fi, ff, a, cell, h1, h2, h3, h4, h5, h6, h7, h8⟩ := hZ
  intro H locs g1 g2
  exact W.gets B.1 B.2.1 B.2.2.2.1 (B.2.2.2.2.1 _ hq) h1 h2 h3 h4 (by rw [g1.2.2 a (Nat.not_le.mp h8)]; exact h5) (fun e => by rw [e] at h6; cases h6) h7 rfl hd (kk b hb hX H locs g1 g2)
theorem x_sald (B : CX V G cc nL own ret) {b n : Nat} {xs : List Int32} {i : Int32} (hb : b < gz G) (hX : va_T .int b n (fun j => .int (xs.getD j 0)) (fun q => gz G ≤ q) V.2.2.2.2.1 (gH G)) (hi : ib i n = true) (hd : decode cc pc = .ok (.iaload, 1)) (kk : WX V G N f m ce sl Q (pc + 1) ls (.int (xs.getD i.toNatClampNeg 0) :: rest)) : WX V G N f m ce sl Q pc ls (.int i :: .ref b :: rest) := by
  intro H locs g1 g2
  obtain ⟨scr, h1, h2, h3, h4, h5, h6, h7⟩ := hX
  have hb2 := ib_in hi
  exact W.iald B.1 B.2.1 (by rw [g1.2.2 b hb]; exact h1) h2 h3 (fun e => hb2 (e.elim Or.inl (fun e => Or.inr (Nat.le_trans h4 e)))) (h6 _ (ib_lt hi)) rfl rfl hd (kk H locs g1 g2)
theorem x_salen (B : CX V G cc nL own ret) {b n : Nat} {xs : List Int32} {v : Int32} (hb : b < gz G) (hX : va_T .int b n (fun j => .int (xs.getD j 0)) (fun q => gz G ≤ q) V.2.2.2.2.1 (gH G)) (hv : Int32.ofNat n = v) (hd : decode cc pc = .ok (.arraylength, 1)) (kk : WX V G N f m ce sl Q (pc + 1) ls (.int v :: rest)) : WX V G N f m ce sl Q pc ls (.ref b :: rest) := by
  intro H locs g1 g2
  obtain ⟨scr, h1, h2, h3, h4, h5, h6, h7⟩ := hX
  exact W.alen (n := v) B.1 B.2.1 (by rw [g1.2.2 b hb]; exact h1) h2 (by rw [h5]; exact hv) rfl rfl hd (kk H locs g1 g2)
/-! text constants -/
def strL (i : Nat) : Nat := [4, 5, 5].getD i 0
def strB (i j : Nat) : Int32 := (([[114, 97, 116, 101], [107, 110, 111, 99, 107], [115, 116, 97, 114, 115]] : List (List Int32)).getD i []).getD j 0
theorem x_getstZ (B : CX V G cc nL own ret) {idx : Nat} (hq : Cond.fieldLink own idx "java/lang/String" "COMPACT_STRINGS" "Z" ∈ gT) (hd : decode cc pc = .ok (.getstatic idx, 3)) (kk : WX V G N f m ce sl Q (pc + 3) ls (.int (nI 1) :: rest)) : WX V G N f m ce sl Q pc ls rest := by
  obtain ⟨cf, kf, fi, ff, a, cell, h1, h2, h3, h4, h5, h6, h7, h8⟩ := B.2.2.2.2.2.2.2.2.2.1.2.2.2.1
  intro H locs g1 g2
  exact W.gets B.1 B.2.1 B.2.2.2.1 (B.2.2.2.2.1 _ hq) h1 h2 h3 h4 (by rw [g1.2.2 a (Nat.not_le.mp h8)]; exact h5) (fun e => by rw [e] at h6; cases h6) h7 rfl hd (kk H locs g1 g2)
theorem x_strV (B : CX V G cc nL own ret) {idx i : Nat} (hi : i < 3) (hq : Cond.fieldLink own idx "java/lang/String" "value" "[B" ∈ gT) (hd : decode cc pc = .ok (.getfield idx, 3)) (kk : WX V G N f m ce sl Q (pc + 3) ls (.ref (gV G i) :: rest)) : WX V G N f m ce sl Q pc ls (.ref (gK G i) :: rest) := by
  obtain ⟨-, -, h9, -⟩ := B.2.2.2.2.2.2.2.2.2.1.2.2.2.2.1.1 i hi
  obtain ⟨cf, k, fi, ff, cell, h1, h2, h3, h4, h5, h6⟩ := h9
  intro H locs g1 g2
  exact W.getf B.1 B.2.1 B.2.2.2.1 (B.2.2.2.2.1 _ hq) h1 h2 (by rw [g1.2.2 _ (Nat.not_le.mp h6)]; exact h3) h4 h5 rfl rfl hd (kk H locs g1 g2)
theorem x_strC (B : CX V G cc nL own ret) {idx i : Nat} (hi : i < 3) (hq : Cond.fieldLink own idx "java/lang/String" "coder" "B" ∈ gT) (hd : decode cc pc = .ok (.getfield idx, 3)) (kk : WX V G N f m ce sl Q (pc + 3) ls (.int (nI 0) :: rest)) : WX V G N f m ce sl Q pc ls (.ref (gK G i) :: rest) := by
  obtain ⟨-, h9, -⟩ := B.2.2.2.2.2.2.2.2.2.1.2.2.2.2.1.1 i hi
  obtain ⟨cf, k, fi, ff, cell, h1, h2, h3, h4, h5, h6⟩ := h9
  intro H locs g1 g2
  exact W.getf B.1 B.2.1 B.2.2.2.1 (B.2.2.2.2.1 _ hq) h1 h2 (by rw [g1.2.2 _ (Nat.not_le.mp h6)]; exact h3) h4 h5 rfl rfl hd (kk H locs g1 g2)
theorem x_strN (B : CX V G cc nL own ret) {i : Nat} (hi : i < 3) (hd : decode cc pc = .ok (.arraylength, 1)) (kk : WX V G N f m ce sl Q (pc + 1) ls (.int (Int32.ofNat (strL i)) :: rest)) : WX V G N f m ce sl Q pc ls (.ref (gV G i) :: rest) := by
  obtain ⟨-, -, -, cell, h1, h2, h3, h4, h5, h6, h7⟩ := B.2.2.2.2.2.2.2.2.2.1.2.2.2.2.1.1 i hi
  intro H locs g1 g2
  exact W.alen (n := Int32.ofNat (strL i)) B.1 B.2.1 (by rw [g1.2.2 _ (Nat.not_le.mp h7)]; exact h1) h2 h5 rfl rfl hd (kk H locs g1 g2)
theorem x_strA (B : CX V G cc nL own ret) {i : Nat} {j : Int32} (hi : i < 3) (hj : ib j (strL i) = true) (hd : decode cc pc = .ok (.baload, 1)) (kk : WX V G N f m ce sl Q (pc + 1) ls (.int (strB i j.toNatClampNeg) :: rest)) : WX V G N f m ce sl Q pc ls (.int j :: .ref (gV G i) :: rest) := by
  obtain ⟨-, -, -, cell, h1, h2, h3, h4, h5, h6, h7⟩ := B.2.2.2.2.2.2.2.2.2.1.2.2.2.2.1.1 i hi
  intro H locs g1 g2
  have hb := ib_in hj
  exact W.bald B.1 B.2.1 (by rw [g1.2.2 _ (Nat.not_le.mp h7)]; exact h1) h2 h3 (fun e => hb (e.elim Or.inl (fun e => Or.inr (Nat.le_trans h4 e)))) (h6 _ (ib_lt hj)) rfl rfl hd (kk H locs g1 g2)
theorem x_strR (B : CX V G cc nL own ret) {H : Heap} {i : Nat} (hi : i < 3) (h1 : RP G N f m H) : ∃ cell : Cell, H[gK G i]? = some cell ∧ cell.vm.isStatics = false ∧ V.2.2.2.2.1.vm.findClass "java/lang/String" = some cell.cls := by
  obtain ⟨⟨cell, g1, g2, g3, g4⟩, -⟩ := B.2.2.2.2.2.2.2.2.2.1.2.2.2.2.1.1 i hi
  exact ⟨cell, by rw [h1.2.2 _ (Nat.not_le.mp g4)]; exact g1, g2, g3⟩
theorem x_callT0 (B : CX V G cc nL own ret) {y : MethodName} {c1 : ByteArray} {n1 n idx i : Nat} {r1 : Option FieldType} {rm : Room} {As : List Value} {v : Option Value} (hM : MT V.2.1 G y c1 n1 r1 rm (.ref (gK G i) :: As) N f m v N f m) (h0 : rm.cells = 0 ∧ rm.slots = 0) (hi3 : i < 3) (hl : Cond.methodLink own idx y ∈ gT) (hi : Cond.instanceMethod y ∈ gT) (hse : Cond.selects "java/lang/String" y y ∈ gT) (cw : cwB V.2.2.2.1 rm y c1 n1 r1 n) (hn : As.length = n) {st0 : List Value} (hst : st0 = As.reverse ++ .ref (gK G i) :: rest) (hls : ls.size = nL) (hw : (rest.map fun v => v.category).sum ≤ 8) (hd : decode cc pc = .ok (.invokevirtual idx, 3)) (hce : ce ≤ V.2.2.2.1.cells ∧ sl ≤ V.2.2.2.1.slots)
    (kk : WX V G N f m ce sl Q (pc + 3) ls (v.toList ++ rest)) : WX V G N f m ce sl Q pc ls st0 := by
  intro H locs h1 h2
  have hts := B.2.2.2.2.1
  have kk' : WX V G N f m (ce + rm.cells) (sl + rm.slots) Q (pc + 3) ls (v.toList ++ rest) := by rw [h0.1, h0.2]; exact kk
  exact x_after h2 (va_runV (Ts := gT) (own := own) (C := "java/lang/String") (n := n) ⟨B.1, B.2.1, B.2.2.1, B.2.2.2.1, hts⟩ hM ⟨callB_of n hts (gT_ws cw.1) rfl rfl rfl (hts _ cw.2.1) (hts _ hl) cw.2.2.1 cw.2.2.2, hts _ hi, hts _ hse⟩ ⟨PX_blind, x_strR B hi3 h1, PX_at B h1⟩ rfl hn hls hst (by show 2 * 0 + _ ≤ 8; omega) hd (by rw [h0.1, h0.2]; exact hce)) kk'
def ncB (x : Int32) : Bool := decide (vp_nar .char x = x)
theorem x_cret (B : CX V G cc nL own (some .char)) {v : Int32} {mc ms : Nat} (hv : ncB v = true) (hd : decode cc pc = .ok (.ireturn, 1)) : WX V G N f m mc ms (QQ V G (some (.int v)) N f m mc ms) pc ls [.int v] := by
  intro H locs h1 h2
  have hv : vp_nar .char v = v := by simpa [ncB] using hv
  refine W.zret B.1 B.2.1 B.2.2.2.2.2.1 ?_ (fun t ht hW => ⟨rfl, by rw [ht]; exact h1, h2.F ht⟩) h2.2.2 hd B.2.2.2.2.2.2.1
  exact (show narrow .char (.int v) = .int (vp_nar .char v) from rfl).trans (by rw [hv])
theorem x_bret (B : CX V G cc nL own (some .byte)) {v : Int32} {mc ms : Nat} (hv : v.toInt8.toInt32 = v) (hd : decode cc pc = .ok (.ireturn, 1)) : WX V G N f m mc ms (QQ V G (some (.int v)) N f m mc ms) pc ls [.int v] := by
  intro H locs h1 h2
  refine W.zret B.1 B.2.1 B.2.2.2.2.2.1 ?_ (fun t ht hW => ⟨rfl, by rw [ht]; exact h1, h2.F ht⟩) h2.2.2 hd B.2.2.2.2.2.2.1
  show narrow .byte (.int v) = .int v
  simp only [narrow]
  rw [hv]
theorem x_ldcS (B : CX V G cc nL own ret) {idx i : Nat} {tx : String} (hZ : vk_R own idx tx (gK G i) V.2.2.2.2.1) (hd : decode cc pc = .ok (.ldc idx, 2)) (kk : WX V G N f m ce sl Q (pc + 2) ls (.ref (gK G i) :: rest)) : WX V G N f m ce sl Q pc ls rest := fun H locs h1 h2 => va_ldcS B.1 B.2.1 B.2.2.2.1 hZ hd (kk H locs h1 h2)
theorem x_gstQ (B : CX V G cc nL own ret) {idx : Nat} (hq : Cond.fieldLink own idx "jdk/internal/util/Preconditions" "SIOOBE_FORMATTER" "Ljava/util/function/BiFunction;" ∈ gT) (hd : decode cc pc = .ok (.getstatic idx, 3)) (kk : ∀ w : Value, w.category = 1 → WX V G N f m ce sl Q (pc + 3) ls (w :: rest)) : WX V G N f m ce sl Q pc ls rest := by
  have main : ∀ w : Value, w.category = 1 → va_Z "jdk/internal/util/Preconditions" "SIOOBE_FORMATTER" "Ljava/util/function/BiFunction;" w (fun q => gz G ≤ q) V.2.2.2.2.1 (gH G) → WX V G N f m ce sl Q pc ls rest := by
    intro w hw hZ
    obtain ⟨cf, kf, fi, ff, a, cell, h1, h2, h3, h4, h5, h6, h7, h8⟩ := hZ
    intro H locs g1 g2
    exact W.gets B.1 B.2.1 B.2.2.2.1 (B.2.2.2.2.1 _ hq) h1 h2 h3 h4 (by rw [g1.2.2 a (Nat.not_le.mp h8)]; exact h5) (fun e => by rw [e] at h6; cases h6) h7 rfl hd (kk w hw H locs g1 g2)
  rcases B.2.2.2.2.2.2.2.2.2.1.2.2.2.2.2.2.2.2 with h | ⟨t, h⟩
  · exact main _ rfl h
  · exact main _ rfl h
/-! a law into its row -/
def lcode (a : Nat) : Int32 := Int32.ofNat ((a - 130) / 3 + 1)
theorem lcode_ref {N a z : Nat} (h : lk N a) (hb : (a - 130) / 3 + 1 < 2147483648) : lref z (lcode a) = some (z + a) := by
  obtain ⟨j, hj, rfl⟩ := h
  have e : (130 + 3 * j - 130) / 3 = j := by omega
  rw [e] at hb
  have hn : ¬ lcode (130 + 3 * j) = 0 := by
    unfold lcode
    rw [e]
    exact nI_ne0 (by omega) (by omega)
  have hc : (lcode (130 + 3 * j)).toNatClampNeg = j + 1 := by
    unfold lcode
    rw [e]
    exact nI_clamp (by omega)
  unfold lref
  rw [if_neg hn, hc]
  rfl
theorem x_aastL (B : CX V G cc nL own ret) {k n a : Nat} {i : Int32} (A : AF N k (25, n)) (hi : ib i n = true) (ha : lk N a) (hb : (a - 130) / 3 + 1 < 2147483648) (hd : decode cc pc = .ok (.aastore, 1)) (kk : ∀ f' : Mm, f' = up f k i.toNatClampNeg (lcode a) → WX V G N f' m ce sl Q (pc + 1) ls rest) : WX V G N f m ce sl Q pc ls (.ref (gz G + a) :: .int i :: .ref (gz G + k) :: rest) := by
  intro H locs h1 h2
  have cq : ∀ (k n : Nat) (r : Nat → Int32), cE (gz G) k (gA G) (25, n) r = .inl (gA G 5, n, .inr (.inr (.inr (.inr (fun i => lref (gz G) (r i)))))) := fun _ _ _ => rfl
  have h3 := (h1.at (A.lt (N := N))).2
  rw [A.2, cq, rowOf_F A.no] at h3
  have hD : va_D (fun q => gz G ≤ q) (CL (gz G) (gA G) N f m) := CL_D
  have hin := ib_in hi
  have hlt := ib_lt hi
  have h0 : ¬ i < 0 := fun q => hin (Or.inl q)
  obtain ⟨cellV, g1, g2, g3⟩ := x_recv B h1 ha.a0.lt ha.a0.2 (show vwCl[2]? = some (RX2, TX2, 4) from rfl) (by decide)
  have hcls := (B.2.2.2.2.2.2.2.1.1 2 _ (show vwCl[2]? = some (RX2, TX2, 4) from rfl)).2
  obtain ⟨kA, comp, k1, k2, k3, -⟩ := (B.2.2.2.2.2.2.2.1.2 5 _ rfl).2
  have hcomp : comp = cellV.cls := Option.some.inj (k3.symm.trans g3)
  have hcv : (gD G).1 2 = cellV.cls := Option.some.inj (hcls.1.symm.trans g3)
  obtain ⟨kC, hkC, -⟩ := hcls.2
  rw [hcv] at hkC
  refine W.aast B.1 B.2.1 (h1.1 k _ h3) (fun q h => by cases h) (fun h => by cases h) k1 k2 rfl (by rw [hcomp]; exact hkC) ⟨h0, by show _ < (arrV _ _ _).slots.size; rw [arrV_size]; exact hlt⟩ g1 (fun q h => by rw [h] at g2; cases g2) hkC (by rw [hcomp, ← hcv]; exact va_assign hcls) rfl rfl hd fun H1 e z oq => ?_
  have hz : ∀ q : Nat, q < gz G → H1[q]? = H[q]? := fun q hq => oq q (fun e => by have e : q = gz G + k := e; omega)
  refine kk _ rfl H1 _ (h1.setF A.no ?_ z hz) (h2.put z oq (hD.2 k _ h3))
  rw [A.2, cq]
  refine h1.1.set hD h3 ?_ oq
  show H1[gz G + k]? = some (vp_cell _ _)
  rw [e, vp_cell_q, vp_cell_q, arrV_store]
  congr 2
  funext q
  by_cases hq : q = i.toNatClampNeg
  · subst hq
    simp [updV, upd, lcode_ref ha hb, va_rf]
  · simp [updV, upd, hq]
/-! copies -/
def acb (sp dp n : Int32) (n0 n1 : Nat) : Bool := decide (¬ sp < 0 ∧ ¬ dp < 0 ∧ ¬ n < 0 ∧ sp.toNatClampNeg + n.toNatClampNeg ≤ n0 ∧ dp.toNatClampNeg + n.toNatClampNeg ≤ n1)
def cpR (m : Mm) (a0 a1 : Nat) (sp dp n : Int32) : Mm := upR m a1 (va_cpy (m a0) (m a1) sp.toNatClampNeg dp.toNatClampNeg n.toNatClampNeg)
theorem nnI {z : Int32} (hz : ¬ z < 0) : z.toInt = (z.toNatClampNeg : Int) := by
  have hz0 : (0 : Int) ≤ z.toInt := by simpa using Int32.le_iff_toInt_le.mp (Int32.not_lt.mp hz)
  show z.toInt = ((z.toInt.toNat : Nat) : Int)
  omega
theorem x_copyc {mk : Int32 → Value} (B : CX V G cc nL own ret) {idx k0 k1 n0 n1 t0 : Nat} {cI : ClassId} {ty : FieldType} {F0' F1' : Nat → Int32} {sp dp n : Int32} {H : Heap} {locs : List Loc} (hl : Cond.methodLink own idx arraycopyName ∈ gT) (hna : Cond.native arraycopyName ∈ gT) (hst : Cond.static arraycopyName ∈ gT) (hi : Cond.initialized "java/lang/System" ∈ gT) (hls : ls.size = nL) (hfr : 1 ≤ V.2.2.2.1.frames) (hlo : 8 + (nativeFrameWords "java/lang/System" "arraycopy" 5 + 11) ≤ V.2.2.2.1.locals) (hw : (rest.map fun v => v.category).sum ≤ 8) (hd : decode cc pc = .ok (.invokestatic idx, 3))
    (ht : (tyG (gA G))[t0]? = some (cI, ty)) (h0 : H[gz G + k0]? = some (arrV cI n0 (fun j => mk (F0' j)))) (h1 : H[gz G + k1]? = some (arrV cI n1 (fun j => mk (F1' j)))) (hac : acb sp dp n n0 n1 = true) (hS : va_S (fun q => gz G ≤ q) V.2.2.2.2.1.heap H locs)
    (hel : ∀ vm₁ : Vm, V.2.2.2.2.1.vm.Alike vm₁ → ∀ i, i < n.toNatClampNeg → ∀ comp : ClassId, ∀ k1 : Class, V.2.2.2.2.1.vm.classes[cI]? = some k1 → k1.kind = .array comp ty → ∀ T : State, T.heap = H → ((fits ty (mk (F0' (sp.toNatClampNeg + i))) = true) ∧ match mk (F0' (sp.toNatClampNeg + i)) with | .ref y => ∃ cellV : Cell, T.heap[y]? = some cellV ∧ (∀ q, cellV.vm ≠ .statics q) ∧ (∃ k, vm₁.classes[cellV.cls]? = some k) ∧ (∃ k, vm₁.classes[comp]? = some k) ∧ vm₁.assignable cellV.cls comp = true | _ => True))
    (kk : ∀ (H1 : Heap) (locs1 : List Loc), H1[gz G + k1]? = some (arrV cI n1 (fun j => mk (va_cpy F0' F1' sp.toNatClampNeg dp.toNatClampNeg n.toNatClampNeg j))) → H1.size = H.size → (∀ q : Nat, q ≠ gz G + k1 → H1[q]? = H[q]?) → va_S (fun q => gz G ≤ q) V.2.2.2.2.1.heap H1 locs1 → W V.1 V.2.1 V.2.2.1 V.2.2.2.1 V.2.2.2.2.1 V.2.2.2.2.2.1 V.2.2.2.2.2.2.1 V.2.2.2.2.2.2.2.1 V.2.2.2.2.2.2.2.2.1 V.2.2.2.2.2.2.2.2.2 H1 locs1 ce sl Q (F0 V.2.2.2.2.2.1 (pc + 3) ls rest)) :
    W V.1 V.2.1 V.2.2.1 V.2.2.2.1 V.2.2.2.2.1 V.2.2.2.2.2.1 V.2.2.2.2.2.2.1 V.2.2.2.2.2.2.2.1 V.2.2.2.2.2.2.2.2.1 V.2.2.2.2.2.2.2.2.2 H locs ce sl Q (F0 V.2.2.2.2.2.1 pc ls (.int n :: .int dp :: .ref (gz G + k1) :: .int sp :: .ref (gz G + k0) :: rest)) := by
  have hac : ¬ sp < 0 ∧ ¬ dp < 0 ∧ ¬ n < 0 ∧ sp.toNatClampNeg + n.toNatClampNeg ≤ n0 ∧ dp.toNatClampNeg + n.toNatClampNeg ≤ n1 := by simpa [acb] using hac
  obtain ⟨a1, a2, a3, a4, a5⟩ := hac
  have hts := B.2.2.2.2.1
  intro T hT X
  obtain ⟨-, kc0, hk0, cm0, hkk0⟩ := (B.2.2.2.2.2.2.2.1.2 t0 _ ht).1 n0 (fun j => mk (F0' j))
  obtain ⟨vm', X', step⟩ := X.arraycopy B.1 B.2.2.2.1 (hts _ hl) (hts _ hna) (hts _ hst) (hts _ hi) (src := gz G + k0) (dst := gz G + k1) (cs := arrV cI n0 (fun j => mk (F0' j))) (cd := arrV cI n1 (fun j => mk (F1' j))) (srcPos := sp) (destPos := dp) (n := n) (by rw [hT]; exact h0) (by rw [hT]; exact h1)
    (fun _ h => by cases h) (fun _ h => by cases h) (fun h => by cases h) (fun h => by cases h) hk0 hk0 hkk0 hkk0 (by cases refKind ty <;> simp) a1 a2 a3
    (by rw [nnI a1, nnI a3, arrV_size]; omega) (by rw [nnI a2, nnI a3, arrV_size]; omega)
    (fun vm₁ hal i hi => by
      have e : (arrV cI n0 (fun j => mk (F0' j))).slots.getD (sp.toNatClampNeg + i) .null = mk (F0' (sp.toNatClampNeg + i)) := by
        rw [Array.getD_eq_getD_getElem?, arrV_read _ _ (by omega)]
        rfl
      rw [e]
      exact hel vm₁ hal i hi _ kc0 hk0 hkk0 T hT)
    (g := F0 V.2.2.2.2.2.1 pc ls (.int n :: .int dp :: .ref (gz G + k1) :: .int sp :: .ref (gz G + k0) :: rest)) rfl (by rw [B.2.2.1]; exact hls) (rest := rest) rfl (by rw [B.2.1]; exact hd) hfr (by show 2 * 0 + _ + _ ≤ _; omega)
  have e1 : copied (arrV cI n0 (fun j => mk (F0' j))) (arrV cI n1 (fun j => mk (F1' j))) sp dp n = arrV cI n1 (fun j => mk (va_cpy F0' F1' sp.toNatClampNeg dp.toNatClampNeg n.toNatClampNeg j)) := va_copied mk cI cI F0' F1' a4
  rw [e1] at X' step
  have hlt : gz G + k1 < H.size := (Array.getElem?_eq_some_iff.mp h1).1
  have oq : ∀ q : Nat, q ≠ gz G + k1 → (H.setIfInBounds (gz G + k1) (arrV cI n1 (fun j => mk (va_cpy F0' F1' sp.toNatClampNeg dp.toNatClampNeg n.toNatClampNeg j))))[q]? = H[q]? := fun q hq => by simp [Array.getElem?_setIfInBounds, Ne.symm hq]
  obtain ⟨t, b1, b2⟩ := kk (H.setIfInBounds (gz G + k1) (arrV cI n1 (fun j => mk (va_cpy F0' F1' sp.toNatClampNeg dp.toNatClampNeg n.toNatClampNeg j)))) _ (by simp [hlt]) (by simp) oq ⟨by simp; exact hS.1, fun q g1 g2 => by
      rw [oq q (fun e => g2 (by rw [e]; exact Nat.le_add_right _ _))]
      exact hS.2.1 q g1 g2, fun q hq => by
      rcases List.mem_append.mp hq with h | h
      · exact hS.2.2 q h
      · obtain ⟨z, -, hz⟩ := List.mem_map.mp h
        rw [← hz]
        exact Nat.le_add_right _ _⟩ _ (by rw [← hT]; rfl) X'
  exact ⟨t, step t b1, b2⟩
theorem x_copyF (B : CX V G cc nL own ret) {idx k0 k1 n0 n1 : Nat} {sp dp n : Int32} (A0 : AF N k0 (20, n0)) (A1 : AF N k1 (20, n1)) (hac : acb sp dp n n0 n1 = true) (hl : Cond.methodLink own idx arraycopyName ∈ gT) (hna : Cond.native arraycopyName ∈ gT) (hst : Cond.static arraycopyName ∈ gT) (hi : Cond.initialized "java/lang/System" ∈ gT) (hls : ls.size = nL) (hfr : 1 ≤ V.2.2.2.1.frames) (hlo : 8 + (nativeFrameWords "java/lang/System" "arraycopy" 5 + 11) ≤ V.2.2.2.1.locals) (hw : (rest.map fun v => v.category).sum ≤ 8) (hd : decode cc pc = .ok (.invokestatic idx, 3))
    (kk : ∀ f' : Mm, f' = cpR f k0 k1 sp dp n → WX V G N f' m ce sl Q (pc + 3) ls rest) : WX V G N f m ce sl Q pc ls (.int n :: .int dp :: .ref (gz G + k1) :: .int sp :: .ref (gz G + k0) :: rest) := by
  intro H locs h1 h2
  have c0 := (h1.at A0.lt).2
  have c1 := (h1.at A1.lt).2
  rw [A0.2, cE_i, rowOf_F A0.no] at c0
  rw [A1.2, cE_i, rowOf_F A1.no] at c1
  have hD : va_D (fun q => gz G ≤ q) (CL (gz G) (gA G) N f m) := CL_D
  refine x_copyc (mk := fun z => .int z) (t0 := 0) (ty := .int) B hl hna hst hi hls hfr hlo hw hd rfl (h1.1 k0 _ c0) (h1.1 k1 _ c1) hac h2 (fun _ _ _ _ _ _ _ _ _ _ => ⟨rfl, trivial⟩) (fun H1 locs1 e1 e2 e3 e4 => ?_)
  refine kk _ rfl H1 locs1 (h1.setF A1.no ?_ e2 (fun q hq => e3 q (by omega))) e4
  rw [A1.2, cE_i]
  exact h1.1.set hD c1 e1 e3
/-- every entry of a row of laws is null or a law -/
def lwsB (N : Nat) (r : Nat → Int32) (n : Nat) : Bool := (List.range n).all (fun i => decide (r i = 0) || lkb N (r i))
theorem x_copyL (B : CX V G cc nL own ret) {idx k0 k1 n0 n1 : Nat} {sp dp n : Int32} (A0 : AF N k0 (25, n0)) (A1 : AF N k1 (25, n1)) (hac : acb sp dp n n0 n1 = true) (hlw : lwsB N (f k0) n0 = true) (hl : Cond.methodLink own idx arraycopyName ∈ gT) (hna : Cond.native arraycopyName ∈ gT) (hst : Cond.static arraycopyName ∈ gT) (hi : Cond.initialized "java/lang/System" ∈ gT) (hls : ls.size = nL) (hfr : 1 ≤ V.2.2.2.1.frames) (hlo : 8 + (nativeFrameWords "java/lang/System" "arraycopy" 5 + 11) ≤ V.2.2.2.1.locals) (hw : (rest.map fun v => v.category).sum ≤ 8) (hd : decode cc pc = .ok (.invokestatic idx, 3))
    (kk : ∀ f' : Mm, f' = cpR f k0 k1 sp dp n → WX V G N f' m ce sl Q (pc + 3) ls rest) : WX V G N f m ce sl Q pc ls (.int n :: .int dp :: .ref (gz G + k1) :: .int sp :: .ref (gz G + k0) :: rest) := by
  intro H locs h1 h2
  have c0 := (h1.at A0.lt).2
  have c1 := (h1.at A1.lt).2
  have cq : ∀ (k n : Nat) (r : Nat → Int32), cE (gz G) k (gA G) (25, n) r = .inl (gA G 5, n, .inr (.inr (.inr (.inr (fun i => lref (gz G) (r i)))))) := fun _ _ _ => rfl
  rw [A0.2, cq, rowOf_F A0.no] at c0
  rw [A1.2, cq, rowOf_F A1.no] at c1
  have hD : va_D (fun q => gz G ≤ q) (CL (gz G) (gA G) N f m) := CL_D
  have hac' : ¬ sp < 0 ∧ ¬ dp < 0 ∧ ¬ n < 0 ∧ sp.toNatClampNeg + n.toNatClampNeg ≤ n0 ∧ dp.toNatClampNeg + n.toNatClampNeg ≤ n1 := by simpa [acb] using hac
  refine x_copyc (mk := fun z => lvv (gz G) z) (t0 := 5) (ty := .object "FluxWatch$Law") B hl hna hst hi hls hfr hlo hw hd rfl (h1.1 k0 _ c0) (h1.1 k1 _ c1) hac h2 (fun vm₁ hal i hi comp kc hkc hkk T hT => ?_) (fun H1 locs1 e1 e2 e3 e4 => ?_)
  · have h9 := List.all_eq_true.mp hlw (sp.toNatClampNeg + i) (List.mem_range.mpr (by omega))
    by_cases hz : f k0 (sp.toNatClampNeg + i) = 0
    · show (fits _ (lvv (gz G) (f k0 (sp.toNatClampNeg + i))) = true) ∧ _
      rw [lvv_z hz]
      exact ⟨rfl, trivial⟩
    · have h8 : lkb N (f k0 (sp.toNatClampNeg + i)) = true := by simpa [hz] using h9
      have A9 := (lk_of h8).a0
      obtain ⟨cellV, g1, g2, g3⟩ := x_recv B h1 A9.lt A9.2 (show vwCl[2]? = some (RX2, TX2, 4) from rfl) (by decide)
      show (fits _ (lvv (gz G) (f k0 (sp.toNatClampNeg + i))) = true) ∧ _
      rw [lvv_1 hz]
      obtain ⟨kA, comp', r1, r2, r3, -⟩ := (B.2.2.2.2.2.2.2.1.2 5 _ rfl).2
      cases hkc.symm.trans r1
      cases hkk.symm.trans r2
      obtain ⟨kC, hkC, -⟩ := Vm.findClass_spec g3
      obtain ⟨kE, hkE, -⟩ := Vm.findClass_spec r3
      obtain ⟨kC', hkC', -⟩ := hal.2.2 _ _ hkC
      obtain ⟨kE', hkE', -⟩ := hal.2.2 _ _ hkE
      refine ⟨rfl, cellV, (by rw [hT]; exact g1), (fun q h => by rw [h] at g2; cases g2), ⟨kC', hkC'⟩, ⟨kE', hkE'⟩, ?_⟩
      rw [hal.assignable]
      cases (show some comp = some cellV.cls from r3.symm.trans g3)
      rw [← (show (gD G).1 2 = cellV.cls from Option.some.inj ((B.2.2.2.2.2.2.2.1.1 2 _ (show vwCl[2]? = some (RX2, TX2, 4) from rfl)).2.1.symm.trans g3))]
      exact va_assign (B.2.2.2.2.2.2.2.1.1 2 _ (show vwCl[2]? = some (RX2, TX2, 4) from rfl)).2
  · refine kk _ rfl H1 locs1 (h1.setF A1.no ?_ e2 (fun q hq => e3 q (by omega))) e4
    rw [A1.2, cq]
    refine h1.1.set hD c1 ?_ e3
    show H1[gz G + k1]? = some (vp_cell _ _)
    rw [e1, vp_cell_q]
    rfl
end XS
