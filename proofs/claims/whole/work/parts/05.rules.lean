section XA
variable {V : VE} {G : GE} {N : Nat} {f m : Mm} {ce sl : Nat} {Q : State → Prop} {pc : Nat} {ls : Array Slot} {rest : List Value} {cc : ByteArray} {nL : Nat} {own : String} {ret : Option FieldType}
theorem x_ialdF (B : CX V G cc nL own ret) {k n : Nat} {i : Int32} (A : AF N k (20, n)) (hi : ib i n = true) (hd : decode cc pc = .ok (.iaload, 1)) (kk : WX V G N f m ce sl Q (pc + 1) ls (.int (f k i.toNatClampNeg) :: rest)) : WX V G N f m ce sl Q pc ls (.int i :: .ref (gz G + k) :: rest) := by
  intro H locs h1 h2
  have h3 := (h1.at (A.lt (N := N))).2
  rw [A.2, cE_i, rowOf_F A.no] at h3
  exact va_iald B.1 B.2.1 B.2.2.2.2.2.2.2.1 h1.1 k 0 h3 rfl (ib_in hi) hd (kk H locs h1 h2)
theorem x_ialdP (B : CX V G cc nL own ret) {k : Nat} {i : Int32} (A : AF N k (26, 0)) (hi : ib i (f k 5000).toNatClampNeg = true) (hd : decode cc pc = .ok (.iaload, 1)) (kk : WX V G N f m ce sl Q (pc + 1) ls (.int (f k i.toNatClampNeg) :: rest)) : WX V G N f m ce sl Q pc ls (.int i :: .ref (gz G + k) :: rest) := by
  intro H locs h1 h2
  have h3 := (h1.at (A.lt (N := N))).2
  rw [A.2, cE_p, rowOf_F A.no] at h3
  exact va_iald B.1 B.2.1 B.2.2.2.2.2.2.2.1 h1.1 k 0 h3 rfl (ib_in hi) hd (kk H locs h1 h2)
theorem x_ialdM (B : CX V G cc nL own ret) {k n : Nat} {i : Int32} (A : AM k (20, n)) (hi : ib i n = true) (hd : decode cc pc = .ok (.iaload, 1)) (kk : WX V G N f m ce sl Q (pc + 1) ls (.int (m k i.toNatClampNeg) :: rest)) : WX V G N f m ce sl Q pc ls (.int i :: .ref (gz G + k) :: rest) := by
  intro H locs h1 h2
  have h3 := (h1.at (A.lt (N := N))).2
  rw [A.2, cE_i, rowOf_M A.1] at h3
  exact va_iald B.1 B.2.1 B.2.2.2.2.2.2.2.1 h1.1 k 0 h3 rfl (ib_in hi) hd (kk H locs h1 h2)
theorem x_zaldF (B : CX V G cc nL own ret) {k n : Nat} {i : Int32} (A : AF N k (21, n)) (hi : ib i n = true) (hd : decode cc pc = .ok (.baload, 1)) (kk : WX V G N f m ce sl Q (pc + 1) ls (.int (f k i.toNatClampNeg) :: rest)) : WX V G N f m ce sl Q pc ls (.int i :: .ref (gz G + k) :: rest) := by
  intro H locs h1 h2
  have h3 := (h1.at (A.lt (N := N))).2
  rw [A.2, cE_z, rowOf_F A.no] at h3
  exact va_zald B.1 B.2.1 B.2.2.2.2.2.2.2.1 h1.1 k 1 h3 rfl (ib_in hi) hd (kk H locs h1 h2)
theorem x_zaldM (B : CX V G cc nL own ret) {k n : Nat} {i : Int32} (A : AM k (21, n)) (hi : ib i n = true) (hd : decode cc pc = .ok (.baload, 1)) (kk : WX V G N f m ce sl Q (pc + 1) ls (.int (m k i.toNatClampNeg) :: rest)) : WX V G N f m ce sl Q pc ls (.int i :: .ref (gz G + k) :: rest) := by
  intro H locs h1 h2
  have h3 := (h1.at (A.lt (N := N))).2
  rw [A.2, cE_z, rowOf_M A.1] at h3
  exact va_zald B.1 B.2.1 B.2.2.2.2.2.2.2.1 h1.1 k 1 h3 rfl (ib_in hi) hd (kk H locs h1 h2)
theorem x_caldM (B : CX V G cc nL own ret) {k n : Nat} {i : Int32} (A : AM k (22, n)) (hi : ib i n = true) (hd : decode cc pc = .ok (.caload, 1)) (kk : WX V G N f m ce sl Q (pc + 1) ls (.int (m k i.toNatClampNeg) :: rest)) : WX V G N f m ce sl Q pc ls (.int i :: .ref (gz G + k) :: rest) := by
  intro H locs h1 h2
  have h3 := (h1.at (A.lt (N := N))).2
  rw [A.2, cE_c, rowOf_M A.1] at h3
  exact va_cald B.1 B.2.1 B.2.2.2.2.2.2.2.1 h1.1 k 2 h3 rfl (ib_in hi) hd (kk H locs h1 h2)
theorem x_iastF (B : CX V G cc nL own ret) {k n : Nat} {i x : Int32} (A : AF N k (20, n)) (hi : ib i n = true) (hd : decode cc pc = .ok (.iastore, 1)) (kk : ∀ f' : Mm, f' = up f k i.toNatClampNeg x → WX V G N f' m ce sl Q (pc + 1) ls rest) : WX V G N f m ce sl Q pc ls (.int x :: .int i :: .ref (gz G + k) :: rest) := by
  intro H locs h1 h2
  have h3 := (h1.at (A.lt (N := N))).2
  rw [A.2, cE_i, rowOf_F A.no] at h3
  have hD : va_D (fun q => gz G ≤ q) (CL (gz G) (gA G) N f m) := CL_D
  refine W.iast B.1 B.2.1 (h1.1 k _ h3) ((B.2.2.2.2.2.2.2.1.2 0 _ rfl).1 n (fun j => .int (f k j))) (fun q => by cases q) (by show ¬ (i < 0 ∨ (arrV _ _ _).slots.size ≤ _); rw [arrV_size]; exact ib_in hi) rfl rfl hd fun H1 e z oq => ?_
  have hz : ∀ q : Nat, q < gz G → H1[q]? = H[q]? := fun q hq => oq q (fun e => by have e : q = gz G + k := e; omega)
  refine kk _ rfl H1 _ (h1.setF A.no ?_ z hz) (h2.put z oq (hD.2 k _ h3))
  rw [A.2, cE_i]
  refine h1.1.set hD h3 ?_ oq
  show H1[gz G + k]? = some (vp_cell _ _)
  rw [e, vp_cell_i, vp_cell_i, arrV_store]
  congr 2
  funext q
  by_cases hq : q = i.toNatClampNeg
  · subst hq
    simp [updV, upd]
  · simp [updV, upd, hq]
theorem x_iastP (B : CX V G cc nL own ret) {k : Nat} {i x : Int32} (A : AF N k (26, 0)) (hi : ib i (f k 5000).toNatClampNeg = true) (hg : i.toNatClampNeg < 5000) (hd : decode cc pc = .ok (.iastore, 1)) (kk : ∀ f' : Mm, f' = up f k i.toNatClampNeg x → WX V G N f' m ce sl Q (pc + 1) ls rest) : WX V G N f m ce sl Q pc ls (.int x :: .int i :: .ref (gz G + k) :: rest) := by
  intro H locs h1 h2
  have h3 := (h1.at (A.lt (N := N))).2
  rw [A.2, cE_p, rowOf_F A.no] at h3
  have hD : va_D (fun q => gz G ≤ q) (CL (gz G) (gA G) N f m) := CL_D
  refine W.iast B.1 B.2.1 (h1.1 k _ h3) ((B.2.2.2.2.2.2.2.1.2 0 _ rfl).1 (f k 5000).toNatClampNeg (fun j => .int (f k j))) (fun q => by cases q) (by show ¬ (i < 0 ∨ (arrV _ _ _).slots.size ≤ _); rw [arrV_size]; exact ib_in hi) rfl rfl hd fun H1 e z oq => ?_
  have hz : ∀ q : Nat, q < gz G → H1[q]? = H[q]? := fun q hq => oq q (fun e => by have e : q = gz G + k := e; omega)
  refine kk _ rfl H1 _ (h1.setF A.no ?_ z hz) (h2.put z oq (hD.2 k _ h3))
  rw [A.2, cE_p, show upd (f k) i.toNatClampNeg x 5000 = f k 5000 from if_neg (by omega)]
  refine h1.1.set hD h3 ?_ oq
  show H1[gz G + k]? = some (vp_cell _ _)
  rw [e, vp_cell_i, vp_cell_i, arrV_store]
  congr 2
  funext q
  by_cases hq : q = i.toNatClampNeg
  · subst hq
    simp [updV, upd]
  · simp [updV, upd, hq]
theorem x_iastM (B : CX V G cc nL own ret) {k n : Nat} {i x : Int32} (A : AM k (20, n)) (hi : ib i n = true) (hd : decode cc pc = .ok (.iastore, 1)) (kk : ∀ m' : Mm, m' = up m k i.toNatClampNeg x → WX V G N f m' ce sl Q (pc + 1) ls rest) : WX V G N f m ce sl Q pc ls (.int x :: .int i :: .ref (gz G + k) :: rest) := by
  intro H locs h1 h2
  have h3 := (h1.at (A.lt (N := N))).2
  rw [A.2, cE_i, rowOf_M A.1] at h3
  have hD : va_D (fun q => gz G ≤ q) (CL (gz G) (gA G) N f m) := CL_D
  refine W.iast B.1 B.2.1 (h1.1 k _ h3) ((B.2.2.2.2.2.2.2.1.2 0 _ rfl).1 n (fun j => .int (m k j))) (fun q => by cases q) (by show ¬ (i < 0 ∨ (arrV _ _ _).slots.size ≤ _); rw [arrV_size]; exact ib_in hi) rfl rfl hd fun H1 e z oq => ?_
  have hz : ∀ q : Nat, q < gz G → H1[q]? = H[q]? := fun q hq => oq q (fun e => by have e : q = gz G + k := e; omega)
  refine kk _ rfl H1 _ (h1.setM A.1 ?_ z hz) (h2.put z oq (hD.2 k _ h3))
  rw [A.2, cE_i]
  refine h1.1.set hD h3 ?_ oq
  show H1[gz G + k]? = some (vp_cell _ _)
  rw [e, vp_cell_i, vp_cell_i, arrV_store]
  congr 2
  funext q
  by_cases hq : q = i.toNatClampNeg
  · subst hq
    simp [updV, upd]
  · simp [updV, upd, hq]
theorem x_zastF (B : CX V G cc nL own ret) {k n : Nat} {i x : Int32} (A : AF N k (21, n)) (hi : ib i n = true) (hd : decode cc pc = .ok (.bastore, 1)) (kk : ∀ f' : Mm, f' = up f k i.toNatClampNeg (vp_nar .boolean x) → WX V G N f' m ce sl Q (pc + 1) ls rest) : WX V G N f m ce sl Q pc ls (.int x :: .int i :: .ref (gz G + k) :: rest) := by
  intro H locs h1 h2
  have h3 := (h1.at (A.lt (N := N))).2
  rw [A.2, cE_z, rowOf_F A.no] at h3
  have hD : va_D (fun q => gz G ≤ q) (CL (gz G) (gA G) N f m) := CL_D
  refine W.zast B.1 B.2.1 (h1.1 k _ h3) ((B.2.2.2.2.2.2.2.1.2 1 _ rfl).1 n (fun j => .int (f k j))) (fun q => by cases q) (by show ¬ (i < 0 ∨ (arrV _ _ _).slots.size ≤ _); rw [arrV_size]; exact ib_in hi) rfl rfl hd fun H1 e z oq => ?_
  have hz : ∀ q : Nat, q < gz G → H1[q]? = H[q]? := fun q hq => oq q (fun e => by have e : q = gz G + k := e; omega)
  refine kk _ rfl H1 _ (h1.setF A.no ?_ z hz) (h2.put z oq (hD.2 k _ h3))
  rw [A.2, cE_z]
  refine h1.1.set hD h3 ?_ oq
  show H1[gz G + k]? = some (vp_cell _ _)
  rw [e, vp_cell_i, vp_cell_i, arrV_store]
  congr 2
  funext q
  by_cases hq : q = i.toNatClampNeg
  · subst hq
    simp [updV, upd, vp_nar]
    try rfl
  · simp [updV, upd, hq]
theorem x_zastM (B : CX V G cc nL own ret) {k n : Nat} {i x : Int32} (A : AM k (21, n)) (hi : ib i n = true) (hd : decode cc pc = .ok (.bastore, 1)) (kk : ∀ m' : Mm, m' = up m k i.toNatClampNeg (vp_nar .boolean x) → WX V G N f m' ce sl Q (pc + 1) ls rest) : WX V G N f m ce sl Q pc ls (.int x :: .int i :: .ref (gz G + k) :: rest) := by
  intro H locs h1 h2
  have h3 := (h1.at (A.lt (N := N))).2
  rw [A.2, cE_z, rowOf_M A.1] at h3
  have hD : va_D (fun q => gz G ≤ q) (CL (gz G) (gA G) N f m) := CL_D
  refine W.zast B.1 B.2.1 (h1.1 k _ h3) ((B.2.2.2.2.2.2.2.1.2 1 _ rfl).1 n (fun j => .int (m k j))) (fun q => by cases q) (by show ¬ (i < 0 ∨ (arrV _ _ _).slots.size ≤ _); rw [arrV_size]; exact ib_in hi) rfl rfl hd fun H1 e z oq => ?_
  have hz : ∀ q : Nat, q < gz G → H1[q]? = H[q]? := fun q hq => oq q (fun e => by have e : q = gz G + k := e; omega)
  refine kk _ rfl H1 _ (h1.setM A.1 ?_ z hz) (h2.put z oq (hD.2 k _ h3))
  rw [A.2, cE_z]
  refine h1.1.set hD h3 ?_ oq
  show H1[gz G + k]? = some (vp_cell _ _)
  rw [e, vp_cell_i, vp_cell_i, arrV_store]
  congr 2
  funext q
  by_cases hq : q = i.toNatClampNeg
  · subst hq
    simp [updV, upd, vp_nar]
    try rfl
  · simp [updV, upd, hq]
theorem x_alenF (B : CX V G cc nL own ret) {k n : Nat} {v : Int32} (A : AF N k (20, n)) (hv : Int32.ofNat n = v) (hd : decode cc pc = .ok (.arraylength, 1)) (kk : WX V G N f m ce sl Q (pc + 1) ls (.int v :: rest)) : WX V G N f m ce sl Q pc ls (.ref (gz G + k) :: rest) := by
  intro H locs h1 h2
  have h3 := (h1.at (A.lt (N := N))).2
  rw [A.2, cE_i, rowOf_F A.no] at h3
  exact W.alen (n := v) B.1 B.2.1 (h1.1 k _ h3) ((B.2.2.2.2.2.2.2.1.2 0 _ rfl).1 n (fun j => .int (f k j))) (by rw [← hv]; show (arrV _ _ _).slots.size.toInt32 = _; rw [arrV_size]) rfl rfl hd (kk H locs h1 h2)
theorem x_alenP (B : CX V G cc nL own ret) {k : Nat} {v : Int32} (A : AF N k (26, 0)) (hv : Int32.ofNat (f k 5000).toNatClampNeg = v) (hd : decode cc pc = .ok (.arraylength, 1)) (kk : WX V G N f m ce sl Q (pc + 1) ls (.int v :: rest)) : WX V G N f m ce sl Q pc ls (.ref (gz G + k) :: rest) := by
  intro H locs h1 h2
  have h3 := (h1.at (A.lt (N := N))).2
  rw [A.2, cE_p, rowOf_F A.no] at h3
  exact W.alen (n := v) B.1 B.2.1 (h1.1 k _ h3) ((B.2.2.2.2.2.2.2.1.2 0 _ rfl).1 (f k 5000).toNatClampNeg (fun j => .int (f k j))) (by rw [← hv]; show (arrV _ _ _).slots.size.toInt32 = _; rw [arrV_size]) rfl rfl hd (kk H locs h1 h2)
theorem x_alenM (B : CX V G cc nL own ret) {k n : Nat} {v : Int32} (A : AM k (20, n)) (hv : Int32.ofNat n = v) (hd : decode cc pc = .ok (.arraylength, 1)) (kk : WX V G N f m ce sl Q (pc + 1) ls (.int v :: rest)) : WX V G N f m ce sl Q pc ls (.ref (gz G + k) :: rest) := by
  intro H locs h1 h2
  have h3 := (h1.at (A.lt (N := N))).2
  rw [A.2, cE_i, rowOf_M A.1] at h3
  exact W.alen (n := v) B.1 B.2.1 (h1.1 k _ h3) ((B.2.2.2.2.2.2.2.1.2 0 _ rfl).1 n (fun j => .int (m k j))) (by rw [← hv]; show (arrV _ _ _).slots.size.toInt32 = _; rw [arrV_size]) rfl rfl hd (kk H locs h1 h2)
theorem x_aaldS (B : CX V G cc nL own ret) {k n : Nat} {i : Int32} (A : AF N k (23, n)) (hi : ib i n = true) (hd : decode cc pc = .ok (.aaload, 1)) (kk : WX V G N f m ce sl Q (pc + 1) ls (.ref (gz G + (k + 1 + 2 * i.toNatClampNeg)) :: rest)) : WX V G N f m ce sl Q pc ls (.int i :: .ref (gz G + k) :: rest) := by
  intro H locs h1 h2
  have h3 := (h1.at (A.lt (N := N))).2
  rw [A.2, show cE (gz G) k (gA G) (23, n) (rowOf f m k) = .inl (gA G 3, n, .inr (.inr (.inr (.inr (fun i => some (gz G + (k + 1 + 2 * i))))))) from rfl] at h3
  exact va_aldq B.1 B.2.1 B.2.2.2.2.2.2.2.1 h1.1 k 3 h3 rfl (ib_in hi) hd (kk H locs h1 h2)
theorem x_aaldT (B : CX V G cc nL own ret) {k n : Nat} {i : Int32} (A : AF N k (24, n)) (hi : ib i n = true) (hd : decode cc pc = .ok (.aaload, 1)) (kk : WX V G N f m ce sl Q (pc + 1) ls (.ref (gz G + (k + 1 + 3 * i.toNatClampNeg)) :: rest)) : WX V G N f m ce sl Q pc ls (.int i :: .ref (gz G + k) :: rest) := by
  intro H locs h1 h2
  have h3 := (h1.at (A.lt (N := N))).2
  rw [A.2, show cE (gz G) k (gA G) (24, n) (rowOf f m k) = .inl (gA G 4, n, .inr (.inr (.inr (.inr (fun i => some (gz G + (k + 1 + 3 * i))))))) from rfl] at h3
  exact va_aldq B.1 B.2.1 B.2.2.2.2.2.2.2.1 h1.1 k 4 h3 rfl (ib_in hi) hd (kk H locs h1 h2)
/-- an entry of a row of laws, by its code: 0 is null -/
def lvv (z : Nat) (v : Int32) : Value := va_rf (lref z v)
theorem x_aaldL (B : CX V G cc nL own ret) {k n : Nat} {i : Int32} (A : AF N k (25, n)) (hi : ib i n = true) (hd : decode cc pc = .ok (.aaload, 1)) (kk : WX V G N f m ce sl Q (pc + 1) ls (lvv (gz G) (f k i.toNatClampNeg) :: rest)) : WX V G N f m ce sl Q pc ls (.int i :: .ref (gz G + k) :: rest) := by
  intro H locs h1 h2
  have h3 := (h1.at (A.lt (N := N))).2
  rw [A.2, show cE (gz G) k (gA G) (25, n) (rowOf f m k) = .inl (gA G 5, n, .inr (.inr (.inr (.inr (fun i => lref (gz G) (rowOf f m k i)))))) from rfl, rowOf_F A.no] at h3
  exact va_aldq B.1 B.2.1 B.2.2.2.2.2.2.2.1 h1.1 k 5 h3 rfl (ib_in hi) hd (kk H locs h1 h2)
theorem lvv_0 {z : Nat} : lvv z 0 = .null := by simp [lvv, lref, va_rf]
theorem lvv_1 {z : Nat} {v : Int32} (h : ¬ v = 0) : lvv z v = .ref (z + (130 + 3 * (v.toNatClampNeg - 1))) := by simp [lvv, lref, va_rf, h]
/-- returns -/
theorem x_iret (B : CX V G cc nL own (some .int)) {v : Int32} {mc ms : Nat} (hd : decode cc pc = .ok (.ireturn, 1)) : WX V G N f m mc ms (QQ V G (some (.int v)) N f m mc ms) pc ls [.int v] := by
  intro H locs h1 h2
  exact W.iret B.1 B.2.1 B.2.2.2.2.2.1 (fun t ht hW => ⟨rfl, by rw [ht]; exact h1, h2.F ht⟩) h2.2.2 hd B.2.2.2.2.2.2.1
def zb (x : Int32) : Bool := decide (x = 0 ∨ x = 1)
theorem zb_n {x : Int32} (h : zb x = true) : narrow .boolean (.int x) = .int x := by
  have h : x = 0 ∨ x = 1 := by simpa [zb] using h
  rcases h with rfl | rfl <;> rfl
theorem x_zret (B : CX V G cc nL own (some .boolean)) {v : Int32} {mc ms : Nat} (hv : zb v = true) (hd : decode cc pc = .ok (.ireturn, 1)) : WX V G N f m mc ms (QQ V G (some (.int v)) N f m mc ms) pc ls [.int v] := by
  intro H locs h1 h2
  exact W.zret B.1 B.2.1 B.2.2.2.2.2.1 (zb_n hv) (fun t ht hW => ⟨rfl, by rw [ht]; exact h1, h2.F ht⟩) h2.2.2 hd B.2.2.2.2.2.2.1
theorem x_vret (B : CX V G cc nL own none) {mc ms : Nat} (hd : decode cc pc = .ok (.return_, 1)) : WX V G N f m mc ms (QQ V G none N f m mc ms) pc ls [] := by
  intro H locs h1 h2
  exact W.vret B.1 B.2.1 B.2.2.2.2.2.1 (fun t ht hW => ⟨rfl, by rw [ht]; exact h1, h2.F ht⟩) h2.2.2 hd B.2.2.2.2.2.2.1
theorem x_aret {C : String} (B : CX V G cc nL own (some (.object C))) {v : Value} {mc ms : Nat} (hv : v = .null ∨ ∃ a, v = .ref a) (hd : decode cc pc = .ok (.areturn, 1)) : WX V G N f m mc ms (QQ V G (some v) N f m mc ms) pc ls [v] := by
  intro H locs h1 h2
  exact W.aret B.1 B.2.1 B.2.2.2.2.2.1 (Or.inl ⟨_, rfl⟩) hv (fun t ht hW => ⟨rfl, by rw [ht]; exact h1, h2.F ht⟩) h2.2.2 hd B.2.2.2.2.2.2.1
/-- behind a call -/
theorem x_after {v : Option Value} {N1 : Nat} {f1 m1 : Mm} {a : Array Value} {mc ms : Nat} {H : Heap} {locs : List Loc} {st0 : List Value} (h2 : va_S (fun q => gz G ≤ q) V.2.2.2.2.1.heap H locs)
    (hr : va_Run V.1 V.2.1 V.2.2.1 V.2.2.2.1 V.2.2.2.2.1 V.2.2.2.2.2.1 V.2.2.2.2.2.2.1 V.2.2.2.2.2.2.2.1 V.2.2.2.2.2.2.2.2.1 V.2.2.2.2.2.2.2.2.2 H locs ce sl mc ms (F0 V.2.2.2.2.2.1 pc ls st0) rest (QX G v N1 f1 m1 a) (fun q => gz G ≤ q))
    (kk : WX V G N1 f1 m1 (ce + mc) (sl + ms) Q (pc + 3) ls (v.toList ++ rest)) : W V.1 V.2.1 V.2.2.1 V.2.2.2.1 V.2.2.2.2.1 V.2.2.2.2.2.1 V.2.2.2.2.2.2.1 V.2.2.2.2.2.2.2.1 V.2.2.2.2.2.2.2.2.1 V.2.2.2.2.2.2.2.2.2 H locs ce sl Q (F0 V.2.2.2.2.2.1 pc ls st0) := by
  intro T hT X
  obtain ⟨v', st₀, t, T', L, h0, X', hL, e1, e2, ⟨hv, hb, hz, hk⟩, st⟩ := hr T hT X
  cases hv
  rw [h0] at hz hk
  obtain ⟨t2, a1, b1⟩ := kk T'.heap (locs ++ L) (by rw [e1]; exact hb)
    ⟨Nat.le_trans h2.1 (by rw [e1]; exact hz), fun q g1 g2 => by rw [e1, hk q (Nat.lt_of_lt_of_le g1 h2.1) g2]; exact h2.2.1 q g1 g2, fun q hq => by
      rcases List.mem_append.mp hq with h | h
      · exact h2.2.2 q h
      · exact hL q h⟩ T' rfl X'
  exact ⟨t2, st t2 a1, b1⟩
theorem PX_blind {av : List Value} : FrameBlind (PX G av N f m) := fun a U g mk h => ⟨h.1, KG.same (s := U) (U := U.calling g mk a) rfl h.2.1, h.2.2⟩
theorem PX_at {av : List Value} {H : Heap} (B : CX V G cc nL own ret) (h1 : RP G N f m H) : ∀ U : State, U.heap = H → V.2.2.2.2.1.WarmedH U.vm → PX G av N f m av.toArray U := fun U hU hW => ⟨rfl, KG.warm hW B.2.2.2.2.2.2.2, by rw [hU]; exact h1⟩
/-- what a call of y needs of the tables -/
def cwB (R rm : Room) (y : MethodName) (cc : ByteArray) (nL : Nat) (ret : Option FieldType) (n : Nat) : Prop := Cond.code y cc nL ret ∈ gT ∧ Cond.initialized y.cls ∈ gT ∧ (y.cls ≠ "java/lang/invoke/MethodHandle" ∧ y.cls ≠ "java/lang/invoke/VarHandle" ∧ (parseMethodDescriptor y.desc).map (fun d => d.parameters.length) = some n) ∧ (rm.frames + 1 ≤ R.frames ∧ 8 + (nL + 11) + rm.locals ≤ R.locals)
theorem x_callS (B : CX V G cc nL own ret) {y : MethodName} {c1 : ByteArray} {n1 n idx : Nat} {r1 : Option FieldType} {rm : Room} {As : List Value} {v : Option Value} {N1 : Nat} {f1 m1 : Mm} (hM : MT V.2.1 G y c1 n1 r1 rm As N f m v N1 f1 m1) (hl : Cond.methodLink own idx y ∈ gT) (hs : Cond.static y ∈ gT) (cw : cwB V.2.2.2.1 rm y c1 n1 r1 n) (hn : As.length = n) {st0 : List Value} (hst : st0 = As.reverse ++ rest) (hls : ls.size = nL) (hw : (rest.map fun v => v.category).sum ≤ 8) (hd : decode cc pc = .ok (.invokestatic idx, 3)) (hf : ce + rm.cells ≤ V.2.2.2.1.cells ∧ sl + rm.slots ≤ V.2.2.2.1.slots)
    (kk : WX V G N1 f1 m1 (ce + rm.cells) (sl + rm.slots) Q (pc + 3) ls (v.toList ++ rest)) : WX V G N f m ce sl Q pc ls st0 := by
  intro H locs h1 h2
  have hts := B.2.2.2.2.1
  exact x_after h2 (va_runS (Ts := gT) (own := own) (n := n) ⟨B.1, B.2.1, B.2.2.1, B.2.2.2.1, hts⟩ hM ⟨callB_of n hts (gT_ws cw.1) rfl rfl rfl (hts _ cw.2.1) (hts _ hl) cw.2.2.1 cw.2.2.2, hts _ hs⟩ ⟨PX_blind, PX_at B h1⟩ rfl hn hls hst (by show 2 * 0 + _ ≤ 8; omega) hd hf) kk
theorem x_recv (B : CX V G cc nL own ret) {H : Heap} {k ci : Nat} {q : vw_C} {s2 : Nat} (h1 : RP G N f m H) (hk : k < 130 + 3 * N) (hs : lay k = (ci, s2)) (hc : vwCl[ci]? = some q) (hl : ci < 13) : ∃ cell : Cell, H[gz G + k]? = some cell ∧ cell.vm.isStatics = false ∧ V.2.2.2.2.1.vm.findClass q.1 = some cell.cls := by
  have h3 := (h1.at hk).2
  rw [hs, cE_ob hl] at h3
  exact va_recv B.2.2.2.2.2.2.2.1 h1.1 hc h3
theorem x_callV (B : CX V G cc nL own ret) {y : MethodName} {c1 : ByteArray} {n1 n idx k ci s2 : Nat} {r1 : Option FieldType} {rm : Room} {As : List Value} {v : Option Value} {N1 : Nat} {f1 m1 : Mm} {C : vw_C} (hM : MT V.2.1 G y c1 n1 r1 rm (.ref (gz G + k) :: As) N f m v N1 f1 m1) (hk : k < 130 + 3 * N) (hs : lay k = (ci, s2)) (hc : vwCl[ci]? = some C) (hci : ci < 13) (hl : Cond.methodLink own idx y ∈ gT) (hi : Cond.instanceMethod y ∈ gT) (hse : Cond.selects C.1 y y ∈ gT) (cw : cwB V.2.2.2.1 rm y c1 n1 r1 n) (hn : As.length = n) {st0 : List Value} (hst : st0 = As.reverse ++ .ref (gz G + k) :: rest) (hls : ls.size = nL) (hw : (rest.map fun v => v.category).sum ≤ 8) (hd : decode cc pc = .ok (.invokevirtual idx, 3)) (hf : ce + rm.cells ≤ V.2.2.2.1.cells ∧ sl + rm.slots ≤ V.2.2.2.1.slots)
    (kk : WX V G N1 f1 m1 (ce + rm.cells) (sl + rm.slots) Q (pc + 3) ls (v.toList ++ rest)) : WX V G N f m ce sl Q pc ls st0 := by
  intro H locs h1 h2
  have hts := B.2.2.2.2.1
  exact x_after h2 (va_runV (Ts := gT) (own := own) (C := C.1) (n := n) ⟨B.1, B.2.1, B.2.2.1, B.2.2.2.1, hts⟩ hM ⟨callB_of n hts (gT_ws cw.1) rfl rfl rfl (hts _ cw.2.1) (hts _ hl) cw.2.2.1 cw.2.2.2, hts _ hi, hts _ hse⟩ ⟨PX_blind, x_recv B h1 hk hs hc hci, PX_at B h1⟩ rfl hn hls hst (by show 2 * 0 + _ ≤ 8; omega) hd hf) kk
theorem x_callSN (B : CX V G cc nL own ret) {y : MethodName} {c1 : ByteArray} {n1 n idx : Nat} {host : String} {r1 : Option FieldType} {rm : Room} {As : List Value} {v : Option Value} {N1 : Nat} {f1 m1 : Mm} (hM : MT V.2.1 G y c1 n1 r1 rm As N f m v N1 f1 m1) (hl : Cond.methodLinkNest own idx y host ∈ nwT) (hs : Cond.static y ∈ gT) (cw : cwB V.2.2.2.1 rm y c1 n1 r1 n) (hn : As.length = n) {st0 : List Value} (hst : st0 = As.reverse ++ rest) (hls : ls.size = nL) (hw : (rest.map fun v => v.category).sum ≤ 8) (hd : decode cc pc = .ok (.invokestatic idx, 3)) (hf : ce + rm.cells ≤ V.2.2.2.1.cells ∧ sl + rm.slots ≤ V.2.2.2.1.slots)
    (kk : WX V G N1 f1 m1 (ce + rm.cells) (sl + rm.slots) Q (pc + 3) ls (v.toList ++ rest)) : WX V G N f m ce sl Q pc ls st0 := by
  intro H locs h1 h2
  have hts := B.2.2.2.2.1
  exact x_after h2 (va_runSN (Ts := gT) (own := own) (n := n) ⟨B.1, B.2.1, B.2.2.1, B.2.2.2.1, hts⟩ hM ⟨va_cnB n hts (gT_ws cw.1) rfl rfl rfl (B.2.2.2.2.2.2.2.2.1 _ hl) (hts _ cw.2.1) cw.2.2.1 cw.2.2.2, hts _ hs, trivial⟩ ⟨PX_blind, PX_at B h1⟩ rfl hn hls hst (by show 2 * 0 + _ ≤ 8; omega) hd hf) kk
/-- Math.abs, max, min -/
theorem x_abs (B : CX V G cc nL own ret) {idx : Nat} {x : Int32} (hl : Cond.methodLink own idx Lib.Math.abs.name ∈ gT) (hs : Cond.static Lib.Math.abs.name ∈ gT) (hi : Cond.initialized "java/lang/Math" ∈ gT) (hc : Cond.code Lib.Math.abs.name Lib.Math.abs.code 1 (some .int) ∈ gT) (hls : ls.size = nL) (hfr : 1 ≤ V.2.2.2.1.frames) (hlo : 21 ≤ V.2.2.2.1.locals) (hw : (rest.map fun v => v.category).sum ≤ 8) (hce : ce ≤ V.2.2.2.1.cells ∧ sl ≤ V.2.2.2.1.slots) (hd : decode cc pc = .ok (.invokestatic idx, 3))
    (kk : WX V G N f m ce sl Q (pc + 3) ls (.int (if 0 ≤ x then x else 0 - x) :: rest)) : WX V G N f m ce sl Q pc ls (.int x :: rest) := by
  intro H locs h1 h2
  have hts := B.2.2.2.2.1
  exact va_mabs B.1 B.2.1 (B.2.2.1.trans hls.symm) B.2.2.2.1 (hts _ hl) (hts _ hs) (hts _ hi) (hts _ hc) hfr (by omega) hce.1 hce.2 hd (kk H locs h1 h2)
theorem x_max (B : CX V G cc nL own ret) {idx : Nat} {x y : Int32} (hl : Cond.methodLink own idx Lib.Math.max.name ∈ gT) (hs : Cond.static Lib.Math.max.name ∈ gT) (hi : Cond.initialized "java/lang/Math" ∈ gT) (hc : Cond.code Lib.Math.max.name Lib.Math.max.code 2 (some .int) ∈ gT) (hls : ls.size = nL) (hfr : 1 ≤ V.2.2.2.1.frames) (hlo : 21 ≤ V.2.2.2.1.locals) (hw : (rest.map fun v => v.category).sum ≤ 8) (hce : ce ≤ V.2.2.2.1.cells ∧ sl ≤ V.2.2.2.1.slots) (hd : decode cc pc = .ok (.invokestatic idx, 3))
    (kk : WX V G N f m ce sl Q (pc + 3) ls (.int (if x < y then y else x) :: rest)) : WX V G N f m ce sl Q pc ls (.int y :: .int x :: rest) := by
  intro H locs h1 h2
  have hts := B.2.2.2.2.1
  exact va_mmax B.1 B.2.1 (B.2.2.1.trans hls.symm) B.2.2.2.1 (hts _ hl) (hts _ hs) (hts _ hi) (hts _ hc) hfr (by omega) hce.1 hce.2 hd (kk H locs h1 h2)
theorem x_min (B : CX V G cc nL own ret) {idx : Nat} {x y : Int32} (hl : Cond.methodLink own idx Lib.Math.min.name ∈ gT) (hs : Cond.static Lib.Math.min.name ∈ gT) (hi : Cond.initialized "java/lang/Math" ∈ gT) (hc : Cond.code Lib.Math.min.name Lib.Math.min.code 2 (some .int) ∈ gT) (hls : ls.size = nL) (hfr : 1 ≤ V.2.2.2.1.frames) (hlo : 21 ≤ V.2.2.2.1.locals) (hw : (rest.map fun v => v.category).sum ≤ 8) (hce : ce ≤ V.2.2.2.1.cells ∧ sl ≤ V.2.2.2.1.slots) (hd : decode cc pc = .ok (.invokestatic idx, 3))
    (kk : WX V G N f m ce sl Q (pc + 3) ls (.int (if y < x then y else x) :: rest)) : WX V G N f m ce sl Q pc ls (.int y :: .int x :: rest) := by
  intro H locs h1 h2
  have hts := B.2.2.2.2.1
  exact va_mmin B.1 B.2.1 (B.2.2.1.trans hls.symm) B.2.2.2.1 (hts _ hl) (hts _ hs) (hts _ hi) (hts _ hc) hfr (by omega) hce.1 hce.2 hd (kk H locs h1 h2)
/-- what a printed function's words say -/
def gd {α : Type} (b : Bool) (k : Option α) : Option α := if b = true then k else none
theorem gd_some {α : Type} {b : Bool} {k : Option α} {r : α} (h : gd b k = some r) : b = true ∧ k = some r := by
  unfold gd at h
  split at h
  · exact ⟨by assumption, h⟩
  · cases h
def bn {α β : Type} (x : Option α) (k : α → Option β) : Option β := match x with
  | none => none
  | some a => k a
theorem bn_some {α β : Type} {x : Option α} {k : α → Option β} {r : β} (h : bn x k = some r) : ∃ a, x = some a ∧ k a = some r := by
  cases x with
  | none => cases h
  | some a => exact ⟨a, rfl, h⟩
def lt {α β : Type} (x : α) (k : α → β) : β := k x
theorem lt_some {α β : Type} {x y : α} {k : α → β} {r : β} (h : lt x k = r) (e : y = x) : k y = r := by subst e; exact h
theorem ip {c : Prop} [Decidable c] {α : Type} {a b r : α} (h : c) (hf : (if c then a else b) = r) : a = r := (if_pos h).symm.trans hf
theorem iq {c : Prop} [Decidable c] {α : Type} {a b r : α} (h : ¬ c) (hf : (if c then a else b) = r) : b = r := (if_neg h).symm.trans hf
end XA
