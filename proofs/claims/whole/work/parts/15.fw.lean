def rmX7_manyOn : Room := { frames := 0, cells := 0, slots := 0, locals := 0 }
def fX7_manyOn_35 (n : Nat) (o : Nat) (k4 : Int32 → Int32 → Int32 → Mm → Option (Int32)) (x1 : Int32) (x2 : Int32) (x3 : Int32) (f : Mm) : Option (Int32) :=
  k4 x1 x2 (x3 + (nI 1)) f
set_option maxHeartbeats 4000000 in
set_option maxRecDepth 100000 in
theorem fX7_manyOn_35_ok {V : VE} {G : GE} {N : Nat} {f m : Mm} {n : Nat} {ls : Array Slot} {o : Nat} {r : Int32} (B : CX V G cX7_manyOn 4 "FluxWatch$Spans" (some .int)) (hR : V.2.2.2.1 = rmX7_manyOn) (ho : rg 7 o) {k4 : Int32 → Int32 → Int32 → Mm → Option (Int32)} (hk4 : ∀ (x1 : Int32) (x2 : Int32) (x3 : Int32) (mm : Mm) (ls : Array Slot),  lv_has ls 4 [(0, .ref (gz G + o)), (1, .int x1), (2, .int x2), (3, .int x3)] → k4 x1 x2 x3 mm = some r → WX V G N mm m 0 0 (QQ V G (some (.int r)) N mm m 0 0) 4 ls []) {x1 : Int32} {x2 : Int32} {x3 : Int32}  (hl : lv_has ls 4 [(0, .ref (gz G + o)), (1, .int x1), (2, .int x2), (3, .int x3)]) (hf : fX7_manyOn_35 n o k4 x1 x2 x3 f = some r) : WX V G N f m 0 0 (QQ V G (some (.int r)) N f m 0 0) 35 ls [] := by
  unfold fX7_manyOn_35 at hf
  refine x_iinc (k := 3) (v := (nI 1)) (lv' := [(3, .int (x3 + (nI 1))), (0, .ref (gz G + o)), (1, .int x1), (2, .int x2)]) B dX7_manyOn_35 hl rfl (by decide) (by decide) rfl (fun ls hl => ?_)
  refine x_goto (tgt := 4) B dX7_manyOn_38 (by decide) ?_
  exact hk4 _ _ _ _ _ (lv_sub hl [1, 2, 3, 0] rfl) hf
def fX7_manyOn_4 (n : Nat) (o : Nat)  (k4 : Int32 → Int32 → Int32 → Mm → Option (Int32)) (x1 : Int32) (x2 : Int32) (x3 : Int32) (f : Mm) : Option (Int32) :=
  if (f o 4) ≤ x3 then (
  some x2) else (
  gd (ib x3 20) <|
  if x1 < (f (o + 2) x3.toNatClampNeg) then (
  fX7_manyOn_35 n o k4 x1 x2 x3 f) else (
  gd (ib x3 20) <|
  if (f (o + 3) x3.toNatClampNeg) < x1 then (
  fX7_manyOn_35 n o k4 x1 x2 x3 f) else (
  fX7_manyOn_35 n o k4 x1 (x2 + (nI 1)) x3 f)))
def fX7_manyOn_4L (n : Nat) (o : Nat)  : Nat → Int32 → Int32 → Int32 → Mm → Option (Int32)
  | 0 => fun _ _ _ _ => none
  | q + 1 => fX7_manyOn_4 n o  (fX7_manyOn_4L n o  q)
set_option maxHeartbeats 4000000 in
set_option maxRecDepth 100000 in
theorem fX7_manyOn_4_ok {V : VE} {G : GE} {N : Nat} {f m : Mm} {n : Nat} {ls : Array Slot} {o : Nat} {r : Int32} (B : CX V G cX7_manyOn 4 "FluxWatch$Spans" (some .int)) (hR : V.2.2.2.1 = rmX7_manyOn) (ho : rg 7 o)  {k4 : Int32 → Int32 → Int32 → Mm → Option (Int32)} (hk4 : ∀ (x1 : Int32) (x2 : Int32) (x3 : Int32) (mm : Mm) (ls : Array Slot),  lv_has ls 4 [(0, .ref (gz G + o)), (1, .int x1), (2, .int x2), (3, .int x3)] → k4 x1 x2 x3 mm = some r → WX V G N mm m 0 0 (QQ V G (some (.int r)) N mm m 0 0) 4 ls []) {x1 : Int32} {x2 : Int32} {x3 : Int32}  (hl : lv_has ls 4 [(0, .ref (gz G + o)), (1, .int x1), (2, .int x2), (3, .int x3)]) (hf : fX7_manyOn_4 n o k4 x1 x2 x3 f = some r) : WX V G N f m 0 0 (QQ V G (some (.int r)) N f m 0 0) 4 ls [] := by
  unfold fX7_manyOn_4 at hf
  refine x_iload_n B dX7_manyOn_4 rfl (lv_at hl 3 rfl) ?_
  refine x_aload_n B dX7_manyOn_5 rfl (lv_at hl 0 rfl) ?_
  refine y_getFi (C := RX7) (T := TX7) (NN := 5) B (ho.at0 rfl) inX7 rfl (j := 4) (by decide) q_120 rfl rfl dX7_manyOn_6 ?_
  refine x_icmp_ge (tgt := 41) B dX7_manyOn_9 (by decide) (fun h1 => ?_) (fun h1 => ?_)
  · have hf := ip h1 hf
    refine x_iload_n B dX7_manyOn_41 rfl (lv_at hl 2 rfl) ?_
    obtain rfl := rt1 hf
    exact x_iret B dX7_manyOn_42
  · have hf := iq h1 hf
    refine x_iload_n B dX7_manyOn_12 rfl (lv_at hl 1 rfl) ?_
    refine x_aload_n B dX7_manyOn_13 rfl (lv_at hl 0 rfl) ?_
    refine y_getFs (C := RX7) (T := TX7) (NN := 5) (d := 2) B (ho.at0 rfl) inX7 rfl (j := 1) (by decide) q_117 rfl rfl (by decide) dX7_manyOn_14 ?_
    refine x_iload_n B dX7_manyOn_17 rfl (lv_at hl 3 rfl) ?_
    obtain ⟨h2, hf⟩ := gd_some hf
    refine x_ialdF B (ho.at 2 rfl) h2 dX7_manyOn_18 ?_
    refine x_icmp_lt (tgt := 35) B dX7_manyOn_19 (by decide) (fun h3 => ?_) (fun h3 => ?_)
    · have hf := ip h3 hf
      exact fX7_manyOn_35_ok B hR ho hk4 hl hf
    · have hf := iq h3 hf
      refine x_iload_n B dX7_manyOn_22 rfl (lv_at hl 1 rfl) ?_
      refine x_aload_n B dX7_manyOn_23 rfl (lv_at hl 0 rfl) ?_
      refine y_getFs (C := RX7) (T := TX7) (NN := 5) (d := 3) B (ho.at0 rfl) inX7 rfl (j := 2) (by decide) q_118 rfl rfl (by decide) dX7_manyOn_24 ?_
      refine x_iload_n B dX7_manyOn_27 rfl (lv_at hl 3 rfl) ?_
      obtain ⟨h4, hf⟩ := gd_some hf
      refine x_ialdF B (ho.at 3 rfl) h4 dX7_manyOn_28 ?_
      refine x_icmp_gt (tgt := 35) B dX7_manyOn_29 (by decide) (fun h5 => ?_) (fun h5 => ?_)
      · have hf := ip h5 hf
        exact fX7_manyOn_35_ok B hR ho hk4 hl hf
      · have hf := iq h5 hf
        refine x_iinc (k := 2) (v := (nI 1)) (lv' := [(2, .int (x2 + (nI 1))), (0, .ref (gz G + o)), (1, .int x1), (3, .int x3)]) B dX7_manyOn_32 hl rfl (by decide) (by decide) rfl (fun ls hl => ?_)
        exact fX7_manyOn_35_ok B hR ho hk4 (lv_sub hl [1, 2, 0, 3] rfl) hf
set_option maxHeartbeats 4000000 in
set_option maxRecDepth 100000 in
theorem fX7_manyOn_4L_ok {V : VE} {G : GE} {N : Nat} {m : Mm} {n : Nat}  {o : Nat} {r : Int32} (B : CX V G cX7_manyOn 4 "FluxWatch$Spans" (some .int)) (hR : V.2.2.2.1 = rmX7_manyOn) (ho : rg 7 o)  : ∀ (q : Nat) (x1 : Int32) (x2 : Int32) (x3 : Int32) (mm : Mm) (ls : Array Slot),  lv_has ls 4 [(0, .ref (gz G + o)), (1, .int x1), (2, .int x2), (3, .int x3)] → fX7_manyOn_4L n o q x1 x2 x3 mm = some r → WX V G N mm m 0 0 (QQ V G (some (.int r)) N mm m 0 0) 4 ls [] := by
  intro q
  induction q with
  | zero =>
    intro x1 x2 x3 mm ls hl hf
    cases hf
  | succ q ih =>
    intro x1 x2 x3 mm ls hl hf
    exact fX7_manyOn_4_ok B hR ho  ih  hl hf
def fX7_manyOn (n : Nat) (o : Nat) (a1 : Int32) (f : Mm) : Option (Int32) :=
  fX7_manyOn_4L n o n a1 (nI 0) (nI 0) f
set_option maxHeartbeats 4000000 in
set_option maxRecDepth 100000 in
theorem kX7_manyOn {l : Launch} {G : GE} {N : Nat} {f m : Mm} {n : Nat} {o : Nat} {a1 : Int32} {r : Int32} (ho : rg 7 o) (hf : fX7_manyOn n o a1 f = some r) : MT l G yX7_manyOn cX7_manyOn 4 (some .int) rmX7_manyOn [.ref (gz G + o), .int a1] N f m (some (.int r)) N f m := by
  unfold fX7_manyOn at hf
  refine MT.of (by decide) (Nat.le_of_ble_eq_true rfl) (fun V ls hV hR B hl => ?_)
  have B : CX V G cX7_manyOn 4 "FluxWatch$Spans" (some .int) := B
  have hl : lv_has ls 4 [(0, .ref (gz G + o)), (1, .int a1)] := hl
  show WX V G N f m 0 0 (QQ V G (some (.int r)) N f m 0 0) 0 ls []
  refine x_iconst (v := (nI 0)) B dX7_manyOn_0 (by decide) ?_
  refine x_istore_n (lv' := [(2, .int (nI 0)), (0, .ref (gz G + o)), (1, .int a1)]) B dX7_manyOn_1 rfl hl (by decide) rfl (fun ls hl => ?_)
  refine x_iconst (v := (nI 0)) B dX7_manyOn_2 (by decide) ?_
  refine x_istore_n (lv' := [(3, .int (nI 0)), (2, .int (nI 0)), (0, .ref (gz G + o)), (1, .int a1)]) B dX7_manyOn_3 rfl hl (by decide) rfl (fun ls hl => ?_)
  exact fX7_manyOn_4L_ok B hR ho  n _ _ _ _ _ (lv_sub hl [2, 3, 1, 0] rfl) hf
def rmX11_jokes : Room := { frames := 3, cells := 0, slots := 0, locals := 112 }
set_option maxHeartbeats 4000000 in
set_option maxRecDepth 100000 in
theorem cw_X11_jokes_X10_stepFits : cwB rmX11_jokes rmX10_stepFits yX10_stepFits cX10_stepFits 3 (some .boolean) 1 := ⟨q_535, q_46, by decide, by decide⟩
set_option maxHeartbeats 4000000 in
set_option maxRecDepth 100000 in
theorem cw_X11_jokes_X7_manyOn : cwB rmX11_jokes rmX7_manyOn yX7_manyOn cX7_manyOn 4 (some .int) 1 := ⟨q_937, q_48, by decide, by decide⟩
def fX11_jokes_57 (n : Nat)  (k4 : Int32 → Int32 → Mm → Option (Int32)) (x1 : Int32) (x2 : Int32) (f : Mm) : Option (Int32) :=
  k4 x1 (x2 + (nI 1)) f
set_option maxHeartbeats 4000000 in
set_option maxRecDepth 100000 in
theorem fX11_jokes_57_ok {V : VE} {G : GE} {N : Nat} {f m : Mm} {n : Nat} {ls : Array Slot} {r : Int32} (B : CX V G cX11_jokes 3 "FluxWatch" (some .int)) (hR : V.2.2.2.1 = rmX11_jokes)  {k4 : Int32 → Int32 → Mm → Option (Int32)} (hk4 : ∀ (x1 : Int32) (x2 : Int32) (mm : Mm) (ls : Array Slot),  lv_has ls 3 [(0, .ref (gz G + 0)), (1, .int x1), (2, .int x2)] → k4 x1 x2 mm = some r → WX V G N mm m 0 0 (QQ V G (some (.int r)) N mm m 0 0) 4 ls []) {x1 : Int32} {x2 : Int32}  (hl : lv_has ls 3 [(0, .ref (gz G + 0)), (1, .int x1), (2, .int x2)]) (hf : fX11_jokes_57 n  k4 x1 x2 f = some r) : WX V G N f m 0 0 (QQ V G (some (.int r)) N f m 0 0) 57 ls [] := by
  unfold fX11_jokes_57 at hf
  refine x_iinc (k := 2) (v := (nI 1)) (lv' := [(2, .int (x2 + (nI 1))), (0, .ref (gz G + 0)), (1, .int x1)]) B dX11_jokes_57 hl rfl (by decide) (by decide) rfl (fun ls hl => ?_)
  refine x_goto (tgt := 4) B dX11_jokes_60 (by decide) ?_
  exact hk4 _ _ _ _ (lv_sub hl [1, 2, 0] rfl) hf
def fX11_jokes_4 (n : Nat)   (k4 : Int32 → Int32 → Mm → Option (Int32)) (x1 : Int32) (x2 : Int32) (f : Mm) : Option (Int32) :=
  if (f 10 4) ≤ x2 then (
  some x1) else (
  gd (ib x2 40) <|
  bn (fX7_manyOn n 18 (f 13 x2.toNatClampNeg) f) fun r4 =>
  if r4 ≤ 0 then (
  fX11_jokes_57 n k4 x1 x2 f) else (
  bn (fX10_stepFits n 1 x2 f) fun r7 =>
  if r7 = 0 then (
  fX11_jokes_57 n k4 x1 x2 f) else (
  fX11_jokes_57 n k4 (x1 + (nI 1)) x2 f)))
def fX11_jokes_4L (n : Nat)   : Nat → Int32 → Int32 → Mm → Option (Int32)
  | 0 => fun _ _ _ => none
  | q + 1 => fX11_jokes_4 n   (fX11_jokes_4L n   q)
set_option maxHeartbeats 4000000 in
set_option maxRecDepth 100000 in
theorem fX11_jokes_4_ok {V : VE} {G : GE} {N : Nat} {f m : Mm} {n : Nat} {ls : Array Slot} {r : Int32} (B : CX V G cX11_jokes 3 "FluxWatch" (some .int)) (hR : V.2.2.2.1 = rmX11_jokes)   {k4 : Int32 → Int32 → Mm → Option (Int32)} (hk4 : ∀ (x1 : Int32) (x2 : Int32) (mm : Mm) (ls : Array Slot),  lv_has ls 3 [(0, .ref (gz G + 0)), (1, .int x1), (2, .int x2)] → k4 x1 x2 mm = some r → WX V G N mm m 0 0 (QQ V G (some (.int r)) N mm m 0 0) 4 ls []) {x1 : Int32} {x2 : Int32}  (hl : lv_has ls 3 [(0, .ref (gz G + 0)), (1, .int x1), (2, .int x2)]) (hf : fX11_jokes_4 n  k4 x1 x2 f = some r) : WX V G N f m 0 0 (QQ V G (some (.int r)) N f m 0 0) 4 ls [] := by
  unfold fX11_jokes_4 at hf
  refine x_iload_n B dX11_jokes_4 rfl (lv_at hl 2 rfl) ?_
  refine x_aload_n B dX11_jokes_5 rfl (lv_at hl 0 rfl) ?_
  refine y_getFs (C := RX11) (T := TX11) (NN := 10) (d := 1) B (rg_11_0.at0 rfl) inX11 rfl (j := 0) (by decide) q_388 rfl rfl (by decide) dX11_jokes_6 ?_
  refine y_getFs (C := RX10) (T := TX10) (NN := 16) (d := 9) B (rg_10_1.at0 rfl) inX10 rfl (j := 8) (by decide) q_208 rfl rfl (by decide) dX11_jokes_9 ?_
  refine y_getFi (C := RX8) (T := TX8) (NN := 5) B (rg_8_10.at0 rfl) inX8 rfl (j := 4) (by decide) q_153 rfl rfl dX11_jokes_12 ?_
  refine x_icmp_ge (tgt := 63) B dX11_jokes_15 (by decide) (fun h1 => ?_) (fun h1 => ?_)
  · have hf := ip h1 hf
    refine x_iload_n B dX11_jokes_63 rfl (lv_at hl 1 rfl) ?_
    obtain rfl := rt1 hf
    exact x_iret B dX11_jokes_64
  · have hf := iq h1 hf
    refine x_aload_n B dX11_jokes_18 rfl (lv_at hl 0 rfl) ?_
    refine y_getFs (C := RX11) (T := TX11) (NN := 10) (d := 1) B (rg_11_0.at0 rfl) inX11 rfl (j := 0) (by decide) q_388 rfl rfl (by decide) dX11_jokes_19 ?_
    refine y_getFs (C := RX10) (T := TX10) (NN := 16) (d := 17) B (rg_10_1.at0 rfl) inX10 rfl (j := 14) (by decide) q_219 rfl rfl (by decide) dX11_jokes_22 ?_
    refine x_aload_n B dX11_jokes_25 rfl (lv_at hl 0 rfl) ?_
    refine y_getFs (C := RX11) (T := TX11) (NN := 10) (d := 1) B (rg_11_0.at0 rfl) inX11 rfl (j := 0) (by decide) q_388 rfl rfl (by decide) dX11_jokes_26 ?_
    refine y_getFs (C := RX10) (T := TX10) (NN := 16) (d := 9) B (rg_10_1.at0 rfl) inX10 rfl (j := 8) (by decide) q_208 rfl rfl (by decide) dX11_jokes_29 ?_
    refine y_getFs (C := RX8) (T := TX8) (NN := 5) (d := 3) B (rg_8_10.at0 rfl) inX8 rfl (j := 2) (by decide) q_146 rfl rfl (by decide) dX11_jokes_32 ?_
    refine x_iload_n B dX11_jokes_35 rfl (lv_at hl 2 rfl) ?_
    obtain ⟨h2, hf⟩ := gd_some hf
    refine x_ialdF B (rg_8_10.at 3 rfl) h2 dX11_jokes_36 ?_
    obtain ⟨r4, c3, hf⟩ := bn_some hf
    refine x_callV0 (rest := []) B (kX7_manyOn rg_7_18 c3) ⟨rfl, rfl⟩ (rg_7_18.at0 (N := N) rfl).lt (rg_7_18.at0 (N := N) rfl).2 rfl (by decide) q_934 q_935 q_936 (by rw [hR]; exact cw_X11_jokes_X7_manyOn) rfl rfl hl.1 (Nat.le_of_ble_eq_true rfl) dX11_jokes_37 ⟨Nat.zero_le _, Nat.zero_le _⟩ ?_
    refine x_if_le (tgt := 57) B dX11_jokes_40 (by decide) (fun h5 => ?_) (fun h5 => ?_)
    · have hf := ip h5 hf
      exact fX11_jokes_57_ok B hR hk4 hl hf
    · have hf := iq h5 hf
      refine x_aload_n B dX11_jokes_43 rfl (lv_at hl 0 rfl) ?_
      refine y_getFs (C := RX11) (T := TX11) (NN := 10) (d := 1) B (rg_11_0.at0 rfl) inX11 rfl (j := 0) (by decide) q_388 rfl rfl (by decide) dX11_jokes_44 ?_
      refine x_iload_n B dX11_jokes_47 rfl (lv_at hl 2 rfl) ?_
      obtain ⟨r7, c6, hf⟩ := bn_some hf
      refine x_callV0 (rest := []) B (kX10_stepFits rg_10_1 c6) ⟨rfl, rfl⟩ (rg_10_1.at0 (N := N) rfl).lt (rg_10_1.at0 (N := N) rfl).2 rfl (by decide) q_532 q_533 q_534 (by rw [hR]; exact cw_X11_jokes_X10_stepFits) rfl rfl hl.1 (Nat.le_of_ble_eq_true rfl) dX11_jokes_48 ⟨Nat.zero_le _, Nat.zero_le _⟩ ?_
      refine x_if_eq (tgt := 57) B dX11_jokes_51 (by decide) (fun h8 => ?_) (fun h8 => ?_)
      · have hf := ip h8 hf
        exact fX11_jokes_57_ok B hR hk4 hl hf
      · have hf := iq h8 hf
        refine x_iinc (k := 1) (v := (nI 1)) (lv' := [(1, .int (x1 + (nI 1))), (0, .ref (gz G + 0)), (2, .int x2)]) B dX11_jokes_54 hl rfl (by decide) (by decide) rfl (fun ls hl => ?_)
        exact fX11_jokes_57_ok B hR hk4 (lv_sub hl [1, 0, 2] rfl) hf
set_option maxHeartbeats 4000000 in
set_option maxRecDepth 100000 in
theorem fX11_jokes_4L_ok {V : VE} {G : GE} {N : Nat} {m : Mm} {n : Nat}  {r : Int32} (B : CX V G cX11_jokes 3 "FluxWatch" (some .int)) (hR : V.2.2.2.1 = rmX11_jokes)   : ∀ (q : Nat) (x1 : Int32) (x2 : Int32) (mm : Mm) (ls : Array Slot),  lv_has ls 3 [(0, .ref (gz G + 0)), (1, .int x1), (2, .int x2)] → fX11_jokes_4L n  q x1 x2 mm = some r → WX V G N mm m 0 0 (QQ V G (some (.int r)) N mm m 0 0) 4 ls [] := by
  intro q
  induction q with
  | zero =>
    intro x1 x2 mm ls hl hf
    cases hf
  | succ q ih =>
    intro x1 x2 mm ls hl hf
    exact fX11_jokes_4_ok B hR   ih  hl hf
def fX11_jokes (n : Nat)  (f : Mm) : Option (Int32) :=
  fX11_jokes_4L n n (nI 0) (nI 0) f
set_option maxHeartbeats 4000000 in
set_option maxRecDepth 100000 in
theorem kX11_jokes {l : Launch} {G : GE} {N : Nat} {f m : Mm} {n : Nat}  {r : Int32}  (hf : fX11_jokes n f = some r) : MT l G yX11_jokes cX11_jokes 3 (some .int) rmX11_jokes [.ref (gz G + 0)] N f m (some (.int r)) N f m := by
  unfold fX11_jokes at hf
  refine MT.of (by decide) (Nat.le_of_ble_eq_true rfl) (fun V ls hV hR B hl => ?_)
  have B : CX V G cX11_jokes 3 "FluxWatch" (some .int) := B
  have hl : lv_has ls 3 [(0, .ref (gz G + 0))] := hl
  show WX V G N f m 0 0 (QQ V G (some (.int r)) N f m 0 0) 0 ls []
  refine x_iconst (v := (nI 0)) B dX11_jokes_0 (by decide) ?_
  refine x_istore_n (lv' := [(1, .int (nI 0)), (0, .ref (gz G + 0))]) B dX11_jokes_1 rfl hl (by decide) rfl (fun ls hl => ?_)
  refine x_iconst (v := (nI 0)) B dX11_jokes_2 (by decide) ?_
  refine x_istore_n (lv' := [(2, .int (nI 0)), (1, .int (nI 0)), (0, .ref (gz G + 0))]) B dX11_jokes_3 rfl hl (by decide) rfl (fun ls hl => ?_)
  exact fX11_jokes_4L_ok B hR  n _ _ _ _ (lv_sub hl [2, 1, 0] rfl) hf
def rmX11_keep : Room := { frames := 3, cells := 0, slots := 0, locals := 110 }
set_option maxHeartbeats 4000000 in
set_option maxRecDepth 100000 in
theorem cw_X11_keep_X10_takeOver : cwB rmX11_keep rmX10_takeOver yX10_takeOver cX10_takeOver 2 none 1 := ⟨q_1069, q_46, by decide, by decide⟩
def fX11_keep (n : Nat) (N : Nat) (f : Mm) : Option (Int32 × Mm) :=
  bn (fX10_takeOver n N 25 1 f) fun f2 =>
  lt (up f2 0 3 (nI 1)) fun f3 =>
  some (f3 1 0, f3)
set_option maxHeartbeats 4000000 in
set_option maxRecDepth 100000 in
theorem kX11_keep {l : Launch} {G : GE} {N : Nat} {f m : Mm} {n : Nat}  {r : Int32} {g : Mm}  (hf : fX11_keep n N f = some (r, g)) : MT l G yX11_keep cX11_keep 1 (some .int) rmX11_keep [.ref (gz G + 0)] N f m (some (.int r)) N g m := by
  unfold fX11_keep at hf
  refine MT.of (by decide) (Nat.le_of_ble_eq_true rfl) (fun V ls hV hR B hl => ?_)
  have B : CX V G cX11_keep 1 "FluxWatch" (some .int) := B
  have hl : lv_has ls 1 [(0, .ref (gz G + 0))] := hl
  show WX V G N f m 0 0 (QQ V G (some (.int r)) N g m 0 0) 0 ls []
  refine x_aload_n B dX11_keep_0 rfl (lv_at hl 0 rfl) ?_
  refine y_getFs (C := RX11) (T := TX11) (NN := 10) (d := 25) B (rg_11_0.at0 rfl) inX11 rfl (j := 1) (by decide) q_389 rfl rfl (by decide) dX11_keep_1 ?_
  refine x_aload_n B dX11_keep_4 rfl (lv_at hl 0 rfl) ?_
  refine y_getFs (C := RX11) (T := TX11) (NN := 10) (d := 1) B (rg_11_0.at0 rfl) inX11 rfl (j := 0) (by decide) q_388 rfl rfl (by decide) dX11_keep_5 ?_
  obtain ⟨f2, c1, hf⟩ := bn_some hf
  refine x_callV0 (rest := []) B (kX10_takeOver rg_10_25 rg_10_1 c1) ⟨rfl, rfl⟩ (rg_10_25.at0 (N := N) rfl).lt (rg_10_25.at0 (N := N) rfl).2 rfl (by decide) q_1066 q_1067 q_1068 (by rw [hR]; exact cw_X11_keep_X10_takeOver) rfl rfl hl.1 (Nat.le_of_ble_eq_true rfl) dX11_keep_8 ⟨Nat.zero_le _, Nat.zero_le _⟩ ?_
  refine x_aload_n B dX11_keep_11 rfl (lv_at hl 0 rfl) ?_
  refine x_iconst (v := (nI 1)) B dX11_keep_12 (by decide) ?_
  refine x_putF (C := RX11) (T := TX11) (NN := 10) (ty0 := tyX11) (ty := .boolean) B (rg_11_0.at0 rfl) inX11 tyX11_ok nmX11 rfl (j := 3) (by decide) q_391 rfl rfl rfl rfl rfl rfl dX11_keep_13 (fun f3 e4 => ?_)
  have hf := lt_some hf e4
  refine x_aload_n B dX11_keep_16 rfl (lv_at hl 0 rfl) ?_
  refine y_getFs (C := RX11) (T := TX11) (NN := 10) (d := 1) B (rg_11_0.at0 rfl) inX11 rfl (j := 0) (by decide) q_388 rfl rfl (by decide) dX11_keep_17 ?_
  refine y_getFi (C := RX10) (T := TX10) (NN := 16) B (rg_10_1.at0 rfl) inX10 rfl (j := 0) (by decide) q_189 rfl rfl dX11_keep_20 ?_
  obtain ⟨rfl, rfl⟩ := rt2 hf
  exact x_iret B dX11_keep_23
def rmX7_add : Room := { frames := 0, cells := 0, slots := 0, locals := 0 }
def fX7_add (n : Nat) (o : Nat) (a1 : Int32) (a2 : Int32) (a3 : Int32) (f : Mm) : Option (Int32 × Mm) :=
  if (f o 4) < (f o 3) then (
  gd (ib (f o 4) 20) <|
  lt (up f (o + 1) (f o 4).toNatClampNeg a1) fun f3 =>
  gd (ib (f3 o 4) 20) <|
  lt (up f3 (o + 2) (f3 o 4).toNatClampNeg a2) fun f6 =>
  gd (ib (f6 o 4) 20) <|
  lt (up f6 (o + 3) (f6 o 4).toNatClampNeg a3) fun f9 =>
  lt (up f9 o 4 ((f9 o 4) + (nI 1))) fun f11 =>
  some ((f11 o 4) - (nI 1), f11)) else (
  some ((-1000000003 : Int32), f))
set_option maxHeartbeats 4000000 in
set_option maxRecDepth 100000 in
theorem kX7_add {l : Launch} {G : GE} {N : Nat} {f m : Mm} {n : Nat} {o : Nat} {a1 : Int32} {a2 : Int32} {a3 : Int32} {r : Int32} {g : Mm} (ho : rg 7 o) (hf : fX7_add n o a1 a2 a3 f = some (r, g)) : MT l G yX7_add cX7_add 4 (some .int) rmX7_add [.ref (gz G + o), .int a1, .int a2, .int a3] N f m (some (.int r)) N g m := by
  unfold fX7_add at hf
  refine MT.of (by decide) (Nat.le_of_ble_eq_true rfl) (fun V ls hV hR B hl => ?_)
  have B : CX V G cX7_add 4 "FluxWatch$Spans" (some .int) := B
  have hl : lv_has ls 4 [(0, .ref (gz G + o)), (1, .int a1), (2, .int a2), (3, .int a3)] := hl
  show WX V G N f m 0 0 (QQ V G (some (.int r)) N g m 0 0) 0 ls []
  refine x_aload_n B dX7_add_0 rfl (lv_at hl 0 rfl) ?_
  refine y_getFi (C := RX7) (T := TX7) (NN := 5) B (ho.at0 rfl) inX7 rfl (j := 4) (by decide) q_120 rfl rfl dX7_add_1 ?_
  refine x_aload_n B dX7_add_4 rfl (lv_at hl 0 rfl) ?_
  refine y_getFi (C := RX7) (T := TX7) (NN := 5) B (ho.at0 rfl) inX7 rfl (j := 3) (by decide) q_119 rfl rfl dX7_add_5 ?_
  refine x_icmp_lt (tgt := 14) B dX7_add_8 (by decide) (fun h1 => ?_) (fun h1 => ?_)
  · have hf := ip h1 hf
    refine x_aload_n B dX7_add_14 rfl (lv_at hl 0 rfl) ?_
    refine y_getFs (C := RX7) (T := TX7) (NN := 5) (d := 1) B (ho.at0 rfl) inX7 rfl (j := 0) (by decide) q_116 rfl rfl (by decide) dX7_add_15 ?_
    refine x_aload_n B dX7_add_18 rfl (lv_at hl 0 rfl) ?_
    refine y_getFi (C := RX7) (T := TX7) (NN := 5) B (ho.at0 rfl) inX7 rfl (j := 4) (by decide) q_120 rfl rfl dX7_add_19 ?_
    refine x_iload_n B dX7_add_22 rfl (lv_at hl 1 rfl) ?_
    obtain ⟨h2, hf⟩ := gd_some hf
    refine x_iastF B (ho.at 1 rfl) h2 dX7_add_23 (fun f3 e4 => ?_)
    have hf := lt_some hf e4
    refine x_aload_n B dX7_add_24 rfl (lv_at hl 0 rfl) ?_
    refine y_getFs (C := RX7) (T := TX7) (NN := 5) (d := 2) B (ho.at0 rfl) inX7 rfl (j := 1) (by decide) q_117 rfl rfl (by decide) dX7_add_25 ?_
    refine x_aload_n B dX7_add_28 rfl (lv_at hl 0 rfl) ?_
    refine y_getFi (C := RX7) (T := TX7) (NN := 5) B (ho.at0 rfl) inX7 rfl (j := 4) (by decide) q_120 rfl rfl dX7_add_29 ?_
    refine x_iload_n B dX7_add_32 rfl (lv_at hl 2 rfl) ?_
    obtain ⟨h5, hf⟩ := gd_some hf
    refine x_iastF B (ho.at 2 rfl) h5 dX7_add_33 (fun f6 e7 => ?_)
    have hf := lt_some hf e7
    refine x_aload_n B dX7_add_34 rfl (lv_at hl 0 rfl) ?_
    refine y_getFs (C := RX7) (T := TX7) (NN := 5) (d := 3) B (ho.at0 rfl) inX7 rfl (j := 2) (by decide) q_118 rfl rfl (by decide) dX7_add_35 ?_
    refine x_aload_n B dX7_add_38 rfl (lv_at hl 0 rfl) ?_
    refine y_getFi (C := RX7) (T := TX7) (NN := 5) B (ho.at0 rfl) inX7 rfl (j := 4) (by decide) q_120 rfl rfl dX7_add_39 ?_
    refine x_iload_n B dX7_add_42 rfl (lv_at hl 3 rfl) ?_
    obtain ⟨h8, hf⟩ := gd_some hf
    refine x_iastF B (ho.at 3 rfl) h8 dX7_add_43 (fun f9 e10 => ?_)
    have hf := lt_some hf e10
    refine x_aload_n B dX7_add_44 rfl (lv_at hl 0 rfl) ?_
    refine x_dup B dX7_add_45 rfl ?_
    refine y_getFi (C := RX7) (T := TX7) (NN := 5) B (ho.at0 rfl) inX7 rfl (j := 4) (by decide) q_120 rfl rfl dX7_add_46 ?_
    refine x_iconst (v := (nI 1)) B dX7_add_49 (by decide) ?_
    refine x_iadd B dX7_add_50 ?_
    refine x_putF (C := RX7) (T := TX7) (NN := 5) (ty0 := tyX7) (ty := .int) B (ho.at0 rfl) inX7 tyX7_ok nmX7 rfl (j := 4) (by decide) q_120 rfl rfl rfl rfl rfl rfl dX7_add_51 (fun f11 e12 => ?_)
    have hf := lt_some hf e12
    refine x_aload_n B dX7_add_54 rfl (lv_at hl 0 rfl) ?_
    refine y_getFi (C := RX7) (T := TX7) (NN := 5) B (ho.at0 rfl) inX7 rfl (j := 4) (by decide) q_120 rfl rfl dX7_add_55 ?_
    refine x_iconst (v := (nI 1)) B dX7_add_58 (by decide) ?_
    refine x_isub B dX7_add_59 ?_
    obtain ⟨rfl, rfl⟩ := rt2 hf
    exact x_iret B dX7_add_60
  · have hf := iq h1 hf
    refine x_ldc (v := (-1000000003 : Int32)) B q_481 dX7_add_11 ?_
    obtain ⟨rfl, rfl⟩ := rt2 hf
    exact x_iret B dX7_add_13
def rmX11_key : Room := { frames := 2, cells := 0, slots := 0, locals := 41 }
set_option maxHeartbeats 4000000 in
set_option maxRecDepth 100000 in
theorem cw_X11_key_X11_isSpan : cwB rmX11_key rmX11_isSpan yX11_isSpan cX11_isSpan 2 (some .boolean) 2 := ⟨q_473, q_45, by decide, by decide⟩
set_option maxHeartbeats 4000000 in
set_option maxRecDepth 100000 in
theorem cw_X11_key_X7_add : cwB rmX11_key rmX7_add yX7_add cX7_add 4 (some .int) 3 := ⟨q_480, q_48, by decide, by decide⟩
def fX11_key (n : Nat) (a1 : Int32) (a2 : Int32) (f : Mm) : Option (Int32 × Mm) :=
  bn (fX11_isSpan n a1 a2) fun r2 =>
  if r2 = 0 then (
  some ((-1000000001 : Int32), f)) else (
  bn2 (fX7_add n 18 (nI 0) a1 a2 f) fun r6 f5 =>
  some (r6, f5))
set_option maxHeartbeats 4000000 in
set_option maxRecDepth 100000 in
theorem kX11_key {l : Launch} {G : GE} {N : Nat} {f m : Mm} {n : Nat} {a1 : Int32} {a2 : Int32} {r : Int32} {g : Mm}  (hf : fX11_key n a1 a2 f = some (r, g)) : MT l G yX11_key cX11_key 3 (some .int) rmX11_key [.ref (gz G + 0), .int a1, .int a2] N f m (some (.int r)) N g m := by
  unfold fX11_key at hf
  refine MT.of (by decide) (Nat.le_of_ble_eq_true rfl) (fun V ls hV hR B hl => ?_)
  have B : CX V G cX11_key 3 "FluxWatch" (some .int) := B
  have hl : lv_has ls 3 [(0, .ref (gz G + 0)), (1, .int a1), (2, .int a2)] := hl
  show WX V G N f m 0 0 (QQ V G (some (.int r)) N g m 0 0) 0 ls []
  refine x_iload_n B dX11_key_0 rfl (lv_at hl 1 rfl) ?_
  refine x_iload_n B dX11_key_1 rfl (lv_at hl 2 rfl) ?_
  obtain ⟨r2, c1, hf⟩ := bn_some hf
  refine x_callS0 (rest := []) B (kX11_isSpan c1) ⟨rfl, rfl⟩ q_471 q_472 (by rw [hR]; exact cw_X11_key_X11_isSpan) rfl rfl hl.1 (Nat.le_of_ble_eq_true rfl) dX11_key_2 ⟨Nat.zero_le _, Nat.zero_le _⟩ ?_
  refine x_if_eq (tgt := 24) B dX11_key_5 (by decide) (fun h3 => ?_) (fun h3 => ?_)
  · have hf := ip h3 hf
    refine x_ldc (v := (-1000000001 : Int32)) B q_432 dX11_key_24 ?_
    obtain ⟨rfl, rfl⟩ := rt2 hf
    exact x_iret B dX11_key_26
  · have hf := iq h3 hf
    refine x_aload_n B dX11_key_8 rfl (lv_at hl 0 rfl) ?_
    refine y_getFs (C := RX11) (T := TX11) (NN := 10) (d := 1) B (rg_11_0.at0 rfl) inX11 rfl (j := 0) (by decide) q_388 rfl rfl (by decide) dX11_key_9 ?_
    refine y_getFs (C := RX10) (T := TX10) (NN := 16) (d := 17) B (rg_10_1.at0 rfl) inX10 rfl (j := 14) (by decide) q_219 rfl rfl (by decide) dX11_key_12 ?_
    refine x_iconst (v := (nI 0)) B dX11_key_15 (by decide) ?_
    refine x_iload_n B dX11_key_16 rfl (lv_at hl 1 rfl) ?_
    refine x_iload_n B dX11_key_17 rfl (lv_at hl 2 rfl) ?_
    obtain ⟨r6, f5, c4, hf⟩ := bn2_some hf
    refine x_callV0 (rest := []) B (kX7_add rg_7_18 c4) ⟨rfl, rfl⟩ (rg_7_18.at0 (N := N) rfl).lt (rg_7_18.at0 (N := N) rfl).2 rfl (by decide) q_477 q_478 q_479 (by rw [hR]; exact cw_X11_key_X7_add) rfl rfl hl.1 (Nat.le_of_ble_eq_true rfl) dX11_key_18 ⟨Nat.zero_le _, Nat.zero_le _⟩ ?_
    refine x_goto (tgt := 26) B dX11_key_21 (by decide) ?_
    obtain ⟨rfl, rfl⟩ := rt2 hf
    exact x_iret B dX11_key_26
def rmX11_keys : Room := { frames := 1, cells := 0, slots := 0, locals := 23 }
set_option maxHeartbeats 4000000 in
set_option maxRecDepth 100000 in
theorem cw_X11_keys_X11_isDay : cwB rmX11_keys rmX11_isDay yX11_isDay cX11_isDay 1 (some .boolean) 1 := ⟨q_476, q_45, by decide, by decide⟩
set_option maxHeartbeats 4000000 in
set_option maxRecDepth 100000 in
theorem cw_X11_keys_X7_manyOn : cwB rmX11_keys rmX7_manyOn yX7_manyOn cX7_manyOn 4 (some .int) 1 := ⟨q_937, q_48, by decide, by decide⟩
def fX11_keys (n : Nat) (a1 : Int32) (f : Mm) : Option (Int32) :=
  bn (fX11_isDay n a1) fun r2 =>
  if r2 = 0 then (
  some (-1000000001 : Int32)) else (
  bn (fX7_manyOn n 18 a1 f) fun r5 =>
  some r5)
set_option maxHeartbeats 4000000 in
set_option maxRecDepth 100000 in
theorem kX11_keys {l : Launch} {G : GE} {N : Nat} {f m : Mm} {n : Nat} {a1 : Int32} {r : Int32}  (hf : fX11_keys n a1 f = some r) : MT l G yX11_keys cX11_keys 2 (some .int) rmX11_keys [.ref (gz G + 0), .int a1] N f m (some (.int r)) N f m := by
  unfold fX11_keys at hf
  refine MT.of (by decide) (Nat.le_of_ble_eq_true rfl) (fun V ls hV hR B hl => ?_)
  have B : CX V G cX11_keys 2 "FluxWatch" (some .int) := B
  have hl : lv_has ls 2 [(0, .ref (gz G + 0)), (1, .int a1)] := hl
  show WX V G N f m 0 0 (QQ V G (some (.int r)) N f m 0 0) 0 ls []
  refine x_iload_n B dX11_keys_0 rfl (lv_at hl 1 rfl) ?_
  obtain ⟨r2, c1, hf⟩ := bn_some hf
  refine x_callS0 (rest := []) B (kX11_isDay c1) ⟨rfl, rfl⟩ q_474 q_475 (by rw [hR]; exact cw_X11_keys_X11_isDay) rfl rfl hl.1 (Nat.le_of_ble_eq_true rfl) dX11_keys_1 ⟨Nat.zero_le _, Nat.zero_le _⟩ ?_
  refine x_if_eq (tgt := 21) B dX11_keys_4 (by decide) (fun h3 => ?_) (fun h3 => ?_)
  · have hf := ip h3 hf
    refine x_ldc (v := (-1000000001 : Int32)) B q_432 dX11_keys_21 ?_
    obtain rfl := rt1 hf
    exact x_iret B dX11_keys_23
  · have hf := iq h3 hf
    refine x_aload_n B dX11_keys_7 rfl (lv_at hl 0 rfl) ?_
    refine y_getFs (C := RX11) (T := TX11) (NN := 10) (d := 1) B (rg_11_0.at0 rfl) inX11 rfl (j := 0) (by decide) q_388 rfl rfl (by decide) dX11_keys_8 ?_
    refine y_getFs (C := RX10) (T := TX10) (NN := 16) (d := 17) B (rg_10_1.at0 rfl) inX10 rfl (j := 14) (by decide) q_219 rfl rfl (by decide) dX11_keys_11 ?_
    refine x_iload_n B dX11_keys_14 rfl (lv_at hl 1 rfl) ?_
    obtain ⟨r5, c4, hf⟩ := bn_some hf
    refine x_callV0 (rest := []) B (kX7_manyOn rg_7_18 c4) ⟨rfl, rfl⟩ (rg_7_18.at0 (N := N) rfl).lt (rg_7_18.at0 (N := N) rfl).2 rfl (by decide) q_934 q_935 q_936 (by rw [hR]; exact cw_X11_keys_X7_manyOn) rfl rfl hl.1 (Nat.le_of_ble_eq_true rfl) dX11_keys_15 ⟨Nat.zero_le _, Nat.zero_le _⟩ ?_
    refine x_goto (tgt := 23) B dX11_keys_18 (by decide) ?_
    obtain rfl := rt1 hf
    exact x_iret B dX11_keys_23
def rmX10_addKnock : Room := { frames := 0, cells := 0, slots := 0, locals := 0 }
def fX10_addKnock (n : Nat) (o : Nat) (a1 : Int32) (f : Mm) : Option (Int32 × Mm) :=
  if (f o 13) < (nI 60) then (
  gd (ib (f o 13) 60) <|
  lt (up f (o + 16) (f o 13).toNatClampNeg a1) fun f3 =>
  lt (up f3 o 13 ((f3 o 13) + (nI 1))) fun f5 =>
  some ((f5 o 13) - (nI 1), f5)) else (
  some ((-1000000003 : Int32), f))
set_option maxHeartbeats 4000000 in
set_option maxRecDepth 100000 in
theorem kX10_addKnock {l : Launch} {G : GE} {N : Nat} {f m : Mm} {n : Nat} {o : Nat} {a1 : Int32} {r : Int32} {g : Mm} (ho : rg 10 o) (hf : fX10_addKnock n o a1 f = some (r, g)) : MT l G yX10_addKnock cX10_addKnock 2 (some .int) rmX10_addKnock [.ref (gz G + o), .int a1] N f m (some (.int r)) N g m := by
  unfold fX10_addKnock at hf
  refine MT.of (by decide) (Nat.le_of_ble_eq_true rfl) (fun V ls hV hR B hl => ?_)
  have B : CX V G cX10_addKnock 2 "FluxWatch$World" (some .int) := B
  have hl : lv_has ls 2 [(0, .ref (gz G + o)), (1, .int a1)] := hl
  show WX V G N f m 0 0 (QQ V G (some (.int r)) N g m 0 0) 0 ls []
  refine x_aload_n B dX10_addKnock_0 rfl (lv_at hl 0 rfl) ?_
  refine y_getFi (C := RX10) (T := TX10) (NN := 16) B (ho.at0 rfl) inX10 rfl (j := 13) (by decide) q_216 rfl rfl dX10_addKnock_1 ?_
  refine x_bipush (v := (nI 60)) B dX10_addKnock_4 (by decide) ?_
  refine x_icmp_lt (tgt := 12) B dX10_addKnock_6 (by decide) (fun h1 => ?_) (fun h1 => ?_)
  · have hf := ip h1 hf
    refine x_aload_n B dX10_addKnock_12 rfl (lv_at hl 0 rfl) ?_
    refine y_getFs (C := RX10) (T := TX10) (NN := 16) (d := 16) B (ho.at0 rfl) inX10 rfl (j := 12) (by decide) q_215 rfl rfl (by decide) dX10_addKnock_13 ?_
    refine x_aload_n B dX10_addKnock_16 rfl (lv_at hl 0 rfl) ?_
    refine y_getFi (C := RX10) (T := TX10) (NN := 16) B (ho.at0 rfl) inX10 rfl (j := 13) (by decide) q_216 rfl rfl dX10_addKnock_17 ?_
    refine x_iload_n B dX10_addKnock_20 rfl (lv_at hl 1 rfl) ?_
    obtain ⟨h2, hf⟩ := gd_some hf
    refine x_iastF B (ho.at 16 rfl) h2 dX10_addKnock_21 (fun f3 e4 => ?_)
    have hf := lt_some hf e4
    refine x_aload_n B dX10_addKnock_22 rfl (lv_at hl 0 rfl) ?_
    refine x_dup B dX10_addKnock_23 rfl ?_
    refine y_getFi (C := RX10) (T := TX10) (NN := 16) B (ho.at0 rfl) inX10 rfl (j := 13) (by decide) q_216 rfl rfl dX10_addKnock_24 ?_
    refine x_iconst (v := (nI 1)) B dX10_addKnock_27 (by decide) ?_
    refine x_iadd B dX10_addKnock_28 ?_
    refine x_putF (C := RX10) (T := TX10) (NN := 16) (ty0 := tyX10) (ty := .int) B (ho.at0 rfl) inX10 tyX10_ok nmX10 rfl (j := 13) (by decide) q_216 rfl rfl rfl rfl rfl rfl dX10_addKnock_29 (fun f5 e6 => ?_)
    have hf := lt_some hf e6
    refine x_aload_n B dX10_addKnock_32 rfl (lv_at hl 0 rfl) ?_
    refine y_getFi (C := RX10) (T := TX10) (NN := 16) B (ho.at0 rfl) inX10 rfl (j := 13) (by decide) q_216 rfl rfl dX10_addKnock_33 ?_
    refine x_iconst (v := (nI 1)) B dX10_addKnock_36 (by decide) ?_
    refine x_isub B dX10_addKnock_37 ?_
    obtain ⟨rfl, rfl⟩ := rt2 hf
    exact x_iret B dX10_addKnock_38
  · have hf := iq h1 hf
    refine x_ldc (v := (-1000000003 : Int32)) B q_882 dX10_addKnock_9 ?_
    obtain ⟨rfl, rfl⟩ := rt2 hf
    exact x_iret B dX10_addKnock_11
def rmX11_knock : Room := { frames := 1, cells := 0, slots := 0, locals := 21 }
set_option maxHeartbeats 4000000 in
set_option maxRecDepth 100000 in
theorem cw_X11_knock_X10_addKnock : cwB rmX11_knock rmX10_addKnock yX10_addKnock cX10_addKnock 2 (some .int) 1 := ⟨q_898, q_46, by decide, by decide⟩
set_option maxHeartbeats 4000000 in
set_option maxRecDepth 100000 in
theorem cw_X11_knock_X11_isHeight : cwB rmX11_knock rmX11_isHeight yX11_isHeight cX11_isHeight 1 (some .boolean) 1 := ⟨q_514, q_45, by decide, by decide⟩
def fX11_knock (n : Nat) (a1 : Int32) (f : Mm) : Option (Int32 × Mm) :=
  bn (fX11_isHeight n a1) fun r2 =>
  if r2 = 0 then (
  some ((-1000000001 : Int32), f)) else (
  bn2 (fX10_addKnock n 1 a1 f) fun r6 f5 =>
  some (r6, f5))
set_option maxHeartbeats 4000000 in
set_option maxRecDepth 100000 in
theorem kX11_knock {l : Launch} {G : GE} {N : Nat} {f m : Mm} {n : Nat} {a1 : Int32} {r : Int32} {g : Mm}  (hf : fX11_knock n a1 f = some (r, g)) : MT l G yX11_knock cX11_knock 2 (some .int) rmX11_knock [.ref (gz G + 0), .int a1] N f m (some (.int r)) N g m := by
  unfold fX11_knock at hf
  refine MT.of (by decide) (Nat.le_of_ble_eq_true rfl) (fun V ls hV hR B hl => ?_)
  have B : CX V G cX11_knock 2 "FluxWatch" (some .int) := B
  have hl : lv_has ls 2 [(0, .ref (gz G + 0)), (1, .int a1)] := hl
  show WX V G N f m 0 0 (QQ V G (some (.int r)) N g m 0 0) 0 ls []
  refine x_iload_n B dX11_knock_0 rfl (lv_at hl 1 rfl) ?_
  obtain ⟨r2, c1, hf⟩ := bn_some hf
  refine x_callS0 (rest := []) B (kX11_isHeight c1) ⟨rfl, rfl⟩ q_512 q_513 (by rw [hR]; exact cw_X11_knock_X11_isHeight) rfl rfl hl.1 (Nat.le_of_ble_eq_true rfl) dX11_knock_1 ⟨Nat.zero_le _, Nat.zero_le _⟩ ?_
  refine x_if_eq (tgt := 18) B dX11_knock_4 (by decide) (fun h3 => ?_) (fun h3 => ?_)
  · have hf := ip h3 hf
    refine x_ldc (v := (-1000000001 : Int32)) B q_432 dX11_knock_18 ?_
    obtain ⟨rfl, rfl⟩ := rt2 hf
    exact x_iret B dX11_knock_20
  · have hf := iq h3 hf
    refine x_aload_n B dX11_knock_7 rfl (lv_at hl 0 rfl) ?_
    refine y_getFs (C := RX11) (T := TX11) (NN := 10) (d := 1) B (rg_11_0.at0 rfl) inX11 rfl (j := 0) (by decide) q_388 rfl rfl (by decide) dX11_knock_8 ?_
    refine x_iload_n B dX11_knock_11 rfl (lv_at hl 1 rfl) ?_
    obtain ⟨r6, f5, c4, hf⟩ := bn2_some hf
    refine x_callV0 (rest := []) B (kX10_addKnock rg_10_1 c4) ⟨rfl, rfl⟩ (rg_10_1.at0 (N := N) rfl).lt (rg_10_1.at0 (N := N) rfl).2 rfl (by decide) q_895 q_896 q_897 (by rw [hR]; exact cw_X11_knock_X10_addKnock) rfl rfl hl.1 (Nat.le_of_ble_eq_true rfl) dX11_knock_12 ⟨Nat.zero_le _, Nat.zero_le _⟩ ?_
    refine x_goto (tgt := 20) B dX11_knock_15 (by decide) ?_
    obtain ⟨rfl, rfl⟩ := rt2 hf
    exact x_iret B dX11_knock_20
def rmX5_takeOver : Room := { frames := 1, cells := 0, slots := 0, locals := 68 }
def fX5_takeOver (n : Nat) (o : Nat) (b1 : Nat) (f : Mm) : Option (Mm) :=
  lt (up f o 0 (f b1 0)) fun f1 =>
  lt (up f1 o 1 (f1 b1 1)) fun f3 =>
  lt (cpR f3 (b1 + 1) (o + 1) (nI 0) (nI 0) (nI 24)) fun f5 =>
  some f5
set_option maxHeartbeats 4000000 in
set_option maxRecDepth 100000 in
theorem kX5_takeOver {l : Launch} {G : GE} {N : Nat} {f m : Mm} {n : Nat} {o : Nat} {b1 : Nat} {g : Mm} (ho : rg 5 o) (hb1 : rg 5 b1) (hf : fX5_takeOver n o b1 f = some g) : MT l G yX5_takeOver cX5_takeOver 2 none rmX5_takeOver [.ref (gz G + o), .ref (gz G + b1)] N f m none N g m := by
  unfold fX5_takeOver at hf
  refine MT.of (by decide) (Nat.le_of_ble_eq_true rfl) (fun V ls hV hR B hl => ?_)
  have B : CX V G cX5_takeOver 2 "FluxWatch$Sheet" none := B
  have hl : lv_has ls 2 [(0, .ref (gz G + o)), (1, .ref (gz G + b1))] := hl
  show WX V G N f m 0 0 (QQ V G none N g m 0 0) 0 ls []
  refine x_aload_n B dX5_takeOver_0 rfl (lv_at hl 0 rfl) ?_
  refine x_aload_n B dX5_takeOver_1 rfl (lv_at hl 1 rfl) ?_
  refine y_getFi (C := RX5) (T := TX5) (NN := 3) B (hb1.at0 rfl) inX5 rfl (j := 0) (by decide) q_263 rfl rfl dX5_takeOver_2 ?_
  refine x_putF (C := RX5) (T := TX5) (NN := 3) (ty0 := tyX5) (ty := .int) B (ho.at0 rfl) inX5 tyX5_ok nmX5 rfl (j := 0) (by decide) q_263 rfl rfl rfl rfl rfl rfl dX5_takeOver_5 (fun f1 e2 => ?_)
  have hf := lt_some hf e2
  refine x_aload_n B dX5_takeOver_8 rfl (lv_at hl 0 rfl) ?_
  refine x_aload_n B dX5_takeOver_9 rfl (lv_at hl 1 rfl) ?_
  refine y_getFi (C := RX5) (T := TX5) (NN := 3) B (hb1.at0 rfl) inX5 rfl (j := 1) (by decide) q_265 rfl rfl dX5_takeOver_10 ?_
  refine x_putF (C := RX5) (T := TX5) (NN := 3) (ty0 := tyX5) (ty := .int) B (ho.at0 rfl) inX5 tyX5_ok nmX5 rfl (j := 1) (by decide) q_265 rfl rfl rfl rfl rfl rfl dX5_takeOver_13 (fun f3 e4 => ?_)
  have hf := lt_some hf e4
  refine x_aload_n B dX5_takeOver_16 rfl (lv_at hl 1 rfl) ?_
  refine y_getFs (C := RX5) (T := TX5) (NN := 3) (d := 1) B (hb1.at0 rfl) inX5 rfl (j := 2) (by decide) q_267 rfl rfl (by decide) dX5_takeOver_17 ?_
  refine x_iconst (v := (nI 0)) B dX5_takeOver_20 (by decide) ?_
  refine x_aload_n B dX5_takeOver_21 rfl (lv_at hl 0 rfl) ?_
  refine y_getFs (C := RX5) (T := TX5) (NN := 3) (d := 1) B (ho.at0 rfl) inX5 rfl (j := 2) (by decide) q_267 rfl rfl (by decide) dX5_takeOver_22 ?_
  refine x_iconst (v := (nI 0)) B dX5_takeOver_25 (by decide) ?_
  refine x_bipush (v := (nI 24)) B dX5_takeOver_26 (by decide) ?_
  refine x_copyF B (hb1.at 1 rfl) (ho.at 1 rfl) (by decide) q_1045 q_580 q_579 q_58 hl.1 (by rw [hR]; decide) (by rw [hR]; decide) (Nat.le_of_ble_eq_true rfl) dX5_takeOver_28 (fun f5 e6 => ?_)
  have hf := lt_some hf e6
  obtain rfl := rt1 hf
  exact x_vret B dX5_takeOver_31
def rmX11_lay : Room := { frames := 2, cells := 0, slots := 0, locals := 89 }
set_option maxHeartbeats 4000000 in
set_option maxRecDepth 100000 in
theorem cw_X11_lay_X11_isSheet : cwB rmX11_lay rmX11_isSheet yX11_isSheet cX11_isSheet 1 (some .boolean) 1 := ⟨q_905, q_45, by decide, by decide⟩
set_option maxHeartbeats 4000000 in
set_option maxRecDepth 100000 in
theorem cw_X11_lay_X11_isSlot : cwB rmX11_lay rmX11_isSlot yX11_isSlot cX11_isSlot 1 (some .boolean) 1 := ⟨q_1040, q_45, by decide, by decide⟩
set_option maxHeartbeats 4000000 in
set_option maxRecDepth 100000 in
theorem cw_X11_lay_X5_isMissing : cwB rmX11_lay rmX5_isMissing yX5_isMissing cX5_isMissing 1 (some .boolean) 0 := ⟨q_909, q_52, by decide, by decide⟩
set_option maxHeartbeats 4000000 in
set_option maxRecDepth 100000 in
theorem cw_X11_lay_X5_takeOver : cwB rmX11_lay rmX5_takeOver yX5_takeOver cX5_takeOver 2 none 1 := ⟨q_1044, q_52, by decide, by decide⟩
set_option maxHeartbeats 4000000 in
set_option maxRecDepth 100000 in
theorem cw_X11_lay_X8_has : cwB rmX11_lay rmX8_has yX8_has cX8_has 2 (some .boolean) 1 := ⟨q_531, q_50, by decide, by decide⟩
def fX11_lay_74 (n : Nat)   (x1 : Int32) (x2 : Int32) (x3 : Int32) (f : Mm) : Option (Int32 × Mm) :=
  gd (ib x1 5) <|
  lt (f (82 + 1 + 3 * x1.toNatClampNeg) 0) fun v20 =>
  lt (up f (82 + 1 + 3 * x1.toNatClampNeg) 0 x2) fun f22 =>
  if x2 = (nI 1) then (
  gd (ib x3 40) <|
  lt (up f22 (82 + 1 + 3 * x1.toNatClampNeg) 1 (f22 11 x3.toNatClampNeg)) fun f26 =>
  gd (ib x3 40) <|
  lt (up f26 (82 + 1 + 3 * x1.toNatClampNeg) 2 (f26 14 x3.toNatClampNeg)) fun f29 =>
  some (v20, f29)) else (
  if x2 = (nI 2) then (
  gd (ib x3 4) <|
  bn (fX5_takeOver n (82 + 1 + 3 * x1.toNatClampNeg + 1) (73 + 1 + 2 * x3.toNatClampNeg) f22) fun f34 =>
  some (v20, f34)) else (
  lt (up f22 (82 + 1 + 3 * x1.toNatClampNeg) 3 x3) fun f35 =>
  some (v20, f35)))
set_option maxHeartbeats 4000000 in
set_option maxRecDepth 100000 in
theorem fX11_lay_74_ok {V : VE} {G : GE} {N : Nat} {f m : Mm} {n : Nat} {ls : Array Slot} {r : Int32} {g : Mm} (B : CX V G cX11_lay 6 "FluxWatch" (some .int)) (hR : V.2.2.2.1 = rmX11_lay)   {x1 : Int32} {x2 : Int32} {x3 : Int32}  (hl : lv_has ls 6 [(0, .ref (gz G + 0)), (1, .int x1), (2, .int x2), (3, .int x3)]) (hf : fX11_lay_74 n  x1 x2 x3 f = some (r, g)) : WX V G N f m 0 0 (QQ V G (some (.int r)) N g m 0 0) 74 ls [] := by
  unfold fX11_lay_74 at hf
  refine x_aload_n B dX11_lay_74 rfl (lv_at hl 0 rfl) ?_
  refine y_getFs (C := RX11) (T := TX11) (NN := 10) (d := 82) B (rg_11_0.at0 rfl) inX11 rfl (j := 5) (by decide) q_393 rfl rfl (by decide) dX11_lay_75 ?_
  refine x_iload_n B dX11_lay_78 rfl (lv_at hl 1 rfl) ?_
  obtain ⟨h19, hf⟩ := gd_some hf
  refine x_aaldT B (rg_11_0.at 82 rfl) h19 dX11_lay_79 ?_
  refine x_astore (lv' := [(4, .ref (gz G + (82 + 1 + 3 * x1.toNatClampNeg))), (0, .ref (gz G + 0)), (1, .int x1), (2, .int x2), (3, .int x3)]) B dX11_lay_80 hl (by decide) rfl (fun ls hl => ?_)
  refine x_aload B dX11_lay_82 (lv_at hl 0 rfl) ?_
  refine y_getFi (C := RX6) (T := TX6) (NN := 5) B ((rg_slo h19).at0 rfl) inX6 rfl (j := 0) (by decide) q_286 rfl rfl dX11_lay_84 ?_
  refine x_nm (fun v20 e21 => ?_)
  have hf := lt_some hf e21
  refine x_istore (lv' := [(5, .int v20), (4, .ref (gz G + (82 + 1 + 3 * x1.toNatClampNeg))), (0, .ref (gz G + 0)), (1, .int x1), (2, .int x2), (3, .int x3)]) B dX11_lay_87 hl (by decide) rfl (fun ls hl => ?_)
  refine x_aload B dX11_lay_89 (lv_at hl 1 rfl) ?_
  refine x_iload_n B dX11_lay_91 rfl (lv_at hl 4 rfl) ?_
  refine x_putF (C := RX6) (T := TX6) (NN := 5) (ty0 := tyX6) (ty := .int) B ((rg_slo h19).at0 rfl) inX6 tyX6_ok nmX6 rfl (j := 0) (by decide) q_286 rfl rfl rfl rfl rfl rfl dX11_lay_92 (fun f22 e23 => ?_)
  have hf := lt_some hf e23
  refine x_iload_n B dX11_lay_95 rfl (lv_at hl 4 rfl) ?_
  refine x_iconst (v := (nI 1)) B dX11_lay_96 (by decide) ?_
  refine x_icmp_ne (tgt := 137) B dX11_lay_97 (by decide) (fun h24 => ?_) (fun h24 => ?_)
  · have hf := ip h24 hf
    refine x_aload B dX11_lay_100 (lv_at hl 1 rfl) ?_
    refine x_aload_n B dX11_lay_102 rfl (lv_at hl 2 rfl) ?_
    refine y_getFs (C := RX11) (T := TX11) (NN := 10) (d := 1) B (rg_11_0.at0 rfl) inX11 rfl (j := 0) (by decide) q_388 rfl rfl (by decide) dX11_lay_103 ?_
    refine y_getFs (C := RX10) (T := TX10) (NN := 16) (d := 9) B (rg_10_1.at0 rfl) inX10 rfl (j := 8) (by decide) q_208 rfl rfl (by decide) dX11_lay_106 ?_
    refine y_getFs (C := RX8) (T := TX8) (NN := 5) (d := 1) B (rg_8_10.at0 rfl) inX8 rfl (j := 0) (by decide) q_140 rfl rfl (by decide) dX11_lay_109 ?_
    refine x_iload_n B dX11_lay_112 rfl (lv_at hl 5 rfl) ?_
    obtain ⟨h25, hf⟩ := gd_some hf
    refine x_ialdF B (rg_8_10.at 1 rfl) h25 dX11_lay_113 ?_
    refine x_putF (C := RX6) (T := TX6) (NN := 5) (ty0 := tyX6) (ty := .int) B ((rg_slo h19).at0 rfl) inX6 tyX6_ok nmX6 rfl (j := 1) (by decide) q_287 rfl rfl rfl rfl rfl rfl dX11_lay_114 (fun f26 e27 => ?_)
    have hf := lt_some hf e27
    refine x_aload B dX11_lay_117 (lv_at hl 1 rfl) ?_
    refine x_aload_n B dX11_lay_119 rfl (lv_at hl 2 rfl) ?_
    refine y_getFs (C := RX11) (T := TX11) (NN := 10) (d := 1) B (rg_11_0.at0 rfl) inX11 rfl (j := 0) (by decide) q_388 rfl rfl (by decide) dX11_lay_120 ?_
    refine y_getFs (C := RX10) (T := TX10) (NN := 16) (d := 9) B (rg_10_1.at0 rfl) inX10 rfl (j := 8) (by decide) q_208 rfl rfl (by decide) dX11_lay_123 ?_
    refine y_getFs (C := RX8) (T := TX8) (NN := 5) (d := 4) B (rg_8_10.at0 rfl) inX8 rfl (j := 3) (by decide) q_149 rfl rfl (by decide) dX11_lay_126 ?_
    refine x_iload_n B dX11_lay_129 rfl (lv_at hl 5 rfl) ?_
    obtain ⟨h28, hf⟩ := gd_some hf
    refine x_ialdF B (rg_8_10.at 4 rfl) h28 dX11_lay_130 ?_
    refine x_putF (C := RX6) (T := TX6) (NN := 5) (ty0 := tyX6) (ty := .int) B ((rg_slo h19).at0 rfl) inX6 tyX6_ok nmX6 rfl (j := 2) (by decide) q_288 rfl rfl rfl rfl rfl rfl dX11_lay_131 (fun f29 e30 => ?_)
    have hf := lt_some hf e30
    refine x_goto (tgt := 165) B dX11_lay_134 (by decide) ?_
    refine x_iload B dX11_lay_165 (lv_at hl 0 rfl) ?_
    obtain ⟨rfl, rfl⟩ := rt2 hf
    exact x_iret B dX11_lay_167
  · have hf := iq h24 hf
    refine x_iload_n B dX11_lay_137 rfl (lv_at hl 4 rfl) ?_
    refine x_iconst (v := (nI 2)) B dX11_lay_138 (by decide) ?_
    refine x_icmp_ne (tgt := 159) B dX11_lay_139 (by decide) (fun h31 => ?_) (fun h31 => ?_)
    · have hf := ip h31 hf
      refine x_aload B dX11_lay_142 (lv_at hl 1 rfl) ?_
      refine y_getFs (C := RX6) (T := TX6) (NN := 5) (d := 1) B ((rg_slo h19).at0 rfl) inX6 rfl (j := 4) (by decide) q_291 rfl rfl (by decide) dX11_lay_144 ?_
      refine x_aload_n B dX11_lay_147 rfl (lv_at hl 2 rfl) ?_
      refine y_getFs (C := RX11) (T := TX11) (NN := 10) (d := 73) B (rg_11_0.at0 rfl) inX11 rfl (j := 4) (by decide) q_392 rfl rfl (by decide) dX11_lay_148 ?_
      refine x_iload_n B dX11_lay_151 rfl (lv_at hl 5 rfl) ?_
      obtain ⟨h32, hf⟩ := gd_some hf
      refine x_aaldS B (rg_11_0.at 73 rfl) h32 dX11_lay_152 ?_
      obtain ⟨f34, c33, hf⟩ := bn_some hf
      refine x_callV0 (rest := []) B (kX5_takeOver (rs_6_1_5 (rg_slo h19)) (rg_she h32) c33) ⟨rfl, rfl⟩ ((rs_6_1_5 (rg_slo h19)).at0 (N := N) rfl).lt ((rs_6_1_5 (rg_slo h19)).at0 (N := N) rfl).2 rfl (by decide) q_1041 q_1042 q_1043 (by rw [hR]; exact cw_X11_lay_X5_takeOver) rfl rfl hl.1 (Nat.le_of_ble_eq_true rfl) dX11_lay_153 ⟨Nat.zero_le _, Nat.zero_le _⟩ ?_
      refine x_goto (tgt := 165) B dX11_lay_156 (by decide) ?_
      refine x_iload B dX11_lay_165 (lv_at hl 0 rfl) ?_
      obtain ⟨rfl, rfl⟩ := rt2 hf
      exact x_iret B dX11_lay_167
    · have hf := iq h31 hf
      refine x_aload B dX11_lay_159 (lv_at hl 1 rfl) ?_
      refine x_iload_n B dX11_lay_161 rfl (lv_at hl 5 rfl) ?_
      refine x_putF (C := RX6) (T := TX6) (NN := 5) (ty0 := tyX6) (ty := .int) B ((rg_slo h19).at0 rfl) inX6 tyX6_ok nmX6 rfl (j := 3) (by decide) q_289 rfl rfl rfl rfl rfl rfl dX11_lay_162 (fun f35 e36 => ?_)
      have hf := lt_some hf e36
      refine x_iload B dX11_lay_165 (lv_at hl 0 rfl) ?_
      obtain ⟨rfl, rfl⟩ := rt2 hf
      exact x_iret B dX11_lay_167
def fX11_lay_53 (n : Nat)   (x1 : Int32) (x2 : Int32) (x3 : Int32) (f : Mm) : Option (Int32 × Mm) :=
  if x2 = (nI 2) then (
  gd (ib x3 4) <|
  bn (fX5_isMissing n (73 + 1 + 2 * x3.toNatClampNeg) f) fun r17 =>
  if r17 = 0 then (
  fX11_lay_74 n x1 x2 x3 f) else (
  some ((-1000000011 : Int32), f))) else (
  fX11_lay_74 n x1 x2 x3 f)
set_option maxHeartbeats 4000000 in
set_option maxRecDepth 100000 in
theorem fX11_lay_53_ok {V : VE} {G : GE} {N : Nat} {f m : Mm} {n : Nat} {ls : Array Slot} {r : Int32} {g : Mm} (B : CX V G cX11_lay 6 "FluxWatch" (some .int)) (hR : V.2.2.2.1 = rmX11_lay)   {x1 : Int32} {x2 : Int32} {x3 : Int32}  (hl : lv_has ls 6 [(0, .ref (gz G + 0)), (1, .int x1), (2, .int x2), (3, .int x3)]) (hf : fX11_lay_53 n  x1 x2 x3 f = some (r, g)) : WX V G N f m 0 0 (QQ V G (some (.int r)) N g m 0 0) 53 ls [] := by
  unfold fX11_lay_53 at hf
  refine x_iload_n B dX11_lay_53 rfl (lv_at hl 2 rfl) ?_
  refine x_iconst (v := (nI 2)) B dX11_lay_54 (by decide) ?_
  refine x_icmp_ne (tgt := 74) B dX11_lay_55 (by decide) (fun h14 => ?_) (fun h14 => ?_)
  · have hf := ip h14 hf
    refine x_aload_n B dX11_lay_58 rfl (lv_at hl 0 rfl) ?_
    refine y_getFs (C := RX11) (T := TX11) (NN := 10) (d := 73) B (rg_11_0.at0 rfl) inX11 rfl (j := 4) (by decide) q_392 rfl rfl (by decide) dX11_lay_59 ?_
    refine x_iload_n B dX11_lay_62 rfl (lv_at hl 3 rfl) ?_
    obtain ⟨h15, hf⟩ := gd_some hf
    refine x_aaldS B (rg_11_0.at 73 rfl) h15 dX11_lay_63 ?_
    obtain ⟨r17, c16, hf⟩ := bn_some hf
    refine x_callV0 (rest := []) B (kX5_isMissing (rg_she h15) c16) ⟨rfl, rfl⟩ ((rg_she h15).at0 (N := N) rfl).lt ((rg_she h15).at0 (N := N) rfl).2 rfl (by decide) q_906 q_907 q_908 (by rw [hR]; exact cw_X11_lay_X5_isMissing) rfl rfl hl.1 (Nat.le_of_ble_eq_true rfl) dX11_lay_64 ⟨Nat.zero_le _, Nat.zero_le _⟩ ?_
    refine x_if_eq (tgt := 74) B dX11_lay_67 (by decide) (fun h18 => ?_) (fun h18 => ?_)
    · have hf := ip h18 hf
      exact fX11_lay_74_ok B hR  hl hf
    · have hf := iq h18 hf
      refine x_ldc_w (v := (-1000000011 : Int32)) B q_910 dX11_lay_70 ?_
      obtain ⟨rfl, rfl⟩ := rt2 hf
      exact x_iret B dX11_lay_73
  · have hf := iq h14 hf
    exact fX11_lay_74_ok B hR  hl hf
def fX11_lay_38 (n : Nat)   (x1 : Int32) (x2 : Int32) (x3 : Int32) (f : Mm) : Option (Int32 × Mm) :=
  if x2 = (nI 2) then (
  bn (fX11_isSheet n x3) fun r12 =>
  if r12 = 0 then (
  some ((-1000000001 : Int32), f)) else (
  fX11_lay_53 n x1 x2 x3 f)) else (
  fX11_lay_53 n x1 x2 x3 f)
set_option maxHeartbeats 4000000 in
set_option maxRecDepth 100000 in
theorem fX11_lay_38_ok {V : VE} {G : GE} {N : Nat} {f m : Mm} {n : Nat} {ls : Array Slot} {r : Int32} {g : Mm} (B : CX V G cX11_lay 6 "FluxWatch" (some .int)) (hR : V.2.2.2.1 = rmX11_lay)   {x1 : Int32} {x2 : Int32} {x3 : Int32}  (hl : lv_has ls 6 [(0, .ref (gz G + 0)), (1, .int x1), (2, .int x2), (3, .int x3)]) (hf : fX11_lay_38 n  x1 x2 x3 f = some (r, g)) : WX V G N f m 0 0 (QQ V G (some (.int r)) N g m 0 0) 38 ls [] := by
  unfold fX11_lay_38 at hf
  refine x_iload_n B dX11_lay_38 rfl (lv_at hl 2 rfl) ?_
  refine x_iconst (v := (nI 2)) B dX11_lay_39 (by decide) ?_
  refine x_icmp_ne (tgt := 53) B dX11_lay_40 (by decide) (fun h10 => ?_) (fun h10 => ?_)
  · have hf := ip h10 hf
    refine x_iload_n B dX11_lay_43 rfl (lv_at hl 3 rfl) ?_
    obtain ⟨r12, c11, hf⟩ := bn_some hf
    refine x_callS0 (rest := []) B (kX11_isSheet c11) ⟨rfl, rfl⟩ q_903 q_904 (by rw [hR]; exact cw_X11_lay_X11_isSheet) rfl rfl hl.1 (Nat.le_of_ble_eq_true rfl) dX11_lay_44 ⟨Nat.zero_le _, Nat.zero_le _⟩ ?_
    refine x_if_ne (tgt := 53) B dX11_lay_47 (by decide) (fun h13 => ?_) (fun h13 => ?_)
    · have hf := ip h13 hf
      refine x_ldc (v := (-1000000001 : Int32)) B q_432 dX11_lay_50 ?_
      obtain ⟨rfl, rfl⟩ := rt2 hf
      exact x_iret B dX11_lay_52
    · have hf := iq h13 hf
      exact fX11_lay_53_ok B hR  hl hf
  · have hf := iq h10 hf
    exact fX11_lay_53_ok B hR  hl hf
def fX11_lay (n : Nat) (a1 : Int32) (a2 : Int32) (a3 : Int32) (f : Mm) : Option (Int32 × Mm) :=
  bn (fX11_isSlot n a1) fun r2 =>
  if r2 = 0 then (
  some ((-1000000001 : Int32), f)) else (
  if a2 < 0 then (
  some ((-1000000001 : Int32), f)) else (
  if a2 ≤ (nI 3) then (
  if a2 = (nI 1) then (
  bn (fX8_has n 10 a3 f) fun r8 =>
  if r8 = 0 then (
  some ((-1000000001 : Int32), f)) else (
  fX11_lay_38 n a1 a2 a3 f)) else (
  fX11_lay_38 n a1 a2 a3 f)) else (
  some ((-1000000001 : Int32), f))))
set_option maxHeartbeats 4000000 in
set_option maxRecDepth 100000 in
theorem kX11_lay {l : Launch} {G : GE} {N : Nat} {f m : Mm} {n : Nat} {a1 : Int32} {a2 : Int32} {a3 : Int32} {r : Int32} {g : Mm}  (hf : fX11_lay n a1 a2 a3 f = some (r, g)) : MT l G yX11_lay cX11_lay 6 (some .int) rmX11_lay [.ref (gz G + 0), .int a1, .int a2, .int a3] N f m (some (.int r)) N g m := by
  unfold fX11_lay at hf
  refine MT.of (by decide) (Nat.le_of_ble_eq_true rfl) (fun V ls hV hR B hl => ?_)
  have B : CX V G cX11_lay 6 "FluxWatch" (some .int) := B
  have hl : lv_has ls 6 [(0, .ref (gz G + 0)), (1, .int a1), (2, .int a2), (3, .int a3)] := hl
  show WX V G N f m 0 0 (QQ V G (some (.int r)) N g m 0 0) 0 ls []
  refine x_iload_n B dX11_lay_0 rfl (lv_at hl 1 rfl) ?_
  obtain ⟨r2, c1, hf⟩ := bn_some hf
  refine x_callS0 (rest := []) B (kX11_isSlot c1) ⟨rfl, rfl⟩ q_1038 q_1039 (by rw [hR]; exact cw_X11_lay_X11_isSlot) rfl rfl hl.1 (Nat.le_of_ble_eq_true rfl) dX11_lay_1 ⟨Nat.zero_le _, Nat.zero_le _⟩ ?_
  refine x_if_eq (tgt := 16) B dX11_lay_4 (by decide) (fun h3 => ?_) (fun h3 => ?_)
  · have hf := ip h3 hf
    refine x_ldc (v := (-1000000001 : Int32)) B q_432 dX11_lay_16 ?_
    obtain ⟨rfl, rfl⟩ := rt2 hf
    exact x_iret B dX11_lay_18
  · have hf := iq h3 hf
    refine x_iload_n B dX11_lay_7 rfl (lv_at hl 2 rfl) ?_
    refine x_if_lt (tgt := 16) B dX11_lay_8 (by decide) (fun h4 => ?_) (fun h4 => ?_)
    · have hf := ip h4 hf
      refine x_ldc (v := (-1000000001 : Int32)) B q_432 dX11_lay_16 ?_
      obtain ⟨rfl, rfl⟩ := rt2 hf
      exact x_iret B dX11_lay_18
    · have hf := iq h4 hf
      refine x_iload_n B dX11_lay_11 rfl (lv_at hl 2 rfl) ?_
      refine x_iconst (v := (nI 3)) B dX11_lay_12 (by decide) ?_
      refine x_icmp_le (tgt := 19) B dX11_lay_13 (by decide) (fun h5 => ?_) (fun h5 => ?_)
      · have hf := ip h5 hf
        refine x_iload_n B dX11_lay_19 rfl (lv_at hl 2 rfl) ?_
        refine x_iconst (v := (nI 1)) B dX11_lay_20 (by decide) ?_
        refine x_icmp_ne (tgt := 38) B dX11_lay_21 (by decide) (fun h6 => ?_) (fun h6 => ?_)
        · have hf := ip h6 hf
          refine x_aload_n B dX11_lay_24 rfl (lv_at hl 0 rfl) ?_
          refine y_getFs (C := RX11) (T := TX11) (NN := 10) (d := 1) B (rg_11_0.at0 rfl) inX11 rfl (j := 0) (by decide) q_388 rfl rfl (by decide) dX11_lay_25 ?_
          refine y_getFs (C := RX10) (T := TX10) (NN := 16) (d := 9) B (rg_10_1.at0 rfl) inX10 rfl (j := 8) (by decide) q_208 rfl rfl (by decide) dX11_lay_28 ?_
          refine x_iload_n B dX11_lay_31 rfl (lv_at hl 3 rfl) ?_
          obtain ⟨r8, c7, hf⟩ := bn_some hf
          refine x_callV0 (rest := []) B (kX8_has rg_8_10 c7) ⟨rfl, rfl⟩ (rg_8_10.at0 (N := N) rfl).lt (rg_8_10.at0 (N := N) rfl).2 rfl (by decide) q_528 q_529 q_530 (by rw [hR]; exact cw_X11_lay_X8_has) rfl rfl hl.1 (Nat.le_of_ble_eq_true rfl) dX11_lay_32 ⟨Nat.zero_le _, Nat.zero_le _⟩ ?_
          refine x_if_eq (tgt := 50) B dX11_lay_35 (by decide) (fun h9 => ?_) (fun h9 => ?_)
          · have hf := ip h9 hf
            refine x_ldc (v := (-1000000001 : Int32)) B q_432 dX11_lay_50 ?_
            obtain ⟨rfl, rfl⟩ := rt2 hf
            exact x_iret B dX11_lay_52
          · have hf := iq h9 hf
            exact fX11_lay_38_ok B hR  hl hf
        · have hf := iq h6 hf
          exact fX11_lay_38_ok B hR  hl hf
      · have hf := iq h5 hf
        refine x_ldc (v := (-1000000001 : Int32)) B q_432 dX11_lay_16 ?_
        obtain ⟨rfl, rfl⟩ := rt2 hf
        exact x_iret B dX11_lay_18
def rmX8_heightUpTo : Room := { frames := 0, cells := 0, slots := 0, locals := 0 }
def fX8_heightUpTo_46 (n : Nat) (o : Nat) (k5 : Int32 → Int32 → Int32 → Int32 → Mm → Option (Int32)) (x1 : Int32) (x2 : Int32) (x3 : Int32) (x4 : Int32) (f : Mm) : Option (Int32) :=
  k5 x1 x2 x3 (x4 + (nI 1)) f
set_option maxHeartbeats 4000000 in
set_option maxRecDepth 100000 in
theorem fX8_heightUpTo_46_ok {V : VE} {G : GE} {N : Nat} {f m : Mm} {n : Nat} {ls : Array Slot} {o : Nat} {r : Int32} (B : CX V G cX8_heightUpTo 5 "FluxWatch$Steps" (some .int)) (hR : V.2.2.2.1 = rmX8_heightUpTo) (ho : rg 8 o) {k5 : Int32 → Int32 → Int32 → Int32 → Mm → Option (Int32)} (hk5 : ∀ (x1 : Int32) (x2 : Int32) (x3 : Int32) (x4 : Int32) (mm : Mm) (ls : Array Slot),  lv_has ls 5 [(0, .ref (gz G + o)), (1, .int x1), (2, .int x2), (3, .int x3), (4, .int x4)] → k5 x1 x2 x3 x4 mm = some r → WX V G N mm m 0 0 (QQ V G (some (.int r)) N mm m 0 0) 5 ls []) {x1 : Int32} {x2 : Int32} {x3 : Int32} {x4 : Int32}  (hl : lv_has ls 5 [(0, .ref (gz G + o)), (1, .int x1), (2, .int x2), (3, .int x3), (4, .int x4)]) (hf : fX8_heightUpTo_46 n o k5 x1 x2 x3 x4 f = some r) : WX V G N f m 0 0 (QQ V G (some (.int r)) N f m 0 0) 46 ls [] := by
  unfold fX8_heightUpTo_46 at hf
  refine x_iinc (k := 4) (v := (nI 1)) (lv' := [(4, .int (x4 + (nI 1))), (0, .ref (gz G + o)), (1, .int x1), (2, .int x2), (3, .int x3)]) B dX8_heightUpTo_46 hl rfl (by decide) (by decide) rfl (fun ls hl => ?_)
  refine x_goto (tgt := 5) B dX8_heightUpTo_49 (by decide) ?_
  exact hk5 _ _ _ _ _ _ (lv_sub hl [1, 2, 3, 4, 0] rfl) hf
def fX8_heightUpTo_5 (n : Nat) (o : Nat)  (k5 : Int32 → Int32 → Int32 → Int32 → Mm → Option (Int32)) (x1 : Int32) (x2 : Int32) (x3 : Int32) (x4 : Int32) (f : Mm) : Option (Int32) :=
  if (f o 4) ≤ x4 then (
  some x3) else (
  gd (ib x4 40) <|
  if (f (o + 2) x4.toNatClampNeg) = x1 then (
  gd (ib x4 40) <|
  if x2 < (f (o + 3) x4.toNatClampNeg) then (
  fX8_heightUpTo_46 n o k5 x1 x2 x3 x4 f) else (
  gd (ib x4 40) <|
  lt (x3 + (f (o + 4) x4.toNatClampNeg)) fun v7 =>
  fX8_heightUpTo_46 n o k5 x1 x2 v7 x4 f)) else (
  fX8_heightUpTo_46 n o k5 x1 x2 x3 x4 f))
def fX8_heightUpTo_5L (n : Nat) (o : Nat)  : Nat → Int32 → Int32 → Int32 → Int32 → Mm → Option (Int32)
  | 0 => fun _ _ _ _ _ => none
  | q + 1 => fX8_heightUpTo_5 n o  (fX8_heightUpTo_5L n o  q)
set_option maxHeartbeats 4000000 in
set_option maxRecDepth 100000 in
theorem fX8_heightUpTo_5_ok {V : VE} {G : GE} {N : Nat} {f m : Mm} {n : Nat} {ls : Array Slot} {o : Nat} {r : Int32} (B : CX V G cX8_heightUpTo 5 "FluxWatch$Steps" (some .int)) (hR : V.2.2.2.1 = rmX8_heightUpTo) (ho : rg 8 o)  {k5 : Int32 → Int32 → Int32 → Int32 → Mm → Option (Int32)} (hk5 : ∀ (x1 : Int32) (x2 : Int32) (x3 : Int32) (x4 : Int32) (mm : Mm) (ls : Array Slot),  lv_has ls 5 [(0, .ref (gz G + o)), (1, .int x1), (2, .int x2), (3, .int x3), (4, .int x4)] → k5 x1 x2 x3 x4 mm = some r → WX V G N mm m 0 0 (QQ V G (some (.int r)) N mm m 0 0) 5 ls []) {x1 : Int32} {x2 : Int32} {x3 : Int32} {x4 : Int32}  (hl : lv_has ls 5 [(0, .ref (gz G + o)), (1, .int x1), (2, .int x2), (3, .int x3), (4, .int x4)]) (hf : fX8_heightUpTo_5 n o k5 x1 x2 x3 x4 f = some r) : WX V G N f m 0 0 (QQ V G (some (.int r)) N f m 0 0) 5 ls [] := by
  unfold fX8_heightUpTo_5 at hf
  refine x_iload B dX8_heightUpTo_5 (lv_at hl 4 rfl) ?_
  refine x_aload_n B dX8_heightUpTo_7 rfl (lv_at hl 0 rfl) ?_
  refine y_getFi (C := RX8) (T := TX8) (NN := 5) B (ho.at0 rfl) inX8 rfl (j := 4) (by decide) q_151 rfl rfl dX8_heightUpTo_8 ?_
  refine x_icmp_ge (tgt := 52) B dX8_heightUpTo_11 (by decide) (fun h1 => ?_) (fun h1 => ?_)
  · have hf := ip h1 hf
    refine x_iload_n B dX8_heightUpTo_52 rfl (lv_at hl 3 rfl) ?_
    obtain rfl := rt1 hf
    exact x_iret B dX8_heightUpTo_53
  · have hf := iq h1 hf
    refine x_aload_n B dX8_heightUpTo_14 rfl (lv_at hl 0 rfl) ?_
    refine y_getFs (C := RX8) (T := TX8) (NN := 5) (d := 2) B (ho.at0 rfl) inX8 rfl (j := 1) (by decide) q_142 rfl rfl (by decide) dX8_heightUpTo_15 ?_
    refine x_iload B dX8_heightUpTo_18 (lv_at hl 4 rfl) ?_
    obtain ⟨h2, hf⟩ := gd_some hf
    refine x_ialdF B (ho.at 2 rfl) h2 dX8_heightUpTo_20 ?_
    refine x_iload_n B dX8_heightUpTo_21 rfl (lv_at hl 1 rfl) ?_
    refine x_icmp_ne (tgt := 46) B dX8_heightUpTo_22 (by decide) (fun h3 => ?_) (fun h3 => ?_)
    · have hf := ip h3 hf
      refine x_aload_n B dX8_heightUpTo_25 rfl (lv_at hl 0 rfl) ?_
      refine y_getFs (C := RX8) (T := TX8) (NN := 5) (d := 3) B (ho.at0 rfl) inX8 rfl (j := 2) (by decide) q_145 rfl rfl (by decide) dX8_heightUpTo_26 ?_
      refine x_iload B dX8_heightUpTo_29 (lv_at hl 4 rfl) ?_
      obtain ⟨h4, hf⟩ := gd_some hf
      refine x_ialdF B (ho.at 3 rfl) h4 dX8_heightUpTo_31 ?_
      refine x_iload_n B dX8_heightUpTo_32 rfl (lv_at hl 2 rfl) ?_
      refine x_icmp_gt (tgt := 46) B dX8_heightUpTo_33 (by decide) (fun h5 => ?_) (fun h5 => ?_)
      · have hf := ip h5 hf
        exact fX8_heightUpTo_46_ok B hR ho hk5 hl hf
      · have hf := iq h5 hf
        refine x_iload_n B dX8_heightUpTo_36 rfl (lv_at hl 3 rfl) ?_
        refine x_aload_n B dX8_heightUpTo_37 rfl (lv_at hl 0 rfl) ?_
        refine y_getFs (C := RX8) (T := TX8) (NN := 5) (d := 4) B (ho.at0 rfl) inX8 rfl (j := 3) (by decide) q_148 rfl rfl (by decide) dX8_heightUpTo_38 ?_
        refine x_iload B dX8_heightUpTo_41 (lv_at hl 4 rfl) ?_
        obtain ⟨h6, hf⟩ := gd_some hf
        refine x_ialdF B (ho.at 4 rfl) h6 dX8_heightUpTo_43 ?_
        refine x_iadd B dX8_heightUpTo_44 ?_
        refine x_nm (fun v7 e8 => ?_)
        have hf := lt_some hf e8
        refine x_istore_n (lv' := [(3, .int v7), (0, .ref (gz G + o)), (1, .int x1), (2, .int x2), (4, .int x4)]) B dX8_heightUpTo_45 rfl hl (by decide) rfl (fun ls hl => ?_)
        exact fX8_heightUpTo_46_ok B hR ho hk5 (lv_sub hl [1, 2, 3, 0, 4] rfl) hf
    · have hf := iq h3 hf
      exact fX8_heightUpTo_46_ok B hR ho hk5 hl hf
set_option maxHeartbeats 4000000 in
set_option maxRecDepth 100000 in
theorem fX8_heightUpTo_5L_ok {V : VE} {G : GE} {N : Nat} {m : Mm} {n : Nat}  {o : Nat} {r : Int32} (B : CX V G cX8_heightUpTo 5 "FluxWatch$Steps" (some .int)) (hR : V.2.2.2.1 = rmX8_heightUpTo) (ho : rg 8 o)  : ∀ (q : Nat) (x1 : Int32) (x2 : Int32) (x3 : Int32) (x4 : Int32) (mm : Mm) (ls : Array Slot),  lv_has ls 5 [(0, .ref (gz G + o)), (1, .int x1), (2, .int x2), (3, .int x3), (4, .int x4)] → fX8_heightUpTo_5L n o q x1 x2 x3 x4 mm = some r → WX V G N mm m 0 0 (QQ V G (some (.int r)) N mm m 0 0) 5 ls [] := by
  intro q
  induction q with
  | zero =>
    intro x1 x2 x3 x4 mm ls hl hf
    cases hf
  | succ q ih =>
    intro x1 x2 x3 x4 mm ls hl hf
    exact fX8_heightUpTo_5_ok B hR ho  ih  hl hf
def fX8_heightUpTo (n : Nat) (o : Nat) (a1 : Int32) (a2 : Int32) (f : Mm) : Option (Int32) :=
  fX8_heightUpTo_5L n o n a1 a2 (nI 0) (nI 0) f
set_option maxHeartbeats 4000000 in
set_option maxRecDepth 100000 in
theorem kX8_heightUpTo {l : Launch} {G : GE} {N : Nat} {f m : Mm} {n : Nat} {o : Nat} {a1 : Int32} {a2 : Int32} {r : Int32} (ho : rg 8 o) (hf : fX8_heightUpTo n o a1 a2 f = some r) : MT l G yX8_heightUpTo cX8_heightUpTo 5 (some .int) rmX8_heightUpTo [.ref (gz G + o), .int a1, .int a2] N f m (some (.int r)) N f m := by
  unfold fX8_heightUpTo at hf
  refine MT.of (by decide) (Nat.le_of_ble_eq_true rfl) (fun V ls hV hR B hl => ?_)
  have B : CX V G cX8_heightUpTo 5 "FluxWatch$Steps" (some .int) := B
  have hl : lv_has ls 5 [(0, .ref (gz G + o)), (1, .int a1), (2, .int a2)] := hl
  show WX V G N f m 0 0 (QQ V G (some (.int r)) N f m 0 0) 0 ls []
  refine x_iconst (v := (nI 0)) B dX8_heightUpTo_0 (by decide) ?_
  refine x_istore_n (lv' := [(3, .int (nI 0)), (0, .ref (gz G + o)), (1, .int a1), (2, .int a2)]) B dX8_heightUpTo_1 rfl hl (by decide) rfl (fun ls hl => ?_)
  refine x_iconst (v := (nI 0)) B dX8_heightUpTo_2 (by decide) ?_
  refine x_istore (lv' := [(4, .int (nI 0)), (3, .int (nI 0)), (0, .ref (gz G + o)), (1, .int a1), (2, .int a2)]) B dX8_heightUpTo_3 hl (by decide) rfl (fun ls hl => ?_)
  exact fX8_heightUpTo_5L_ok B hR ho  n _ _ _ _ _ _ (lv_sub hl [2, 3, 4, 1, 0] rfl) hf
def rmX10_lineOf : Room := { frames := 1, cells := 0, slots := 0, locals := 24 }
set_option maxHeartbeats 4000000 in
set_option maxRecDepth 100000 in
theorem cw_X10_lineOf_X8_heightUpTo : cwB rmX10_lineOf rmX8_heightUpTo yX8_heightUpTo cX8_heightUpTo 5 (some .int) 2 := ⟨q_504, q_50, by decide, by decide⟩
def fX10_lineOf (n : Nat) (o : Nat) (a1 : Int32) (a2 : Int32) (f : Mm) : Option (Int32) :=
  gd (ib a1 6) <|
  bn (fX8_heightUpTo n (o + 9) a1 a2 f) fun r3 =>
  some (((f (o + 1 + 2) a1.toNatClampNeg) * a2) + r3)
set_option maxHeartbeats 4000000 in
set_option maxRecDepth 100000 in
theorem kX10_lineOf {l : Launch} {G : GE} {N : Nat} {f m : Mm} {n : Nat} {o : Nat} {a1 : Int32} {a2 : Int32} {r : Int32} (ho : rg 10 o) (hf : fX10_lineOf n o a1 a2 f = some r) : MT l G yX10_lineOf cX10_lineOf 3 (some .int) rmX10_lineOf [.ref (gz G + o), .int a1, .int a2] N f m (some (.int r)) N f m := by
  unfold fX10_lineOf at hf
  refine MT.of (by decide) (Nat.le_of_ble_eq_true rfl) (fun V ls hV hR B hl => ?_)
  have B : CX V G cX10_lineOf 3 "FluxWatch$World" (some .int) := B
  have hl : lv_has ls 3 [(0, .ref (gz G + o)), (1, .int a1), (2, .int a2)] := hl
  show WX V G N f m 0 0 (QQ V G (some (.int r)) N f m 0 0) 0 ls []
  refine x_aload_n B dX10_lineOf_0 rfl (lv_at hl 0 rfl) ?_
  refine y_getFs (C := RX10) (T := TX10) (NN := 16) (d := 1) B (ho.at0 rfl) inX10 rfl (j := 6) (by decide) q_203 rfl rfl (by decide) dX10_lineOf_1 ?_
  refine y_getFs (C := RX1) (T := TX1) (NN := 4) (d := 2) B ((rs_10_1_1 ho).at0 rfl) inX1 rfl (j := 1) (by decide) q_91 rfl rfl (by decide) dX10_lineOf_4 ?_
  refine x_iload_n B dX10_lineOf_7 rfl (lv_at hl 1 rfl) ?_
  obtain ⟨h1, hf⟩ := gd_some hf
  refine x_ialdF B ((rs_10_1_1 ho).at 2 rfl) h1 dX10_lineOf_8 ?_
  refine x_iload_n B dX10_lineOf_9 rfl (lv_at hl 2 rfl) ?_
  refine x_imul B dX10_lineOf_10 ?_
  refine x_aload_n B dX10_lineOf_11 rfl (lv_at hl 0 rfl) ?_
  refine y_getFs (C := RX10) (T := TX10) (NN := 16) (d := 9) B (ho.at0 rfl) inX10 rfl (j := 8) (by decide) q_207 rfl rfl (by decide) dX10_lineOf_12 ?_
  refine x_iload_n B dX10_lineOf_15 rfl (lv_at hl 1 rfl) ?_
  refine x_iload_n B dX10_lineOf_16 rfl (lv_at hl 2 rfl) ?_
  obtain ⟨r3, c2, hf⟩ := bn_some hf
  refine x_callV0 (rest := [.int ((f (o + 1 + 2) a1.toNatClampNeg) * a2)]) B (kX8_heightUpTo (rs_10_9_8 ho) c2) ⟨rfl, rfl⟩ ((rs_10_9_8 ho).at0 (N := N) rfl).lt ((rs_10_9_8 ho).at0 (N := N) rfl).2 rfl (by decide) q_501 q_502 q_503 (by rw [hR]; exact cw_X10_lineOf_X8_heightUpTo) rfl rfl hl.1 (Nat.le_of_ble_eq_true rfl) dX10_lineOf_17 ⟨Nat.zero_le _, Nat.zero_le _⟩ ?_
  refine x_iadd B dX10_lineOf_20 ?_
  obtain rfl := rt1 hf
  exact x_iret B dX10_lineOf_21
def rmX11_line : Room := { frames := 2, cells := 0, slots := 0, locals := 46 }
set_option maxHeartbeats 4000000 in
set_option maxRecDepth 100000 in
theorem cw_X11_line_X10_lineOf : cwB rmX11_line rmX10_lineOf yX10_lineOf cX10_lineOf 3 (some .int) 2 := ⟨q_500, q_46, by decide, by decide⟩
set_option maxHeartbeats 4000000 in
set_option maxRecDepth 100000 in
theorem cw_X11_line_X11_isDay : cwB rmX11_line rmX11_isDay yX11_isDay cX11_isDay 1 (some .boolean) 1 := ⟨q_476, q_45, by decide, by decide⟩
set_option maxHeartbeats 4000000 in
set_option maxRecDepth 100000 in
theorem cw_X11_line_X1_has : cwB rmX11_line rmX1_has yX1_has cX1_has 2 (some .boolean) 1 := ⟨q_440, q_47, by decide, by decide⟩
def fX11_line (n : Nat) (a1 : Int32) (a2 : Int32) (f : Mm) : Option (Int32) :=
  bn (fX1_has n 2 a1 f) fun r2 =>
  if r2 = 0 then (
  some (-1000000001 : Int32)) else (
  bn (fX11_isDay n a2) fun r5 =>
  if r5 = 0 then (
  some (-1000000001 : Int32)) else (
  bn (fX10_lineOf n 1 a1 a2 f) fun r8 =>
  some r8))
set_option maxHeartbeats 4000000 in
set_option maxRecDepth 100000 in
theorem kX11_line {l : Launch} {G : GE} {N : Nat} {f m : Mm} {n : Nat} {a1 : Int32} {a2 : Int32} {r : Int32}  (hf : fX11_line n a1 a2 f = some r) : MT l G yX11_line cX11_line 3 (some .int) rmX11_line [.ref (gz G + 0), .int a1, .int a2] N f m (some (.int r)) N f m := by
  unfold fX11_line at hf
  refine MT.of (by decide) (Nat.le_of_ble_eq_true rfl) (fun V ls hV hR B hl => ?_)
  have B : CX V G cX11_line 3 "FluxWatch" (some .int) := B
  have hl : lv_has ls 3 [(0, .ref (gz G + 0)), (1, .int a1), (2, .int a2)] := hl
  show WX V G N f m 0 0 (QQ V G (some (.int r)) N f m 0 0) 0 ls []
  refine x_aload_n B dX11_line_0 rfl (lv_at hl 0 rfl) ?_
  refine y_getFs (C := RX11) (T := TX11) (NN := 10) (d := 1) B (rg_11_0.at0 rfl) inX11 rfl (j := 0) (by decide) q_388 rfl rfl (by decide) dX11_line_1 ?_
  refine y_getFs (C := RX10) (T := TX10) (NN := 16) (d := 1) B (rg_10_1.at0 rfl) inX10 rfl (j := 6) (by decide) q_204 rfl rfl (by decide) dX11_line_4 ?_
  refine x_iload_n B dX11_line_7 rfl (lv_at hl 1 rfl) ?_
  obtain ⟨r2, c1, hf⟩ := bn_some hf
  refine x_callV0 (rest := []) B (kX1_has rg_1_2 c1) ⟨rfl, rfl⟩ (rg_1_2.at0 (N := N) rfl).lt (rg_1_2.at0 (N := N) rfl).2 rfl (by decide) q_437 q_438 q_439 (by rw [hR]; exact cw_X11_line_X1_has) rfl rfl hl.1 (Nat.le_of_ble_eq_true rfl) dX11_line_8 ⟨Nat.zero_le _, Nat.zero_le _⟩ ?_
  refine x_if_eq (tgt := 33) B dX11_line_11 (by decide) (fun h3 => ?_) (fun h3 => ?_)
  · have hf := ip h3 hf
    refine x_ldc (v := (-1000000001 : Int32)) B q_432 dX11_line_33 ?_
    obtain rfl := rt1 hf
    exact x_iret B dX11_line_35
  · have hf := iq h3 hf
    refine x_iload_n B dX11_line_14 rfl (lv_at hl 2 rfl) ?_
    obtain ⟨r5, c4, hf⟩ := bn_some hf
    refine x_callS0 (rest := []) B (kX11_isDay c4) ⟨rfl, rfl⟩ q_474 q_475 (by rw [hR]; exact cw_X11_line_X11_isDay) rfl rfl hl.1 (Nat.le_of_ble_eq_true rfl) dX11_line_15 ⟨Nat.zero_le _, Nat.zero_le _⟩ ?_
    refine x_if_eq (tgt := 33) B dX11_line_18 (by decide) (fun h6 => ?_) (fun h6 => ?_)
    · have hf := ip h6 hf
      refine x_ldc (v := (-1000000001 : Int32)) B q_432 dX11_line_33 ?_
      obtain rfl := rt1 hf
      exact x_iret B dX11_line_35
    · have hf := iq h6 hf
      refine x_aload_n B dX11_line_21 rfl (lv_at hl 0 rfl) ?_
      refine y_getFs (C := RX11) (T := TX11) (NN := 10) (d := 1) B (rg_11_0.at0 rfl) inX11 rfl (j := 0) (by decide) q_388 rfl rfl (by decide) dX11_line_22 ?_
      refine x_iload_n B dX11_line_25 rfl (lv_at hl 1 rfl) ?_
      refine x_iload_n B dX11_line_26 rfl (lv_at hl 2 rfl) ?_
      obtain ⟨r8, c7, hf⟩ := bn_some hf
      refine x_callV0 (rest := []) B (kX10_lineOf rg_10_1 c7) ⟨rfl, rfl⟩ (rg_10_1.at0 (N := N) rfl).lt (rg_10_1.at0 (N := N) rfl).2 rfl (by decide) q_497 q_498 q_499 (by rw [hR]; exact cw_X11_line_X10_lineOf) rfl rfl hl.1 (Nat.le_of_ble_eq_true rfl) dX11_line_27 ⟨Nat.zero_le _, Nat.zero_le _⟩ ?_
      refine x_goto (tgt := 35) B dX11_line_30 (by decide) ?_
      obtain rfl := rt1 hf
      exact x_iret B dX11_line_35
def rmX11_mark : Room := { frames := 1, cells := 0, slots := 0, locals := 21 }
set_option maxHeartbeats 4000000 in
set_option maxRecDepth 100000 in
theorem cw_X11_mark_X11_isSheet : cwB rmX11_mark rmX11_isSheet yX11_isSheet cX11_isSheet 1 (some .boolean) 1 := ⟨q_905, q_45, by decide, by decide⟩
set_option maxHeartbeats 4000000 in
set_option maxRecDepth 100000 in
theorem cw_X11_mark_X5_has : cwB rmX11_mark rmX5_has yX5_has cX5_has 2 (some .boolean) 1 := ⟨q_1017, q_52, by decide, by decide⟩
set_option maxHeartbeats 4000000 in
set_option maxRecDepth 100000 in
theorem cw_X11_mark_X5_isMissing : cwB rmX11_mark rmX5_isMissing yX5_isMissing cX5_isMissing 1 (some .boolean) 0 := ⟨q_909, q_52, by decide, by decide⟩
def fX11_mark_112 (n : Nat)   (s0 : Int32) (s1 : Int32) (s2 : Nat) (f : Mm) : Option (Int32 × Mm) :=
  gd (ib s1 24) <|
  lt (up f s2 s1.toNatClampNeg s0) fun f19 =>
  some ((nI 1), f19)
set_option maxHeartbeats 4000000 in
set_option maxRecDepth 100000 in
theorem fX11_mark_112_ok {V : VE} {G : GE} {N : Nat} {f m : Mm} {n : Nat} {ls : Array Slot} {r : Int32} {g : Mm} (B : CX V G cX11_mark 5 "FluxWatch" (some .int)) (hR : V.2.2.2.1 = rmX11_mark)   {s0 : Int32} {s1 : Int32} {s2 : Nat} (hs2 : AF N s2 (20, 24)) (hl : lv_has ls 5 []) (hf : fX11_mark_112 n  s0 s1 s2 f = some (r, g)) : WX V G N f m 0 0 (QQ V G (some (.int r)) N g m 0 0) 112 ls [.int s0, .int s1, .ref (gz G + s2)] := by
  unfold fX11_mark_112 at hf
  obtain ⟨h18, hf⟩ := gd_some hf
  refine x_iastF B hs2 h18 dX11_mark_112 (fun f19 e20 => ?_)
  have hf := lt_some hf e20
  refine x_iconst (v := (nI 1)) B dX11_mark_113 (by decide) ?_
  obtain ⟨rfl, rfl⟩ := rt2 hf
  exact x_iret B dX11_mark_114
def fX11_mark_94 (n : Nat)   (x2 : Int32) (x3 : Int32) (x4 : Nat) (f : Mm) : Option (Int32 × Mm) :=
  if x3 = (-1000000005 : Int32) then (
  fX11_mark_112 n (-1000000005 : Int32) x2 (x4 + 1) f) else (
  fX11_mark_112 n x3 x2 (x4 + 1) f)
set_option maxHeartbeats 4000000 in
set_option maxRecDepth 100000 in
theorem fX11_mark_94_ok {V : VE} {G : GE} {N : Nat} {f m : Mm} {n : Nat} {ls : Array Slot} {r : Int32} {g : Mm} (B : CX V G cX11_mark 5 "FluxWatch" (some .int)) (hR : V.2.2.2.1 = rmX11_mark)   {x2 : Int32} {x3 : Int32} {x4 : Nat} (hx4 : rg 5 x4) (hl : lv_has ls 5 [(2, .int x2), (3, .int x3), (4, .ref (gz G + x4))]) (hf : fX11_mark_94 n  x2 x3 x4 f = some (r, g)) : WX V G N f m 0 0 (QQ V G (some (.int r)) N g m 0 0) 94 ls [] := by
  unfold fX11_mark_94 at hf
  refine x_aload B dX11_mark_94 (lv_at hl 2 rfl) ?_
  refine y_getFs (C := RX5) (T := TX5) (NN := 3) (d := 1) B (hx4.at0 rfl) inX5 rfl (j := 2) (by decide) q_268 rfl rfl (by decide) dX11_mark_96 ?_
  refine x_iload_n B dX11_mark_99 rfl (lv_at hl 0 rfl) ?_
  refine x_iload_n B dX11_mark_100 rfl (lv_at hl 1 rfl) ?_
  refine x_ldc (v := (-1000000005 : Int32)) B q_461 dX11_mark_101 ?_
  refine x_icmp_ne (tgt := 111) B dX11_mark_103 (by decide) (fun h17 => ?_) (fun h17 => ?_)
  · have hf := ip h17 hf
    refine x_ldc (v := (-1000000005 : Int32)) B q_461 dX11_mark_106 ?_
    refine x_goto (tgt := 112) B dX11_mark_108 (by decide) ?_
    exact fX11_mark_112_ok B hR  (hx4.at 1 rfl) (lv_sub hl [] rfl) hf
  · have hf := iq h17 hf
    refine x_iload_n B dX11_mark_111 rfl (lv_at hl 1 rfl) ?_
    exact fX11_mark_112_ok B hR  (hx4.at 1 rfl) (lv_sub hl [] rfl) hf
def fX11_mark (n : Nat) (a1 : Int32) (a2 : Int32) (a3 : Int32) (f : Mm) : Option (Int32 × Mm) :=
  bn (fX11_isSheet n a1) fun r2 =>
  if r2 = 0 then (
  some ((-1000000001 : Int32), f)) else (
  gd (ib a1 4) <|
  bn (fX5_isMissing n (73 + 1 + 2 * a1.toNatClampNeg) f) fun r6 =>
  if r6 = 0 then (
  bn (fX5_has n (73 + 1 + 2 * a1.toNatClampNeg) a2 f) fun r9 =>
  if r9 = 0 then (
  some ((-1000000013 : Int32), f)) else (
  if (f (73 + 1 + 2 * a1.toNatClampNeg) 0) = 0 then (
  if a3 = (-1000000005 : Int32) then (
  some ((-1000000012 : Int32), f)) else (
  gd (ib a2 24) <|
  lt (up f (73 + 1 + 2 * a1.toNatClampNeg + 1) a2.toNatClampNeg (i2sI a3)) fun f14 =>
  some ((nI 1), f14))) else (
  if a3 = (-1000000005 : Int32) then (
  fX11_mark_94 n a2 a3 (73 + 1 + 2 * a1.toNatClampNeg) f) else (
  if a3 < (-99999 : Int32) then (
  some ((-1000000001 : Int32), f)) else (
  if a3 ≤ (nI 99999) then (
  fX11_mark_94 n a2 a3 (73 + 1 + 2 * a1.toNatClampNeg) f) else (
  some ((-1000000001 : Int32), f))))))) else (
  some ((-1000000011 : Int32), f)))
set_option maxHeartbeats 4000000 in
set_option maxRecDepth 100000 in
theorem kX11_mark {l : Launch} {G : GE} {N : Nat} {f m : Mm} {n : Nat} {a1 : Int32} {a2 : Int32} {a3 : Int32} {r : Int32} {g : Mm}  (hf : fX11_mark n a1 a2 a3 f = some (r, g)) : MT l G yX11_mark cX11_mark 5 (some .int) rmX11_mark [.ref (gz G + 0), .int a1, .int a2, .int a3] N f m (some (.int r)) N g m := by
  unfold fX11_mark at hf
  refine MT.of (by decide) (Nat.le_of_ble_eq_true rfl) (fun V ls hV hR B hl => ?_)
  have B : CX V G cX11_mark 5 "FluxWatch" (some .int) := B
  have hl : lv_has ls 5 [(0, .ref (gz G + 0)), (1, .int a1), (2, .int a2), (3, .int a3)] := hl
  show WX V G N f m 0 0 (QQ V G (some (.int r)) N g m 0 0) 0 ls []
  refine x_iload_n B dX11_mark_0 rfl (lv_at hl 1 rfl) ?_
  obtain ⟨r2, c1, hf⟩ := bn_some hf
  refine x_callS0 (rest := []) B (kX11_isSheet c1) ⟨rfl, rfl⟩ q_903 q_904 (by rw [hR]; exact cw_X11_mark_X11_isSheet) rfl rfl hl.1 (Nat.le_of_ble_eq_true rfl) dX11_mark_1 ⟨Nat.zero_le _, Nat.zero_le _⟩ ?_
  refine x_if_ne (tgt := 10) B dX11_mark_4 (by decide) (fun h3 => ?_) (fun h3 => ?_)
  · have hf := ip h3 hf
    refine x_ldc (v := (-1000000001 : Int32)) B q_432 dX11_mark_7 ?_
    obtain ⟨rfl, rfl⟩ := rt2 hf
    exact x_iret B dX11_mark_9
  · have hf := iq h3 hf
    refine x_aload_n B dX11_mark_10 rfl (lv_at hl 0 rfl) ?_
    refine y_getFs (C := RX11) (T := TX11) (NN := 10) (d := 73) B (rg_11_0.at0 rfl) inX11 rfl (j := 4) (by decide) q_392 rfl rfl (by decide) dX11_mark_11 ?_
    refine x_iload_n B dX11_mark_14 rfl (lv_at hl 1 rfl) ?_
    obtain ⟨h4, hf⟩ := gd_some hf
    refine x_aaldS B (rg_11_0.at 73 rfl) h4 dX11_mark_15 ?_
    refine x_astore (lv' := [(4, .ref (gz G + (73 + 1 + 2 * a1.toNatClampNeg))), (0, .ref (gz G + 0)), (1, .int a1), (2, .int a2), (3, .int a3)]) B dX11_mark_16 hl (by decide) rfl (fun ls hl => ?_)
    refine x_aload B dX11_mark_18 (lv_at hl 0 rfl) ?_
    obtain ⟨r6, c5, hf⟩ := bn_some hf
    refine x_callV0 (rest := []) B (kX5_isMissing (rg_she h4) c5) ⟨rfl, rfl⟩ ((rg_she h4).at0 (N := N) rfl).lt ((rg_she h4).at0 (N := N) rfl).2 rfl (by decide) q_906 q_907 q_908 (by rw [hR]; exact cw_X11_mark_X5_isMissing) rfl rfl hl.1 (Nat.le_of_ble_eq_true rfl) dX11_mark_20 ⟨Nat.zero_le _, Nat.zero_le _⟩ ?_
    refine x_if_eq (tgt := 30) B dX11_mark_23 (by decide) (fun h7 => ?_) (fun h7 => ?_)
    · have hf := ip h7 hf
      refine x_aload B dX11_mark_30 (lv_at hl 0 rfl) ?_
      refine x_iload_n B dX11_mark_32 rfl (lv_at hl 3 rfl) ?_
      obtain ⟨r9, c8, hf⟩ := bn_some hf
      refine x_callV0 (rest := []) B (kX5_has (rg_she h4) c8) ⟨rfl, rfl⟩ ((rg_she h4).at0 (N := N) rfl).lt ((rg_she h4).at0 (N := N) rfl).2 rfl (by decide) q_1014 q_1015 q_1016 (by rw [hR]; exact cw_X11_mark_X5_has) rfl rfl hl.1 (Nat.le_of_ble_eq_true rfl) dX11_mark_33 ⟨Nat.zero_le _, Nat.zero_le _⟩ ?_
      refine x_if_ne (tgt := 43) B dX11_mark_36 (by decide) (fun h10 => ?_) (fun h10 => ?_)
      · have hf := ip h10 hf
        refine x_ldc_w (v := (-1000000013 : Int32)) B q_1018 dX11_mark_39 ?_
        obtain ⟨rfl, rfl⟩ := rt2 hf
        exact x_iret B dX11_mark_42
      · have hf := iq h10 hf
        refine x_aload B dX11_mark_43 (lv_at hl 0 rfl) ?_
        refine y_getFi (C := RX5) (T := TX5) (NN := 3) B ((rg_she h4).at0 rfl) inX5 rfl (j := 0) (by decide) q_264 rfl rfl dX11_mark_45 ?_
        refine x_if_ne (tgt := 71) B dX11_mark_48 (by decide) (fun h11 => ?_) (fun h11 => ?_)
        · have hf := ip h11 hf
          refine x_iload_n B dX11_mark_51 rfl (lv_at hl 4 rfl) ?_
          refine x_ldc (v := (-1000000005 : Int32)) B q_461 dX11_mark_52 ?_
          refine x_icmp_ne (tgt := 60) B dX11_mark_54 (by decide) (fun h12 => ?_) (fun h12 => ?_)
          · have hf := ip h12 hf
            refine x_ldc (v := (-1000000012 : Int32)) B q_565 dX11_mark_57 ?_
            obtain ⟨rfl, rfl⟩ := rt2 hf
            exact x_iret B dX11_mark_59
          · have hf := iq h12 hf
            refine x_aload B dX11_mark_60 (lv_at hl 0 rfl) ?_
            refine y_getFs (C := RX5) (T := TX5) (NN := 3) (d := 1) B ((rg_she h4).at0 rfl) inX5 rfl (j := 2) (by decide) q_268 rfl rfl (by decide) dX11_mark_62 ?_
            refine x_iload_n B dX11_mark_65 rfl (lv_at hl 3 rfl) ?_
            refine x_iload_n B dX11_mark_66 rfl (lv_at hl 4 rfl) ?_
            refine y_i2s B dX11_mark_67 ?_
            obtain ⟨h13, hf⟩ := gd_some hf
            refine x_iastF B ((rg_she h4).at 1 rfl) h13 dX11_mark_68 (fun f14 e15 => ?_)
            have hf := lt_some hf e15
            refine x_iconst (v := (nI 1)) B dX11_mark_69 (by decide) ?_
            obtain ⟨rfl, rfl⟩ := rt2 hf
            exact x_iret B dX11_mark_70
        · have hf := iq h11 hf
          refine x_iload_n B dX11_mark_71 rfl (lv_at hl 4 rfl) ?_
          refine x_ldc (v := (-1000000005 : Int32)) B q_461 dX11_mark_72 ?_
          refine x_icmp_eq (tgt := 94) B dX11_mark_74 (by decide) (fun h16 => ?_) (fun h16 => ?_)
          · have hf := ip h16 hf
            exact fX11_mark_94_ok B hR  (rg_she h4) (lv_sub hl [3, 4, 0] rfl) hf
          · have hf := iq h16 hf
            refine x_iload_n B dX11_mark_77 rfl (lv_at hl 4 rfl) ?_
            refine x_ldc_w (v := (-99999 : Int32)) B q_1019 dX11_mark_78 ?_
            refine x_icmp_lt (tgt := 91) B dX11_mark_81 (by decide) (fun h21 => ?_) (fun h21 => ?_)
            · have hf := ip h21 hf
              refine x_ldc (v := (-1000000001 : Int32)) B q_432 dX11_mark_91 ?_
              obtain ⟨rfl, rfl⟩ := rt2 hf
              exact x_iret B dX11_mark_93
            · have hf := iq h21 hf
              refine x_iload_n B dX11_mark_84 rfl (lv_at hl 4 rfl) ?_
              refine x_ldc_w (v := (nI 99999)) B q_1020 dX11_mark_85 ?_
              refine x_icmp_le (tgt := 94) B dX11_mark_88 (by decide) (fun h22 => ?_) (fun h22 => ?_)
              · have hf := ip h22 hf
                exact fX11_mark_94_ok B hR  (rg_she h4) (lv_sub hl [3, 4, 0] rfl) hf
              · have hf := iq h22 hf
                refine x_ldc (v := (-1000000001 : Int32)) B q_432 dX11_mark_91 ?_
                obtain ⟨rfl, rfl⟩ := rt2 hf
                exact x_iret B dX11_mark_93
    · have hf := iq h7 hf
      refine x_ldc_w (v := (-1000000011 : Int32)) B q_910 dX11_mark_26 ?_
      obtain ⟨rfl, rfl⟩ := rt2 hf
      exact x_iret B dX11_mark_29
def rmX11_news : Room := { frames := 4, cells := 0, slots := 0, locals := 134 }
set_option maxHeartbeats 4000000 in
set_option maxRecDepth 100000 in
theorem cw_X11_news_X10_hasFit : cwB rmX11_news rmX10_hasFit yX10_hasFit cX10_hasFit 3 (some .boolean) 1 := ⟨q_665, q_46, by decide, by decide⟩
set_option maxHeartbeats 4000000 in
set_option maxRecDepth 100000 in
theorem cw_X11_news_X10_knockOn : cwB rmX11_news rmX10_knockOn yX10_knockOn cX10_knockOn 4 (some .int) 2 := ⟨q_637, q_46, by decide, by decide⟩
set_option maxHeartbeats 4000000 in
set_option maxRecDepth 100000 in
theorem cw_X11_news_X10_rateOn : cwB rmX11_news rmX10_rateOn yX10_rateOn cX10_rateOn 4 (some .int) 2 := ⟨q_609, q_46, by decide, by decide⟩
set_option maxHeartbeats 4000000 in
set_option maxRecDepth 100000 in
theorem cw_X11_news_X10_seenOn : cwB rmX11_news rmX10_seenOn yX10_seenOn cX10_seenOn 2 (some .int) 1 := ⟨q_489, q_46, by decide, by decide⟩
set_option maxHeartbeats 4000000 in
set_option maxRecDepth 100000 in
theorem cw_X11_news_X11_isDay : cwB rmX11_news rmX11_isDay yX11_isDay cX11_isDay 1 (some .boolean) 1 := ⟨q_476, q_45, by decide, by decide⟩
def fX11_news (n : Nat) (N : Nat) (a1 : Int32) (a2 : Int32) (f : Mm) : Option (Int32 × Mm) :=
  bn (fX11_isDay n a1) fun r2 =>
  if r2 = 0 then (
  some ((-1000000001 : Int32), f)) else (
  if a2 = (nI 0) then (
  bn (fX10_seenOn n 1 a1 f) fun r6 =>
  bn2 (fX10_rateOn n N 1 a1 r6 f) fun r9 f8 =>
  some (r9, f8)) else (
  if a2 = (nI 1) then (
  bn (fX10_seenOn n 1 a1 f) fun r12 =>
  bn2 (fX10_knockOn n N 1 a1 r12 f) fun r15 f14 =>
  some (r15, f14)) else (
  if a2 = (nI 2) then (
  bn (fX10_hasFit n 1 a1 f) fun r18 =>
  if r18 = 0 then (
  some ((nI 0), f)) else (
  some ((nI 1), f))) else (
  some ((-1000000001 : Int32), f)))))
set_option maxHeartbeats 4000000 in
set_option maxRecDepth 100000 in
theorem kX11_news {l : Launch} {G : GE} {N : Nat} {f m : Mm} {n : Nat} {a1 : Int32} {a2 : Int32} {r : Int32} {g : Mm}  (hf : fX11_news n N a1 a2 f = some (r, g)) : MT l G yX11_news cX11_news 3 (some .int) rmX11_news [.ref (gz G + 0), .int a1, .int a2] N f m (some (.int r)) N g m := by
  unfold fX11_news at hf
  refine MT.of (by decide) (Nat.le_of_ble_eq_true rfl) (fun V ls hV hR B hl => ?_)
  have B : CX V G cX11_news 3 "FluxWatch" (some .int) := B
  have hl : lv_has ls 3 [(0, .ref (gz G + 0)), (1, .int a1), (2, .int a2)] := hl
  show WX V G N f m 0 0 (QQ V G (some (.int r)) N g m 0 0) 0 ls []
  refine x_iload_n B dX11_news_0 rfl (lv_at hl 1 rfl) ?_
  obtain ⟨r2, c1, hf⟩ := bn_some hf
  refine x_callS0 (rest := []) B (kX11_isDay c1) ⟨rfl, rfl⟩ q_474 q_475 (by rw [hR]; exact cw_X11_news_X11_isDay) rfl rfl hl.1 (Nat.le_of_ble_eq_true rfl) dX11_news_1 ⟨Nat.zero_le _, Nat.zero_le _⟩ ?_
  refine x_if_ne (tgt := 10) B dX11_news_4 (by decide) (fun h3 => ?_) (fun h3 => ?_)
  · have hf := ip h3 hf
    refine x_ldc (v := (-1000000001 : Int32)) B q_432 dX11_news_7 ?_
    obtain ⟨rfl, rfl⟩ := rt2 hf
    exact x_iret B dX11_news_9
  · have hf := iq h3 hf
    refine x_iload_n B dX11_news_10 rfl (lv_at hl 2 rfl) ?_
    by_cases h4 : a2 = (nI 0)
    · have hf := ip h4 hf
      refine x_tabIn (a := 0) (tgt := 36) B dX11_news_11 (by rw [h4]; rfl) (by decide) (by decide) rfl (by decide) ?_
      refine x_aload_n B dX11_news_36 rfl (lv_at hl 0 rfl) ?_
      refine y_getFs (C := RX11) (T := TX11) (NN := 10) (d := 1) B (rg_11_0.at0 rfl) inX11 rfl (j := 0) (by decide) q_388 rfl rfl (by decide) dX11_news_37 ?_
      refine x_iload_n B dX11_news_40 rfl (lv_at hl 1 rfl) ?_
      refine x_aload_n B dX11_news_41 rfl (lv_at hl 0 rfl) ?_
      refine y_getFs (C := RX11) (T := TX11) (NN := 10) (d := 1) B (rg_11_0.at0 rfl) inX11 rfl (j := 0) (by decide) q_388 rfl rfl (by decide) dX11_news_42 ?_
      refine x_iload_n B dX11_news_45 rfl (lv_at hl 1 rfl) ?_
      obtain ⟨r6, c5, hf⟩ := bn_some hf
      refine x_callV0 (rest := [.int a1, .ref (gz G + 1)]) B (kX10_seenOn rg_10_1 c5) ⟨rfl, rfl⟩ (rg_10_1.at0 (N := N) rfl).lt (rg_10_1.at0 (N := N) rfl).2 rfl (by decide) q_486 q_487 q_488 (by rw [hR]; exact cw_X11_news_X10_seenOn) rfl rfl hl.1 (Nat.le_of_ble_eq_true rfl) dX11_news_46 ⟨Nat.zero_le _, Nat.zero_le _⟩ ?_
      obtain ⟨r9, f8, c7, hf⟩ := bn2_some hf
      refine x_callV0 (rest := []) B (kX10_rateOn rg_10_1 c7) ⟨rfl, rfl⟩ (rg_10_1.at0 (N := N) rfl).lt (rg_10_1.at0 (N := N) rfl).2 rfl (by decide) q_675 q_607 q_608 (by rw [hR]; exact cw_X11_news_X10_rateOn) rfl rfl hl.1 (Nat.le_of_ble_eq_true rfl) dX11_news_49 ⟨Nat.zero_le _, Nat.zero_le _⟩ ?_
      obtain ⟨rfl, rfl⟩ := rt2 hf
      exact x_iret B dX11_news_52
    · have hf := iq h4 hf
      by_cases h10 : a2 = (nI 1)
      · have hf := ip h10 hf
        refine x_tabIn (a := 1) (tgt := 53) B dX11_news_11 (by rw [h10]; rfl) (by decide) (by decide) rfl (by decide) ?_
        refine x_aload_n B dX11_news_53 rfl (lv_at hl 0 rfl) ?_
        refine y_getFs (C := RX11) (T := TX11) (NN := 10) (d := 1) B (rg_11_0.at0 rfl) inX11 rfl (j := 0) (by decide) q_388 rfl rfl (by decide) dX11_news_54 ?_
        refine x_iload_n B dX11_news_57 rfl (lv_at hl 1 rfl) ?_
        refine x_aload_n B dX11_news_58 rfl (lv_at hl 0 rfl) ?_
        refine y_getFs (C := RX11) (T := TX11) (NN := 10) (d := 1) B (rg_11_0.at0 rfl) inX11 rfl (j := 0) (by decide) q_388 rfl rfl (by decide) dX11_news_59 ?_
        refine x_iload_n B dX11_news_62 rfl (lv_at hl 1 rfl) ?_
        obtain ⟨r12, c11, hf⟩ := bn_some hf
        refine x_callV0 (rest := [.int a1, .ref (gz G + 1)]) B (kX10_seenOn rg_10_1 c11) ⟨rfl, rfl⟩ (rg_10_1.at0 (N := N) rfl).lt (rg_10_1.at0 (N := N) rfl).2 rfl (by decide) q_486 q_487 q_488 (by rw [hR]; exact cw_X11_news_X10_seenOn) rfl rfl hl.1 (Nat.le_of_ble_eq_true rfl) dX11_news_63 ⟨Nat.zero_le _, Nat.zero_le _⟩ ?_
        obtain ⟨r15, f14, c13, hf⟩ := bn2_some hf
        refine x_callV0 (rest := []) B (kX10_knockOn rg_10_1 c13) ⟨rfl, rfl⟩ (rg_10_1.at0 (N := N) rfl).lt (rg_10_1.at0 (N := N) rfl).2 rfl (by decide) q_676 q_635 q_636 (by rw [hR]; exact cw_X11_news_X10_knockOn) rfl rfl hl.1 (Nat.le_of_ble_eq_true rfl) dX11_news_66 ⟨Nat.zero_le _, Nat.zero_le _⟩ ?_
        obtain ⟨rfl, rfl⟩ := rt2 hf
        exact x_iret B dX11_news_69
      · have hf := iq h10 hf
        by_cases h16 : a2 = (nI 2)
        · have hf := ip h16 hf
          refine x_tabIn (a := 2) (tgt := 70) B dX11_news_11 (by rw [h16]; rfl) (by decide) (by decide) rfl (by decide) ?_
          refine x_aload_n B dX11_news_70 rfl (lv_at hl 0 rfl) ?_
          refine y_getFs (C := RX11) (T := TX11) (NN := 10) (d := 1) B (rg_11_0.at0 rfl) inX11 rfl (j := 0) (by decide) q_388 rfl rfl (by decide) dX11_news_71 ?_
          refine x_iload_n B dX11_news_74 rfl (lv_at hl 1 rfl) ?_
          obtain ⟨r18, c17, hf⟩ := bn_some hf
          refine x_callV0 (rest := []) B (kX10_hasFit rg_10_1 c17) ⟨rfl, rfl⟩ (rg_10_1.at0 (N := N) rfl).lt (rg_10_1.at0 (N := N) rfl).2 rfl (by decide) q_677 q_663 q_664 (by rw [hR]; exact cw_X11_news_X10_hasFit) rfl rfl hl.1 (Nat.le_of_ble_eq_true rfl) dX11_news_75 ⟨Nat.zero_le _, Nat.zero_le _⟩ ?_
          refine x_if_eq (tgt := 85) B dX11_news_78 (by decide) (fun h19 => ?_) (fun h19 => ?_)
          · have hf := ip h19 hf
            refine x_iconst (v := (nI 0)) B dX11_news_85 (by decide) ?_
            obtain ⟨rfl, rfl⟩ := rt2 hf
            exact x_iret B dX11_news_86
          · have hf := iq h19 hf
            refine x_iconst (v := (nI 1)) B dX11_news_81 (by decide) ?_
            refine x_goto (tgt := 86) B dX11_news_82 (by decide) ?_
            obtain ⟨rfl, rfl⟩ := rt2 hf
            exact x_iret B dX11_news_86
        · have hf := iq h16 hf
          have h4t := lv_neT h4 (show ((nI 0)).toInt = 0 from rfl)
          have h10t := lv_neT h10 (show ((nI 1)).toInt = 1 from rfl)
          have h16t := lv_neT h16 (show ((nI 2)).toInt = 2 from rfl)
          refine x_tabOut (tgt := 87) B dX11_news_11 (by omega) (by decide) ?_
          refine x_ldc (v := (-1000000001 : Int32)) B q_432 dX11_news_87 ?_
          obtain ⟨rfl, rfl⟩ := rt2 hf
          exact x_iret B dX11_news_89
def rmX4_add : Room := { frames := 0, cells := 0, slots := 0, locals := 0 }
def fX4_add (n : Nat) (o : Nat) (a1 : Int32) (a2 : Int32) (f : Mm) : Option (Int32 × Mm) :=
  if (f o 2) < (nI 8) then (
  gd (ib (f o 2) 8) <|
  lt (up f (o + 1) (f o 2).toNatClampNeg a1) fun f3 =>
  gd (ib (f3 o 2) 8) <|
  lt (up f3 (o + 2) (f3 o 2).toNatClampNeg a2) fun f6 =>
  lt (up f6 o 2 ((f6 o 2) + (nI 1))) fun f8 =>
  some ((f8 o 2) - (nI 1), f8)) else (
  some ((-1000000003 : Int32), f))
set_option maxHeartbeats 4000000 in
set_option maxRecDepth 100000 in
theorem kX4_add {l : Launch} {G : GE} {N : Nat} {f m : Mm} {n : Nat} {o : Nat} {a1 : Int32} {a2 : Int32} {r : Int32} {g : Mm} (ho : rg 4 o) (hf : fX4_add n o a1 a2 f = some (r, g)) : MT l G yX4_add cX4_add 3 (some .int) rmX4_add [.ref (gz G + o), .int a1, .int a2] N f m (some (.int r)) N g m := by
  unfold fX4_add at hf
  refine MT.of (by decide) (Nat.le_of_ble_eq_true rfl) (fun V ls hV hR B hl => ?_)
  have B : CX V G cX4_add 3 "FluxWatch$Offers" (some .int) := B
  have hl : lv_has ls 3 [(0, .ref (gz G + o)), (1, .int a1), (2, .int a2)] := hl
  show WX V G N f m 0 0 (QQ V G (some (.int r)) N g m 0 0) 0 ls []
  refine x_aload_n B dX4_add_0 rfl (lv_at hl 0 rfl) ?_
  refine y_getFi (C := RX4) (T := TX4) (NN := 3) B (ho.at0 rfl) inX4 rfl (j := 2) (by decide) q_178 rfl rfl dX4_add_1 ?_
  refine x_bipush (v := (nI 8)) B dX4_add_4 (by decide) ?_
  refine x_icmp_lt (tgt := 12) B dX4_add_6 (by decide) (fun h1 => ?_) (fun h1 => ?_)
  · have hf := ip h1 hf
    refine x_aload_n B dX4_add_12 rfl (lv_at hl 0 rfl) ?_
    refine y_getFs (C := RX4) (T := TX4) (NN := 3) (d := 1) B (ho.at0 rfl) inX4 rfl (j := 0) (by decide) q_174 rfl rfl (by decide) dX4_add_13 ?_
    refine x_aload_n B dX4_add_16 rfl (lv_at hl 0 rfl) ?_
    refine y_getFi (C := RX4) (T := TX4) (NN := 3) B (ho.at0 rfl) inX4 rfl (j := 2) (by decide) q_178 rfl rfl dX4_add_17 ?_
    refine x_iload_n B dX4_add_20 rfl (lv_at hl 1 rfl) ?_
    obtain ⟨h2, hf⟩ := gd_some hf
    refine x_iastF B (ho.at 1 rfl) h2 dX4_add_21 (fun f3 e4 => ?_)
    have hf := lt_some hf e4
    refine x_aload_n B dX4_add_22 rfl (lv_at hl 0 rfl) ?_
    refine y_getFs (C := RX4) (T := TX4) (NN := 3) (d := 2) B (ho.at0 rfl) inX4 rfl (j := 1) (by decide) q_176 rfl rfl (by decide) dX4_add_23 ?_
    refine x_aload_n B dX4_add_26 rfl (lv_at hl 0 rfl) ?_
    refine y_getFi (C := RX4) (T := TX4) (NN := 3) B (ho.at0 rfl) inX4 rfl (j := 2) (by decide) q_178 rfl rfl dX4_add_27 ?_
    refine x_iload_n B dX4_add_30 rfl (lv_at hl 2 rfl) ?_
    obtain ⟨h5, hf⟩ := gd_some hf
    refine x_iastF B (ho.at 2 rfl) h5 dX4_add_31 (fun f6 e7 => ?_)
    have hf := lt_some hf e7
    refine x_aload_n B dX4_add_32 rfl (lv_at hl 0 rfl) ?_
    refine x_dup B dX4_add_33 rfl ?_
    refine y_getFi (C := RX4) (T := TX4) (NN := 3) B (ho.at0 rfl) inX4 rfl (j := 2) (by decide) q_178 rfl rfl dX4_add_34 ?_
    refine x_iconst (v := (nI 1)) B dX4_add_37 (by decide) ?_
    refine x_iadd B dX4_add_38 ?_
    refine x_putF (C := RX4) (T := TX4) (NN := 3) (ty0 := tyX4) (ty := .int) B (ho.at0 rfl) inX4 tyX4_ok nmX4 rfl (j := 2) (by decide) q_178 rfl rfl rfl rfl rfl rfl dX4_add_39 (fun f8 e9 => ?_)
    have hf := lt_some hf e9
    refine x_aload_n B dX4_add_42 rfl (lv_at hl 0 rfl) ?_
    refine y_getFi (C := RX4) (T := TX4) (NN := 3) B (ho.at0 rfl) inX4 rfl (j := 2) (by decide) q_178 rfl rfl dX4_add_43 ?_
    refine x_iconst (v := (nI 1)) B dX4_add_46 (by decide) ?_
    refine x_isub B dX4_add_47 ?_
    obtain ⟨rfl, rfl⟩ := rt2 hf
    exact x_iret B dX4_add_48
  · have hf := iq h1 hf
    refine x_ldc (v := (-1000000003 : Int32)) B q_950 dX4_add_9 ?_
    obtain ⟨rfl, rfl⟩ := rt2 hf
    exact x_iret B dX4_add_11
def rmX11_offer : Room := { frames := 1, cells := 0, slots := 0, locals := 22 }
set_option maxHeartbeats 4000000 in
set_option maxRecDepth 100000 in
theorem cw_X11_offer_X11_isSize : cwB rmX11_offer rmX11_isSize yX11_isSize cX11_isSize 1 (some .boolean) 1 := ⟨q_425, q_45, by decide, by decide⟩
set_option maxHeartbeats 4000000 in
set_option maxRecDepth 100000 in
theorem cw_X11_offer_X4_add : cwB rmX11_offer rmX4_add yX4_add cX4_add 3 (some .int) 2 := ⟨q_949, q_51, by decide, by decide⟩
def fX11_offer (n : Nat) (a1 : Int32) (a2 : Int32) (f : Mm) : Option (Int32 × Mm) :=
  bn (fX11_isSize n a1) fun r2 =>
  if r2 = 0 then (
  some ((-1000000001 : Int32), f)) else (
  if a2 < 0 then (
  some ((-1000000001 : Int32), f)) else (
  if (nI 999) < a2 then (
  some ((-1000000001 : Int32), f)) else (
  bn2 (fX4_add n 22 a1 a2 f) fun r8 f7 =>
  some (r8, f7))))
set_option maxHeartbeats 4000000 in
set_option maxRecDepth 100000 in
theorem kX11_offer {l : Launch} {G : GE} {N : Nat} {f m : Mm} {n : Nat} {a1 : Int32} {a2 : Int32} {r : Int32} {g : Mm}  (hf : fX11_offer n a1 a2 f = some (r, g)) : MT l G yX11_offer cX11_offer 3 (some .int) rmX11_offer [.ref (gz G + 0), .int a1, .int a2] N f m (some (.int r)) N g m := by
  unfold fX11_offer at hf
  refine MT.of (by decide) (Nat.le_of_ble_eq_true rfl) (fun V ls hV hR B hl => ?_)
  have B : CX V G cX11_offer 3 "FluxWatch" (some .int) := B
  have hl : lv_has ls 3 [(0, .ref (gz G + 0)), (1, .int a1), (2, .int a2)] := hl
  show WX V G N f m 0 0 (QQ V G (some (.int r)) N g m 0 0) 0 ls []
  refine x_iload_n B dX11_offer_0 rfl (lv_at hl 1 rfl) ?_
  obtain ⟨r2, c1, hf⟩ := bn_some hf
  refine x_callS0 (rest := []) B (kX11_isSize c1) ⟨rfl, rfl⟩ q_423 q_424 (by rw [hR]; exact cw_X11_offer_X11_isSize) rfl rfl hl.1 (Nat.le_of_ble_eq_true rfl) dX11_offer_1 ⟨Nat.zero_le _, Nat.zero_le _⟩ ?_
  refine x_if_eq (tgt := 33) B dX11_offer_4 (by decide) (fun h3 => ?_) (fun h3 => ?_)
  · have hf := ip h3 hf
    refine x_ldc (v := (-1000000001 : Int32)) B q_432 dX11_offer_33 ?_
    obtain ⟨rfl, rfl⟩ := rt2 hf
    exact x_iret B dX11_offer_35
  · have hf := iq h3 hf
    refine x_iload_n B dX11_offer_7 rfl (lv_at hl 2 rfl) ?_
    refine x_if_lt (tgt := 33) B dX11_offer_8 (by decide) (fun h4 => ?_) (fun h4 => ?_)
    · have hf := ip h4 hf
      refine x_ldc (v := (-1000000001 : Int32)) B q_432 dX11_offer_33 ?_
      obtain ⟨rfl, rfl⟩ := rt2 hf
      exact x_iret B dX11_offer_35
    · have hf := iq h4 hf
      refine x_iload_n B dX11_offer_11 rfl (lv_at hl 2 rfl) ?_
      refine x_sipush (v := (nI 999)) B dX11_offer_12 (by decide) ?_
      refine x_icmp_gt (tgt := 33) B dX11_offer_15 (by decide) (fun h5 => ?_) (fun h5 => ?_)
      · have hf := ip h5 hf
        refine x_ldc (v := (-1000000001 : Int32)) B q_432 dX11_offer_33 ?_
        obtain ⟨rfl, rfl⟩ := rt2 hf
        exact x_iret B dX11_offer_35
      · have hf := iq h5 hf
        refine x_aload_n B dX11_offer_18 rfl (lv_at hl 0 rfl) ?_
        refine y_getFs (C := RX11) (T := TX11) (NN := 10) (d := 1) B (rg_11_0.at0 rfl) inX11 rfl (j := 0) (by decide) q_388 rfl rfl (by decide) dX11_offer_19 ?_
        refine y_getFs (C := RX10) (T := TX10) (NN := 16) (d := 21) B (rg_10_1.at0 rfl) inX10 rfl (j := 15) (by decide) q_222 rfl rfl (by decide) dX11_offer_22 ?_
        refine x_iload_n B dX11_offer_25 rfl (lv_at hl 1 rfl) ?_
        refine x_iload_n B dX11_offer_26 rfl (lv_at hl 2 rfl) ?_
        obtain ⟨r8, f7, c6, hf⟩ := bn2_some hf
        refine x_callV0 (rest := []) B (kX4_add rg_4_22 c6) ⟨rfl, rfl⟩ (rg_4_22.at0 (N := N) rfl).lt (rg_4_22.at0 (N := N) rfl).2 rfl (by decide) q_946 q_947 q_948 (by rw [hR]; exact cw_X11_offer_X4_add) rfl rfl hl.1 (Nat.le_of_ble_eq_true rfl) dX11_offer_27 ⟨Nat.zero_le _, Nat.zero_le _⟩ ?_
        refine x_goto (tgt := 35) B dX11_offer_30 (by decide) ?_
        obtain ⟨rfl, rfl⟩ := rt2 hf
        exact x_iret B dX11_offer_35
def rmX11_pair : Room := { frames := 1, cells := 0, slots := 0, locals := 21 }
set_option maxHeartbeats 4000000 in
set_option maxRecDepth 100000 in
theorem cw_X11_pair_X1_has : cwB rmX11_pair rmX1_has yX1_has cX1_has 2 (some .boolean) 1 := ⟨q_440, q_47, by decide, by decide⟩
def fX11_pair (n : Nat) (a1 : Int32) (a2 : Int32) (f : Mm) : Option (Int32 × Mm) :=
  bn (fX1_has n 2 a1 f) fun r2 =>
  if r2 = 0 then (
  some ((-1000000001 : Int32), f)) else (
  bn (fX1_has n 2 a2 f) fun r5 =>
  if r5 = 0 then (
  some ((-1000000001 : Int32), f)) else (
  if a1 = a2 then (
  some ((-1000000001 : Int32), f)) else (
  gd (ib a1 6) <|
  if (f 5 a1.toNatClampNeg) = (-1000000005 : Int32) then (
  gd (ib a2 6) <|
  if (f 5 a2.toNatClampNeg) = (-1000000005 : Int32) then (
  gd (ib a1 6) <|
  lt (up f 5 a1.toNatClampNeg a2) fun f13 =>
  gd (ib a2 6) <|
  lt (up f13 5 a2.toNatClampNeg a1) fun f16 =>
  some ((nI 1), f16)) else (
  some ((-1000000002 : Int32), f))) else (
  some ((-1000000002 : Int32), f)))))
set_option maxHeartbeats 4000000 in
set_option maxRecDepth 100000 in
theorem kX11_pair {l : Launch} {G : GE} {N : Nat} {f m : Mm} {n : Nat} {a1 : Int32} {a2 : Int32} {r : Int32} {g : Mm}  (hf : fX11_pair n a1 a2 f = some (r, g)) : MT l G yX11_pair cX11_pair 4 (some .int) rmX11_pair [.ref (gz G + 0), .int a1, .int a2] N f m (some (.int r)) N g m := by
  unfold fX11_pair at hf
  refine MT.of (by decide) (Nat.le_of_ble_eq_true rfl) (fun V ls hV hR B hl => ?_)
  have B : CX V G cX11_pair 4 "FluxWatch" (some .int) := B
  have hl : lv_has ls 4 [(0, .ref (gz G + 0)), (1, .int a1), (2, .int a2)] := hl
  show WX V G N f m 0 0 (QQ V G (some (.int r)) N g m 0 0) 0 ls []
  refine x_aload_n B dX11_pair_0 rfl (lv_at hl 0 rfl) ?_
  refine y_getFs (C := RX11) (T := TX11) (NN := 10) (d := 1) B (rg_11_0.at0 rfl) inX11 rfl (j := 0) (by decide) q_388 rfl rfl (by decide) dX11_pair_1 ?_
  refine y_getFs (C := RX10) (T := TX10) (NN := 16) (d := 1) B (rg_10_1.at0 rfl) inX10 rfl (j := 6) (by decide) q_204 rfl rfl (by decide) dX11_pair_4 ?_
  refine x_astore_n (lv' := [(3, .ref (gz G + 2)), (0, .ref (gz G + 0)), (1, .int a1), (2, .int a2)]) B dX11_pair_7 rfl hl (by decide) rfl (fun ls hl => ?_)
  refine x_aload_n B dX11_pair_8 rfl (lv_at hl 0 rfl) ?_
  refine x_iload_n B dX11_pair_9 rfl (lv_at hl 2 rfl) ?_
  obtain ⟨r2, c1, hf⟩ := bn_some hf
  refine x_callV0 (rest := []) B (kX1_has rg_1_2 c1) ⟨rfl, rfl⟩ (rg_1_2.at0 (N := N) rfl).lt (rg_1_2.at0 (N := N) rfl).2 rfl (by decide) q_437 q_438 q_439 (by rw [hR]; exact cw_X11_pair_X1_has) rfl rfl hl.1 (Nat.le_of_ble_eq_true rfl) dX11_pair_10 ⟨Nat.zero_le _, Nat.zero_le _⟩ ?_
  refine x_if_eq (tgt := 29) B dX11_pair_13 (by decide) (fun h3 => ?_) (fun h3 => ?_)
  · have hf := ip h3 hf
    refine x_ldc (v := (-1000000001 : Int32)) B q_432 dX11_pair_29 ?_
    obtain ⟨rfl, rfl⟩ := rt2 hf
    exact x_iret B dX11_pair_31
  · have hf := iq h3 hf
    refine x_aload_n B dX11_pair_16 rfl (lv_at hl 0 rfl) ?_
    refine x_iload_n B dX11_pair_17 rfl (lv_at hl 3 rfl) ?_
    obtain ⟨r5, c4, hf⟩ := bn_some hf
    refine x_callV0 (rest := []) B (kX1_has rg_1_2 c4) ⟨rfl, rfl⟩ (rg_1_2.at0 (N := N) rfl).lt (rg_1_2.at0 (N := N) rfl).2 rfl (by decide) q_437 q_438 q_439 (by rw [hR]; exact cw_X11_pair_X1_has) rfl rfl hl.1 (Nat.le_of_ble_eq_true rfl) dX11_pair_18 ⟨Nat.zero_le _, Nat.zero_le _⟩ ?_
    refine x_if_eq (tgt := 29) B dX11_pair_21 (by decide) (fun h6 => ?_) (fun h6 => ?_)
    · have hf := ip h6 hf
      refine x_ldc (v := (-1000000001 : Int32)) B q_432 dX11_pair_29 ?_
      obtain ⟨rfl, rfl⟩ := rt2 hf
      exact x_iret B dX11_pair_31
    · have hf := iq h6 hf
      refine x_iload_n B dX11_pair_24 rfl (lv_at hl 2 rfl) ?_
      refine x_iload_n B dX11_pair_25 rfl (lv_at hl 3 rfl) ?_
      refine x_icmp_ne (tgt := 32) B dX11_pair_26 (by decide) (fun h7 => ?_) (fun h7 => ?_)
      · have hf := ip h7 hf
        refine x_ldc (v := (-1000000001 : Int32)) B q_432 dX11_pair_29 ?_
        obtain ⟨rfl, rfl⟩ := rt2 hf
        exact x_iret B dX11_pair_31
      · have hf := iq h7 hf
        refine x_aload_n B dX11_pair_32 rfl (lv_at hl 0 rfl) ?_
        refine y_getFs (C := RX1) (T := TX1) (NN := 4) (d := 3) B (rg_1_2.at0 rfl) inX1 rfl (j := 2) (by decide) q_93 rfl rfl (by decide) dX11_pair_33 ?_
        refine x_iload_n B dX11_pair_36 rfl (lv_at hl 2 rfl) ?_
        obtain ⟨h8, hf⟩ := gd_some hf
        refine x_ialdF B (rg_1_2.at 3 rfl) h8 dX11_pair_37 ?_
        refine x_ldc (v := (-1000000005 : Int32)) B q_461 dX11_pair_38 ?_
        refine x_icmp_ne (tgt := 54) B dX11_pair_40 (by decide) (fun h9 => ?_) (fun h9 => ?_)
        · have hf := ip h9 hf
          refine x_aload_n B dX11_pair_43 rfl (lv_at hl 0 rfl) ?_
          refine y_getFs (C := RX1) (T := TX1) (NN := 4) (d := 3) B (rg_1_2.at0 rfl) inX1 rfl (j := 2) (by decide) q_93 rfl rfl (by decide) dX11_pair_44 ?_
          refine x_iload_n B dX11_pair_47 rfl (lv_at hl 3 rfl) ?_
          obtain ⟨h10, hf⟩ := gd_some hf
          refine x_ialdF B (rg_1_2.at 3 rfl) h10 dX11_pair_48 ?_
          refine x_ldc (v := (-1000000005 : Int32)) B q_461 dX11_pair_49 ?_
          refine x_icmp_eq (tgt := 57) B dX11_pair_51 (by decide) (fun h11 => ?_) (fun h11 => ?_)
          · have hf := ip h11 hf
            refine x_aload_n B dX11_pair_57 rfl (lv_at hl 0 rfl) ?_
            refine y_getFs (C := RX1) (T := TX1) (NN := 4) (d := 3) B (rg_1_2.at0 rfl) inX1 rfl (j := 2) (by decide) q_93 rfl rfl (by decide) dX11_pair_58 ?_
            refine x_iload_n B dX11_pair_61 rfl (lv_at hl 2 rfl) ?_
            refine x_iload_n B dX11_pair_62 rfl (lv_at hl 3 rfl) ?_
            obtain ⟨h12, hf⟩ := gd_some hf
            refine x_iastF B (rg_1_2.at 3 rfl) h12 dX11_pair_63 (fun f13 e14 => ?_)
            have hf := lt_some hf e14
            refine x_aload_n B dX11_pair_64 rfl (lv_at hl 0 rfl) ?_
            refine y_getFs (C := RX1) (T := TX1) (NN := 4) (d := 3) B (rg_1_2.at0 rfl) inX1 rfl (j := 2) (by decide) q_93 rfl rfl (by decide) dX11_pair_65 ?_
            refine x_iload_n B dX11_pair_68 rfl (lv_at hl 3 rfl) ?_
            refine x_iload_n B dX11_pair_69 rfl (lv_at hl 2 rfl) ?_
            obtain ⟨h15, hf⟩ := gd_some hf
            refine x_iastF B (rg_1_2.at 3 rfl) h15 dX11_pair_70 (fun f16 e17 => ?_)
            have hf := lt_some hf e17
            refine x_iconst (v := (nI 1)) B dX11_pair_71 (by decide) ?_
            obtain ⟨rfl, rfl⟩ := rt2 hf
            exact x_iret B dX11_pair_72
          · have hf := iq h11 hf
            refine x_ldc (v := (-1000000002 : Int32)) B q_462 dX11_pair_54 ?_
            obtain ⟨rfl, rfl⟩ := rt2 hf
            exact x_iret B dX11_pair_56
        · have hf := iq h9 hf
          refine x_ldc (v := (-1000000002 : Int32)) B q_462 dX11_pair_54 ?_
          obtain ⟨rfl, rfl⟩ := rt2 hf
          exact x_iret B dX11_pair_56
def rmX11_part : Room := { frames := 1, cells := 0, slots := 0, locals := 21 }
set_option maxHeartbeats 4000000 in
set_option maxRecDepth 100000 in
theorem cw_X11_part_X1_has : cwB rmX11_part rmX1_has yX1_has cX1_has 2 (some .boolean) 1 := ⟨q_440, q_47, by decide, by decide⟩
def fX11_part (n : Nat) (a1 : Int32) (f : Mm) : Option (Int32 × Mm) :=
  bn (fX1_has n 2 a1 f) fun r2 =>
  if r2 = 0 then (
  some ((-1000000001 : Int32), f)) else (
  gd (ib a1 6) <|
  bn (fX1_has n 2 (f 5 a1.toNatClampNeg) f) fun r6 =>
  if r6 = 0 then (
  some ((-1000000002 : Int32), f)) else (
  gd (ib a1 6) <|
  lt (up f 5 a1.toNatClampNeg (-1000000005 : Int32)) fun f9 =>
  gd (ib (f 5 a1.toNatClampNeg) 6) <|
  lt (up f9 5 (f 5 a1.toNatClampNeg).toNatClampNeg (-1000000005 : Int32)) fun f12 =>
  some (f 5 a1.toNatClampNeg, f12)))
set_option maxHeartbeats 4000000 in
set_option maxRecDepth 100000 in
theorem kX11_part {l : Launch} {G : GE} {N : Nat} {f m : Mm} {n : Nat} {a1 : Int32} {r : Int32} {g : Mm}  (hf : fX11_part n a1 f = some (r, g)) : MT l G yX11_part cX11_part 4 (some .int) rmX11_part [.ref (gz G + 0), .int a1] N f m (some (.int r)) N g m := by
  unfold fX11_part at hf
  refine MT.of (by decide) (Nat.le_of_ble_eq_true rfl) (fun V ls hV hR B hl => ?_)
  have B : CX V G cX11_part 4 "FluxWatch" (some .int) := B
  have hl : lv_has ls 4 [(0, .ref (gz G + 0)), (1, .int a1)] := hl
  show WX V G N f m 0 0 (QQ V G (some (.int r)) N g m 0 0) 0 ls []
  refine x_aload_n B dX11_part_0 rfl (lv_at hl 0 rfl) ?_
  refine y_getFs (C := RX11) (T := TX11) (NN := 10) (d := 1) B (rg_11_0.at0 rfl) inX11 rfl (j := 0) (by decide) q_388 rfl rfl (by decide) dX11_part_1 ?_
  refine y_getFs (C := RX10) (T := TX10) (NN := 16) (d := 1) B (rg_10_1.at0 rfl) inX10 rfl (j := 6) (by decide) q_204 rfl rfl (by decide) dX11_part_4 ?_
  refine x_astore_n (lv' := [(2, .ref (gz G + 2)), (0, .ref (gz G + 0)), (1, .int a1)]) B dX11_part_7 rfl hl (by decide) rfl (fun ls hl => ?_)
  refine x_aload_n B dX11_part_8 rfl (lv_at hl 0 rfl) ?_
  refine x_iload_n B dX11_part_9 rfl (lv_at hl 2 rfl) ?_
  obtain ⟨r2, c1, hf⟩ := bn_some hf
  refine x_callV0 (rest := []) B (kX1_has rg_1_2 c1) ⟨rfl, rfl⟩ (rg_1_2.at0 (N := N) rfl).lt (rg_1_2.at0 (N := N) rfl).2 rfl (by decide) q_437 q_438 q_439 (by rw [hR]; exact cw_X11_part_X1_has) rfl rfl hl.1 (Nat.le_of_ble_eq_true rfl) dX11_part_10 ⟨Nat.zero_le _, Nat.zero_le _⟩ ?_
  refine x_if_ne (tgt := 19) B dX11_part_13 (by decide) (fun h3 => ?_) (fun h3 => ?_)
  · have hf := ip h3 hf
    refine x_ldc (v := (-1000000001 : Int32)) B q_432 dX11_part_16 ?_
    obtain ⟨rfl, rfl⟩ := rt2 hf
    exact x_iret B dX11_part_18
  · have hf := iq h3 hf
    refine x_aload_n B dX11_part_19 rfl (lv_at hl 0 rfl) ?_
    refine y_getFs (C := RX1) (T := TX1) (NN := 4) (d := 3) B (rg_1_2.at0 rfl) inX1 rfl (j := 2) (by decide) q_93 rfl rfl (by decide) dX11_part_20 ?_
    refine x_iload_n B dX11_part_23 rfl (lv_at hl 2 rfl) ?_
    obtain ⟨h4, hf⟩ := gd_some hf
    refine x_ialdF B (rg_1_2.at 3 rfl) h4 dX11_part_24 ?_
    refine x_istore_n (lv' := [(3, .int (f 5 a1.toNatClampNeg)), (2, .ref (gz G + 2)), (0, .ref (gz G + 0)), (1, .int a1)]) B dX11_part_25 rfl hl (by decide) rfl (fun ls hl => ?_)
    refine x_aload_n B dX11_part_26 rfl (lv_at hl 1 rfl) ?_
    refine x_iload_n B dX11_part_27 rfl (lv_at hl 0 rfl) ?_
    obtain ⟨r6, c5, hf⟩ := bn_some hf
    refine x_callV0 (rest := []) B (kX1_has rg_1_2 c5) ⟨rfl, rfl⟩ (rg_1_2.at0 (N := N) rfl).lt (rg_1_2.at0 (N := N) rfl).2 rfl (by decide) q_437 q_438 q_439 (by rw [hR]; exact cw_X11_part_X1_has) rfl rfl hl.1 (Nat.le_of_ble_eq_true rfl) dX11_part_28 ⟨Nat.zero_le _, Nat.zero_le _⟩ ?_
    refine x_if_ne (tgt := 37) B dX11_part_31 (by decide) (fun h7 => ?_) (fun h7 => ?_)
    · have hf := ip h7 hf
      refine x_ldc (v := (-1000000002 : Int32)) B q_462 dX11_part_34 ?_
      obtain ⟨rfl, rfl⟩ := rt2 hf
      exact x_iret B dX11_part_36
    · have hf := iq h7 hf
      refine x_aload_n B dX11_part_37 rfl (lv_at hl 1 rfl) ?_
      refine y_getFs (C := RX1) (T := TX1) (NN := 4) (d := 3) B (rg_1_2.at0 rfl) inX1 rfl (j := 2) (by decide) q_93 rfl rfl (by decide) dX11_part_38 ?_
      refine x_iload_n B dX11_part_41 rfl (lv_at hl 3 rfl) ?_
      refine x_ldc (v := (-1000000005 : Int32)) B q_461 dX11_part_42 ?_
      obtain ⟨h8, hf⟩ := gd_some hf
      refine x_iastF B (rg_1_2.at 3 rfl) h8 dX11_part_44 (fun f9 e10 => ?_)
      have hf := lt_some hf e10
      refine x_aload_n B dX11_part_45 rfl (lv_at hl 1 rfl) ?_
      refine y_getFs (C := RX1) (T := TX1) (NN := 4) (d := 3) B (rg_1_2.at0 rfl) inX1 rfl (j := 2) (by decide) q_93 rfl rfl (by decide) dX11_part_46 ?_
      refine x_iload_n B dX11_part_49 rfl (lv_at hl 0 rfl) ?_
      refine x_ldc (v := (-1000000005 : Int32)) B q_461 dX11_part_50 ?_
      obtain ⟨h11, hf⟩ := gd_some hf
      refine x_iastF B (rg_1_2.at 3 rfl) h11 dX11_part_52 (fun f12 e13 => ?_)
      have hf := lt_some hf e13
      refine x_iload_n B dX11_part_53 rfl (lv_at hl 0 rfl) ?_
      obtain ⟨rfl, rfl⟩ := rt2 hf
      exact x_iret B dX11_part_54
def rmX11_pour : Room := { frames := 2, cells := 0, slots := 0, locals := 41 }
set_option maxHeartbeats 4000000 in
set_option maxRecDepth 100000 in
theorem cw_X11_pour_X10_addKnock : cwB rmX11_pour rmX10_addKnock yX10_addKnock cX10_addKnock 2 (some .int) 1 := ⟨q_898, q_46, by decide, by decide⟩
set_option maxHeartbeats 4000000 in
set_option maxRecDepth 100000 in
theorem cw_X11_pour_X11_heightsAhead : cwB rmX11_pour rmX11_heightsAhead yX11_heightsAhead cX11_heightsAhead 2 (some .int) 1 := ⟨q_913, q_45, by decide, by decide⟩
set_option maxHeartbeats 4000000 in
set_option maxRecDepth 100000 in
theorem cw_X11_pour_X11_isSheet : cwB rmX11_pour rmX11_isSheet yX11_isSheet cX11_isSheet 1 (some .boolean) 1 := ⟨q_905, q_45, by decide, by decide⟩
set_option maxHeartbeats 4000000 in
set_option maxRecDepth 100000 in
theorem cw_X11_pour_X5_isMissing : cwB rmX11_pour rmX5_isMissing yX5_isMissing cX5_isMissing 1 (some .boolean) 0 := ⟨q_909, q_52, by decide, by decide⟩
def fX11_pour_53 (n : Nat)   (k53 : Nat → Int32 → Int32 → Mm → Option (Int32 × Mm)) (x2 : Nat) (x3 : Int32) (x4 : Int32) (f : Mm) : Option (Int32 × Mm) :=
  if x3 ≤ x4 then (
  some (x3, f)) else (
  gd (ib x4 24) <|
  bn2 (fX10_addKnock n 1 (f (x2 + 1) x4.toNatClampNeg) f) fun r15 f14 =>
  k53 x2 x3 (x4 + (nI 1)) f14)
def fX11_pour_53L (n : Nat)   : Nat → Nat → Int32 → Int32 → Mm → Option (Int32 × Mm)
  | 0 => fun _ _ _ _ => none
  | q + 1 => fX11_pour_53 n   (fX11_pour_53L n   q)
set_option maxHeartbeats 4000000 in
set_option maxRecDepth 100000 in
theorem fX11_pour_53_ok {V : VE} {G : GE} {N : Nat} {f m : Mm} {n : Nat} {ls : Array Slot} {r : Int32} {g : Mm} (B : CX V G cX11_pour 5 "FluxWatch" (some .int)) (hR : V.2.2.2.1 = rmX11_pour)   {k53 : Nat → Int32 → Int32 → Mm → Option (Int32 × Mm)} (hk53 : ∀ (x2 : Nat) (x3 : Int32) (x4 : Int32) (mm : Mm) (ls : Array Slot), rg 5 x2 → lv_has ls 5 [(0, .ref (gz G + 0)), (2, .ref (gz G + x2)), (3, .int x3), (4, .int x4)] → k53 x2 x3 x4 mm = some (r, g) → WX V G N mm m 0 0 (QQ V G (some (.int r)) N g m 0 0) 53 ls []) {x2 : Nat} {x3 : Int32} {x4 : Int32} (hx2 : rg 5 x2) (hl : lv_has ls 5 [(0, .ref (gz G + 0)), (2, .ref (gz G + x2)), (3, .int x3), (4, .int x4)]) (hf : fX11_pour_53 n  k53 x2 x3 x4 f = some (r, g)) : WX V G N f m 0 0 (QQ V G (some (.int r)) N g m 0 0) 53 ls [] := by
  unfold fX11_pour_53 at hf
  refine x_iload B dX11_pour_53 (lv_at hl 3 rfl) ?_
  refine x_iload_n B dX11_pour_55 rfl (lv_at hl 2 rfl) ?_
  refine x_icmp_ge (tgt := 80) B dX11_pour_56 (by decide) (fun h11 => ?_) (fun h11 => ?_)
  · have hf := ip h11 hf
    refine x_iload_n B dX11_pour_80 rfl (lv_at hl 2 rfl) ?_
    obtain ⟨rfl, rfl⟩ := rt2 hf
    exact x_iret B dX11_pour_81
  · have hf := iq h11 hf
    refine x_aload_n B dX11_pour_59 rfl (lv_at hl 0 rfl) ?_
    refine y_getFs (C := RX11) (T := TX11) (NN := 10) (d := 1) B (rg_11_0.at0 rfl) inX11 rfl (j := 0) (by decide) q_388 rfl rfl (by decide) dX11_pour_60 ?_
    refine x_aload_n B dX11_pour_63 rfl (lv_at hl 1 rfl) ?_
    refine y_getFs (C := RX5) (T := TX5) (NN := 3) (d := 1) B (hx2.at0 rfl) inX5 rfl (j := 2) (by decide) q_268 rfl rfl (by decide) dX11_pour_64 ?_
    refine x_iload B dX11_pour_67 (lv_at hl 3 rfl) ?_
    obtain ⟨h12, hf⟩ := gd_some hf
    refine x_ialdF B (hx2.at 1 rfl) h12 dX11_pour_69 ?_
    obtain ⟨r15, f14, c13, hf⟩ := bn2_some hf
    refine x_callV0 (rest := []) B (kX10_addKnock rg_10_1 c13) ⟨rfl, rfl⟩ (rg_10_1.at0 (N := N) rfl).lt (rg_10_1.at0 (N := N) rfl).2 rfl (by decide) q_895 q_896 q_897 (by rw [hR]; exact cw_X11_pour_X10_addKnock) rfl rfl hl.1 (Nat.le_of_ble_eq_true rfl) dX11_pour_70 ⟨Nat.zero_le _, Nat.zero_le _⟩ ?_
    refine x_pop B dX11_pour_73 rfl ?_
    refine x_iinc (k := 3) (v := (nI 1)) (lv' := [(4, .int (x4 + (nI 1))), (0, .ref (gz G + 0)), (2, .ref (gz G + x2)), (3, .int x3)]) B dX11_pour_74 hl rfl (by decide) (by decide) rfl (fun ls hl => ?_)
    refine x_goto (tgt := 53) B dX11_pour_77 (by decide) ?_
    exact hk53 _ _ _ _ _ hx2 (lv_sub hl [1, 2, 3, 0] rfl) hf
set_option maxHeartbeats 4000000 in
set_option maxRecDepth 100000 in
theorem fX11_pour_53L_ok {V : VE} {G : GE} {N : Nat} {m : Mm} {n : Nat}  {r : Int32} {g : Mm} (B : CX V G cX11_pour 5 "FluxWatch" (some .int)) (hR : V.2.2.2.1 = rmX11_pour)   : ∀ (q : Nat) (x2 : Nat) (x3 : Int32) (x4 : Int32) (mm : Mm) (ls : Array Slot), rg 5 x2 → lv_has ls 5 [(0, .ref (gz G + 0)), (2, .ref (gz G + x2)), (3, .int x3), (4, .int x4)] → fX11_pour_53L n  q x2 x3 x4 mm = some (r, g) → WX V G N mm m 0 0 (QQ V G (some (.int r)) N g m 0 0) 53 ls [] := by
  intro q
  induction q with
  | zero =>
    intro x2 x3 x4 mm ls hx2 hl hf
    cases hf
  | succ q ih =>
    intro x2 x3 x4 mm ls hx2 hl hf
    exact fX11_pour_53_ok B hR   ih hx2 hl hf
def fX11_pour (n : Nat) (a1 : Int32) (f : Mm) : Option (Int32 × Mm) :=
  bn (fX11_isSheet n a1) fun r2 =>
  if r2 = 0 then (
  some ((-1000000001 : Int32), f)) else (
  gd (ib a1 4) <|
  bn (fX5_isMissing n (73 + 1 + 2 * a1.toNatClampNeg) f) fun r6 =>
  if r6 = 0 then (
  bn (fX11_heightsAhead n (73 + 1 + 2 * a1.toNatClampNeg) f) fun r9 =>
  if ((f 1 13) + r9) ≤ (nI 60) then (
  fX11_pour_53L n n (73 + 1 + 2 * a1.toNatClampNeg) r9 (nI 0) f) else (
  some ((-1000000003 : Int32), f))) else (
  some ((-1000000011 : Int32), f)))
set_option maxHeartbeats 4000000 in
set_option maxRecDepth 100000 in
theorem kX11_pour {l : Launch} {G : GE} {N : Nat} {f m : Mm} {n : Nat} {a1 : Int32} {r : Int32} {g : Mm}  (hf : fX11_pour n a1 f = some (r, g)) : MT l G yX11_pour cX11_pour 5 (some .int) rmX11_pour [.ref (gz G + 0), .int a1] N f m (some (.int r)) N g m := by
  unfold fX11_pour at hf
  refine MT.of (by decide) (Nat.le_of_ble_eq_true rfl) (fun V ls hV hR B hl => ?_)
  have B : CX V G cX11_pour 5 "FluxWatch" (some .int) := B
  have hl : lv_has ls 5 [(0, .ref (gz G + 0)), (1, .int a1)] := hl
  show WX V G N f m 0 0 (QQ V G (some (.int r)) N g m 0 0) 0 ls []
  refine x_iload_n B dX11_pour_0 rfl (lv_at hl 1 rfl) ?_
  obtain ⟨r2, c1, hf⟩ := bn_some hf
  refine x_callS0 (rest := []) B (kX11_isSheet c1) ⟨rfl, rfl⟩ q_903 q_904 (by rw [hR]; exact cw_X11_pour_X11_isSheet) rfl rfl hl.1 (Nat.le_of_ble_eq_true rfl) dX11_pour_1 ⟨Nat.zero_le _, Nat.zero_le _⟩ ?_
  refine x_if_ne (tgt := 10) B dX11_pour_4 (by decide) (fun h3 => ?_) (fun h3 => ?_)
  · have hf := ip h3 hf
    refine x_ldc (v := (-1000000001 : Int32)) B q_432 dX11_pour_7 ?_
    obtain ⟨rfl, rfl⟩ := rt2 hf
    exact x_iret B dX11_pour_9
  · have hf := iq h3 hf
    refine x_aload_n B dX11_pour_10 rfl (lv_at hl 0 rfl) ?_
    refine y_getFs (C := RX11) (T := TX11) (NN := 10) (d := 73) B (rg_11_0.at0 rfl) inX11 rfl (j := 4) (by decide) q_392 rfl rfl (by decide) dX11_pour_11 ?_
    refine x_iload_n B dX11_pour_14 rfl (lv_at hl 1 rfl) ?_
    obtain ⟨h4, hf⟩ := gd_some hf
    refine x_aaldS B (rg_11_0.at 73 rfl) h4 dX11_pour_15 ?_
    refine x_astore_n (lv' := [(2, .ref (gz G + (73 + 1 + 2 * a1.toNatClampNeg))), (0, .ref (gz G + 0)), (1, .int a1)]) B dX11_pour_16 rfl hl (by decide) rfl (fun ls hl => ?_)
    refine x_aload_n B dX11_pour_17 rfl (lv_at hl 0 rfl) ?_
    obtain ⟨r6, c5, hf⟩ := bn_some hf
    refine x_callV0 (rest := []) B (kX5_isMissing (rg_she h4) c5) ⟨rfl, rfl⟩ ((rg_she h4).at0 (N := N) rfl).lt ((rg_she h4).at0 (N := N) rfl).2 rfl (by decide) q_906 q_907 q_908 (by rw [hR]; exact cw_X11_pour_X5_isMissing) rfl rfl hl.1 (Nat.le_of_ble_eq_true rfl) dX11_pour_18 ⟨Nat.zero_le _, Nat.zero_le _⟩ ?_
    refine x_if_eq (tgt := 28) B dX11_pour_21 (by decide) (fun h7 => ?_) (fun h7 => ?_)
    · have hf := ip h7 hf
      refine x_aload_n B dX11_pour_28 rfl (lv_at hl 0 rfl) ?_
      obtain ⟨r9, c8, hf⟩ := bn_some hf
      refine x_callS0 (rest := []) B (kX11_heightsAhead (rg_she h4) c8) ⟨rfl, rfl⟩ q_911 q_912 (by rw [hR]; exact cw_X11_pour_X11_heightsAhead) rfl rfl hl.1 (Nat.le_of_ble_eq_true rfl) dX11_pour_29 ⟨Nat.zero_le _, Nat.zero_le _⟩ ?_
      refine x_istore_n (lv' := [(3, .int r9), (2, .ref (gz G + (73 + 1 + 2 * a1.toNatClampNeg))), (0, .ref (gz G + 0)), (1, .int a1)]) B dX11_pour_32 rfl hl (by decide) rfl (fun ls hl => ?_)
      refine x_aload_n B dX11_pour_33 rfl (lv_at hl 2 rfl) ?_
      refine y_getFs (C := RX11) (T := TX11) (NN := 10) (d := 1) B (rg_11_0.at0 rfl) inX11 rfl (j := 0) (by decide) q_388 rfl rfl (by decide) dX11_pour_34 ?_
      refine y_getFi (C := RX10) (T := TX10) (NN := 16) B (rg_10_1.at0 rfl) inX10 rfl (j := 13) (by decide) q_217 rfl rfl dX11_pour_37 ?_
      refine x_iload_n B dX11_pour_40 rfl (lv_at hl 0 rfl) ?_
      refine x_iadd B dX11_pour_41 ?_
      refine x_bipush (v := (nI 60)) B dX11_pour_42 (by decide) ?_
      refine x_icmp_le (tgt := 50) B dX11_pour_44 (by decide) (fun h10 => ?_) (fun h10 => ?_)
      · have hf := ip h10 hf
        refine x_iconst (v := (nI 0)) B dX11_pour_50 (by decide) ?_
        refine x_istore (lv' := [(4, .int (nI 0)), (3, .int r9), (2, .ref (gz G + (73 + 1 + 2 * a1.toNatClampNeg))), (0, .ref (gz G + 0)), (1, .int a1)]) B dX11_pour_51 hl (by decide) rfl (fun ls hl => ?_)
        exact fX11_pour_53L_ok B hR  n _ _ _ _ _ (rg_she h4) (lv_sub hl [3, 2, 1, 0] rfl) hf
      · have hf := iq h10 hf
        refine x_ldc (v := (-1000000003 : Int32)) B q_601 dX11_pour_47 ?_
        obtain ⟨rfl, rfl⟩ := rt2 hf
        exact x_iret B dX11_pour_49
    · have hf := iq h7 hf
      refine x_ldc_w (v := (-1000000011 : Int32)) B q_910 dX11_pour_24 ?_
      obtain ⟨rfl, rfl⟩ := rt2 hf
      exact x_iret B dX11_pour_27
def rmX11_reads : Room := { frames := 2, cells := 0, slots := 0, locals := 46 }
set_option maxHeartbeats 4000000 in
set_option maxRecDepth 100000 in
theorem cw_X11_reads_X10_lineOf : cwB rmX11_reads rmX10_lineOf yX10_lineOf cX10_lineOf 3 (some .int) 2 := ⟨q_500, q_46, by decide, by decide⟩
set_option maxHeartbeats 4000000 in
set_option maxRecDepth 100000 in
theorem cw_X11_reads_X11_isDay : cwB rmX11_reads rmX11_isDay yX11_isDay cX11_isDay 1 (some .boolean) 1 := ⟨q_476, q_45, by decide, by decide⟩
set_option maxHeartbeats 4000000 in
set_option maxRecDepth 100000 in
theorem cw_X11_reads_X11_isSheet : cwB rmX11_reads rmX11_isSheet yX11_isSheet cX11_isSheet 1 (some .boolean) 1 := ⟨q_905, q_45, by decide, by decide⟩
set_option maxHeartbeats 4000000 in
set_option maxRecDepth 100000 in
theorem cw_X11_reads_X1_has : cwB rmX11_reads rmX1_has yX1_has cX1_has 2 (some .boolean) 1 := ⟨q_440, q_47, by decide, by decide⟩
set_option maxHeartbeats 4000000 in
set_option maxRecDepth 100000 in
theorem cw_X11_reads_X5_isMissing : cwB rmX11_reads rmX5_isMissing yX5_isMissing cX5_isMissing 1 (some .boolean) 0 := ⟨q_909, q_52, by decide, by decide⟩
def fX11_reads_103 (n : Nat)  (k54 : Int32 → Int32 → Nat → Int32 → Mm → Option (Int32)) (x2 : Int32) (x3 : Int32) (x4 : Nat) (x5 : Int32) (f : Mm) : Option (Int32) :=
  k54 x2 x3 x4 (x5 + (nI 1)) f
set_option maxHeartbeats 4000000 in
set_option maxRecDepth 100000 in
theorem fX11_reads_103_ok {V : VE} {G : GE} {N : Nat} {f m : Mm} {n : Nat} {ls : Array Slot} {r : Int32} (B : CX V G cX11_reads 6 "FluxWatch" (some .int)) (hR : V.2.2.2.1 = rmX11_reads)  {k54 : Int32 → Int32 → Nat → Int32 → Mm → Option (Int32)} (hk54 : ∀ (x2 : Int32) (x3 : Int32) (x4 : Nat) (x5 : Int32) (mm : Mm) (ls : Array Slot), rg 5 x4 → lv_has ls 6 [(0, .ref (gz G + 0)), (2, .int x2), (3, .int x3), (4, .ref (gz G + x4)), (5, .int x5)] → k54 x2 x3 x4 x5 mm = some r → WX V G N mm m 0 0 (QQ V G (some (.int r)) N mm m 0 0) 54 ls []) {x2 : Int32} {x3 : Int32} {x4 : Nat} {x5 : Int32} (hx4 : rg 5 x4) (hl : lv_has ls 6 [(0, .ref (gz G + 0)), (2, .int x2), (3, .int x3), (4, .ref (gz G + x4)), (5, .int x5)]) (hf : fX11_reads_103 n  k54 x2 x3 x4 x5 f = some r) : WX V G N f m 0 0 (QQ V G (some (.int r)) N f m 0 0) 103 ls [] := by
  unfold fX11_reads_103 at hf
  refine x_iinc (k := 4) (v := (nI 1)) (lv' := [(5, .int (x5 + (nI 1))), (0, .ref (gz G + 0)), (2, .int x2), (3, .int x3), (4, .ref (gz G + x4))]) B dX11_reads_103 hl rfl (by decide) (by decide) rfl (fun ls hl => ?_)
  refine x_goto (tgt := 54) B dX11_reads_106 (by decide) ?_
  exact hk54 _ _ _ _ _ _ hx4 (lv_sub hl [1, 2, 3, 4, 0] rfl) hf
def fX11_reads_54 (n : Nat)   (k54 : Int32 → Int32 → Nat → Int32 → Mm → Option (Int32)) (x2 : Int32) (x3 : Int32) (x4 : Nat) (x5 : Int32) (f : Mm) : Option (Int32) :=
  if (f x4 1) ≤ x5 then (
  some (-1000000005 : Int32)) else (
  gd (ib x5 24) <|
  if (f (x4 + 1) x5.toNatClampNeg) = (-1000000005 : Int32) then (
  fX11_reads_103 n k54 x2 x3 x4 x5 f) else (
  gd (ib x5 24) <|
  bn (fX10_lineOf n 1 x2 (x3 + x5) f) fun r19 =>
  if (f (x4 + 1) x5.toNatClampNeg) = r19 then (
  fX11_reads_103 n k54 x2 x3 x4 x5 f) else (
  some x5)))
def fX11_reads_54L (n : Nat)   : Nat → Int32 → Int32 → Nat → Int32 → Mm → Option (Int32)
  | 0 => fun _ _ _ _ _ => none
  | q + 1 => fX11_reads_54 n   (fX11_reads_54L n   q)
set_option maxHeartbeats 4000000 in
set_option maxRecDepth 100000 in
theorem fX11_reads_54_ok {V : VE} {G : GE} {N : Nat} {f m : Mm} {n : Nat} {ls : Array Slot} {r : Int32} (B : CX V G cX11_reads 6 "FluxWatch" (some .int)) (hR : V.2.2.2.1 = rmX11_reads)   {k54 : Int32 → Int32 → Nat → Int32 → Mm → Option (Int32)} (hk54 : ∀ (x2 : Int32) (x3 : Int32) (x4 : Nat) (x5 : Int32) (mm : Mm) (ls : Array Slot), rg 5 x4 → lv_has ls 6 [(0, .ref (gz G + 0)), (2, .int x2), (3, .int x3), (4, .ref (gz G + x4)), (5, .int x5)] → k54 x2 x3 x4 x5 mm = some r → WX V G N mm m 0 0 (QQ V G (some (.int r)) N mm m 0 0) 54 ls []) {x2 : Int32} {x3 : Int32} {x4 : Nat} {x5 : Int32} (hx4 : rg 5 x4) (hl : lv_has ls 6 [(0, .ref (gz G + 0)), (2, .int x2), (3, .int x3), (4, .ref (gz G + x4)), (5, .int x5)]) (hf : fX11_reads_54 n  k54 x2 x3 x4 x5 f = some r) : WX V G N f m 0 0 (QQ V G (some (.int r)) N f m 0 0) 54 ls [] := by
  unfold fX11_reads_54 at hf
  refine x_iload B dX11_reads_54 (lv_at hl 4 rfl) ?_
  refine x_aload B dX11_reads_56 (lv_at hl 3 rfl) ?_
  refine y_getFi (C := RX5) (T := TX5) (NN := 3) B (hx4.at0 rfl) inX5 rfl (j := 1) (by decide) q_266 rfl rfl dX11_reads_58 ?_
  refine x_icmp_ge (tgt := 109) B dX11_reads_61 (by decide) (fun h14 => ?_) (fun h14 => ?_)
  · have hf := ip h14 hf
    refine x_ldc (v := (-1000000005 : Int32)) B q_461 dX11_reads_109 ?_
    obtain rfl := rt1 hf
    exact x_iret B dX11_reads_111
  · have hf := iq h14 hf
    refine x_aload B dX11_reads_64 (lv_at hl 3 rfl) ?_
    refine y_getFs (C := RX5) (T := TX5) (NN := 3) (d := 1) B (hx4.at0 rfl) inX5 rfl (j := 2) (by decide) q_268 rfl rfl (by decide) dX11_reads_66 ?_
    refine x_iload B dX11_reads_69 (lv_at hl 4 rfl) ?_
    obtain ⟨h15, hf⟩ := gd_some hf
    refine x_ialdF B (hx4.at 1 rfl) h15 dX11_reads_71 ?_
    refine x_ldc (v := (-1000000005 : Int32)) B q_461 dX11_reads_72 ?_
    refine x_icmp_eq (tgt := 103) B dX11_reads_74 (by decide) (fun h16 => ?_) (fun h16 => ?_)
    · have hf := ip h16 hf
      exact fX11_reads_103_ok B hR hk54 hx4 hl hf
    · have hf := iq h16 hf
      refine x_aload B dX11_reads_77 (lv_at hl 3 rfl) ?_
      refine y_getFs (C := RX5) (T := TX5) (NN := 3) (d := 1) B (hx4.at0 rfl) inX5 rfl (j := 2) (by decide) q_268 rfl rfl (by decide) dX11_reads_79 ?_
      refine x_iload B dX11_reads_82 (lv_at hl 4 rfl) ?_
      obtain ⟨h17, hf⟩ := gd_some hf
      refine x_ialdF B (hx4.at 1 rfl) h17 dX11_reads_84 ?_
      refine x_aload_n B dX11_reads_85 rfl (lv_at hl 0 rfl) ?_
      refine y_getFs (C := RX11) (T := TX11) (NN := 10) (d := 1) B (rg_11_0.at0 rfl) inX11 rfl (j := 0) (by decide) q_388 rfl rfl (by decide) dX11_reads_86 ?_
      refine x_iload_n B dX11_reads_89 rfl (lv_at hl 1 rfl) ?_
      refine x_iload_n B dX11_reads_90 rfl (lv_at hl 2 rfl) ?_
      refine x_iload B dX11_reads_91 (lv_at hl 4 rfl) ?_
      refine x_iadd B dX11_reads_93 ?_
      obtain ⟨r19, c18, hf⟩ := bn_some hf
      refine x_callV0 (rest := [.int (f (x4 + 1) x5.toNatClampNeg)]) B (kX10_lineOf rg_10_1 c18) ⟨rfl, rfl⟩ (rg_10_1.at0 (N := N) rfl).lt (rg_10_1.at0 (N := N) rfl).2 rfl (by decide) q_497 q_498 q_499 (by rw [hR]; exact cw_X11_reads_X10_lineOf) rfl rfl hl.1 (Nat.le_of_ble_eq_true rfl) dX11_reads_94 ⟨Nat.zero_le _, Nat.zero_le _⟩ ?_
      refine x_icmp_eq (tgt := 103) B dX11_reads_97 (by decide) (fun h20 => ?_) (fun h20 => ?_)
      · have hf := ip h20 hf
        exact fX11_reads_103_ok B hR hk54 hx4 hl hf
      · have hf := iq h20 hf
        refine x_iload B dX11_reads_100 (lv_at hl 4 rfl) ?_
        obtain rfl := rt1 hf
        exact x_iret B dX11_reads_102
set_option maxHeartbeats 4000000 in
set_option maxRecDepth 100000 in
theorem fX11_reads_54L_ok {V : VE} {G : GE} {N : Nat} {m : Mm} {n : Nat}  {r : Int32} (B : CX V G cX11_reads 6 "FluxWatch" (some .int)) (hR : V.2.2.2.1 = rmX11_reads)   : ∀ (q : Nat) (x2 : Int32) (x3 : Int32) (x4 : Nat) (x5 : Int32) (mm : Mm) (ls : Array Slot), rg 5 x4 → lv_has ls 6 [(0, .ref (gz G + 0)), (2, .int x2), (3, .int x3), (4, .ref (gz G + x4)), (5, .int x5)] → fX11_reads_54L n  q x2 x3 x4 x5 mm = some r → WX V G N mm m 0 0 (QQ V G (some (.int r)) N mm m 0 0) 54 ls [] := by
  intro q
  induction q with
  | zero =>
    intro x2 x3 x4 x5 mm ls hx4 hl hf
    cases hf
  | succ q ih =>
    intro x2 x3 x4 x5 mm ls hx4 hl hf
    exact fX11_reads_54_ok B hR   ih hx4 hl hf
def fX11_reads (n : Nat) (a1 : Int32) (a2 : Int32) (a3 : Int32) (f : Mm) : Option (Int32) :=
  bn (fX11_isSheet n a1) fun r2 =>
  if r2 = 0 then (
  some (-1000000001 : Int32)) else (
  bn (fX1_has n 2 a2 f) fun r5 =>
  if r5 = 0 then (
  some (-1000000001 : Int32)) else (
  bn (fX11_isDay n a3) fun r8 =>
  if r8 = 0 then (
  some (-1000000001 : Int32)) else (
  gd (ib a1 4) <|
  bn (fX5_isMissing n (73 + 1 + 2 * a1.toNatClampNeg) f) fun r12 =>
  if r12 = 0 then (
  fX11_reads_54L n n a2 a3 (73 + 1 + 2 * a1.toNatClampNeg) (nI 0) f) else (
  some (-1000000011 : Int32)))))
set_option maxHeartbeats 4000000 in
set_option maxRecDepth 100000 in
theorem kX11_reads {l : Launch} {G : GE} {N : Nat} {f m : Mm} {n : Nat} {a1 : Int32} {a2 : Int32} {a3 : Int32} {r : Int32}  (hf : fX11_reads n a1 a2 a3 f = some r) : MT l G yX11_reads cX11_reads 6 (some .int) rmX11_reads [.ref (gz G + 0), .int a1, .int a2, .int a3] N f m (some (.int r)) N f m := by
  unfold fX11_reads at hf
  refine MT.of (by decide) (Nat.le_of_ble_eq_true rfl) (fun V ls hV hR B hl => ?_)
  have B : CX V G cX11_reads 6 "FluxWatch" (some .int) := B
  have hl : lv_has ls 6 [(0, .ref (gz G + 0)), (1, .int a1), (2, .int a2), (3, .int a3)] := hl
  show WX V G N f m 0 0 (QQ V G (some (.int r)) N f m 0 0) 0 ls []
  refine x_iload_n B dX11_reads_0 rfl (lv_at hl 1 rfl) ?_
  obtain ⟨r2, c1, hf⟩ := bn_some hf
  refine x_callS0 (rest := []) B (kX11_isSheet c1) ⟨rfl, rfl⟩ q_903 q_904 (by rw [hR]; exact cw_X11_reads_X11_isSheet) rfl rfl hl.1 (Nat.le_of_ble_eq_true rfl) dX11_reads_1 ⟨Nat.zero_le _, Nat.zero_le _⟩ ?_
  refine x_if_eq (tgt := 28) B dX11_reads_4 (by decide) (fun h3 => ?_) (fun h3 => ?_)
  · have hf := ip h3 hf
    refine x_ldc (v := (-1000000001 : Int32)) B q_432 dX11_reads_28 ?_
    obtain rfl := rt1 hf
    exact x_iret B dX11_reads_30
  · have hf := iq h3 hf
    refine x_aload_n B dX11_reads_7 rfl (lv_at hl 0 rfl) ?_
    refine y_getFs (C := RX11) (T := TX11) (NN := 10) (d := 1) B (rg_11_0.at0 rfl) inX11 rfl (j := 0) (by decide) q_388 rfl rfl (by decide) dX11_reads_8 ?_
    refine y_getFs (C := RX10) (T := TX10) (NN := 16) (d := 1) B (rg_10_1.at0 rfl) inX10 rfl (j := 6) (by decide) q_204 rfl rfl (by decide) dX11_reads_11 ?_
    refine x_iload_n B dX11_reads_14 rfl (lv_at hl 2 rfl) ?_
    obtain ⟨r5, c4, hf⟩ := bn_some hf
    refine x_callV0 (rest := []) B (kX1_has rg_1_2 c4) ⟨rfl, rfl⟩ (rg_1_2.at0 (N := N) rfl).lt (rg_1_2.at0 (N := N) rfl).2 rfl (by decide) q_437 q_438 q_439 (by rw [hR]; exact cw_X11_reads_X1_has) rfl rfl hl.1 (Nat.le_of_ble_eq_true rfl) dX11_reads_15 ⟨Nat.zero_le _, Nat.zero_le _⟩ ?_
    refine x_if_eq (tgt := 28) B dX11_reads_18 (by decide) (fun h6 => ?_) (fun h6 => ?_)
    · have hf := ip h6 hf
      refine x_ldc (v := (-1000000001 : Int32)) B q_432 dX11_reads_28 ?_
      obtain rfl := rt1 hf
      exact x_iret B dX11_reads_30
    · have hf := iq h6 hf
      refine x_iload_n B dX11_reads_21 rfl (lv_at hl 3 rfl) ?_
      obtain ⟨r8, c7, hf⟩ := bn_some hf
      refine x_callS0 (rest := []) B (kX11_isDay c7) ⟨rfl, rfl⟩ q_474 q_475 (by rw [hR]; exact cw_X11_reads_X11_isDay) rfl rfl hl.1 (Nat.le_of_ble_eq_true rfl) dX11_reads_22 ⟨Nat.zero_le _, Nat.zero_le _⟩ ?_
      refine x_if_ne (tgt := 31) B dX11_reads_25 (by decide) (fun h9 => ?_) (fun h9 => ?_)
      · have hf := ip h9 hf
        refine x_ldc (v := (-1000000001 : Int32)) B q_432 dX11_reads_28 ?_
        obtain rfl := rt1 hf
        exact x_iret B dX11_reads_30
      · have hf := iq h9 hf
        refine x_aload_n B dX11_reads_31 rfl (lv_at hl 0 rfl) ?_
        refine y_getFs (C := RX11) (T := TX11) (NN := 10) (d := 73) B (rg_11_0.at0 rfl) inX11 rfl (j := 4) (by decide) q_392 rfl rfl (by decide) dX11_reads_32 ?_
        refine x_iload_n B dX11_reads_35 rfl (lv_at hl 1 rfl) ?_
        obtain ⟨h10, hf⟩ := gd_some hf
        refine x_aaldS B (rg_11_0.at 73 rfl) h10 dX11_reads_36 ?_
        refine x_astore (lv' := [(4, .ref (gz G + (73 + 1 + 2 * a1.toNatClampNeg))), (0, .ref (gz G + 0)), (1, .int a1), (2, .int a2), (3, .int a3)]) B dX11_reads_37 hl (by decide) rfl (fun ls hl => ?_)
        refine x_aload B dX11_reads_39 (lv_at hl 0 rfl) ?_
        obtain ⟨r12, c11, hf⟩ := bn_some hf
        refine x_callV0 (rest := []) B (kX5_isMissing (rg_she h10) c11) ⟨rfl, rfl⟩ ((rg_she h10).at0 (N := N) rfl).lt ((rg_she h10).at0 (N := N) rfl).2 rfl (by decide) q_906 q_907 q_908 (by rw [hR]; exact cw_X11_reads_X5_isMissing) rfl rfl hl.1 (Nat.le_of_ble_eq_true rfl) dX11_reads_41 ⟨Nat.zero_le _, Nat.zero_le _⟩ ?_
        refine x_if_eq (tgt := 51) B dX11_reads_44 (by decide) (fun h13 => ?_) (fun h13 => ?_)
        · have hf := ip h13 hf
          refine x_iconst (v := (nI 0)) B dX11_reads_51 (by decide) ?_
          refine x_istore (lv' := [(5, .int (nI 0)), (4, .ref (gz G + (73 + 1 + 2 * a1.toNatClampNeg))), (0, .ref (gz G + 0)), (1, .int a1), (2, .int a2), (3, .int a3)]) B dX11_reads_52 hl (by decide) rfl (fun ls hl => ?_)
          exact fX11_reads_54L_ok B hR  n _ _ _ _ _ _ (rg_she h10) (lv_sub hl [2, 4, 5, 1, 0] rfl) hf
        · have hf := iq h13 hf
          refine x_ldc_w (v := (-1000000011 : Int32)) B q_910 dX11_reads_47 ?_
          obtain rfl := rt1 hf
          exact x_iret B dX11_reads_50
def rmX11_rest : Room := { frames := 1, cells := 0, slots := 0, locals := 20 }
set_option maxHeartbeats 4000000 in
set_option maxRecDepth 100000 in
theorem cw_X11_rest_X11_isSlot : cwB rmX11_rest rmX11_isSlot yX11_isSlot cX11_isSlot 1 (some .boolean) 1 := ⟨q_1040, q_45, by decide, by decide⟩
def fX11_rest (n : Nat) (a1 : Int32) (a2 : Int32) (f : Mm) : Option (Int32) :=
  bn (fX11_isSlot n a1) fun r2 =>
  if r2 = 0 then (
  some (-1000000001 : Int32)) else (
  gd (ib a1 5) <|
  if (f (82 + 1 + 3 * a1.toNatClampNeg) 0) = 0 then (
  some (-1000000011 : Int32)) else (
  if (f (82 + 1 + 3 * a1.toNatClampNeg) 0) = (nI 3) then (
  if a2 = 0 then (
  some (-1000000002 : Int32)) else (
  gd (nz a2) <|
  some (irm (f (82 + 1 + 3 * a1.toNatClampNeg) 3) a2))) else (
  some (-1000000012 : Int32))))
set_option maxHeartbeats 4000000 in
set_option maxRecDepth 100000 in
theorem kX11_rest {l : Launch} {G : GE} {N : Nat} {f m : Mm} {n : Nat} {a1 : Int32} {a2 : Int32} {r : Int32}  (hf : fX11_rest n a1 a2 f = some r) : MT l G yX11_rest cX11_rest 4 (some .int) rmX11_rest [.ref (gz G + 0), .int a1, .int a2] N f m (some (.int r)) N f m := by
  unfold fX11_rest at hf
  refine MT.of (by decide) (Nat.le_of_ble_eq_true rfl) (fun V ls hV hR B hl => ?_)
  have B : CX V G cX11_rest 4 "FluxWatch" (some .int) := B
  have hl : lv_has ls 4 [(0, .ref (gz G + 0)), (1, .int a1), (2, .int a2)] := hl
  show WX V G N f m 0 0 (QQ V G (some (.int r)) N f m 0 0) 0 ls []
  refine x_iload_n B dX11_rest_0 rfl (lv_at hl 1 rfl) ?_
  obtain ⟨r2, c1, hf⟩ := bn_some hf
  refine x_callS0 (rest := []) B (kX11_isSlot c1) ⟨rfl, rfl⟩ q_1038 q_1039 (by rw [hR]; exact cw_X11_rest_X11_isSlot) rfl rfl hl.1 (Nat.le_of_ble_eq_true rfl) dX11_rest_1 ⟨Nat.zero_le _, Nat.zero_le _⟩ ?_
  refine x_if_ne (tgt := 10) B dX11_rest_4 (by decide) (fun h3 => ?_) (fun h3 => ?_)
  · have hf := ip h3 hf
    refine x_ldc (v := (-1000000001 : Int32)) B q_432 dX11_rest_7 ?_
    obtain rfl := rt1 hf
    exact x_iret B dX11_rest_9
  · have hf := iq h3 hf
    refine x_aload_n B dX11_rest_10 rfl (lv_at hl 0 rfl) ?_
    refine y_getFs (C := RX11) (T := TX11) (NN := 10) (d := 82) B (rg_11_0.at0 rfl) inX11 rfl (j := 5) (by decide) q_393 rfl rfl (by decide) dX11_rest_11 ?_
    refine x_iload_n B dX11_rest_14 rfl (lv_at hl 1 rfl) ?_
    obtain ⟨h4, hf⟩ := gd_some hf
    refine x_aaldT B (rg_11_0.at 82 rfl) h4 dX11_rest_15 ?_
    refine x_astore_n (lv' := [(3, .ref (gz G + (82 + 1 + 3 * a1.toNatClampNeg))), (0, .ref (gz G + 0)), (1, .int a1), (2, .int a2)]) B dX11_rest_16 rfl hl (by decide) rfl (fun ls hl => ?_)
    refine x_aload_n B dX11_rest_17 rfl (lv_at hl 0 rfl) ?_
    refine y_getFi (C := RX6) (T := TX6) (NN := 5) B ((rg_slo h4).at0 rfl) inX6 rfl (j := 0) (by decide) q_286 rfl rfl dX11_rest_18 ?_
    refine x_if_ne (tgt := 28) B dX11_rest_21 (by decide) (fun h5 => ?_) (fun h5 => ?_)
    · have hf := ip h5 hf
      refine x_ldc_w (v := (-1000000011 : Int32)) B q_910 dX11_rest_24 ?_
      obtain rfl := rt1 hf
      exact x_iret B dX11_rest_27
    · have hf := iq h5 hf
      refine x_aload_n B dX11_rest_28 rfl (lv_at hl 0 rfl) ?_
      refine y_getFi (C := RX6) (T := TX6) (NN := 5) B ((rg_slo h4).at0 rfl) inX6 rfl (j := 0) (by decide) q_286 rfl rfl dX11_rest_29 ?_
      refine x_iconst (v := (nI 3)) B dX11_rest_32 (by decide) ?_
      refine x_icmp_eq (tgt := 39) B dX11_rest_33 (by decide) (fun h6 => ?_) (fun h6 => ?_)
      · have hf := ip h6 hf
        refine x_iload_n B dX11_rest_39 rfl (lv_at hl 3 rfl) ?_
        refine x_if_ne (tgt := 48) B dX11_rest_40 (by decide) (fun h7 => ?_) (fun h7 => ?_)
        · have hf := ip h7 hf
          refine x_ldc (v := (-1000000002 : Int32)) B q_462 dX11_rest_43 ?_
          refine x_goto (tgt := 54) B dX11_rest_45 (by decide) ?_
          obtain rfl := rt1 hf
          exact x_iret B dX11_rest_54
        · have hf := iq h7 hf
          refine x_aload_n B dX11_rest_48 rfl (lv_at hl 0 rfl) ?_
          refine y_getFi (C := RX6) (T := TX6) (NN := 5) B ((rg_slo h4).at0 rfl) inX6 rfl (j := 3) (by decide) q_289 rfl rfl dX11_rest_49 ?_
          refine x_iload_n B dX11_rest_52 rfl (lv_at hl 3 rfl) ?_
          obtain ⟨h8, hf⟩ := gd_some hf
          refine y_irem B dX11_rest_53 (nz_ne h8) ?_
          obtain rfl := rt1 hf
          exact x_iret B dX11_rest_54
      · have hf := iq h6 hf
        refine x_ldc (v := (-1000000012 : Int32)) B q_565 dX11_rest_36 ?_
        obtain rfl := rt1 hf
        exact x_iret B dX11_rest_38
def rmX11_run : Room := { frames := 5, cells := 0, slots := 0, locals := 158 }
set_option maxHeartbeats 4000000 in
set_option maxRecDepth 100000 in
theorem cw_X11_run_X10_passDay : cwB rmX11_run rmX10_passDay yX10_passDay cX10_passDay 5 none 0 := ⟨q_605, q_46, by decide, by decide⟩
def fX11_run_34 (n : Nat) (N : Nat)  (k34 : Int32 → Int32 → Mm → Option (Int32 × Mm)) (x1 : Int32) (x2 : Int32) (f : Mm) : Option (Int32 × Mm) :=
  if x1 ≤ x2 then (
  some (f 1 1, f)) else (
  bn (fX10_passDay n N 1 f) fun f6 =>
  k34 x1 (x2 + (nI 1)) f6)
def fX11_run_34L (n : Nat) (N : Nat)  : Nat → Int32 → Int32 → Mm → Option (Int32 × Mm)
  | 0 => fun _ _ _ => none
  | q + 1 => fX11_run_34 n N  (fX11_run_34L n N  q)
set_option maxHeartbeats 4000000 in
set_option maxRecDepth 100000 in
theorem fX11_run_34_ok {V : VE} {G : GE} {N : Nat} {f m : Mm} {n : Nat} {ls : Array Slot} {r : Int32} {g : Mm} (B : CX V G cX11_run 3 "FluxWatch" (some .int)) (hR : V.2.2.2.1 = rmX11_run)   {k34 : Int32 → Int32 → Mm → Option (Int32 × Mm)} (hk34 : ∀ (x1 : Int32) (x2 : Int32) (mm : Mm) (ls : Array Slot),  lv_has ls 3 [(0, .ref (gz G + 0)), (1, .int x1), (2, .int x2)] → k34 x1 x2 mm = some (r, g) → WX V G N mm m 0 0 (QQ V G (some (.int r)) N g m 0 0) 34 ls []) {x1 : Int32} {x2 : Int32}  (hl : lv_has ls 3 [(0, .ref (gz G + 0)), (1, .int x1), (2, .int x2)]) (hf : fX11_run_34 n N k34 x1 x2 f = some (r, g)) : WX V G N f m 0 0 (QQ V G (some (.int r)) N g m 0 0) 34 ls [] := by
  unfold fX11_run_34 at hf
  refine x_iload_n B dX11_run_34 rfl (lv_at hl 2 rfl) ?_
  refine x_iload_n B dX11_run_35 rfl (lv_at hl 1 rfl) ?_
  refine x_icmp_ge (tgt := 52) B dX11_run_36 (by decide) (fun h4 => ?_) (fun h4 => ?_)
  · have hf := ip h4 hf
    refine x_aload_n B dX11_run_52 rfl (lv_at hl 0 rfl) ?_
    refine y_getFs (C := RX11) (T := TX11) (NN := 10) (d := 1) B (rg_11_0.at0 rfl) inX11 rfl (j := 0) (by decide) q_388 rfl rfl (by decide) dX11_run_53 ?_
    refine y_getFi (C := RX10) (T := TX10) (NN := 16) B (rg_10_1.at0 rfl) inX10 rfl (j := 1) (by decide) q_193 rfl rfl dX11_run_56 ?_
    obtain ⟨rfl, rfl⟩ := rt2 hf
    exact x_iret B dX11_run_59
  · have hf := iq h4 hf
    refine x_aload_n B dX11_run_39 rfl (lv_at hl 0 rfl) ?_
    refine y_getFs (C := RX11) (T := TX11) (NN := 10) (d := 1) B (rg_11_0.at0 rfl) inX11 rfl (j := 0) (by decide) q_388 rfl rfl (by decide) dX11_run_40 ?_
    obtain ⟨f6, c5, hf⟩ := bn_some hf
    refine x_callV0 (rest := []) B (kX10_passDay rg_10_1 c5) ⟨rfl, rfl⟩ (rg_10_1.at0 (N := N) rfl).lt (rg_10_1.at0 (N := N) rfl).2 rfl (by decide) q_602 q_603 q_604 (by rw [hR]; exact cw_X11_run_X10_passDay) rfl rfl hl.1 (Nat.le_of_ble_eq_true rfl) dX11_run_43 ⟨Nat.zero_le _, Nat.zero_le _⟩ ?_
    refine x_iinc (k := 2) (v := (nI 1)) (lv' := [(2, .int (x2 + (nI 1))), (0, .ref (gz G + 0)), (1, .int x1)]) B dX11_run_46 hl rfl (by decide) (by decide) rfl (fun ls hl => ?_)
    refine x_goto (tgt := 34) B dX11_run_49 (by decide) ?_
    exact hk34 _ _ _ _ (lv_sub hl [1, 2, 0] rfl) hf
set_option maxHeartbeats 4000000 in
set_option maxRecDepth 100000 in
theorem fX11_run_34L_ok {V : VE} {G : GE} {N : Nat} {m : Mm} {n : Nat}  {r : Int32} {g : Mm} (B : CX V G cX11_run 3 "FluxWatch" (some .int)) (hR : V.2.2.2.1 = rmX11_run)   : ∀ (q : Nat) (x1 : Int32) (x2 : Int32) (mm : Mm) (ls : Array Slot),  lv_has ls 3 [(0, .ref (gz G + 0)), (1, .int x1), (2, .int x2)] → fX11_run_34L n N q x1 x2 mm = some (r, g) → WX V G N mm m 0 0 (QQ V G (some (.int r)) N g m 0 0) 34 ls [] := by
  intro q
  induction q with
  | zero =>
    intro x1 x2 mm ls hl hf
    cases hf
  | succ q ih =>
    intro x1 x2 mm ls hl hf
    exact fX11_run_34_ok B hR   ih  hl hf
def fX11_run (n : Nat) (N : Nat) (a1 : Int32) (f : Mm) : Option (Int32 × Mm) :=
  if a1 < (nI 1) then (
  some ((-1000000001 : Int32), f)) else (
  if a1 ≤ (nI 60) then (
  if ((f 1 0) + a1) ≤ (nI 1999) then (
  fX11_run_34L n N n a1 (nI 0) f) else (
  some ((-1000000003 : Int32), f))) else (
  some ((-1000000001 : Int32), f)))
set_option maxHeartbeats 4000000 in
set_option maxRecDepth 100000 in
theorem kX11_run {l : Launch} {G : GE} {N : Nat} {f m : Mm} {n : Nat} {a1 : Int32} {r : Int32} {g : Mm}  (hf : fX11_run n N a1 f = some (r, g)) : MT l G yX11_run cX11_run 3 (some .int) rmX11_run [.ref (gz G + 0), .int a1] N f m (some (.int r)) N g m := by
  unfold fX11_run at hf
  refine MT.of (by decide) (Nat.le_of_ble_eq_true rfl) (fun V ls hV hR B hl => ?_)
  have B : CX V G cX11_run 3 "FluxWatch" (some .int) := B
  have hl : lv_has ls 3 [(0, .ref (gz G + 0)), (1, .int a1)] := hl
  show WX V G N f m 0 0 (QQ V G (some (.int r)) N g m 0 0) 0 ls []
  refine x_iload_n B dX11_run_0 rfl (lv_at hl 1 rfl) ?_
  refine x_iconst (v := (nI 1)) B dX11_run_1 (by decide) ?_
  refine x_icmp_lt (tgt := 11) B dX11_run_2 (by decide) (fun h1 => ?_) (fun h1 => ?_)
  · have hf := ip h1 hf
    refine x_ldc (v := (-1000000001 : Int32)) B q_432 dX11_run_11 ?_
    obtain ⟨rfl, rfl⟩ := rt2 hf
    exact x_iret B dX11_run_13
  · have hf := iq h1 hf
    refine x_iload_n B dX11_run_5 rfl (lv_at hl 1 rfl) ?_
    refine x_bipush (v := (nI 60)) B dX11_run_6 (by decide) ?_
    refine x_icmp_le (tgt := 14) B dX11_run_8 (by decide) (fun h2 => ?_) (fun h2 => ?_)
    · have hf := ip h2 hf
      refine x_aload_n B dX11_run_14 rfl (lv_at hl 0 rfl) ?_
      refine y_getFs (C := RX11) (T := TX11) (NN := 10) (d := 1) B (rg_11_0.at0 rfl) inX11 rfl (j := 0) (by decide) q_388 rfl rfl (by decide) dX11_run_15 ?_
      refine y_getFi (C := RX10) (T := TX10) (NN := 16) B (rg_10_1.at0 rfl) inX10 rfl (j := 0) (by decide) q_189 rfl rfl dX11_run_18 ?_
      refine x_iload_n B dX11_run_21 rfl (lv_at hl 1 rfl) ?_
      refine x_iadd B dX11_run_22 ?_
      refine x_sipush (v := (nI 1999)) B dX11_run_23 (by decide) ?_
      refine x_icmp_le (tgt := 32) B dX11_run_26 (by decide) (fun h3 => ?_) (fun h3 => ?_)
      · have hf := ip h3 hf
        refine x_iconst (v := (nI 0)) B dX11_run_32 (by decide) ?_
        refine x_istore_n (lv' := [(2, .int (nI 0)), (0, .ref (gz G + 0)), (1, .int a1)]) B dX11_run_33 rfl hl (by decide) rfl (fun ls hl => ?_)
        exact fX11_run_34L_ok B hR  n _ _ _ _ (lv_sub hl [1, 2, 0] rfl) hf
      · have hf := iq h3 hf
        refine x_ldc (v := (-1000000003 : Int32)) B q_601 dX11_run_29 ?_
        obtain ⟨rfl, rfl⟩ := rt2 hf
        exact x_iret B dX11_run_31
    · have hf := iq h2 hf
      refine x_ldc (v := (-1000000001 : Int32)) B q_432 dX11_run_11 ?_
      obtain ⟨rfl, rfl⟩ := rt2 hf
      exact x_iret B dX11_run_13
def rmX11_seed : Room := { frames := 0, cells := 0, slots := 0, locals := 0 }
def fX11_seed (n : Nat) (a1 : Int32) (f : Mm) : Option (Int32 × Mm) :=
  lt (up f 1 5 a1) fun f1 =>
  some (f 1 5, f1)
set_option maxHeartbeats 4000000 in
set_option maxRecDepth 100000 in
theorem kX11_seed {l : Launch} {G : GE} {N : Nat} {f m : Mm} {n : Nat} {a1 : Int32} {r : Int32} {g : Mm}  (hf : fX11_seed n a1 f = some (r, g)) : MT l G yX11_seed cX11_seed 3 (some .int) rmX11_seed [.ref (gz G + 0), .int a1] N f m (some (.int r)) N g m := by
  unfold fX11_seed at hf
  refine MT.of (by decide) (Nat.le_of_ble_eq_true rfl) (fun V ls hV hR B hl => ?_)
  have B : CX V G cX11_seed 3 "FluxWatch" (some .int) := B
  have hl : lv_has ls 3 [(0, .ref (gz G + 0)), (1, .int a1)] := hl
  show WX V G N f m 0 0 (QQ V G (some (.int r)) N g m 0 0) 0 ls []
  refine x_aload_n B dX11_seed_0 rfl (lv_at hl 0 rfl) ?_
  refine y_getFs (C := RX11) (T := TX11) (NN := 10) (d := 1) B (rg_11_0.at0 rfl) inX11 rfl (j := 0) (by decide) q_388 rfl rfl (by decide) dX11_seed_1 ?_
  refine y_getFi (C := RX10) (T := TX10) (NN := 16) B (rg_10_1.at0 rfl) inX10 rfl (j := 5) (by decide) q_202 rfl rfl dX11_seed_4 ?_
  refine x_istore_n (lv' := [(2, .int (f 1 5)), (0, .ref (gz G + 0)), (1, .int a1)]) B dX11_seed_7 rfl hl (by decide) rfl (fun ls hl => ?_)
  refine x_aload_n B dX11_seed_8 rfl (lv_at hl 1 rfl) ?_
  refine y_getFs (C := RX11) (T := TX11) (NN := 10) (d := 1) B (rg_11_0.at0 rfl) inX11 rfl (j := 0) (by decide) q_388 rfl rfl (by decide) dX11_seed_9 ?_
  refine x_iload_n B dX11_seed_12 rfl (lv_at hl 2 rfl) ?_
  refine x_putF (C := RX10) (T := TX10) (NN := 16) (ty0 := tyX10) (ty := .int) B (rg_10_1.at0 rfl) inX10 tyX10_ok nmX10 rfl (j := 5) (by decide) q_202 rfl rfl rfl rfl rfl rfl dX11_seed_13 (fun f1 e2 => ?_)
  have hf := lt_some hf e2
  refine x_iload_n B dX11_seed_16 rfl (lv_at hl 0 rfl) ?_
  obtain ⟨rfl, rfl⟩ := rt2 hf
  exact x_iret B dX11_seed_17
def rmX11_seen : Room := { frames := 2, cells := 0, slots := 0, locals := 44 }
set_option maxHeartbeats 4000000 in
set_option maxRecDepth 100000 in
theorem cw_X11_seen_X10_seenOn : cwB rmX11_seen rmX10_seenOn yX10_seenOn cX10_seenOn 2 (some .int) 1 := ⟨q_489, q_46, by decide, by decide⟩
set_option maxHeartbeats 4000000 in
set_option maxRecDepth 100000 in
theorem cw_X11_seen_X11_isDay : cwB rmX11_seen rmX11_isDay yX11_isDay cX11_isDay 1 (some .boolean) 1 := ⟨q_476, q_45, by decide, by decide⟩
def fX11_seen (n : Nat) (a1 : Int32) (f : Mm) : Option (Int32) :=
  bn (fX11_isDay n a1) fun r2 =>
  if r2 = 0 then (
  some (-1000000001 : Int32)) else (
  bn (fX10_seenOn n 1 a1 f) fun r5 =>
  some r5)
set_option maxHeartbeats 4000000 in
set_option maxRecDepth 100000 in
theorem kX11_seen {l : Launch} {G : GE} {N : Nat} {f m : Mm} {n : Nat} {a1 : Int32} {r : Int32}  (hf : fX11_seen n a1 f = some r) : MT l G yX11_seen cX11_seen 2 (some .int) rmX11_seen [.ref (gz G + 0), .int a1] N f m (some (.int r)) N f m := by
  unfold fX11_seen at hf
  refine MT.of (by decide) (Nat.le_of_ble_eq_true rfl) (fun V ls hV hR B hl => ?_)
  have B : CX V G cX11_seen 2 "FluxWatch" (some .int) := B
  have hl : lv_has ls 2 [(0, .ref (gz G + 0)), (1, .int a1)] := hl
  show WX V G N f m 0 0 (QQ V G (some (.int r)) N f m 0 0) 0 ls []
  refine x_iload_n B dX11_seen_0 rfl (lv_at hl 1 rfl) ?_
  obtain ⟨r2, c1, hf⟩ := bn_some hf
  refine x_callS0 (rest := []) B (kX11_isDay c1) ⟨rfl, rfl⟩ q_474 q_475 (by rw [hR]; exact cw_X11_seen_X11_isDay) rfl rfl hl.1 (Nat.le_of_ble_eq_true rfl) dX11_seen_1 ⟨Nat.zero_le _, Nat.zero_le _⟩ ?_
  refine x_if_eq (tgt := 18) B dX11_seen_4 (by decide) (fun h3 => ?_) (fun h3 => ?_)
  · have hf := ip h3 hf
    refine x_ldc (v := (-1000000001 : Int32)) B q_432 dX11_seen_18 ?_
    obtain rfl := rt1 hf
    exact x_iret B dX11_seen_20
  · have hf := iq h3 hf
    refine x_aload_n B dX11_seen_7 rfl (lv_at hl 0 rfl) ?_
    refine y_getFs (C := RX11) (T := TX11) (NN := 10) (d := 1) B (rg_11_0.at0 rfl) inX11 rfl (j := 0) (by decide) q_388 rfl rfl (by decide) dX11_seen_8 ?_
    refine x_iload_n B dX11_seen_11 rfl (lv_at hl 1 rfl) ?_
    obtain ⟨r5, c4, hf⟩ := bn_some hf
    refine x_callV0 (rest := []) B (kX10_seenOn rg_10_1 c4) ⟨rfl, rfl⟩ (rg_10_1.at0 (N := N) rfl).lt (rg_10_1.at0 (N := N) rfl).2 rfl (by decide) q_486 q_487 q_488 (by rw [hR]; exact cw_X11_seen_X10_seenOn) rfl rfl hl.1 (Nat.le_of_ble_eq_true rfl) dX11_seen_12 ⟨Nat.zero_le _, Nat.zero_le _⟩ ?_
    refine x_goto (tgt := 20) B dX11_seen_15 (by decide) ?_
    obtain rfl := rt1 hf
    exact x_iret B dX11_seen_20
def rmX10_change : Room := { frames := 0, cells := 0, slots := 0, locals := 0 }
def fX10_change (n : Nat) (o : Nat) (a1 : Int32) (a2 : Int32) (f : Mm) : Option (Int32 × Mm) :=
  if a1 = (nI 0) then (
  lt (up f o 2 a2) fun f2 =>
  some (f o 2, f2)) else (
  if a1 = (nI 1) then (
  lt (up f o 3 a2) fun f5 =>
  some (f o 3, f5)) else (
  if a1 = (nI 2) then (
  lt (up f o 1 a2) fun f8 =>
  some (f o 1, f8)) else (
  lt (up f o 4 a2) fun f10 =>
  some (f o 4, f10))))
set_option maxHeartbeats 4000000 in
set_option maxRecDepth 100000 in
theorem kX10_change {l : Launch} {G : GE} {N : Nat} {f m : Mm} {n : Nat} {o : Nat} {a1 : Int32} {a2 : Int32} {r : Int32} {g : Mm} (ho : rg 10 o) (hf : fX10_change n o a1 a2 f = some (r, g)) : MT l G yX10_change cX10_change 4 (some .int) rmX10_change [.ref (gz G + o), .int a1, .int a2] N f m (some (.int r)) N g m := by
  unfold fX10_change at hf
  refine MT.of (by decide) (Nat.le_of_ble_eq_true rfl) (fun V ls hV hR B hl => ?_)
  have B : CX V G cX10_change 4 "FluxWatch$World" (some .int) := B
  have hl : lv_has ls 4 [(0, .ref (gz G + o)), (1, .int a1), (2, .int a2)] := hl
  show WX V G N f m 0 0 (QQ V G (some (.int r)) N g m 0 0) 0 ls []
  refine x_iload_n B dX10_change_0 rfl (lv_at hl 1 rfl) ?_
  by_cases h1 : a1 = (nI 0)
  · have hf := ip h1 hf
    refine x_tabIn (a := 0) (tgt := 28) B dX10_change_1 (by rw [h1]; rfl) (by decide) (by decide) rfl (by decide) ?_
    refine x_aload_n B dX10_change_28 rfl (lv_at hl 0 rfl) ?_
    refine y_getFi (C := RX10) (T := TX10) (NN := 16) B (ho.at0 rfl) inX10 rfl (j := 2) (by decide) q_194 rfl rfl dX10_change_29 ?_
    refine x_istore_n (lv' := [(3, .int (f o 2)), (0, .ref (gz G + o)), (1, .int a1), (2, .int a2)]) B dX10_change_32 rfl hl (by decide) rfl (fun ls hl => ?_)
    refine x_aload_n B dX10_change_33 rfl (lv_at hl 1 rfl) ?_
    refine x_iload_n B dX10_change_34 rfl (lv_at hl 3 rfl) ?_
    refine x_putF (C := RX10) (T := TX10) (NN := 16) (ty0 := tyX10) (ty := .int) B (ho.at0 rfl) inX10 tyX10_ok nmX10 rfl (j := 2) (by decide) q_194 rfl rfl rfl rfl rfl rfl dX10_change_35 (fun f2 e3 => ?_)
    have hf := lt_some hf e3
    refine x_iload_n B dX10_change_38 rfl (lv_at hl 0 rfl) ?_
    obtain ⟨rfl, rfl⟩ := rt2 hf
    exact x_iret B dX10_change_39
  · have hf := iq h1 hf
    by_cases h4 : a1 = (nI 1)
    · have hf := ip h4 hf
      refine x_tabIn (a := 1) (tgt := 40) B dX10_change_1 (by rw [h4]; rfl) (by decide) (by decide) rfl (by decide) ?_
      refine x_aload_n B dX10_change_40 rfl (lv_at hl 0 rfl) ?_
      refine y_getFi (C := RX10) (T := TX10) (NN := 16) B (ho.at0 rfl) inX10 rfl (j := 3) (by decide) q_197 rfl rfl dX10_change_41 ?_
      refine x_istore_n (lv' := [(3, .int (f o 3)), (0, .ref (gz G + o)), (1, .int a1), (2, .int a2)]) B dX10_change_44 rfl hl (by decide) rfl (fun ls hl => ?_)
      refine x_aload_n B dX10_change_45 rfl (lv_at hl 1 rfl) ?_
      refine x_iload_n B dX10_change_46 rfl (lv_at hl 3 rfl) ?_
      refine x_putF (C := RX10) (T := TX10) (NN := 16) (ty0 := tyX10) (ty := .int) B (ho.at0 rfl) inX10 tyX10_ok nmX10 rfl (j := 3) (by decide) q_197 rfl rfl rfl rfl rfl rfl dX10_change_47 (fun f5 e6 => ?_)
      have hf := lt_some hf e6
      refine x_iload_n B dX10_change_50 rfl (lv_at hl 0 rfl) ?_
      obtain ⟨rfl, rfl⟩ := rt2 hf
      exact x_iret B dX10_change_51
    · have hf := iq h4 hf
      by_cases h7 : a1 = (nI 2)
      · have hf := ip h7 hf
        refine x_tabIn (a := 2) (tgt := 52) B dX10_change_1 (by rw [h7]; rfl) (by decide) (by decide) rfl (by decide) ?_
        refine x_aload_n B dX10_change_52 rfl (lv_at hl 0 rfl) ?_
        refine y_getFi (C := RX10) (T := TX10) (NN := 16) B (ho.at0 rfl) inX10 rfl (j := 1) (by decide) q_191 rfl rfl dX10_change_53 ?_
        refine x_istore_n (lv' := [(3, .int (f o 1)), (0, .ref (gz G + o)), (1, .int a1), (2, .int a2)]) B dX10_change_56 rfl hl (by decide) rfl (fun ls hl => ?_)
        refine x_aload_n B dX10_change_57 rfl (lv_at hl 1 rfl) ?_
        refine x_iload_n B dX10_change_58 rfl (lv_at hl 3 rfl) ?_
        refine x_putF (C := RX10) (T := TX10) (NN := 16) (ty0 := tyX10) (ty := .int) B (ho.at0 rfl) inX10 tyX10_ok nmX10 rfl (j := 1) (by decide) q_191 rfl rfl rfl rfl rfl rfl dX10_change_59 (fun f8 e9 => ?_)
        have hf := lt_some hf e9
        refine x_iload_n B dX10_change_62 rfl (lv_at hl 0 rfl) ?_
        obtain ⟨rfl, rfl⟩ := rt2 hf
        exact x_iret B dX10_change_63
      · have hf := iq h7 hf
        have h1t := lv_neT h1 (show ((nI 0)).toInt = 0 from rfl)
        have h4t := lv_neT h4 (show ((nI 1)).toInt = 1 from rfl)
        have h7t := lv_neT h7 (show ((nI 2)).toInt = 2 from rfl)
        refine x_tabOut (tgt := 64) B dX10_change_1 (by omega) (by decide) ?_
        refine x_aload_n B dX10_change_64 rfl (lv_at hl 0 rfl) ?_
        refine y_getFi (C := RX10) (T := TX10) (NN := 16) B (ho.at0 rfl) inX10 rfl (j := 4) (by decide) q_200 rfl rfl dX10_change_65 ?_
        refine x_istore_n (lv' := [(3, .int (f o 4)), (0, .ref (gz G + o)), (1, .int a1), (2, .int a2)]) B dX10_change_68 rfl hl (by decide) rfl (fun ls hl => ?_)
        refine x_aload_n B dX10_change_69 rfl (lv_at hl 1 rfl) ?_
        refine x_iload_n B dX10_change_70 rfl (lv_at hl 3 rfl) ?_
        refine x_putF (C := RX10) (T := TX10) (NN := 16) (ty0 := tyX10) (ty := .int) B (ho.at0 rfl) inX10 tyX10_ok nmX10 rfl (j := 4) (by decide) q_200 rfl rfl rfl rfl rfl rfl dX10_change_71 (fun f10 e11 => ?_)
        have hf := lt_some hf e11
        refine x_iload_n B dX10_change_74 rfl (lv_at hl 0 rfl) ?_
        obtain ⟨rfl, rfl⟩ := rt2 hf
        exact x_iret B dX10_change_75
def rmX11_set : Room := { frames := 1, cells := 0, slots := 0, locals := 23 }
set_option maxHeartbeats 4000000 in
set_option maxRecDepth 100000 in
theorem cw_X11_set_X10_change : cwB rmX11_set rmX10_change yX10_change cX10_change 4 (some .int) 2 := ⟨q_592, q_46, by decide, by decide⟩
def fX11_set (n : Nat) (a1 : Int32) (a2 : Int32) (f : Mm) : Option (Int32 × Mm) :=
  if a1 < 0 then (
  some ((-1000000001 : Int32), f)) else (
  if (nI 4) ≤ a1 then (
  some ((-1000000001 : Int32), f)) else (
  if a1 < (nI 4) then (
  gd (ib a1 4) <|
  if a2 < (([1, 0, 0, 0] : List Int32).getD a1.toNatClampNeg 0) then (
  some ((-1000000001 : Int32), f)) else (
  gd (ib a1 4) <|
  if a2 ≤ (([999, 99, 10000, 1] : List Int32).getD a1.toNatClampNeg 0) then (
  bn2 (fX10_change n 1 a1 a2 f) fun r22 f21 =>
  some (r22, f21)) else (
  some ((-1000000001 : Int32), f)))) else (
  some ((-1000000001 : Int32), f))))
set_option maxHeartbeats 4000000 in
set_option maxRecDepth 100000 in
theorem kX11_set {l : Launch} {G : GE} {N : Nat} {f m : Mm} {n : Nat} {a1 : Int32} {a2 : Int32} {r : Int32} {g : Mm}  (hf : fX11_set n a1 a2 f = some (r, g)) : MT l G yX11_set cX11_set 3 (some .int) rmX11_set [.ref (gz G + 0), .int a1, .int a2] N f m (some (.int r)) N g m := by
  unfold fX11_set at hf
  refine MT.of (by decide) (Nat.le_of_ble_eq_true rfl) (fun V ls hV hR B hl => ?_)
  have B : CX V G cX11_set 3 "FluxWatch" (some .int) := B
  have hl : lv_has ls 3 [(0, .ref (gz G + 0)), (1, .int a1), (2, .int a2)] := hl
  show WX V G N f m 0 0 (QQ V G (some (.int r)) N g m 0 0) 0 ls []
  refine x_iload_n B dX11_set_0 rfl (lv_at hl 1 rfl) ?_
  refine x_if_lt (tgt := 20) B dX11_set_1 (by decide) (fun h1 => ?_) (fun h1 => ?_)
  · have hf := ip h1 hf
    refine x_ldc (v := (-1000000001 : Int32)) B q_432 dX11_set_20 ?_
    obtain ⟨rfl, rfl⟩ := rt2 hf
    exact x_iret B dX11_set_22
  · have hf := iq h1 hf
    refine x_iload_n B dX11_set_4 rfl (lv_at hl 1 rfl) ?_
    refine x_gst (xs := [1, 0, 0, 0]) B B.2.2.2.2.2.2.2.2.2.1.2.1 q_585 dX11_set_5 (fun b2 h3 h4 => ?_)
    refine x_salen (v := (nI 4)) B h3 h4 (by decide) dX11_set_8 ?_
    refine x_icmp_ge (tgt := 20) B dX11_set_9 (by decide) (fun h5 => ?_) (fun h5 => ?_)
    · have hf := ip h5 hf
      refine x_ldc (v := (-1000000001 : Int32)) B q_432 dX11_set_20 ?_
      obtain ⟨rfl, rfl⟩ := rt2 hf
      exact x_iret B dX11_set_22
    · have hf := iq h5 hf
      refine x_iload_n B dX11_set_12 rfl (lv_at hl 1 rfl) ?_
      refine x_gst (xs := [999, 99, 10000, 1]) B B.2.2.2.2.2.2.2.2.2.1.2.2.1 q_587 dX11_set_13 (fun b6 h7 h8 => ?_)
      refine x_salen (v := (nI 4)) B h7 h8 (by decide) dX11_set_16 ?_
      refine x_icmp_lt (tgt := 23) B dX11_set_17 (by decide) (fun h9 => ?_) (fun h9 => ?_)
      · have hf := ip h9 hf
        refine x_iload_n B dX11_set_23 rfl (lv_at hl 2 rfl) ?_
        refine x_gst (xs := [1, 0, 0, 0]) B B.2.2.2.2.2.2.2.2.2.1.2.1 q_585 dX11_set_24 (fun b10 h11 h12 => ?_)
        refine x_iload_n B dX11_set_27 rfl (lv_at hl 1 rfl) ?_
        obtain ⟨h13, hf⟩ := gd_some hf
        refine x_sald B h11 h12 h13 dX11_set_28 ?_
        refine x_icmp_lt (tgt := 41) B dX11_set_29 (by decide) (fun h14 => ?_) (fun h14 => ?_)
        · have hf := ip h14 hf
          refine x_ldc (v := (-1000000001 : Int32)) B q_432 dX11_set_41 ?_
          refine x_goto (tgt := 55) B dX11_set_43 (by decide) ?_
          obtain ⟨rfl, rfl⟩ := rt2 hf
          exact x_iret B dX11_set_55
        · have hf := iq h14 hf
          refine x_iload_n B dX11_set_32 rfl (lv_at hl 2 rfl) ?_
          refine x_gst (xs := [999, 99, 10000, 1]) B B.2.2.2.2.2.2.2.2.2.1.2.2.1 q_587 dX11_set_33 (fun b15 h16 h17 => ?_)
          refine x_iload_n B dX11_set_36 rfl (lv_at hl 1 rfl) ?_
          obtain ⟨h18, hf⟩ := gd_some hf
          refine x_sald B h16 h17 h18 dX11_set_37 ?_
          refine x_icmp_le (tgt := 46) B dX11_set_38 (by decide) (fun h19 => ?_) (fun h19 => ?_)
          · have hf := ip h19 hf
            refine x_aload_n B dX11_set_46 rfl (lv_at hl 0 rfl) ?_
            refine y_getFs (C := RX11) (T := TX11) (NN := 10) (d := 1) B (rg_11_0.at0 rfl) inX11 rfl (j := 0) (by decide) q_388 rfl rfl (by decide) dX11_set_47 ?_
            refine x_iload_n B dX11_set_50 rfl (lv_at hl 1 rfl) ?_
            refine x_iload_n B dX11_set_51 rfl (lv_at hl 2 rfl) ?_
            obtain ⟨r22, f21, c20, hf⟩ := bn2_some hf
            refine x_callV0 (rest := []) B (kX10_change rg_10_1 c20) ⟨rfl, rfl⟩ (rg_10_1.at0 (N := N) rfl).lt (rg_10_1.at0 (N := N) rfl).2 rfl (by decide) q_589 q_590 q_591 (by rw [hR]; exact cw_X11_set_X10_change) rfl rfl hl.1 (Nat.le_of_ble_eq_true rfl) dX11_set_52 ⟨Nat.zero_le _, Nat.zero_le _⟩ ?_
            obtain ⟨rfl, rfl⟩ := rt2 hf
            exact x_iret B dX11_set_55
          · have hf := iq h19 hf
            refine x_ldc (v := (-1000000001 : Int32)) B q_432 dX11_set_41 ?_
            refine x_goto (tgt := 55) B dX11_set_43 (by decide) ?_
            obtain ⟨rfl, rfl⟩ := rt2 hf
            exact x_iret B dX11_set_55
      · have hf := iq h9 hf
        refine x_ldc (v := (-1000000001 : Int32)) B q_432 dX11_set_20 ?_
        obtain ⟨rfl, rfl⟩ := rt2 hf
        exact x_iret B dX11_set_22
def rmJ7_fill_53178 : Room := { frames := 0, cells := 0, slots := 0, locals := 0 }
def fJ7_fill_53178_5 (n : Nat) (b1 : Nat) (nb1 : Nat)  (k5 : Int32 → Int32 → Int32 → Mm → Option (Mm)) (x1 : Int32) (x2 : Int32) (x3 : Int32) (f : Mm) : Option (Mm) :=
  if x3 ≤ x2 then (
  some f) else (
  gd (ib x2 nb1) <|
  lt (up f b1 x2.toNatClampNeg x1) fun f3 =>
  k5 x1 (x2 + (nI 1)) x3 f3)
def fJ7_fill_53178_5L (n : Nat) (b1 : Nat) (nb1 : Nat)  : Nat → Int32 → Int32 → Int32 → Mm → Option (Mm)
  | 0 => fun _ _ _ _ => none
  | q + 1 => fJ7_fill_53178_5 n b1 nb1  (fJ7_fill_53178_5L n b1 nb1  q)
set_option maxHeartbeats 4000000 in
set_option maxRecDepth 100000 in
theorem fJ7_fill_53178_5_ok {V : VE} {G : GE} {N : Nat} {f m : Mm} {n : Nat} {ls : Array Slot} {b1 : Nat} {nb1 : Nat} {g : Mm} (B : CX V G cJ7_fill_53178 4 "java/util/Arrays" none) (hR : V.2.2.2.1 = rmJ7_fill_53178) (hb1 : AF N b1 (20, nb1))  {k5 : Int32 → Int32 → Int32 → Mm → Option (Mm)} (hk5 : ∀ (x1 : Int32) (x2 : Int32) (x3 : Int32) (mm : Mm) (ls : Array Slot),  lv_has ls 4 [(0, .ref (gz G + b1)), (1, .int x1), (2, .int x2), (3, .int x3)] → k5 x1 x2 x3 mm = some g → WX V G N mm m 0 0 (QQ V G none N g m 0 0) 5 ls []) {x1 : Int32} {x2 : Int32} {x3 : Int32}  (hl : lv_has ls 4 [(0, .ref (gz G + b1)), (1, .int x1), (2, .int x2), (3, .int x3)]) (hf : fJ7_fill_53178_5 n b1 nb1 k5 x1 x2 x3 f = some g) : WX V G N f m 0 0 (QQ V G none N g m 0 0) 5 ls [] := by
  unfold fJ7_fill_53178_5 at hf
  refine x_iload_n B dJ7_fill_53178_5 rfl (lv_at hl 2 rfl) ?_
  refine x_iload_n B dJ7_fill_53178_6 rfl (lv_at hl 3 rfl) ?_
  refine x_icmp_ge (tgt := 20) B dJ7_fill_53178_7 (by decide) (fun h1 => ?_) (fun h1 => ?_)
  · have hf := ip h1 hf
    obtain rfl := rt1 hf
    exact x_vret B dJ7_fill_53178_20
  · have hf := iq h1 hf
    refine x_aload_n B dJ7_fill_53178_10 rfl (lv_at hl 0 rfl) ?_
    refine x_iload_n B dJ7_fill_53178_11 rfl (lv_at hl 2 rfl) ?_
    refine x_iload_n B dJ7_fill_53178_12 rfl (lv_at hl 1 rfl) ?_
    obtain ⟨h2, hf⟩ := gd_some hf
    refine x_iastF B hb1 h2 dJ7_fill_53178_13 (fun f3 e4 => ?_)
    have hf := lt_some hf e4
    refine x_iinc (k := 2) (v := (nI 1)) (lv' := [(2, .int (x2 + (nI 1))), (0, .ref (gz G + b1)), (1, .int x1), (3, .int x3)]) B dJ7_fill_53178_14 hl rfl (by decide) (by decide) rfl (fun ls hl => ?_)
    refine x_goto (tgt := 5) B dJ7_fill_53178_17 (by decide) ?_
    exact hk5 _ _ _ _ _ (lv_sub hl [1, 2, 0, 3] rfl) hf
set_option maxHeartbeats 4000000 in
set_option maxRecDepth 100000 in
theorem fJ7_fill_53178_5L_ok {V : VE} {G : GE} {N : Nat} {m : Mm} {n : Nat}  {b1 : Nat} {nb1 : Nat} {g : Mm} (B : CX V G cJ7_fill_53178 4 "java/util/Arrays" none) (hR : V.2.2.2.1 = rmJ7_fill_53178) (hb1 : AF N b1 (20, nb1))  : ∀ (q : Nat) (x1 : Int32) (x2 : Int32) (x3 : Int32) (mm : Mm) (ls : Array Slot),  lv_has ls 4 [(0, .ref (gz G + b1)), (1, .int x1), (2, .int x2), (3, .int x3)] → fJ7_fill_53178_5L n b1 nb1 q x1 x2 x3 mm = some g → WX V G N mm m 0 0 (QQ V G none N g m 0 0) 5 ls [] := by
  intro q
  induction q with
  | zero =>
    intro x1 x2 x3 mm ls hl hf
    cases hf
  | succ q ih =>
    intro x1 x2 x3 mm ls hl hf
    exact fJ7_fill_53178_5_ok B hR hb1  ih  hl hf
def fJ7_fill_53178 (n : Nat) (b1 : Nat) (nb1 : Nat) (a2 : Int32) (f : Mm) : Option (Mm) :=
  fJ7_fill_53178_5L n b1 nb1 n a2 (nI 0) (Int32.ofNat nb1) f
set_option maxHeartbeats 4000000 in
set_option maxRecDepth 100000 in
theorem kJ7_fill_53178 {l : Launch} {G : GE} {N : Nat} {f m : Mm} {n : Nat} {b1 : Nat} {nb1 : Nat} {a2 : Int32} {g : Mm} (hb1 : AF N b1 (20, nb1)) (hf : fJ7_fill_53178 n b1 nb1 a2 f = some g) : MT l G yJ7_fill_53178 cJ7_fill_53178 4 none rmJ7_fill_53178 [.ref (gz G + b1), .int a2] N f m none N g m := by
  unfold fJ7_fill_53178 at hf
  refine MT.of (by decide) (Nat.le_of_ble_eq_true rfl) (fun V ls hV hR B hl => ?_)
  have B : CX V G cJ7_fill_53178 4 "java/util/Arrays" none := B
  have hl : lv_has ls 4 [(0, .ref (gz G + b1)), (1, .int a2)] := hl
  show WX V G N f m 0 0 (QQ V G none N g m 0 0) 0 ls []
  refine x_iconst (v := (nI 0)) B dJ7_fill_53178_0 (by decide) ?_
  refine x_istore_n (lv' := [(2, .int (nI 0)), (0, .ref (gz G + b1)), (1, .int a2)]) B dJ7_fill_53178_1 rfl hl (by decide) rfl (fun ls hl => ?_)
  refine x_aload_n B dJ7_fill_53178_2 rfl (lv_at hl 1 rfl) ?_
  refine x_alenF (v := Int32.ofNat nb1) B hb1 rfl dJ7_fill_53178_3 ?_
  refine x_istore_n (lv' := [(3, .int (Int32.ofNat nb1)), (2, .int (nI 0)), (0, .ref (gz G + b1)), (1, .int a2)]) B dJ7_fill_53178_4 rfl hl (by decide) rfl (fun ls hl => ?_)
  exact fJ7_fill_53178_5L_ok B hR hb1  n _ _ _ _ _ (lv_sub hl [2, 3, 1, 0] rfl) hf
def rmX5_become : Room := { frames := 1, cells := 0, slots := 0, locals := 23 }
set_option maxHeartbeats 4000000 in
set_option maxRecDepth 100000 in
theorem cw_X5_become_J7_fill_53178 : cwB rmX5_become rmJ7_fill_53178 yJ7_fill_53178 cJ7_fill_53178 4 none 2 := ⟨q_985, q_65, by decide, by decide⟩
def fX5_become (n : Nat) (o : Nat) (a1 : Int32) (a2 : Int32) (f : Mm) : Option (Mm) :=
  lt (up f o 0 a1) fun f1 =>
  lt (up f1 o 1 a2) fun f3 =>
  bn (fJ7_fill_53178 n (o + 1) 24 (nI 0) f3) fun f6 =>
  some f6
set_option maxHeartbeats 4000000 in
set_option maxRecDepth 100000 in
theorem kX5_become {l : Launch} {G : GE} {N : Nat} {f m : Mm} {n : Nat} {o : Nat} {a1 : Int32} {a2 : Int32} {g : Mm} (ho : rg 5 o) (hf : fX5_become n o a1 a2 f = some g) : MT l G yX5_become cX5_become 3 none rmX5_become [.ref (gz G + o), .int a1, .int a2] N f m none N g m := by
  unfold fX5_become at hf
  refine MT.of (by decide) (Nat.le_of_ble_eq_true rfl) (fun V ls hV hR B hl => ?_)
  have B : CX V G cX5_become 3 "FluxWatch$Sheet" none := B
  have hl : lv_has ls 3 [(0, .ref (gz G + o)), (1, .int a1), (2, .int a2)] := hl
  show WX V G N f m 0 0 (QQ V G none N g m 0 0) 0 ls []
  refine x_aload_n B dX5_become_0 rfl (lv_at hl 0 rfl) ?_
  refine x_iload_n B dX5_become_1 rfl (lv_at hl 1 rfl) ?_
  refine x_putF (C := RX5) (T := TX5) (NN := 3) (ty0 := tyX5) (ty := .int) B (ho.at0 rfl) inX5 tyX5_ok nmX5 rfl (j := 0) (by decide) q_263 rfl rfl rfl rfl rfl rfl dX5_become_2 (fun f1 e2 => ?_)
  have hf := lt_some hf e2
  refine x_aload_n B dX5_become_5 rfl (lv_at hl 0 rfl) ?_
  refine x_iload_n B dX5_become_6 rfl (lv_at hl 2 rfl) ?_
  refine x_putF (C := RX5) (T := TX5) (NN := 3) (ty0 := tyX5) (ty := .int) B (ho.at0 rfl) inX5 tyX5_ok nmX5 rfl (j := 1) (by decide) q_265 rfl rfl rfl rfl rfl rfl dX5_become_7 (fun f3 e4 => ?_)
  have hf := lt_some hf e4
  refine x_aload_n B dX5_become_10 rfl (lv_at hl 0 rfl) ?_
  refine y_getFs (C := RX5) (T := TX5) (NN := 3) (d := 1) B (ho.at0 rfl) inX5 rfl (j := 2) (by decide) q_267 rfl rfl (by decide) dX5_become_11 ?_
  refine x_iconst (v := (nI 0)) B dX5_become_14 (by decide) ?_
  obtain ⟨f6, c5, hf⟩ := bn_some hf
  refine x_callS0 (rest := []) B (kJ7_fill_53178 (ho.at 1 rfl) c5) ⟨rfl, rfl⟩ q_1008 q_984 (by rw [hR]; exact cw_X5_become_J7_fill_53178) rfl rfl hl.1 (Nat.le_of_ble_eq_true rfl) dX5_become_15 ⟨Nat.zero_le _, Nat.zero_le _⟩ ?_
  obtain rfl := rt1 hf
  exact x_vret B dX5_become_18
def rmX11_sheet : Room := { frames := 2, cells := 0, slots := 0, locals := 45 }
set_option maxHeartbeats 4000000 in
set_option maxRecDepth 100000 in
theorem cw_X11_sheet_X11_isSheet : cwB rmX11_sheet rmX11_isSheet yX11_isSheet cX11_isSheet 1 (some .boolean) 1 := ⟨q_905, q_45, by decide, by decide⟩
set_option maxHeartbeats 4000000 in
set_option maxRecDepth 100000 in
theorem cw_X11_sheet_X5_become : cwB rmX11_sheet rmX5_become yX5_become cX5_become 3 none 2 := ⟨q_1007, q_52, by decide, by decide⟩
def fX11_sheet (n : Nat) (a1 : Int32) (a2 : Int32) (a3 : Int32) (f : Mm) : Option (Int32 × Mm) :=
  bn (fX11_isSheet n a1) fun r2 =>
  if r2 = 0 then (
  some ((-1000000001 : Int32), f)) else (
  if a2 < (-1 : Int32) then (
  some ((-1000000001 : Int32), f)) else (
  if a2 ≤ (nI 1) then (
  if a2 = (-1 : Int32) then (
  gd (ib a1 4) <|
  bn (fX5_become n (73 + 1 + 2 * a1.toNatClampNeg) (-1 : Int32) (nI 0) f) fun f9 =>
  some ((nI 0), f9)) else (
  if a3 ≤ (nI 24) then (
  if 0 ≤ a3 then (
  gd (ib a1 4) <|
  bn (fX5_become n (73 + 1 + 2 * a1.toNatClampNeg) a2 a3 f) fun f14 =>
  some (a3, f14)) else (
  some ((-1000000014 : Int32), f))) else (
  some ((-1000000001 : Int32), f)))) else (
  some ((-1000000001 : Int32), f))))
set_option maxHeartbeats 4000000 in
set_option maxRecDepth 100000 in
theorem kX11_sheet {l : Launch} {G : GE} {N : Nat} {f m : Mm} {n : Nat} {a1 : Int32} {a2 : Int32} {a3 : Int32} {r : Int32} {g : Mm}  (hf : fX11_sheet n a1 a2 a3 f = some (r, g)) : MT l G yX11_sheet cX11_sheet 4 (some .int) rmX11_sheet [.ref (gz G + 0), .int a1, .int a2, .int a3] N f m (some (.int r)) N g m := by
  unfold fX11_sheet at hf
  refine MT.of (by decide) (Nat.le_of_ble_eq_true rfl) (fun V ls hV hR B hl => ?_)
  have B : CX V G cX11_sheet 4 "FluxWatch" (some .int) := B
  have hl : lv_has ls 4 [(0, .ref (gz G + 0)), (1, .int a1), (2, .int a2), (3, .int a3)] := hl
  show WX V G N f m 0 0 (QQ V G (some (.int r)) N g m 0 0) 0 ls []
  refine x_iload_n B dX11_sheet_0 rfl (lv_at hl 1 rfl) ?_
  obtain ⟨r2, c1, hf⟩ := bn_some hf
  refine x_callS0 (rest := []) B (kX11_isSheet c1) ⟨rfl, rfl⟩ q_903 q_904 (by rw [hR]; exact cw_X11_sheet_X11_isSheet) rfl rfl hl.1 (Nat.le_of_ble_eq_true rfl) dX11_sheet_1 ⟨Nat.zero_le _, Nat.zero_le _⟩ ?_
  refine x_if_eq (tgt := 17) B dX11_sheet_4 (by decide) (fun h3 => ?_) (fun h3 => ?_)
  · have hf := ip h3 hf
    refine x_ldc (v := (-1000000001 : Int32)) B q_432 dX11_sheet_17 ?_
    obtain ⟨rfl, rfl⟩ := rt2 hf
    exact x_iret B dX11_sheet_19
  · have hf := iq h3 hf
    refine x_iload_n B dX11_sheet_7 rfl (lv_at hl 2 rfl) ?_
    refine x_iconst (v := (-1 : Int32)) B dX11_sheet_8 (by decide) ?_
    refine x_icmp_lt (tgt := 17) B dX11_sheet_9 (by decide) (fun h4 => ?_) (fun h4 => ?_)
    · have hf := ip h4 hf
      refine x_ldc (v := (-1000000001 : Int32)) B q_432 dX11_sheet_17 ?_
      obtain ⟨rfl, rfl⟩ := rt2 hf
      exact x_iret B dX11_sheet_19
    · have hf := iq h4 hf
      refine x_iload_n B dX11_sheet_12 rfl (lv_at hl 2 rfl) ?_
      refine x_iconst (v := (nI 1)) B dX11_sheet_13 (by decide) ?_
      refine x_icmp_le (tgt := 20) B dX11_sheet_14 (by decide) (fun h5 => ?_) (fun h5 => ?_)
      · have hf := ip h5 hf
        refine x_iload_n B dX11_sheet_20 rfl (lv_at hl 2 rfl) ?_
        refine x_iconst (v := (-1 : Int32)) B dX11_sheet_21 (by decide) ?_
        refine x_icmp_ne (tgt := 38) B dX11_sheet_22 (by decide) (fun h6 => ?_) (fun h6 => ?_)
        · have hf := ip h6 hf
          refine x_aload_n B dX11_sheet_25 rfl (lv_at hl 0 rfl) ?_
          refine y_getFs (C := RX11) (T := TX11) (NN := 10) (d := 73) B (rg_11_0.at0 rfl) inX11 rfl (j := 4) (by decide) q_392 rfl rfl (by decide) dX11_sheet_26 ?_
          refine x_iload_n B dX11_sheet_29 rfl (lv_at hl 1 rfl) ?_
          obtain ⟨h7, hf⟩ := gd_some hf
          refine x_aaldS B (rg_11_0.at 73 rfl) h7 dX11_sheet_30 ?_
          refine x_iconst (v := (-1 : Int32)) B dX11_sheet_31 (by decide) ?_
          refine x_iconst (v := (nI 0)) B dX11_sheet_32 (by decide) ?_
          obtain ⟨f9, c8, hf⟩ := bn_some hf
          refine x_callV0 (rest := []) B (kX5_become (rg_she h7) c8) ⟨rfl, rfl⟩ ((rg_she h7).at0 (N := N) rfl).lt ((rg_she h7).at0 (N := N) rfl).2 rfl (by decide) q_1004 q_1005 q_1006 (by rw [hR]; exact cw_X11_sheet_X5_become) rfl rfl hl.1 (Nat.le_of_ble_eq_true rfl) dX11_sheet_33 ⟨Nat.zero_le _, Nat.zero_le _⟩ ?_
          refine x_iconst (v := (nI 0)) B dX11_sheet_36 (by decide) ?_
          obtain ⟨rfl, rfl⟩ := rt2 hf
          exact x_iret B dX11_sheet_37
        · have hf := iq h6 hf
          refine x_iload_n B dX11_sheet_38 rfl (lv_at hl 3 rfl) ?_
          refine x_bipush (v := (nI 24)) B dX11_sheet_39 (by decide) ?_
          refine x_icmp_le (tgt := 47) B dX11_sheet_41 (by decide) (fun h10 => ?_) (fun h10 => ?_)
          · have hf := ip h10 hf
            refine x_iload_n B dX11_sheet_47 rfl (lv_at hl 3 rfl) ?_
            refine x_if_ge (tgt := 55) B dX11_sheet_48 (by decide) (fun h11 => ?_) (fun h11 => ?_)
            · have hf := ip h11 hf
              refine x_aload_n B dX11_sheet_55 rfl (lv_at hl 0 rfl) ?_
              refine y_getFs (C := RX11) (T := TX11) (NN := 10) (d := 73) B (rg_11_0.at0 rfl) inX11 rfl (j := 4) (by decide) q_392 rfl rfl (by decide) dX11_sheet_56 ?_
              refine x_iload_n B dX11_sheet_59 rfl (lv_at hl 1 rfl) ?_
              obtain ⟨h12, hf⟩ := gd_some hf
              refine x_aaldS B (rg_11_0.at 73 rfl) h12 dX11_sheet_60 ?_
              refine x_iload_n B dX11_sheet_61 rfl (lv_at hl 2 rfl) ?_
              refine x_iload_n B dX11_sheet_62 rfl (lv_at hl 3 rfl) ?_
              obtain ⟨f14, c13, hf⟩ := bn_some hf
              refine x_callV0 (rest := []) B (kX5_become (rg_she h12) c13) ⟨rfl, rfl⟩ ((rg_she h12).at0 (N := N) rfl).lt ((rg_she h12).at0 (N := N) rfl).2 rfl (by decide) q_1004 q_1005 q_1006 (by rw [hR]; exact cw_X11_sheet_X5_become) rfl rfl hl.1 (Nat.le_of_ble_eq_true rfl) dX11_sheet_63 ⟨Nat.zero_le _, Nat.zero_le _⟩ ?_
              refine x_iload_n B dX11_sheet_66 rfl (lv_at hl 3 rfl) ?_
              obtain ⟨rfl, rfl⟩ := rt2 hf
              exact x_iret B dX11_sheet_67
            · have hf := iq h11 hf
              refine x_ldc_w (v := (-1000000014 : Int32)) B q_1009 dX11_sheet_51 ?_
              obtain ⟨rfl, rfl⟩ := rt2 hf
              exact x_iret B dX11_sheet_54
          · have hf := iq h10 hf
            refine x_ldc (v := (-1000000001 : Int32)) B q_432 dX11_sheet_44 ?_
            obtain ⟨rfl, rfl⟩ := rt2 hf
            exact x_iret B dX11_sheet_46
      · have hf := iq h5 hf
        refine x_ldc (v := (-1000000001 : Int32)) B q_432 dX11_sheet_17 ?_
        obtain ⟨rfl, rfl⟩ := rt2 hf
        exact x_iret B dX11_sheet_19
def rmX11_since : Room := { frames := 5, cells := 0, slots := 0, locals := 157 }
set_option maxHeartbeats 4000000 in
set_option maxRecDepth 100000 in
theorem cw_X11_since_X10_believedBehind : cwB rmX11_since rmX10_believedBehind yX10_believedBehind cX10_believedBehind 4 (some .int) 2 := ⟨q_685, q_46, by decide, by decide⟩
def fX11_since_24 (n : Nat) (N : Nat)  (k24 : Int32 → Int32 → Int32 → Mm → Option (Int32 × Mm)) (x1 : Int32) (x2 : Int32) (x3 : Int32) (f : Mm) : Option (Int32 × Mm) :=
  if x1 ≤ x3 then (
  some (x2, f)) else (
  bn2 (fX10_believedBehind n N 1 x2 ((f 1 0) + x3) f) fun r6 f5 =>
  k24 x1 r6 (x3 + (nI 1)) f5)
def fX11_since_24L (n : Nat) (N : Nat)  : Nat → Int32 → Int32 → Int32 → Mm → Option (Int32 × Mm)
  | 0 => fun _ _ _ _ => none
  | q + 1 => fX11_since_24 n N  (fX11_since_24L n N  q)
set_option maxHeartbeats 4000000 in
set_option maxRecDepth 100000 in
theorem fX11_since_24_ok {V : VE} {G : GE} {N : Nat} {f m : Mm} {n : Nat} {ls : Array Slot} {r : Int32} {g : Mm} (B : CX V G cX11_since 4 "FluxWatch" (some .int)) (hR : V.2.2.2.1 = rmX11_since)   {k24 : Int32 → Int32 → Int32 → Mm → Option (Int32 × Mm)} (hk24 : ∀ (x1 : Int32) (x2 : Int32) (x3 : Int32) (mm : Mm) (ls : Array Slot),  lv_has ls 4 [(0, .ref (gz G + 0)), (1, .int x1), (2, .int x2), (3, .int x3)] → k24 x1 x2 x3 mm = some (r, g) → WX V G N mm m 0 0 (QQ V G (some (.int r)) N g m 0 0) 24 ls []) {x1 : Int32} {x2 : Int32} {x3 : Int32}  (hl : lv_has ls 4 [(0, .ref (gz G + 0)), (1, .int x1), (2, .int x2), (3, .int x3)]) (hf : fX11_since_24 n N k24 x1 x2 x3 f = some (r, g)) : WX V G N f m 0 0 (QQ V G (some (.int r)) N g m 0 0) 24 ls [] := by
  unfold fX11_since_24 at hf
  refine x_iload_n B dX11_since_24 rfl (lv_at hl 3 rfl) ?_
  refine x_iload_n B dX11_since_25 rfl (lv_at hl 1 rfl) ?_
  refine x_icmp_ge (tgt := 53) B dX11_since_26 (by decide) (fun h3 => ?_) (fun h3 => ?_)
  · have hf := ip h3 hf
    refine x_iload_n B dX11_since_53 rfl (lv_at hl 2 rfl) ?_
    obtain ⟨rfl, rfl⟩ := rt2 hf
    exact x_iret B dX11_since_54
  · have hf := iq h3 hf
    refine x_aload_n B dX11_since_29 rfl (lv_at hl 0 rfl) ?_
    refine y_getFs (C := RX11) (T := TX11) (NN := 10) (d := 1) B (rg_11_0.at0 rfl) inX11 rfl (j := 0) (by decide) q_388 rfl rfl (by decide) dX11_since_30 ?_
    refine x_iload_n B dX11_since_33 rfl (lv_at hl 2 rfl) ?_
    refine x_aload_n B dX11_since_34 rfl (lv_at hl 0 rfl) ?_
    refine y_getFs (C := RX11) (T := TX11) (NN := 10) (d := 1) B (rg_11_0.at0 rfl) inX11 rfl (j := 0) (by decide) q_388 rfl rfl (by decide) dX11_since_35 ?_
    refine y_getFi (C := RX10) (T := TX10) (NN := 16) B (rg_10_1.at0 rfl) inX10 rfl (j := 0) (by decide) q_189 rfl rfl dX11_since_38 ?_
    refine x_iload_n B dX11_since_41 rfl (lv_at hl 3 rfl) ?_
    refine x_iadd B dX11_since_42 ?_
    obtain ⟨r6, f5, c4, hf⟩ := bn2_some hf
    refine x_callV0 (rest := []) B (kX10_believedBehind rg_10_1 c4) ⟨rfl, rfl⟩ (rg_10_1.at0 (N := N) rfl).lt (rg_10_1.at0 (N := N) rfl).2 rfl (by decide) q_682 q_683 q_684 (by rw [hR]; exact cw_X11_since_X10_believedBehind) rfl rfl hl.1 (Nat.le_of_ble_eq_true rfl) dX11_since_43 ⟨Nat.zero_le _, Nat.zero_le _⟩ ?_
    refine x_istore_n (lv' := [(2, .int r6), (0, .ref (gz G + 0)), (1, .int x1), (3, .int x3)]) B dX11_since_46 rfl hl (by decide) rfl (fun ls hl => ?_)
    refine x_iinc (k := 3) (v := (nI 1)) (lv' := [(3, .int (x3 + (nI 1))), (2, .int r6), (0, .ref (gz G + 0)), (1, .int x1)]) B dX11_since_47 hl rfl (by decide) (by decide) rfl (fun ls hl => ?_)
    refine x_goto (tgt := 24) B dX11_since_50 (by decide) ?_
    exact hk24 _ _ _ _ _ (lv_sub hl [2, 3, 1, 0] rfl) hf
set_option maxHeartbeats 4000000 in
set_option maxRecDepth 100000 in
theorem fX11_since_24L_ok {V : VE} {G : GE} {N : Nat} {m : Mm} {n : Nat}  {r : Int32} {g : Mm} (B : CX V G cX11_since 4 "FluxWatch" (some .int)) (hR : V.2.2.2.1 = rmX11_since)   : ∀ (q : Nat) (x1 : Int32) (x2 : Int32) (x3 : Int32) (mm : Mm) (ls : Array Slot),  lv_has ls 4 [(0, .ref (gz G + 0)), (1, .int x1), (2, .int x2), (3, .int x3)] → fX11_since_24L n N q x1 x2 x3 mm = some (r, g) → WX V G N mm m 0 0 (QQ V G (some (.int r)) N g m 0 0) 24 ls [] := by
  intro q
  induction q with
  | zero =>
    intro x1 x2 x3 mm ls hl hf
    cases hf
  | succ q ih =>
    intro x1 x2 x3 mm ls hl hf
    exact fX11_since_24_ok B hR   ih  hl hf
def fX11_since (n : Nat) (N : Nat) (a1 : Int32) (f : Mm) : Option (Int32 × Mm) :=
  if a1 < 0 then (
  some ((-1000000001 : Int32), f)) else (
  if a1 ≤ (nI 200) then (
  fX11_since_24L n N n a1 (f 1 1) (nI 0) f) else (
  some ((-1000000001 : Int32), f)))
set_option maxHeartbeats 4000000 in
set_option maxRecDepth 100000 in
theorem kX11_since {l : Launch} {G : GE} {N : Nat} {f m : Mm} {n : Nat} {a1 : Int32} {r : Int32} {g : Mm}  (hf : fX11_since n N a1 f = some (r, g)) : MT l G yX11_since cX11_since 4 (some .int) rmX11_since [.ref (gz G + 0), .int a1] N f m (some (.int r)) N g m := by
  unfold fX11_since at hf
  refine MT.of (by decide) (Nat.le_of_ble_eq_true rfl) (fun V ls hV hR B hl => ?_)
  have B : CX V G cX11_since 4 "FluxWatch" (some .int) := B
  have hl : lv_has ls 4 [(0, .ref (gz G + 0)), (1, .int a1)] := hl
  show WX V G N f m 0 0 (QQ V G (some (.int r)) N g m 0 0) 0 ls []
  refine x_iload_n B dX11_since_0 rfl (lv_at hl 1 rfl) ?_
  refine x_if_lt (tgt := 11) B dX11_since_1 (by decide) (fun h1 => ?_) (fun h1 => ?_)
  · have hf := ip h1 hf
    refine x_ldc (v := (-1000000001 : Int32)) B q_432 dX11_since_11 ?_
    obtain ⟨rfl, rfl⟩ := rt2 hf
    exact x_iret B dX11_since_13
  · have hf := iq h1 hf
    refine x_iload_n B dX11_since_4 rfl (lv_at hl 1 rfl) ?_
    refine x_sipush (v := (nI 200)) B dX11_since_5 (by decide) ?_
    refine x_icmp_le (tgt := 14) B dX11_since_8 (by decide) (fun h2 => ?_) (fun h2 => ?_)
    · have hf := ip h2 hf
      refine x_aload_n B dX11_since_14 rfl (lv_at hl 0 rfl) ?_
      refine y_getFs (C := RX11) (T := TX11) (NN := 10) (d := 1) B (rg_11_0.at0 rfl) inX11 rfl (j := 0) (by decide) q_388 rfl rfl (by decide) dX11_since_15 ?_
      refine y_getFi (C := RX10) (T := TX10) (NN := 16) B (rg_10_1.at0 rfl) inX10 rfl (j := 1) (by decide) q_193 rfl rfl dX11_since_18 ?_
      refine x_istore_n (lv' := [(2, .int (f 1 1)), (0, .ref (gz G + 0)), (1, .int a1)]) B dX11_since_21 rfl hl (by decide) rfl (fun ls hl => ?_)
      refine x_iconst (v := (nI 0)) B dX11_since_22 (by decide) ?_
      refine x_istore_n (lv' := [(3, .int (nI 0)), (2, .int (f 1 1)), (0, .ref (gz G + 0)), (1, .int a1)]) B dX11_since_23 rfl hl (by decide) rfl (fun ls hl => ?_)
      exact fX11_since_24L_ok B hR  n _ _ _ _ _ (lv_sub hl [2, 3, 1, 0] rfl) hf
    · have hf := iq h2 hf
      refine x_ldc (v := (-1000000001 : Int32)) B q_432 dX11_since_11 ?_
      obtain ⟨rfl, rfl⟩ := rt2 hf
      exact x_iret B dX11_since_13
def rmX0_daysUntilBelow : Room := { frames := 3, cells := 0, slots := 0, locals := 111 }
set_option maxHeartbeats 4000000 in
set_option maxRecDepth 100000 in
theorem cw_X0_daysUntilBelow_X10_knockOn : cwB rmX0_daysUntilBelow rmX10_knockOn yX10_knockOn cX10_knockOn 4 (some .int) 2 := ⟨q_637, q_46, by decide, by decide⟩
set_option maxHeartbeats 4000000 in
set_option maxRecDepth 100000 in
theorem cw_X0_daysUntilBelow_X10_rateOn : cwB rmX0_daysUntilBelow rmX10_rateOn yX10_rateOn cX10_rateOn 4 (some .int) 2 := ⟨q_609, q_46, by decide, by decide⟩
set_option maxHeartbeats 4000000 in
set_option maxRecDepth 100000 in
theorem cw_X0_daysUntilBelow_X11_believed : cwB rmX0_daysUntilBelow rmX11_believed yX11_believed cX11_believed 11 (some .int) 4 := ⟨q_669, q_45, by decide, by decide⟩
def fX0_daysUntilBelow_9 (n : Nat) (N : Nat) (o : Nat) (b3 : Nat)  (k9 : Int32 → Int32 → Int32 → Int32 → Int32 → Mm → Option (Int32 × Mm)) (x1 : Int32) (x2 : Int32) (x4 : Int32) (x5 : Int32) (x6 : Int32) (f : Mm) : Option (Int32 × Mm) :=
  if x4 ≤ x6 then (
  some ((nI 61), f)) else (
  if (nI 60) ≤ x6 then (
  some ((nI 61), f)) else (
  gd (ib x6 60) <|
  lt ((f (o + 1) x6.toNatClampNeg) + x2) fun v4 =>
  bn2 (fX10_rateOn n N b3 ((f b3 0) + x6) v4 f) fun r8 f7 =>
  bn2 (fX10_knockOn n N b3 ((f b3 0) + x6) v4 f7) fun r11 f10 =>
  gd (ib x6 60) <|
  bn (fX11_believed n x5 r8 r11 (f10 (o + 2) x6.toNatClampNeg)) fun r14 =>
  if x1 ≤ r14 then (
  k9 x1 x2 x4 r14 (x6 + (nI 1)) f10) else (
  some (x6 + (nI 1), f10))))
def fX0_daysUntilBelow_9L (n : Nat) (N : Nat) (o : Nat) (b3 : Nat)  : Nat → Int32 → Int32 → Int32 → Int32 → Int32 → Mm → Option (Int32 × Mm)
  | 0 => fun _ _ _ _ _ _ => none
  | q + 1 => fX0_daysUntilBelow_9 n N o b3  (fX0_daysUntilBelow_9L n N o b3  q)
set_option maxHeartbeats 4000000 in
set_option maxRecDepth 100000 in
theorem fX0_daysUntilBelow_9_ok {V : VE} {G : GE} {N : Nat} {f m : Mm} {n : Nat} {ls : Array Slot} {o : Nat} {b3 : Nat} {r : Int32} {g : Mm} (B : CX V G cX0_daysUntilBelow 9 "FluxWatch$Buyer" (some .int)) (hR : V.2.2.2.1 = rmX0_daysUntilBelow) (ho : rg 0 o) (hb3 : rg 10 b3)  {k9 : Int32 → Int32 → Int32 → Int32 → Int32 → Mm → Option (Int32 × Mm)} (hk9 : ∀ (x1 : Int32) (x2 : Int32) (x4 : Int32) (x5 : Int32) (x6 : Int32) (mm : Mm) (ls : Array Slot),  lv_has ls 9 [(0, .ref (gz G + o)), (1, .int x1), (2, .int x2), (3, .ref (gz G + b3)), (4, .int x4), (5, .int x5), (6, .int x6)] → k9 x1 x2 x4 x5 x6 mm = some (r, g) → WX V G N mm m 0 0 (QQ V G (some (.int r)) N g m 0 0) 9 ls []) {x1 : Int32} {x2 : Int32} {x4 : Int32} {x5 : Int32} {x6 : Int32}  (hl : lv_has ls 9 [(0, .ref (gz G + o)), (1, .int x1), (2, .int x2), (3, .ref (gz G + b3)), (4, .int x4), (5, .int x5), (6, .int x6)]) (hf : fX0_daysUntilBelow_9 n N o b3 k9 x1 x2 x4 x5 x6 f = some (r, g)) : WX V G N f m 0 0 (QQ V G (some (.int r)) N g m 0 0) 9 ls [] := by
  unfold fX0_daysUntilBelow_9 at hf
  refine x_iload B dX0_daysUntilBelow_9 (lv_at hl 6 rfl) ?_
  refine x_iload B dX0_daysUntilBelow_11 (lv_at hl 4 rfl) ?_
  refine x_icmp_ge (tgt := 90) B dX0_daysUntilBelow_13 (by decide) (fun h1 => ?_) (fun h1 => ?_)
  · have hf := ip h1 hf
    refine x_bipush (v := (nI 61)) B dX0_daysUntilBelow_90 (by decide) ?_
    obtain ⟨rfl, rfl⟩ := rt2 hf
    exact x_iret B dX0_daysUntilBelow_92
  · have hf := iq h1 hf
    refine x_iload B dX0_daysUntilBelow_16 (lv_at hl 6 rfl) ?_
    refine x_bipush (v := (nI 60)) B dX0_daysUntilBelow_18 (by decide) ?_
    refine x_icmp_ge (tgt := 90) B dX0_daysUntilBelow_20 (by decide) (fun h2 => ?_) (fun h2 => ?_)
    · have hf := ip h2 hf
      refine x_bipush (v := (nI 61)) B dX0_daysUntilBelow_90 (by decide) ?_
      obtain ⟨rfl, rfl⟩ := rt2 hf
      exact x_iret B dX0_daysUntilBelow_92
    · have hf := iq h2 hf
      refine x_aload_n B dX0_daysUntilBelow_23 rfl (lv_at hl 3 rfl) ?_
      refine y_getFi (C := RX10) (T := TX10) (NN := 16) B (hb3.at0 rfl) inX10 rfl (j := 0) (by decide) q_190 rfl rfl dX0_daysUntilBelow_24 ?_
      refine x_iload B dX0_daysUntilBelow_27 (lv_at hl 6 rfl) ?_
      refine x_iadd B dX0_daysUntilBelow_29 ?_
      refine x_istore (lv' := [(7, .int ((f b3 0) + x6)), (0, .ref (gz G + o)), (1, .int x1), (2, .int x2), (3, .ref (gz G + b3)), (4, .int x4), (5, .int x5), (6, .int x6)]) B dX0_daysUntilBelow_30 hl (by decide) rfl (fun ls hl => ?_)
      refine x_aload_n B dX0_daysUntilBelow_32 rfl (lv_at hl 1 rfl) ?_
      refine y_getFs (C := RX0) (T := TX0) (NN := 7) (d := 1) B (ho.at0 rfl) inX0 rfl (j := 4) (by decide) q_369 rfl rfl (by decide) dX0_daysUntilBelow_33 ?_
      refine x_iload B dX0_daysUntilBelow_36 (lv_at hl 7 rfl) ?_
      obtain ⟨h3, hf⟩ := gd_some hf
      refine x_ialdF B (ho.at 1 rfl) h3 dX0_daysUntilBelow_38 ?_
      refine x_iload_n B dX0_daysUntilBelow_39 rfl (lv_at hl 3 rfl) ?_
      refine x_iadd B dX0_daysUntilBelow_40 ?_
      refine x_nm (fun v4 e5 => ?_)
      have hf := lt_some hf e5
      refine x_istore (lv' := [(8, .int v4), (7, .int ((f b3 0) + x6)), (0, .ref (gz G + o)), (1, .int x1), (2, .int x2), (3, .ref (gz G + b3)), (4, .int x4), (5, .int x5), (6, .int x6)]) B dX0_daysUntilBelow_41 hl (by decide) rfl (fun ls hl => ?_)
      refine x_iload B dX0_daysUntilBelow_43 (lv_at hl 7 rfl) ?_
      refine x_aload_n B dX0_daysUntilBelow_45 rfl (lv_at hl 5 rfl) ?_
      refine x_iload B dX0_daysUntilBelow_46 (lv_at hl 1 rfl) ?_
      refine x_iload B dX0_daysUntilBelow_48 (lv_at hl 0 rfl) ?_
      obtain ⟨r8, f7, c6, hf⟩ := bn2_some hf
      refine x_callV0 (rest := [.int x5]) B (kX10_rateOn hb3 c6) ⟨rfl, rfl⟩ (hb3.at0 (N := N) rfl).lt (hb3.at0 (N := N) rfl).2 rfl (by decide) q_997 q_607 q_608 (by rw [hR]; exact cw_X0_daysUntilBelow_X10_rateOn) rfl rfl hl.1 (Nat.le_of_ble_eq_true rfl) dX0_daysUntilBelow_50 ⟨Nat.zero_le _, Nat.zero_le _⟩ ?_
      refine x_aload_n B dX0_daysUntilBelow_53 rfl (lv_at hl 5 rfl) ?_
      refine x_iload B dX0_daysUntilBelow_54 (lv_at hl 1 rfl) ?_
      refine x_iload B dX0_daysUntilBelow_56 (lv_at hl 0 rfl) ?_
      obtain ⟨r11, f10, c9, hf⟩ := bn2_some hf
      refine x_callV0 (rest := [.int r8, .int x5]) B (kX10_knockOn hb3 c9) ⟨rfl, rfl⟩ (hb3.at0 (N := N) rfl).lt (hb3.at0 (N := N) rfl).2 rfl (by decide) q_998 q_635 q_636 (by rw [hR]; exact cw_X0_daysUntilBelow_X10_knockOn) rfl rfl hl.1 (Nat.le_of_ble_eq_true rfl) dX0_daysUntilBelow_58 ⟨Nat.zero_le _, Nat.zero_le _⟩ ?_
      refine x_aload_n B dX0_daysUntilBelow_61 rfl (lv_at hl 2 rfl) ?_
      refine y_getFs (C := RX0) (T := TX0) (NN := 7) (d := 2) B (ho.at0 rfl) inX0 rfl (j := 5) (by decide) q_370 rfl rfl (by decide) dX0_daysUntilBelow_62 ?_
      refine x_iload B dX0_daysUntilBelow_65 (lv_at hl 8 rfl) ?_
      obtain ⟨h12, hf⟩ := gd_some hf
      refine x_zaldF B (ho.at 2 rfl) h12 dX0_daysUntilBelow_67 ?_
      obtain ⟨r14, c13, hf⟩ := bn_some hf
      refine x_callSN0 (rest := []) B (kX11_believed c13) ⟨rfl, rfl⟩ nq_999 q_668 (by rw [hR]; exact cw_X0_daysUntilBelow_X11_believed) rfl rfl hl.1 (Nat.le_of_ble_eq_true rfl) dX0_daysUntilBelow_68 ⟨Nat.zero_le _, Nat.zero_le _⟩ ?_
      refine x_istore (lv' := [(5, .int r14), (8, .int v4), (7, .int ((f b3 0) + x6)), (0, .ref (gz G + o)), (1, .int x1), (2, .int x2), (3, .ref (gz G + b3)), (4, .int x4), (6, .int x6)]) B dX0_daysUntilBelow_71 hl (by decide) rfl (fun ls hl => ?_)
      refine x_iload B dX0_daysUntilBelow_73 (lv_at hl 0 rfl) ?_
      refine x_iload_n B dX0_daysUntilBelow_75 rfl (lv_at hl 4 rfl) ?_
      refine x_icmp_ge (tgt := 84) B dX0_daysUntilBelow_76 (by decide) (fun h15 => ?_) (fun h15 => ?_)
      · have hf := ip h15 hf
        refine x_iinc (k := 8) (v := (nI 1)) (lv' := [(6, .int (x6 + (nI 1))), (5, .int r14), (8, .int v4), (7, .int ((f b3 0) + x6)), (0, .ref (gz G + o)), (1, .int x1), (2, .int x2), (3, .ref (gz G + b3)), (4, .int x4)]) B dX0_daysUntilBelow_84 hl rfl (by decide) (by decide) rfl (fun ls hl => ?_)
        refine x_goto (tgt := 9) B dX0_daysUntilBelow_87 (by decide) ?_
        exact hk9 _ _ _ _ _ _ _ (lv_sub hl [4, 5, 6, 7, 8, 1, 0] rfl) hf
      · have hf := iq h15 hf
        refine x_iload B dX0_daysUntilBelow_79 (lv_at hl 8 rfl) ?_
        refine x_iconst (v := (nI 1)) B dX0_daysUntilBelow_81 (by decide) ?_
        refine x_iadd B dX0_daysUntilBelow_82 ?_
        obtain ⟨rfl, rfl⟩ := rt2 hf
        exact x_iret B dX0_daysUntilBelow_83
set_option maxHeartbeats 4000000 in
set_option maxRecDepth 100000 in
theorem fX0_daysUntilBelow_9L_ok {V : VE} {G : GE} {N : Nat} {m : Mm} {n : Nat}  {o : Nat} {b3 : Nat} {r : Int32} {g : Mm} (B : CX V G cX0_daysUntilBelow 9 "FluxWatch$Buyer" (some .int)) (hR : V.2.2.2.1 = rmX0_daysUntilBelow) (ho : rg 0 o) (hb3 : rg 10 b3)  : ∀ (q : Nat) (x1 : Int32) (x2 : Int32) (x4 : Int32) (x5 : Int32) (x6 : Int32) (mm : Mm) (ls : Array Slot),  lv_has ls 9 [(0, .ref (gz G + o)), (1, .int x1), (2, .int x2), (3, .ref (gz G + b3)), (4, .int x4), (5, .int x5), (6, .int x6)] → fX0_daysUntilBelow_9L n N o b3 q x1 x2 x4 x5 x6 mm = some (r, g) → WX V G N mm m 0 0 (QQ V G (some (.int r)) N g m 0 0) 9 ls [] := by
  intro q
  induction q with
  | zero =>
    intro x1 x2 x4 x5 x6 mm ls hl hf
    cases hf
  | succ q ih =>
    intro x1 x2 x4 x5 x6 mm ls hl hf
    exact fX0_daysUntilBelow_9_ok B hR ho hb3  ih  hl hf
def fX0_daysUntilBelow (n : Nat) (N : Nat) (o : Nat) (a1 : Int32) (a2 : Int32) (b3 : Nat) (a4 : Int32) (f : Mm) : Option (Int32 × Mm) :=
  fX0_daysUntilBelow_9L n N o b3 n a1 a2 a4 (f b3 1) (nI 0) f
set_option maxHeartbeats 4000000 in
set_option maxRecDepth 100000 in
theorem kX0_daysUntilBelow {l : Launch} {G : GE} {N : Nat} {f m : Mm} {n : Nat} {o : Nat} {a1 : Int32} {a2 : Int32} {b3 : Nat} {a4 : Int32} {r : Int32} {g : Mm} (ho : rg 0 o) (hb3 : rg 10 b3) (hf : fX0_daysUntilBelow n N o a1 a2 b3 a4 f = some (r, g)) : MT l G yX0_daysUntilBelow cX0_daysUntilBelow 9 (some .int) rmX0_daysUntilBelow [.ref (gz G + o), .int a1, .int a2, .ref (gz G + b3), .int a4] N f m (some (.int r)) N g m := by
  unfold fX0_daysUntilBelow at hf
  refine MT.of (by decide) (Nat.le_of_ble_eq_true rfl) (fun V ls hV hR B hl => ?_)
  have B : CX V G cX0_daysUntilBelow 9 "FluxWatch$Buyer" (some .int) := B
  have hl : lv_has ls 9 [(0, .ref (gz G + o)), (1, .int a1), (2, .int a2), (3, .ref (gz G + b3)), (4, .int a4)] := hl
  show WX V G N f m 0 0 (QQ V G (some (.int r)) N g m 0 0) 0 ls []
  refine x_aload_n B dX0_daysUntilBelow_0 rfl (lv_at hl 3 rfl) ?_
  refine y_getFi (C := RX10) (T := TX10) (NN := 16) B (hb3.at0 rfl) inX10 rfl (j := 1) (by decide) q_192 rfl rfl dX0_daysUntilBelow_1 ?_
  refine x_istore (lv' := [(5, .int (f b3 1)), (0, .ref (gz G + o)), (1, .int a1), (2, .int a2), (3, .ref (gz G + b3)), (4, .int a4)]) B dX0_daysUntilBelow_4 hl (by decide) rfl (fun ls hl => ?_)
  refine x_iconst (v := (nI 0)) B dX0_daysUntilBelow_6 (by decide) ?_
  refine x_istore (lv' := [(6, .int (nI 0)), (5, .int (f b3 1)), (0, .ref (gz G + o)), (1, .int a1), (2, .int a2), (3, .ref (gz G + b3)), (4, .int a4)]) B dX0_daysUntilBelow_7 hl (by decide) rfl (fun ls hl => ?_)
  exact fX0_daysUntilBelow_9L_ok B hR ho hb3  n _ _ _ _ _ _ _ (lv_sub hl [2, 3, 4, 5, 6, 1, 0] rfl) hf
def rmX0_daysOf : Room := { frames := 4, cells := 0, slots := 0, locals := 139 }
set_option maxHeartbeats 4000000 in
set_option maxRecDepth 100000 in
theorem cw_X0_daysOf_X0_daysUntilBelow : cwB rmX0_daysOf rmX0_daysUntilBelow yX0_daysUntilBelow cX0_daysUntilBelow 9 (some .int) 4 := ⟨q_996, q_56, by decide, by decide⟩
def fX0_daysOf_47 (n : Nat) (N : Nat) (o : Nat) (b2 : Nat)  (x1 : Int32) (f : Mm) : Option (Int32 × Mm) :=
  gd (ib x1 73) <|
  some (f (o + 3) x1.toNatClampNeg, f)
set_option maxHeartbeats 4000000 in
set_option maxRecDepth 100000 in
theorem fX0_daysOf_47_ok {V : VE} {G : GE} {N : Nat} {f m : Mm} {n : Nat} {ls : Array Slot} {o : Nat} {b2 : Nat} {r : Int32} {g : Mm} (B : CX V G cX0_daysOf 4 "FluxWatch$Buyer" (some .int)) (hR : V.2.2.2.1 = rmX0_daysOf) (ho : rg 0 o) (hb2 : rg 10 b2)  {x1 : Int32}  (hl : lv_has ls 4 [(0, .ref (gz G + o)), (1, .int x1)]) (hf : fX0_daysOf_47 n N o b2 x1 f = some (r, g)) : WX V G N f m 0 0 (QQ V G (some (.int r)) N g m 0 0) 47 ls [] := by
  unfold fX0_daysOf_47 at hf
  refine x_aload_n B dX0_daysOf_47 rfl (lv_at hl 0 rfl) ?_
  refine y_getFs (C := RX0) (T := TX0) (NN := 7) (d := 3) B (ho.at0 rfl) inX0 rfl (j := 6) (by decide) q_371 rfl rfl (by decide) dX0_daysOf_48 ?_
  refine x_iload_n B dX0_daysOf_51 rfl (lv_at hl 1 rfl) ?_
  obtain ⟨h11, hf⟩ := gd_some hf
  refine x_ialdF B (ho.at 3 rfl) h11 dX0_daysOf_52 ?_
  obtain ⟨rfl, rfl⟩ := rt2 hf
  exact x_iret B dX0_daysOf_53
def fX0_daysOf (n : Nat) (N : Nat) (o : Nat) (a1 : Int32) (b2 : Nat) (a3 : Int32) (f : Mm) : Option (Int32 × Mm) :=
  if a1 < 0 then (
  some ((nI 61), f)) else (
  if a1 < (nI 73) then (
  gd (ib a1 73) <|
  if (f (o + 3) a1.toNatClampNeg) = 0 then (
  bn2 (fX0_daysUntilBelow n N o a3 a1 b2 (minI (f o 3) (nI 60)) f) fun r7 f6 =>
  gd (ib a1 73) <|
  lt (up f6 (o + 3) a1.toNatClampNeg r7) fun f9 =>
  fX0_daysOf_47 n N o b2 a1 f9) else (
  fX0_daysOf_47 n N o b2 a1 f)) else (
  some ((nI 61), f)))
set_option maxHeartbeats 4000000 in
set_option maxRecDepth 100000 in
theorem kX0_daysOf {l : Launch} {G : GE} {N : Nat} {f m : Mm} {n : Nat} {o : Nat} {a1 : Int32} {b2 : Nat} {a3 : Int32} {r : Int32} {g : Mm} (ho : rg 0 o) (hb2 : rg 10 b2) (hf : fX0_daysOf n N o a1 b2 a3 f = some (r, g)) : MT l G yX0_daysOf cX0_daysOf 4 (some .int) rmX0_daysOf [.ref (gz G + o), .int a1, .ref (gz G + b2), .int a3] N f m (some (.int r)) N g m := by
  unfold fX0_daysOf at hf
  refine MT.of (by decide) (Nat.le_of_ble_eq_true rfl) (fun V ls hV hR B hl => ?_)
  have B : CX V G cX0_daysOf 4 "FluxWatch$Buyer" (some .int) := B
  have hl : lv_has ls 4 [(0, .ref (gz G + o)), (1, .int a1), (2, .ref (gz G + b2)), (3, .int a3)] := hl
  show WX V G N f m 0 0 (QQ V G (some (.int r)) N g m 0 0) 0 ls []
  refine x_iload_n B dX0_daysOf_0 rfl (lv_at hl 1 rfl) ?_
  refine x_if_lt (tgt := 13) B dX0_daysOf_1 (by decide) (fun h1 => ?_) (fun h1 => ?_)
  · have hf := ip h1 hf
    refine x_bipush (v := (nI 61)) B dX0_daysOf_13 (by decide) ?_
    obtain ⟨rfl, rfl⟩ := rt2 hf
    exact x_iret B dX0_daysOf_15
  · have hf := iq h1 hf
    refine x_iload_n B dX0_daysOf_4 rfl (lv_at hl 1 rfl) ?_
    refine x_aload_n B dX0_daysOf_5 rfl (lv_at hl 0 rfl) ?_
    refine y_getFs (C := RX0) (T := TX0) (NN := 7) (d := 3) B (ho.at0 rfl) inX0 rfl (j := 6) (by decide) q_371 rfl rfl (by decide) dX0_daysOf_6 ?_
    refine x_alenF (v := (nI 73)) B (ho.at 3 rfl) (by decide) dX0_daysOf_9 ?_
    refine x_icmp_lt (tgt := 16) B dX0_daysOf_10 (by decide) (fun h2 => ?_) (fun h2 => ?_)
    · have hf := ip h2 hf
      refine x_aload_n B dX0_daysOf_16 rfl (lv_at hl 0 rfl) ?_
      refine y_getFs (C := RX0) (T := TX0) (NN := 7) (d := 3) B (ho.at0 rfl) inX0 rfl (j := 6) (by decide) q_371 rfl rfl (by decide) dX0_daysOf_17 ?_
      refine x_iload_n B dX0_daysOf_20 rfl (lv_at hl 1 rfl) ?_
      obtain ⟨h3, hf⟩ := gd_some hf
      refine x_ialdF B (ho.at 3 rfl) h3 dX0_daysOf_21 ?_
      refine x_if_ne (tgt := 47) B dX0_daysOf_22 (by decide) (fun h4 => ?_) (fun h4 => ?_)
      · have hf := ip h4 hf
        refine x_aload_n B dX0_daysOf_25 rfl (lv_at hl 0 rfl) ?_
        refine y_getFs (C := RX0) (T := TX0) (NN := 7) (d := 3) B (ho.at0 rfl) inX0 rfl (j := 6) (by decide) q_371 rfl rfl (by decide) dX0_daysOf_26 ?_
        refine x_iload_n B dX0_daysOf_29 rfl (lv_at hl 1 rfl) ?_
        refine x_aload_n B dX0_daysOf_30 rfl (lv_at hl 0 rfl) ?_
        refine x_iload_n B dX0_daysOf_31 rfl (lv_at hl 3 rfl) ?_
        refine x_iload_n B dX0_daysOf_32 rfl (lv_at hl 1 rfl) ?_
        refine x_aload_n B dX0_daysOf_33 rfl (lv_at hl 2 rfl) ?_
        refine x_aload_n B dX0_daysOf_34 rfl (lv_at hl 0 rfl) ?_
        refine y_getFi (C := RX0) (T := TX0) (NN := 7) B (ho.at0 rfl) inX0 rfl (j := 3) (by decide) q_367 rfl rfl dX0_daysOf_35 ?_
        refine x_bipush (v := (nI 60)) B dX0_daysOf_38 (by decide) ?_
        refine y_min B q_992 q_114 q_49 q_115 hl.1 (by rw [hR]; decide) (by rw [hR]; decide) (Nat.le_of_ble_eq_true rfl) ⟨Nat.zero_le _, Nat.zero_le _⟩ dX0_daysOf_40 ?_
        obtain ⟨r7, f6, c5, hf⟩ := bn2_some hf
        refine x_callV0 (rest := [.int a1, .ref (gz G + (o + 3))]) B (kX0_daysUntilBelow ho hb2 c5) ⟨rfl, rfl⟩ (ho.at0 (N := N) rfl).lt (ho.at0 (N := N) rfl).2 rfl (by decide) q_993 q_994 q_995 (by rw [hR]; exact cw_X0_daysOf_X0_daysUntilBelow) rfl rfl hl.1 (Nat.le_of_ble_eq_true rfl) dX0_daysOf_43 ⟨Nat.zero_le _, Nat.zero_le _⟩ ?_
        obtain ⟨h8, hf⟩ := gd_some hf
        refine x_iastF B (ho.at 3 rfl) h8 dX0_daysOf_46 (fun f9 e10 => ?_)
        have hf := lt_some hf e10
        exact fX0_daysOf_47_ok B hR ho hb2  (lv_sub hl [0, 1] rfl) hf
      · have hf := iq h4 hf
        exact fX0_daysOf_47_ok B hR ho hb2  (lv_sub hl [0, 1] rfl) hf
    · have hf := iq h2 hf
      refine x_bipush (v := (nI 61)) B dX0_daysOf_13 (by decide) ?_
      obtain ⟨rfl, rfl⟩ := rt2 hf
      exact x_iret B dX0_daysOf_15
def rmX0_lookAhead : Room := { frames := 4, cells := 0, slots := 0, locals := 134 }
set_option maxHeartbeats 4000000 in
set_option maxRecDepth 100000 in
theorem cw_X0_lookAhead_J7_fill_53178 : cwB rmX0_lookAhead rmJ7_fill_53178 yJ7_fill_53178 cJ7_fill_53178 4 none 2 := ⟨q_985, q_65, by decide, by decide⟩
set_option maxHeartbeats 4000000 in
set_option maxRecDepth 100000 in
theorem cw_X0_lookAhead_X10_hasFit : cwB rmX0_lookAhead rmX10_hasFit yX10_hasFit cX10_hasFit 3 (some .boolean) 1 := ⟨q_665, q_46, by decide, by decide⟩
set_option maxHeartbeats 4000000 in
set_option maxRecDepth 100000 in
theorem cw_X0_lookAhead_X10_seenOn : cwB rmX0_lookAhead rmX10_seenOn yX10_seenOn cX10_seenOn 2 (some .int) 1 := ⟨q_489, q_46, by decide, by decide⟩
def fX0_lookAhead_10 (n : Nat) (o : Nat) (b1 : Nat)  (k10 : Int32 → Mm → Option (Mm)) (x2 : Int32) (f : Mm) : Option (Mm) :=
  if (nI 60) ≤ x2 then (
  some f) else (
  bn (fX10_seenOn n b1 ((f b1 0) + x2) f) fun r5 =>
  gd (ib x2 60) <|
  lt (up f (o + 1) x2.toNatClampNeg r5) fun f7 =>
  bn (fX10_hasFit n b1 ((f7 b1 0) + x2) f7) fun r10 =>
  gd (ib x2 60) <|
  lt (up f7 (o + 2) x2.toNatClampNeg (vp_nar .boolean r10)) fun f12 =>
  k10 (x2 + (nI 1)) f12)
def fX0_lookAhead_10L (n : Nat) (o : Nat) (b1 : Nat)  : Nat → Int32 → Mm → Option (Mm)
  | 0 => fun _ _ => none
  | q + 1 => fX0_lookAhead_10 n o b1  (fX0_lookAhead_10L n o b1  q)
set_option maxHeartbeats 4000000 in
set_option maxRecDepth 100000 in
theorem fX0_lookAhead_10_ok {V : VE} {G : GE} {N : Nat} {f m : Mm} {n : Nat} {ls : Array Slot} {o : Nat} {b1 : Nat} {g : Mm} (B : CX V G cX0_lookAhead 3 "FluxWatch$Buyer" none) (hR : V.2.2.2.1 = rmX0_lookAhead) (ho : rg 0 o) (hb1 : rg 10 b1)  {k10 : Int32 → Mm → Option (Mm)} (hk10 : ∀ (x2 : Int32) (mm : Mm) (ls : Array Slot),  lv_has ls 3 [(0, .ref (gz G + o)), (1, .ref (gz G + b1)), (2, .int x2)] → k10 x2 mm = some g → WX V G N mm m 0 0 (QQ V G none N g m 0 0) 10 ls []) {x2 : Int32}  (hl : lv_has ls 3 [(0, .ref (gz G + o)), (1, .ref (gz G + b1)), (2, .int x2)]) (hf : fX0_lookAhead_10 n o b1 k10 x2 f = some g) : WX V G N f m 0 0 (QQ V G none N g m 0 0) 10 ls [] := by
  unfold fX0_lookAhead_10 at hf
  refine x_iload_n B dX0_lookAhead_10 rfl (lv_at hl 2 rfl) ?_
  refine x_bipush (v := (nI 60)) B dX0_lookAhead_11 (by decide) ?_
  refine x_icmp_ge (tgt := 54) B dX0_lookAhead_13 (by decide) (fun h3 => ?_) (fun h3 => ?_)
  · have hf := ip h3 hf
    obtain rfl := rt1 hf
    exact x_vret B dX0_lookAhead_54
  · have hf := iq h3 hf
    refine x_aload_n B dX0_lookAhead_16 rfl (lv_at hl 0 rfl) ?_
    refine y_getFs (C := RX0) (T := TX0) (NN := 7) (d := 1) B (ho.at0 rfl) inX0 rfl (j := 4) (by decide) q_369 rfl rfl (by decide) dX0_lookAhead_17 ?_
    refine x_iload_n B dX0_lookAhead_20 rfl (lv_at hl 2 rfl) ?_
    refine x_aload_n B dX0_lookAhead_21 rfl (lv_at hl 1 rfl) ?_
    refine x_aload_n B dX0_lookAhead_22 rfl (lv_at hl 1 rfl) ?_
    refine y_getFi (C := RX10) (T := TX10) (NN := 16) B (hb1.at0 rfl) inX10 rfl (j := 0) (by decide) q_190 rfl rfl dX0_lookAhead_23 ?_
    refine x_iload_n B dX0_lookAhead_26 rfl (lv_at hl 2 rfl) ?_
    refine x_iadd B dX0_lookAhead_27 ?_
    obtain ⟨r5, c4, hf⟩ := bn_some hf
    refine x_callV0 (rest := [.int x2, .ref (gz G + (o + 1))]) B (kX10_seenOn hb1 c4) ⟨rfl, rfl⟩ (hb1.at0 (N := N) rfl).lt (hb1.at0 (N := N) rfl).2 rfl (by decide) q_986 q_487 q_488 (by rw [hR]; exact cw_X0_lookAhead_X10_seenOn) rfl rfl hl.1 (Nat.le_of_ble_eq_true rfl) dX0_lookAhead_28 ⟨Nat.zero_le _, Nat.zero_le _⟩ ?_
    obtain ⟨h6, hf⟩ := gd_some hf
    refine x_iastF B (ho.at 1 rfl) h6 dX0_lookAhead_31 (fun f7 e8 => ?_)
    have hf := lt_some hf e8
    refine x_aload_n B dX0_lookAhead_32 rfl (lv_at hl 0 rfl) ?_
    refine y_getFs (C := RX0) (T := TX0) (NN := 7) (d := 2) B (ho.at0 rfl) inX0 rfl (j := 5) (by decide) q_370 rfl rfl (by decide) dX0_lookAhead_33 ?_
    refine x_iload_n B dX0_lookAhead_36 rfl (lv_at hl 2 rfl) ?_
    refine x_aload_n B dX0_lookAhead_37 rfl (lv_at hl 1 rfl) ?_
    refine x_aload_n B dX0_lookAhead_38 rfl (lv_at hl 1 rfl) ?_
    refine y_getFi (C := RX10) (T := TX10) (NN := 16) B (hb1.at0 rfl) inX10 rfl (j := 0) (by decide) q_190 rfl rfl dX0_lookAhead_39 ?_
    refine x_iload_n B dX0_lookAhead_42 rfl (lv_at hl 2 rfl) ?_
    refine x_iadd B dX0_lookAhead_43 ?_
    obtain ⟨r10, c9, hf⟩ := bn_some hf
    refine x_callV0 (rest := [.int x2, .ref (gz G + (o + 2))]) B (kX10_hasFit hb1 c9) ⟨rfl, rfl⟩ (hb1.at0 (N := N) rfl).lt (hb1.at0 (N := N) rfl).2 rfl (by decide) q_987 q_663 q_664 (by rw [hR]; exact cw_X0_lookAhead_X10_hasFit) rfl rfl hl.1 (Nat.le_of_ble_eq_true rfl) dX0_lookAhead_44 ⟨Nat.zero_le _, Nat.zero_le _⟩ ?_
    obtain ⟨h11, hf⟩ := gd_some hf
    refine x_zastF B (ho.at 2 rfl) h11 dX0_lookAhead_47 (fun f12 e13 => ?_)
    have hf := lt_some hf e13
    refine x_iinc (k := 2) (v := (nI 1)) (lv' := [(2, .int (x2 + (nI 1))), (0, .ref (gz G + o)), (1, .ref (gz G + b1))]) B dX0_lookAhead_48 hl rfl (by decide) (by decide) rfl (fun ls hl => ?_)
    refine x_goto (tgt := 10) B dX0_lookAhead_51 (by decide) ?_
    exact hk10 _ _ _ (lv_sub hl [1, 2, 0] rfl) hf
set_option maxHeartbeats 4000000 in
set_option maxRecDepth 100000 in
theorem fX0_lookAhead_10L_ok {V : VE} {G : GE} {N : Nat} {m : Mm} {n : Nat}  {o : Nat} {b1 : Nat} {g : Mm} (B : CX V G cX0_lookAhead 3 "FluxWatch$Buyer" none) (hR : V.2.2.2.1 = rmX0_lookAhead) (ho : rg 0 o) (hb1 : rg 10 b1)  : ∀ (q : Nat) (x2 : Int32) (mm : Mm) (ls : Array Slot),  lv_has ls 3 [(0, .ref (gz G + o)), (1, .ref (gz G + b1)), (2, .int x2)] → fX0_lookAhead_10L n o b1 q x2 mm = some g → WX V G N mm m 0 0 (QQ V G none N g m 0 0) 10 ls [] := by
  intro q
  induction q with
  | zero =>
    intro x2 mm ls hl hf
    cases hf
  | succ q ih =>
    intro x2 mm ls hl hf
    exact fX0_lookAhead_10_ok B hR ho hb1  ih  hl hf
def fX0_lookAhead (n : Nat) (o : Nat) (b1 : Nat) (f : Mm) : Option (Mm) :=
  bn (fJ7_fill_53178 n (o + 3) 73 (nI 0) f) fun f2 =>
  fX0_lookAhead_10L n o b1 n (nI 0) f2
set_option maxHeartbeats 4000000 in
set_option maxRecDepth 100000 in
theorem kX0_lookAhead {l : Launch} {G : GE} {N : Nat} {f m : Mm} {n : Nat} {o : Nat} {b1 : Nat} {g : Mm} (ho : rg 0 o) (hb1 : rg 10 b1) (hf : fX0_lookAhead n o b1 f = some g) : MT l G yX0_lookAhead cX0_lookAhead 3 none rmX0_lookAhead [.ref (gz G + o), .ref (gz G + b1)] N f m none N g m := by
  unfold fX0_lookAhead at hf
  refine MT.of (by decide) (Nat.le_of_ble_eq_true rfl) (fun V ls hV hR B hl => ?_)
  have B : CX V G cX0_lookAhead 3 "FluxWatch$Buyer" none := B
  have hl : lv_has ls 3 [(0, .ref (gz G + o)), (1, .ref (gz G + b1))] := hl
  show WX V G N f m 0 0 (QQ V G none N g m 0 0) 0 ls []
  refine x_aload_n B dX0_lookAhead_0 rfl (lv_at hl 0 rfl) ?_
  refine y_getFs (C := RX0) (T := TX0) (NN := 7) (d := 3) B (ho.at0 rfl) inX0 rfl (j := 6) (by decide) q_371 rfl rfl (by decide) dX0_lookAhead_1 ?_
  refine x_iconst (v := (nI 0)) B dX0_lookAhead_4 (by decide) ?_
  obtain ⟨f2, c1, hf⟩ := bn_some hf
  refine x_callS0 (rest := []) B (kJ7_fill_53178 (ho.at 3 rfl) c1) ⟨rfl, rfl⟩ q_983 q_984 (by rw [hR]; exact cw_X0_lookAhead_J7_fill_53178) rfl rfl hl.1 (Nat.le_of_ble_eq_true rfl) dX0_lookAhead_5 ⟨Nat.zero_le _, Nat.zero_le _⟩ ?_
  refine x_iconst (v := (nI 0)) B dX0_lookAhead_8 (by decide) ?_
  refine x_istore_n (lv' := [(2, .int (nI 0)), (0, .ref (gz G + o)), (1, .ref (gz G + b1))]) B dX0_lookAhead_9 rfl hl (by decide) rfl (fun ls hl => ?_)
  exact fX0_lookAhead_10L_ok B hR ho hb1  n _ _ _ (lv_sub hl [1, 2, 0] rfl) hf
def rmX0_choosesSoonest : Room := { frames := 5, cells := 0, slots := 0, locals := 162 }
set_option maxHeartbeats 4000000 in
set_option maxRecDepth 100000 in
theorem cw_X0_choosesSoonest_X0_choose : cwB rmX0_choosesSoonest rmX0_choose yX0_choose cX0_choose 5 none 4 := ⟨q_969, q_56, by decide, by decide⟩
set_option maxHeartbeats 4000000 in
set_option maxRecDepth 100000 in
theorem cw_X0_choosesSoonest_X0_daysOf : cwB rmX0_choosesSoonest rmX0_daysOf yX0_daysOf cX0_daysOf 4 (some .int) 3 := ⟨q_991, q_56, by decide, by decide⟩
set_option maxHeartbeats 4000000 in
set_option maxRecDepth 100000 in
theorem cw_X0_choosesSoonest_X0_lookAhead : cwB rmX0_choosesSoonest rmX0_lookAhead yX0_lookAhead cX0_lookAhead 3 none 1 := ⟨q_982, q_56, by decide, by decide⟩
set_option maxHeartbeats 4000000 in
set_option maxRecDepth 100000 in
theorem cw_X0_choosesSoonest_X11_sumOf : cwB rmX0_choosesSoonest rmX11_sumOf yX11_sumOf cX11_sumOf 4 (some .int) 2 := ⟨q_492, q_45, by decide, by decide⟩
def fX0_choosesSoonest_118 (n : Nat) (N : Nat) (o : Nat) (b1 : Nat) (k28 : Int32 → Int32 → Int32 → Int32 → Mm → Option (Int32 × Mm)) (x2 : Int32) (x3 : Int32) (x4 : Int32) (x5 : Int32) (f : Mm) : Option (Int32 × Mm) :=
  k28 x2 x3 x4 (x5 + (nI 1)) f
set_option maxHeartbeats 4000000 in
set_option maxRecDepth 100000 in
theorem fX0_choosesSoonest_118_ok {V : VE} {G : GE} {N : Nat} {f m : Mm} {n : Nat} {ls : Array Slot} {o : Nat} {b1 : Nat} {r : Int32} {g : Mm} (B : CX V G cX0_choosesSoonest 9 "FluxWatch$Buyer" (some .boolean)) (hR : V.2.2.2.1 = rmX0_choosesSoonest) (ho : rg 0 o) (hb1 : rg 10 b1) {k28 : Int32 → Int32 → Int32 → Int32 → Mm → Option (Int32 × Mm)} (hk28 : ∀ (x2 : Int32) (x3 : Int32) (x4 : Int32) (x5 : Int32) (mm : Mm) (ls : Array Slot),  lv_has ls 9 [(0, .ref (gz G + o)), (1, .ref (gz G + b1)), (2, .int x2), (3, .int x3), (4, .int x4), (5, .int x5)] → k28 x2 x3 x4 x5 mm = some (r, g) → WX V G N mm m 0 0 (QQ V G (some (.int r)) N g m 0 0) 28 ls []) {x2 : Int32} {x3 : Int32} {x4 : Int32} {x5 : Int32}  (hl : lv_has ls 9 [(0, .ref (gz G + o)), (1, .ref (gz G + b1)), (2, .int x2), (3, .int x3), (4, .int x4), (5, .int x5)]) (hf : fX0_choosesSoonest_118 n N o b1 k28 x2 x3 x4 x5 f = some (r, g)) : WX V G N f m 0 0 (QQ V G (some (.int r)) N g m 0 0) 118 ls [] := by
  unfold fX0_choosesSoonest_118 at hf
  refine x_iinc (k := 5) (v := (nI 1)) (lv' := [(5, .int (x5 + (nI 1))), (0, .ref (gz G + o)), (1, .ref (gz G + b1)), (2, .int x2), (3, .int x3), (4, .int x4)]) B dX0_choosesSoonest_118 hl rfl (by decide) (by decide) rfl (fun ls hl => ?_)
  refine x_goto (tgt := 28) B dX0_choosesSoonest_121 (by decide) ?_
  exact hk28 _ _ _ _ _ _ (lv_sub hl [1, 2, 3, 4, 5, 0] rfl) hf
def fX0_choosesSoonest_106 (n : Nat) (N : Nat) (o : Nat) (b1 : Nat) (k28 : Int32 → Int32 → Int32 → Int32 → Mm → Option (Int32 × Mm)) (x2 : Int32) (x3 : Int32) (x4 : Int32) (x5 : Int32) (x6 : Int32) (x7 : Int32) (x8 : Int32) (f : Mm) : Option (Int32 × Mm) :=
  bn (fX0_choose n o x5 x7 x6 x8 f) fun f19 =>
  fX0_choosesSoonest_118 n N o b1 k28 x2 x3 x4 x5 f19
set_option maxHeartbeats 4000000 in
set_option maxRecDepth 100000 in
theorem fX0_choosesSoonest_106_ok {V : VE} {G : GE} {N : Nat} {f m : Mm} {n : Nat} {ls : Array Slot} {o : Nat} {b1 : Nat} {r : Int32} {g : Mm} (B : CX V G cX0_choosesSoonest 9 "FluxWatch$Buyer" (some .boolean)) (hR : V.2.2.2.1 = rmX0_choosesSoonest) (ho : rg 0 o) (hb1 : rg 10 b1) {k28 : Int32 → Int32 → Int32 → Int32 → Mm → Option (Int32 × Mm)} (hk28 : ∀ (x2 : Int32) (x3 : Int32) (x4 : Int32) (x5 : Int32) (mm : Mm) (ls : Array Slot),  lv_has ls 9 [(0, .ref (gz G + o)), (1, .ref (gz G + b1)), (2, .int x2), (3, .int x3), (4, .int x4), (5, .int x5)] → k28 x2 x3 x4 x5 mm = some (r, g) → WX V G N mm m 0 0 (QQ V G (some (.int r)) N g m 0 0) 28 ls []) {x2 : Int32} {x3 : Int32} {x4 : Int32} {x5 : Int32} {x6 : Int32} {x7 : Int32} {x8 : Int32}  (hl : lv_has ls 9 [(0, .ref (gz G + o)), (1, .ref (gz G + b1)), (2, .int x2), (3, .int x3), (4, .int x4), (5, .int x5), (6, .int x6), (7, .int x7), (8, .int x8)]) (hf : fX0_choosesSoonest_106 n N o b1 k28 x2 x3 x4 x5 x6 x7 x8 f = some (r, g)) : WX V G N f m 0 0 (QQ V G (some (.int r)) N g m 0 0) 106 ls [] := by
  unfold fX0_choosesSoonest_106 at hf
  refine x_aload_n B dX0_choosesSoonest_106 rfl (lv_at hl 0 rfl) ?_
  refine x_iload B dX0_choosesSoonest_107 (lv_at hl 5 rfl) ?_
  refine x_iload B dX0_choosesSoonest_109 (lv_at hl 7 rfl) ?_
  refine x_iload B dX0_choosesSoonest_111 (lv_at hl 6 rfl) ?_
  refine x_iload B dX0_choosesSoonest_113 (lv_at hl 8 rfl) ?_
  obtain ⟨f19, c18, hf⟩ := bn_some hf
  refine x_callV0 (rest := []) B (kX0_choose ho c18) ⟨rfl, rfl⟩ (ho.at0 (N := N) rfl).lt (ho.at0 (N := N) rfl).2 rfl (by decide) q_966 q_967 q_968 (by rw [hR]; exact cw_X0_choosesSoonest_X0_choose) rfl rfl hl.1 (Nat.le_of_ble_eq_true rfl) dX0_choosesSoonest_115 ⟨Nat.zero_le _, Nat.zero_le _⟩ ?_
  exact fX0_choosesSoonest_118_ok B hR ho hb1 hk28 (lv_sub hl [0, 1, 2, 3, 4, 5] rfl) hf
def fX0_choosesSoonest_28 (n : Nat) (N : Nat) (o : Nat) (b1 : Nat)  (k28 : Int32 → Int32 → Int32 → Int32 → Mm → Option (Int32 × Mm)) (x2 : Int32) (x3 : Int32) (x4 : Int32) (x5 : Int32) (f : Mm) : Option (Int32 × Mm) :=
  if x4 ≤ x5 then (
  if (nI 60) < (f o 3) then (
  some ((nI 0), f)) else (
  some ((nI 1), f))) else (
  bn (fX11_sumOf n (b1 + 21 + 2) 8 x5 f) fun r10 =>
  if x2 < r10 then (
  fX0_choosesSoonest_118 n N o b1 k28 x2 x3 x4 x5 f) else (
  bn (fX11_sumOf n (b1 + 21 + 1) 8 x5 f) fun r13 =>
  bn2 (fX0_daysOf n N o r13 b1 x3 f) fun r16 f15 =>
  if r16 < (f15 o 3) then (
  fX0_choosesSoonest_106 n N o b1 k28 x2 x3 x4 x5 r10 r13 r16 f15) else (
  if r16 = (f15 o 3) then (
  if (f15 o 2) ≤ r10 then (
  fX0_choosesSoonest_118 n N o b1 k28 x2 x3 x4 x5 f15) else (
  fX0_choosesSoonest_106 n N o b1 k28 x2 x3 x4 x5 r10 r13 r16 f15)) else (
  fX0_choosesSoonest_118 n N o b1 k28 x2 x3 x4 x5 f15))))
def fX0_choosesSoonest_28L (n : Nat) (N : Nat) (o : Nat) (b1 : Nat)  : Nat → Int32 → Int32 → Int32 → Int32 → Mm → Option (Int32 × Mm)
  | 0 => fun _ _ _ _ _ => none
  | q + 1 => fX0_choosesSoonest_28 n N o b1  (fX0_choosesSoonest_28L n N o b1  q)
set_option maxHeartbeats 4000000 in
set_option maxRecDepth 100000 in
theorem fX0_choosesSoonest_28_ok {V : VE} {G : GE} {N : Nat} {f m : Mm} {n : Nat} {ls : Array Slot} {o : Nat} {b1 : Nat} {r : Int32} {g : Mm} (B : CX V G cX0_choosesSoonest 9 "FluxWatch$Buyer" (some .boolean)) (hR : V.2.2.2.1 = rmX0_choosesSoonest) (ho : rg 0 o) (hb1 : rg 10 b1)  {k28 : Int32 → Int32 → Int32 → Int32 → Mm → Option (Int32 × Mm)} (hk28 : ∀ (x2 : Int32) (x3 : Int32) (x4 : Int32) (x5 : Int32) (mm : Mm) (ls : Array Slot),  lv_has ls 9 [(0, .ref (gz G + o)), (1, .ref (gz G + b1)), (2, .int x2), (3, .int x3), (4, .int x4), (5, .int x5)] → k28 x2 x3 x4 x5 mm = some (r, g) → WX V G N mm m 0 0 (QQ V G (some (.int r)) N g m 0 0) 28 ls []) {x2 : Int32} {x3 : Int32} {x4 : Int32} {x5 : Int32}  (hl : lv_has ls 9 [(0, .ref (gz G + o)), (1, .ref (gz G + b1)), (2, .int x2), (3, .int x3), (4, .int x4), (5, .int x5)]) (hf : fX0_choosesSoonest_28 n N o b1 k28 x2 x3 x4 x5 f = some (r, g)) : WX V G N f m 0 0 (QQ V G (some (.int r)) N g m 0 0) 28 ls [] := by
  unfold fX0_choosesSoonest_28 at hf
  refine x_iload B dX0_choosesSoonest_28 (lv_at hl 5 rfl) ?_
  refine x_iload B dX0_choosesSoonest_30 (lv_at hl 4 rfl) ?_
  refine x_icmp_ge (tgt := 124) B dX0_choosesSoonest_32 (by decide) (fun h7 => ?_) (fun h7 => ?_)
  · have hf := ip h7 hf
    refine x_aload_n B dX0_choosesSoonest_124 rfl (lv_at hl 0 rfl) ?_
    refine y_getFi (C := RX0) (T := TX0) (NN := 7) B (ho.at0 rfl) inX0 rfl (j := 3) (by decide) q_367 rfl rfl dX0_choosesSoonest_125 ?_
    refine x_bipush (v := (nI 60)) B dX0_choosesSoonest_128 (by decide) ?_
    refine x_icmp_gt (tgt := 137) B dX0_choosesSoonest_130 (by decide) (fun h8 => ?_) (fun h8 => ?_)
    · have hf := ip h8 hf
      refine x_iconst (v := (nI 0)) B dX0_choosesSoonest_137 (by decide) ?_
      obtain ⟨rfl, rfl⟩ := rt2 hf
      exact x_zret B (by decide) dX0_choosesSoonest_138
    · have hf := iq h8 hf
      refine x_iconst (v := (nI 1)) B dX0_choosesSoonest_133 (by decide) ?_
      refine x_goto (tgt := 138) B dX0_choosesSoonest_134 (by decide) ?_
      obtain ⟨rfl, rfl⟩ := rt2 hf
      exact x_zret B (by decide) dX0_choosesSoonest_138
  · have hf := iq h7 hf
    refine x_aload_n B dX0_choosesSoonest_35 rfl (lv_at hl 1 rfl) ?_
    refine y_getFs (C := RX10) (T := TX10) (NN := 16) (d := 21) B (hb1.at0 rfl) inX10 rfl (j := 15) (by decide) q_221 rfl rfl (by decide) dX0_choosesSoonest_36 ?_
    refine y_getFs (C := RX4) (T := TX4) (NN := 3) (d := 2) B ((rs_10_21_4 hb1).at0 rfl) inX4 rfl (j := 1) (by decide) q_177 rfl rfl (by decide) dX0_choosesSoonest_39 ?_
    refine x_iload B dX0_choosesSoonest_42 (lv_at hl 5 rfl) ?_
    obtain ⟨r10, c9, hf⟩ := bn_some hf
    refine x_callSN0 (rest := []) B (kX11_sumOf ((rs_10_21_4 hb1).at 2 rfl) c9) ⟨rfl, rfl⟩ nq_970 q_491 (by rw [hR]; exact cw_X0_choosesSoonest_X11_sumOf) rfl rfl hl.1 (Nat.le_of_ble_eq_true rfl) dX0_choosesSoonest_44 ⟨Nat.zero_le _, Nat.zero_le _⟩ ?_
    refine x_istore (lv' := [(6, .int r10), (0, .ref (gz G + o)), (1, .ref (gz G + b1)), (2, .int x2), (3, .int x3), (4, .int x4), (5, .int x5)]) B dX0_choosesSoonest_47 hl (by decide) rfl (fun ls hl => ?_)
    refine x_iload B dX0_choosesSoonest_49 (lv_at hl 0 rfl) ?_
    refine x_iload_n B dX0_choosesSoonest_51 rfl (lv_at hl 3 rfl) ?_
    refine x_icmp_gt (tgt := 118) B dX0_choosesSoonest_52 (by decide) (fun h11 => ?_) (fun h11 => ?_)
    · have hf := ip h11 hf
      exact fX0_choosesSoonest_118_ok B hR ho hb1 hk28 (lv_sub hl [1, 2, 3, 4, 5, 6] rfl) hf
    · have hf := iq h11 hf
      refine x_aload_n B dX0_choosesSoonest_55 rfl (lv_at hl 2 rfl) ?_
      refine y_getFs (C := RX10) (T := TX10) (NN := 16) (d := 21) B (hb1.at0 rfl) inX10 rfl (j := 15) (by decide) q_221 rfl rfl (by decide) dX0_choosesSoonest_56 ?_
      refine y_getFs (C := RX4) (T := TX4) (NN := 3) (d := 1) B ((rs_10_21_4 hb1).at0 rfl) inX4 rfl (j := 0) (by decide) q_175 rfl rfl (by decide) dX0_choosesSoonest_59 ?_
      refine x_iload B dX0_choosesSoonest_62 (lv_at hl 6 rfl) ?_
      obtain ⟨r13, c12, hf⟩ := bn_some hf
      refine x_callSN0 (rest := []) B (kX11_sumOf ((rs_10_21_4 hb1).at 1 rfl) c12) ⟨rfl, rfl⟩ nq_970 q_491 (by rw [hR]; exact cw_X0_choosesSoonest_X11_sumOf) rfl rfl hl.1 (Nat.le_of_ble_eq_true rfl) dX0_choosesSoonest_64 ⟨Nat.zero_le _, Nat.zero_le _⟩ ?_
      refine x_istore (lv' := [(7, .int r13), (6, .int r10), (0, .ref (gz G + o)), (1, .ref (gz G + b1)), (2, .int x2), (3, .int x3), (4, .int x4), (5, .int x5)]) B dX0_choosesSoonest_67 hl (by decide) rfl (fun ls hl => ?_)
      refine x_aload_n B dX0_choosesSoonest_69 rfl (lv_at hl 2 rfl) ?_
      refine x_iload B dX0_choosesSoonest_70 (lv_at hl 0 rfl) ?_
      refine x_aload_n B dX0_choosesSoonest_72 rfl (lv_at hl 3 rfl) ?_
      refine x_iload_n B dX0_choosesSoonest_73 rfl (lv_at hl 5 rfl) ?_
      obtain ⟨r16, f15, c14, hf⟩ := bn2_some hf
      refine x_callV0 (rest := []) B (kX0_daysOf ho hb1 c14) ⟨rfl, rfl⟩ (ho.at0 (N := N) rfl).lt (ho.at0 (N := N) rfl).2 rfl (by decide) q_988 q_989 q_990 (by rw [hR]; exact cw_X0_choosesSoonest_X0_daysOf) rfl rfl hl.1 (Nat.le_of_ble_eq_true rfl) dX0_choosesSoonest_74 ⟨Nat.zero_le _, Nat.zero_le _⟩ ?_
      refine x_istore (lv' := [(8, .int r16), (7, .int r13), (6, .int r10), (0, .ref (gz G + o)), (1, .ref (gz G + b1)), (2, .int x2), (3, .int x3), (4, .int x4), (5, .int x5)]) B dX0_choosesSoonest_77 hl (by decide) rfl (fun ls hl => ?_)
      refine x_iload B dX0_choosesSoonest_79 (lv_at hl 0 rfl) ?_
      refine x_aload_n B dX0_choosesSoonest_81 rfl (lv_at hl 3 rfl) ?_
      refine y_getFi (C := RX0) (T := TX0) (NN := 7) B (ho.at0 rfl) inX0 rfl (j := 3) (by decide) q_367 rfl rfl dX0_choosesSoonest_82 ?_
      refine x_icmp_lt (tgt := 106) B dX0_choosesSoonest_85 (by decide) (fun h17 => ?_) (fun h17 => ?_)
      · have hf := ip h17 hf
        exact fX0_choosesSoonest_106_ok B hR ho hb1 hk28 (lv_sub hl [3, 4, 5, 6, 7, 8, 2, 1, 0] rfl) hf
      · have hf := iq h17 hf
        refine x_iload B dX0_choosesSoonest_88 (lv_at hl 0 rfl) ?_
        refine x_aload_n B dX0_choosesSoonest_90 rfl (lv_at hl 3 rfl) ?_
        refine y_getFi (C := RX0) (T := TX0) (NN := 7) B (ho.at0 rfl) inX0 rfl (j := 3) (by decide) q_367 rfl rfl dX0_choosesSoonest_91 ?_
        refine x_icmp_ne (tgt := 118) B dX0_choosesSoonest_94 (by decide) (fun h20 => ?_) (fun h20 => ?_)
        · have hf := ip h20 hf
          refine x_iload B dX0_choosesSoonest_97 (lv_at hl 2 rfl) ?_
          refine x_aload_n B dX0_choosesSoonest_99 rfl (lv_at hl 3 rfl) ?_
          refine y_getFi (C := RX0) (T := TX0) (NN := 7) B (ho.at0 rfl) inX0 rfl (j := 2) (by decide) q_365 rfl rfl dX0_choosesSoonest_100 ?_
          refine x_icmp_ge (tgt := 118) B dX0_choosesSoonest_103 (by decide) (fun h21 => ?_) (fun h21 => ?_)
          · have hf := ip h21 hf
            exact fX0_choosesSoonest_118_ok B hR ho hb1 hk28 (lv_sub hl [3, 4, 5, 6, 7, 8] rfl) hf
          · have hf := iq h21 hf
            exact fX0_choosesSoonest_106_ok B hR ho hb1 hk28 (lv_sub hl [3, 4, 5, 6, 7, 8, 2, 1, 0] rfl) hf
        · have hf := iq h20 hf
          exact fX0_choosesSoonest_118_ok B hR ho hb1 hk28 (lv_sub hl [3, 4, 5, 6, 7, 8] rfl) hf
set_option maxHeartbeats 4000000 in
set_option maxRecDepth 100000 in
theorem fX0_choosesSoonest_28L_ok {V : VE} {G : GE} {N : Nat} {m : Mm} {n : Nat}  {o : Nat} {b1 : Nat} {r : Int32} {g : Mm} (B : CX V G cX0_choosesSoonest 9 "FluxWatch$Buyer" (some .boolean)) (hR : V.2.2.2.1 = rmX0_choosesSoonest) (ho : rg 0 o) (hb1 : rg 10 b1)  : ∀ (q : Nat) (x2 : Int32) (x3 : Int32) (x4 : Int32) (x5 : Int32) (mm : Mm) (ls : Array Slot),  lv_has ls 9 [(0, .ref (gz G + o)), (1, .ref (gz G + b1)), (2, .int x2), (3, .int x3), (4, .int x4), (5, .int x5)] → fX0_choosesSoonest_28L n N o b1 q x2 x3 x4 x5 mm = some (r, g) → WX V G N mm m 0 0 (QQ V G (some (.int r)) N g m 0 0) 28 ls [] := by
  intro q
  induction q with
  | zero =>
    intro x2 x3 x4 x5 mm ls hl hf
    cases hf
  | succ q ih =>
    intro x2 x3 x4 x5 mm ls hl hf
    exact fX0_choosesSoonest_28_ok B hR ho hb1  ih  hl hf
def fX0_choosesSoonest (n : Nat) (N : Nat) (o : Nat) (b1 : Nat) (a2 : Int32) (a3 : Int32) (f : Mm) : Option (Int32 × Mm) :=
  bn (fX0_lookAhead n o b1 f) fun f2 =>
  bn (fX0_choose n o (nI 0) (nI 0) (nI 0) (nI 61) f2) fun f4 =>
  lt (shlI (nI 1) (f4 (b1 + 21) 2)) fun v5 =>
  fX0_choosesSoonest_28L n N o b1 n a2 a3 v5 (nI 0) f4
set_option maxHeartbeats 4000000 in
set_option maxRecDepth 100000 in
theorem kX0_choosesSoonest {l : Launch} {G : GE} {N : Nat} {f m : Mm} {n : Nat} {o : Nat} {b1 : Nat} {a2 : Int32} {a3 : Int32} {r : Int32} {g : Mm} (ho : rg 0 o) (hb1 : rg 10 b1) (hf : fX0_choosesSoonest n N o b1 a2 a3 f = some (r, g)) : MT l G yX0_choosesSoonest cX0_choosesSoonest 9 (some .boolean) rmX0_choosesSoonest [.ref (gz G + o), .ref (gz G + b1), .int a2, .int a3] N f m (some (.int r)) N g m := by
  unfold fX0_choosesSoonest at hf
  refine MT.of (by decide) (Nat.le_of_ble_eq_true rfl) (fun V ls hV hR B hl => ?_)
  have B : CX V G cX0_choosesSoonest 9 "FluxWatch$Buyer" (some .boolean) := B
  have hl : lv_has ls 9 [(0, .ref (gz G + o)), (1, .ref (gz G + b1)), (2, .int a2), (3, .int a3)] := hl
  show WX V G N f m 0 0 (QQ V G (some (.int r)) N g m 0 0) 0 ls []
  refine x_aload_n B dX0_choosesSoonest_0 rfl (lv_at hl 0 rfl) ?_
  refine x_aload_n B dX0_choosesSoonest_1 rfl (lv_at hl 1 rfl) ?_
  obtain ⟨f2, c1, hf⟩ := bn_some hf
  refine x_callV0 (rest := []) B (kX0_lookAhead ho hb1 c1) ⟨rfl, rfl⟩ (ho.at0 (N := N) rfl).lt (ho.at0 (N := N) rfl).2 rfl (by decide) q_979 q_980 q_981 (by rw [hR]; exact cw_X0_choosesSoonest_X0_lookAhead) rfl rfl hl.1 (Nat.le_of_ble_eq_true rfl) dX0_choosesSoonest_2 ⟨Nat.zero_le _, Nat.zero_le _⟩ ?_
  refine x_aload_n B dX0_choosesSoonest_5 rfl (lv_at hl 0 rfl) ?_
  refine x_iconst (v := (nI 0)) B dX0_choosesSoonest_6 (by decide) ?_
  refine x_iconst (v := (nI 0)) B dX0_choosesSoonest_7 (by decide) ?_
  refine x_iconst (v := (nI 0)) B dX0_choosesSoonest_8 (by decide) ?_
  refine x_bipush (v := (nI 61)) B dX0_choosesSoonest_9 (by decide) ?_
  obtain ⟨f4, c3, hf⟩ := bn_some hf
  refine x_callV0 (rest := []) B (kX0_choose ho c3) ⟨rfl, rfl⟩ (ho.at0 (N := N) rfl).lt (ho.at0 (N := N) rfl).2 rfl (by decide) q_966 q_967 q_968 (by rw [hR]; exact cw_X0_choosesSoonest_X0_choose) rfl rfl hl.1 (Nat.le_of_ble_eq_true rfl) dX0_choosesSoonest_11 ⟨Nat.zero_le _, Nat.zero_le _⟩ ?_
  refine x_iconst (v := (nI 1)) B dX0_choosesSoonest_14 (by decide) ?_
  refine x_aload_n B dX0_choosesSoonest_15 rfl (lv_at hl 1 rfl) ?_
  refine y_getFs (C := RX10) (T := TX10) (NN := 16) (d := 21) B (hb1.at0 rfl) inX10 rfl (j := 15) (by decide) q_221 rfl rfl (by decide) dX0_choosesSoonest_16 ?_
  refine y_getFi (C := RX4) (T := TX4) (NN := 3) B ((rs_10_21_4 hb1).at0 rfl) inX4 rfl (j := 2) (by decide) q_179 rfl rfl dX0_choosesSoonest_19 ?_
  refine y_ishl B dX0_choosesSoonest_22 ?_
  refine x_nm (fun v5 e6 => ?_)
  have hf := lt_some hf e6
  refine x_istore (lv' := [(4, .int v5), (0, .ref (gz G + o)), (1, .ref (gz G + b1)), (2, .int a2), (3, .int a3)]) B dX0_choosesSoonest_23 hl (by decide) rfl (fun ls hl => ?_)
  refine x_iconst (v := (nI 0)) B dX0_choosesSoonest_25 (by decide) ?_
  refine x_istore (lv' := [(5, .int (nI 0)), (4, .int v5), (0, .ref (gz G + o)), (1, .ref (gz G + b1)), (2, .int a2), (3, .int a3)]) B dX0_choosesSoonest_26 hl (by decide) rfl (fun ls hl => ?_)
  exact fX0_choosesSoonest_28L_ok B hR ho hb1  n _ _ _ _ _ _ (lv_sub hl [2, 3, 4, 5, 1, 0] rfl) hf
def rmX11_soonest : Room := { frames := 6, cells := 0, slots := 0, locals := 190 }
set_option maxHeartbeats 4000000 in
set_option maxRecDepth 100000 in
theorem cw_X11_soonest_X0_choosesSoonest : cwB rmX11_soonest rmX0_choosesSoonest yX0_choosesSoonest cX0_choosesSoonest 9 (some .boolean) 3 := ⟨q_978, q_56, by decide, by decide⟩
set_option maxHeartbeats 4000000 in
set_option maxRecDepth 100000 in
theorem cw_X11_soonest_X11_isSum : cwB rmX11_soonest rmX11_isSum yX11_isSum cX11_isSum 1 (some .boolean) 1 := ⟨q_961, q_45, by decide, by decide⟩
def fX11_soonest (n : Nat) (N : Nat) (a1 : Int32) (a2 : Int32) (a3 : Int32) (f : Mm) : Option (Int32 × Mm) :=
  bn (fX11_isSum n a1) fun r2 =>
  if r2 = 0 then (
  some ((-1000000001 : Int32), f)) else (
  if a2 < 0 then (
  some ((-1000000001 : Int32), f)) else (
  if (nI 10000) < a2 then (
  some ((-1000000001 : Int32), f)) else (
  if a3 < 0 then (
  some ((-1000000001 : Int32), f)) else (
  if a3 ≤ (nI 2) then (
  bn2 (fX0_choosesSoonest n N 103 1 a1 a2 f) fun r10 f9 =>
  if r10 = 0 then (
  some ((-1000000005 : Int32), f9)) else (
  if a3 = (nI 0) then (
  some (f9 103 0, f9)) else (
  if a3 = (nI 1) then (
  some (f9 103 3, f9)) else (
  some (f9 103 2, f9))))) else (
  some ((-1000000001 : Int32), f))))))
set_option maxHeartbeats 4000000 in
set_option maxRecDepth 100000 in
theorem kX11_soonest {l : Launch} {G : GE} {N : Nat} {f m : Mm} {n : Nat} {a1 : Int32} {a2 : Int32} {a3 : Int32} {r : Int32} {g : Mm}  (hf : fX11_soonest n N a1 a2 a3 f = some (r, g)) : MT l G yX11_soonest cX11_soonest 4 (some .int) rmX11_soonest [.ref (gz G + 0), .int a1, .int a2, .int a3] N f m (some (.int r)) N g m := by
  unfold fX11_soonest at hf
  refine MT.of (by decide) (Nat.le_of_ble_eq_true rfl) (fun V ls hV hR B hl => ?_)
  have B : CX V G cX11_soonest 4 "FluxWatch" (some .int) := B
  have hl : lv_has ls 4 [(0, .ref (gz G + 0)), (1, .int a1), (2, .int a2), (3, .int a3)] := hl
  show WX V G N f m 0 0 (QQ V G (some (.int r)) N g m 0 0) 0 ls []
  refine x_iload_n B dX11_soonest_0 rfl (lv_at hl 1 rfl) ?_
  obtain ⟨r2, c1, hf⟩ := bn_some hf
  refine x_callS0 (rest := []) B (kX11_isSum c1) ⟨rfl, rfl⟩ q_959 q_960 (by rw [hR]; exact cw_X11_soonest_X11_isSum) rfl rfl hl.1 (Nat.le_of_ble_eq_true rfl) dX11_soonest_1 ⟨Nat.zero_le _, Nat.zero_le _⟩ ?_
  refine x_if_eq (tgt := 27) B dX11_soonest_4 (by decide) (fun h3 => ?_) (fun h3 => ?_)
  · have hf := ip h3 hf
    refine x_ldc (v := (-1000000001 : Int32)) B q_432 dX11_soonest_27 ?_
    obtain ⟨rfl, rfl⟩ := rt2 hf
    exact x_iret B dX11_soonest_29
  · have hf := iq h3 hf
    refine x_iload_n B dX11_soonest_7 rfl (lv_at hl 2 rfl) ?_
    refine x_if_lt (tgt := 27) B dX11_soonest_8 (by decide) (fun h4 => ?_) (fun h4 => ?_)
    · have hf := ip h4 hf
      refine x_ldc (v := (-1000000001 : Int32)) B q_432 dX11_soonest_27 ?_
      obtain ⟨rfl, rfl⟩ := rt2 hf
      exact x_iret B dX11_soonest_29
    · have hf := iq h4 hf
      refine x_iload_n B dX11_soonest_11 rfl (lv_at hl 2 rfl) ?_
      refine x_sipush (v := (nI 10000)) B dX11_soonest_12 (by decide) ?_
      refine x_icmp_gt (tgt := 27) B dX11_soonest_15 (by decide) (fun h5 => ?_) (fun h5 => ?_)
      · have hf := ip h5 hf
        refine x_ldc (v := (-1000000001 : Int32)) B q_432 dX11_soonest_27 ?_
        obtain ⟨rfl, rfl⟩ := rt2 hf
        exact x_iret B dX11_soonest_29
      · have hf := iq h5 hf
        refine x_iload_n B dX11_soonest_18 rfl (lv_at hl 3 rfl) ?_
        refine x_if_lt (tgt := 27) B dX11_soonest_19 (by decide) (fun h6 => ?_) (fun h6 => ?_)
        · have hf := ip h6 hf
          refine x_ldc (v := (-1000000001 : Int32)) B q_432 dX11_soonest_27 ?_
          obtain ⟨rfl, rfl⟩ := rt2 hf
          exact x_iret B dX11_soonest_29
        · have hf := iq h6 hf
          refine x_iload_n B dX11_soonest_22 rfl (lv_at hl 3 rfl) ?_
          refine x_iconst (v := (nI 2)) B dX11_soonest_23 (by decide) ?_
          refine x_icmp_le (tgt := 30) B dX11_soonest_24 (by decide) (fun h7 => ?_) (fun h7 => ?_)
          · have hf := ip h7 hf
            refine x_aload_n B dX11_soonest_30 rfl (lv_at hl 0 rfl) ?_
            refine y_getFs (C := RX11) (T := TX11) (NN := 10) (d := 103) B (rg_11_0.at0 rfl) inX11 rfl (j := 9) (by decide) q_397 rfl rfl (by decide) dX11_soonest_31 ?_
            refine x_aload_n B dX11_soonest_34 rfl (lv_at hl 0 rfl) ?_
            refine y_getFs (C := RX11) (T := TX11) (NN := 10) (d := 1) B (rg_11_0.at0 rfl) inX11 rfl (j := 0) (by decide) q_388 rfl rfl (by decide) dX11_soonest_35 ?_
            refine x_iload_n B dX11_soonest_38 rfl (lv_at hl 1 rfl) ?_
            refine x_iload_n B dX11_soonest_39 rfl (lv_at hl 2 rfl) ?_
            obtain ⟨r10, f9, c8, hf⟩ := bn2_some hf
            refine x_callV0 (rest := []) B (kX0_choosesSoonest rg_0_103 rg_10_1 c8) ⟨rfl, rfl⟩ (rg_0_103.at0 (N := N) rfl).lt (rg_0_103.at0 (N := N) rfl).2 rfl (by decide) q_975 q_976 q_977 (by rw [hR]; exact cw_X11_soonest_X0_choosesSoonest) rfl rfl hl.1 (Nat.le_of_ble_eq_true rfl) dX11_soonest_40 ⟨Nat.zero_le _, Nat.zero_le _⟩ ?_
            refine x_if_ne (tgt := 49) B dX11_soonest_43 (by decide) (fun h11 => ?_) (fun h11 => ?_)
            · have hf := ip h11 hf
              refine x_ldc (v := (-1000000005 : Int32)) B q_461 dX11_soonest_46 ?_
              obtain ⟨rfl, rfl⟩ := rt2 hf
              exact x_iret B dX11_soonest_48
            · have hf := iq h11 hf
              refine x_iload_n B dX11_soonest_49 rfl (lv_at hl 3 rfl) ?_
              by_cases h12 : a3 = (nI 0)
              · have hf := ip h12 hf
                refine x_look (tgt := 76) (off := 26) B dX11_soonest_50 (by decide) (by rw [h12]; first | done | rfl) (by decide) ?_
                refine x_aload_n B dX11_soonest_76 rfl (lv_at hl 0 rfl) ?_
                refine y_getFs (C := RX11) (T := TX11) (NN := 10) (d := 103) B (rg_11_0.at0 rfl) inX11 rfl (j := 9) (by decide) q_397 rfl rfl (by decide) dX11_soonest_77 ?_
                refine y_getFi (C := RX0) (T := TX0) (NN := 7) B (rg_0_103.at0 rfl) inX0 rfl (j := 0) (by decide) q_362 rfl rfl dX11_soonest_80 ?_
                obtain ⟨rfl, rfl⟩ := rt2 hf
                exact x_iret B dX11_soonest_83
              · have hf := iq h12 hf
                by_cases h13 : a3 = (nI 1)
                · have hf := ip h13 hf
                  refine x_look (tgt := 84) (off := 34) B dX11_soonest_50 (by decide) (by rw [h13]; first | done | rfl) (by decide) ?_
                  refine x_aload_n B dX11_soonest_84 rfl (lv_at hl 0 rfl) ?_
                  refine y_getFs (C := RX11) (T := TX11) (NN := 10) (d := 103) B (rg_11_0.at0 rfl) inX11 rfl (j := 9) (by decide) q_397 rfl rfl (by decide) dX11_soonest_85 ?_
                  refine y_getFi (C := RX0) (T := TX0) (NN := 7) B (rg_0_103.at0 rfl) inX0 rfl (j := 3) (by decide) q_368 rfl rfl dX11_soonest_88 ?_
                  obtain ⟨rfl, rfl⟩ := rt2 hf
                  exact x_iret B dX11_soonest_91
                · have hf := iq h13 hf
                  refine x_look (tgt := 92) (off := 42) B dX11_soonest_50 (by decide) ((lv_osw h12 rfl).trans ((lv_osw h13 rfl).trans rfl)) (by decide) ?_
                  refine x_aload_n B dX11_soonest_92 rfl (lv_at hl 0 rfl) ?_
                  refine y_getFs (C := RX11) (T := TX11) (NN := 10) (d := 103) B (rg_11_0.at0 rfl) inX11 rfl (j := 9) (by decide) q_397 rfl rfl (by decide) dX11_soonest_93 ?_
                  refine y_getFi (C := RX0) (T := TX0) (NN := 7) B (rg_0_103.at0 rfl) inX0 rfl (j := 2) (by decide) q_366 rfl rfl dX11_soonest_96 ?_
                  obtain ⟨rfl, rfl⟩ := rt2 hf
                  exact x_iret B dX11_soonest_99
          · have hf := iq h7 hf
            refine x_ldc (v := (-1000000001 : Int32)) B q_432 dX11_soonest_27 ?_
            obtain ⟨rfl, rfl⟩ := rt2 hf
            exact x_iret B dX11_soonest_29
def rmX11_step : Room := { frames := 2, cells := 0, slots := 0, locals := 44 }
set_option maxHeartbeats 4000000 in
set_option maxRecDepth 100000 in
theorem cw_X11_step_X11_isHeight : cwB rmX11_step rmX11_isHeight yX11_isHeight cX11_isHeight 1 (some .boolean) 1 := ⟨q_514, q_45, by decide, by decide⟩
set_option maxHeartbeats 4000000 in
set_option maxRecDepth 100000 in
theorem cw_X11_step_X11_isKind : cwB rmX11_step rmX11_isKind yX11_isKind cX11_isKind 1 (some .boolean) 1 := ⟨q_511, q_45, by decide, by decide⟩
set_option maxHeartbeats 4000000 in
set_option maxRecDepth 100000 in
theorem cw_X11_step_X1_has : cwB rmX11_step rmX1_has yX1_has cX1_has 2 (some .boolean) 1 := ⟨q_440, q_47, by decide, by decide⟩
set_option maxHeartbeats 4000000 in
set_option maxRecDepth 100000 in
theorem cw_X11_step_X8_add : cwB rmX11_step rmX8_add yX8_add cX8_add 5 (some .int) 4 := ⟨q_518, q_50, by decide, by decide⟩
def fX11_step (n : Nat) (a1 : Int32) (a2 : Int32) (a3 : Int32) (a4 : Int32) (f : Mm) : Option (Int32 × Mm) :=
  bn (fX11_isKind n a1) fun r2 =>
  if r2 = 0 then (
  some ((-1000000001 : Int32), f)) else (
  bn (fX1_has n 2 a2 f) fun r5 =>
  if r5 = 0 then (
  some ((-1000000001 : Int32), f)) else (
  if a3 < 0 then (
  some ((-1000000001 : Int32), f)) else (
  if (f 1 0) < a3 then (
  some ((-1000000001 : Int32), f)) else (
  bn (fX11_isHeight n a4) fun r10 =>
  if r10 = 0 then (
  some ((-1000000001 : Int32), f)) else (
  bn2 (fX8_add n 10 a1 a2 a3 a4 f) fun r14 f13 =>
  some (r14, f13))))))
set_option maxHeartbeats 4000000 in
set_option maxRecDepth 100000 in
theorem kX11_step {l : Launch} {G : GE} {N : Nat} {f m : Mm} {n : Nat} {a1 : Int32} {a2 : Int32} {a3 : Int32} {a4 : Int32} {r : Int32} {g : Mm}  (hf : fX11_step n a1 a2 a3 a4 f = some (r, g)) : MT l G yX11_step cX11_step 5 (some .int) rmX11_step [.ref (gz G + 0), .int a1, .int a2, .int a3, .int a4] N f m (some (.int r)) N g m := by
  unfold fX11_step at hf
  refine MT.of (by decide) (Nat.le_of_ble_eq_true rfl) (fun V ls hV hR B hl => ?_)
  have B : CX V G cX11_step 5 "FluxWatch" (some .int) := B
  have hl : lv_has ls 5 [(0, .ref (gz G + 0)), (1, .int a1), (2, .int a2), (3, .int a3), (4, .int a4)] := hl
  show WX V G N f m 0 0 (QQ V G (some (.int r)) N g m 0 0) 0 ls []
  refine x_iload_n B dX11_step_0 rfl (lv_at hl 1 rfl) ?_
  obtain ⟨r2, c1, hf⟩ := bn_some hf
  refine x_callS0 (rest := []) B (kX11_isKind c1) ⟨rfl, rfl⟩ q_509 q_510 (by rw [hR]; exact cw_X11_step_X11_isKind) rfl rfl hl.1 (Nat.le_of_ble_eq_true rfl) dX11_step_1 ⟨Nat.zero_le _, Nat.zero_le _⟩ ?_
  refine x_if_eq (tgt := 44) B dX11_step_4 (by decide) (fun h3 => ?_) (fun h3 => ?_)
  · have hf := ip h3 hf
    refine x_ldc (v := (-1000000001 : Int32)) B q_432 dX11_step_44 ?_
    obtain ⟨rfl, rfl⟩ := rt2 hf
    exact x_iret B dX11_step_46
  · have hf := iq h3 hf
    refine x_aload_n B dX11_step_7 rfl (lv_at hl 0 rfl) ?_
    refine y_getFs (C := RX11) (T := TX11) (NN := 10) (d := 1) B (rg_11_0.at0 rfl) inX11 rfl (j := 0) (by decide) q_388 rfl rfl (by decide) dX11_step_8 ?_
    refine y_getFs (C := RX10) (T := TX10) (NN := 16) (d := 1) B (rg_10_1.at0 rfl) inX10 rfl (j := 6) (by decide) q_204 rfl rfl (by decide) dX11_step_11 ?_
    refine x_iload_n B dX11_step_14 rfl (lv_at hl 2 rfl) ?_
    obtain ⟨r5, c4, hf⟩ := bn_some hf
    refine x_callV0 (rest := []) B (kX1_has rg_1_2 c4) ⟨rfl, rfl⟩ (rg_1_2.at0 (N := N) rfl).lt (rg_1_2.at0 (N := N) rfl).2 rfl (by decide) q_437 q_438 q_439 (by rw [hR]; exact cw_X11_step_X1_has) rfl rfl hl.1 (Nat.le_of_ble_eq_true rfl) dX11_step_15 ⟨Nat.zero_le _, Nat.zero_le _⟩ ?_
    refine x_if_eq (tgt := 44) B dX11_step_18 (by decide) (fun h6 => ?_) (fun h6 => ?_)
    · have hf := ip h6 hf
      refine x_ldc (v := (-1000000001 : Int32)) B q_432 dX11_step_44 ?_
      obtain ⟨rfl, rfl⟩ := rt2 hf
      exact x_iret B dX11_step_46
    · have hf := iq h6 hf
      refine x_iload_n B dX11_step_21 rfl (lv_at hl 3 rfl) ?_
      refine x_if_lt (tgt := 44) B dX11_step_22 (by decide) (fun h7 => ?_) (fun h7 => ?_)
      · have hf := ip h7 hf
        refine x_ldc (v := (-1000000001 : Int32)) B q_432 dX11_step_44 ?_
        obtain ⟨rfl, rfl⟩ := rt2 hf
        exact x_iret B dX11_step_46
      · have hf := iq h7 hf
        refine x_iload_n B dX11_step_25 rfl (lv_at hl 3 rfl) ?_
        refine x_aload_n B dX11_step_26 rfl (lv_at hl 0 rfl) ?_
        refine y_getFs (C := RX11) (T := TX11) (NN := 10) (d := 1) B (rg_11_0.at0 rfl) inX11 rfl (j := 0) (by decide) q_388 rfl rfl (by decide) dX11_step_27 ?_
        refine y_getFi (C := RX10) (T := TX10) (NN := 16) B (rg_10_1.at0 rfl) inX10 rfl (j := 0) (by decide) q_189 rfl rfl dX11_step_30 ?_
        refine x_icmp_gt (tgt := 44) B dX11_step_33 (by decide) (fun h8 => ?_) (fun h8 => ?_)
        · have hf := ip h8 hf
          refine x_ldc (v := (-1000000001 : Int32)) B q_432 dX11_step_44 ?_
          obtain ⟨rfl, rfl⟩ := rt2 hf
          exact x_iret B dX11_step_46
        · have hf := iq h8 hf
          refine x_iload B dX11_step_36 (lv_at hl 4 rfl) ?_
          obtain ⟨r10, c9, hf⟩ := bn_some hf
          refine x_callS0 (rest := []) B (kX11_isHeight c9) ⟨rfl, rfl⟩ q_512 q_513 (by rw [hR]; exact cw_X11_step_X11_isHeight) rfl rfl hl.1 (Nat.le_of_ble_eq_true rfl) dX11_step_38 ⟨Nat.zero_le _, Nat.zero_le _⟩ ?_
          refine x_if_ne (tgt := 47) B dX11_step_41 (by decide) (fun h11 => ?_) (fun h11 => ?_)
          · have hf := ip h11 hf
            refine x_ldc (v := (-1000000001 : Int32)) B q_432 dX11_step_44 ?_
            obtain ⟨rfl, rfl⟩ := rt2 hf
            exact x_iret B dX11_step_46
          · have hf := iq h11 hf
            refine x_aload_n B dX11_step_47 rfl (lv_at hl 0 rfl) ?_
            refine y_getFs (C := RX11) (T := TX11) (NN := 10) (d := 1) B (rg_11_0.at0 rfl) inX11 rfl (j := 0) (by decide) q_388 rfl rfl (by decide) dX11_step_48 ?_
            refine y_getFs (C := RX10) (T := TX10) (NN := 16) (d := 9) B (rg_10_1.at0 rfl) inX10 rfl (j := 8) (by decide) q_208 rfl rfl (by decide) dX11_step_51 ?_
            refine x_iload_n B dX11_step_54 rfl (lv_at hl 1 rfl) ?_
            refine x_iload_n B dX11_step_55 rfl (lv_at hl 2 rfl) ?_
            refine x_iload_n B dX11_step_56 rfl (lv_at hl 3 rfl) ?_
            refine x_iload B dX11_step_57 (lv_at hl 4 rfl) ?_
            obtain ⟨r14, f13, c12, hf⟩ := bn2_some hf
            refine x_callV0 (rest := []) B (kX8_add rg_8_10 c12) ⟨rfl, rfl⟩ (rg_8_10.at0 (N := N) rfl).lt (rg_8_10.at0 (N := N) rfl).2 rfl (by decide) q_515 q_516 q_517 (by rw [hR]; exact cw_X11_step_X8_add) rfl rfl hl.1 (Nat.le_of_ble_eq_true rfl) dX11_step_59 ⟨Nat.zero_le _, Nat.zero_le _⟩ ?_
            obtain ⟨rfl, rfl⟩ := rt2 hf
            exact x_iret B dX11_step_62
def rmX11_tell : Room := { frames := 0, cells := 0, slots := 0, locals := 0 }
def fX11_tell (n : Nat) (a1 : Int32) (f : Mm) : Option (Int32 × Mm) :=
  if (f 0 7) < (nI 60) then (
  gd (ib (f 0 7) 60) <|
  lt (up f 98 (f 0 7).toNatClampNeg a1) fun f3 =>
  lt (up f3 0 7 ((f3 0 7) + (nI 1))) fun f5 =>
  some (f5 0 7, f5)) else (
  some ((-1000000003 : Int32), f))
set_option maxHeartbeats 4000000 in
set_option maxRecDepth 100000 in
theorem kX11_tell {l : Launch} {G : GE} {N : Nat} {f m : Mm} {n : Nat} {a1 : Int32} {r : Int32} {g : Mm}  (hf : fX11_tell n a1 f = some (r, g)) : MT l G yX11_tell cX11_tell 2 (some .int) rmX11_tell [.ref (gz G + 0), .int a1] N f m (some (.int r)) N g m := by
  unfold fX11_tell at hf
  refine MT.of (by decide) (Nat.le_of_ble_eq_true rfl) (fun V ls hV hR B hl => ?_)
  have B : CX V G cX11_tell 2 "FluxWatch" (some .int) := B
  have hl : lv_has ls 2 [(0, .ref (gz G + 0)), (1, .int a1)] := hl
  show WX V G N f m 0 0 (QQ V G (some (.int r)) N g m 0 0) 0 ls []
  refine x_aload_n B dX11_tell_0 rfl (lv_at hl 0 rfl) ?_
  refine y_getFi (C := RX11) (T := TX11) (NN := 10) B (rg_11_0.at0 rfl) inX11 rfl (j := 7) (by decide) q_395 rfl rfl dX11_tell_1 ?_
  refine x_bipush (v := (nI 60)) B dX11_tell_4 (by decide) ?_
  refine x_icmp_lt (tgt := 12) B dX11_tell_6 (by decide) (fun h1 => ?_) (fun h1 => ?_)
  · have hf := ip h1 hf
    refine x_aload_n B dX11_tell_12 rfl (lv_at hl 0 rfl) ?_
    refine y_getFs (C := RX11) (T := TX11) (NN := 10) (d := 98) B (rg_11_0.at0 rfl) inX11 rfl (j := 6) (by decide) q_394 rfl rfl (by decide) dX11_tell_13 ?_
    refine x_aload_n B dX11_tell_16 rfl (lv_at hl 0 rfl) ?_
    refine y_getFi (C := RX11) (T := TX11) (NN := 10) B (rg_11_0.at0 rfl) inX11 rfl (j := 7) (by decide) q_395 rfl rfl dX11_tell_17 ?_
    refine x_iload_n B dX11_tell_20 rfl (lv_at hl 1 rfl) ?_
    obtain ⟨h2, hf⟩ := gd_some hf
    refine x_iastF B (rg_11_0.at 98 rfl) h2 dX11_tell_21 (fun f3 e4 => ?_)
    have hf := lt_some hf e4
    refine x_aload_n B dX11_tell_22 rfl (lv_at hl 0 rfl) ?_
    refine x_dup B dX11_tell_23 rfl ?_
    refine y_getFi (C := RX11) (T := TX11) (NN := 10) B (rg_11_0.at0 rfl) inX11 rfl (j := 7) (by decide) q_395 rfl rfl dX11_tell_24 ?_
    refine x_iconst (v := (nI 1)) B dX11_tell_27 (by decide) ?_
    refine x_iadd B dX11_tell_28 ?_
    refine x_putF (C := RX11) (T := TX11) (NN := 10) (ty0 := tyX11) (ty := .int) B (rg_11_0.at0 rfl) inX11 tyX11_ok nmX11 rfl (j := 7) (by decide) q_395 rfl rfl rfl rfl rfl rfl dX11_tell_29 (fun f5 e6 => ?_)
    have hf := lt_some hf e6
    refine x_aload_n B dX11_tell_32 rfl (lv_at hl 0 rfl) ?_
    refine y_getFi (C := RX11) (T := TX11) (NN := 10) B (rg_11_0.at0 rfl) inX11 rfl (j := 7) (by decide) q_395 rfl rfl dX11_tell_33 ?_
    obtain ⟨rfl, rfl⟩ := rt2 hf
    exact x_iret B dX11_tell_36
  · have hf := iq h1 hf
    refine x_ldc (v := (-1000000003 : Int32)) B q_601 dX11_tell_9 ?_
    obtain ⟨rfl, rfl⟩ := rt2 hf
    exact x_iret B dX11_tell_11
def rmJ0_isLatin1_aae02 : Room := { frames := 0, cells := 0, slots := 0, locals := 0 }
def fJ0_isLatin1_aae02 (n : Nat) (o : Nat)  : Option (Int32) :=
  if (nI 1) = 0 then (
  some (nI 0)) else (
  if (nI 0) = 0 then (
  some (nI 1)) else (
  some (nI 0)))
set_option maxHeartbeats 4000000 in
set_option maxRecDepth 100000 in
theorem kJ0_isLatin1_aae02 {l : Launch} {G : GE} {N : Nat} {f m : Mm} {n : Nat} {o : Nat} {r : Int32} (ho : o < 3) (hf : fJ0_isLatin1_aae02 n o = some r) : MT l G yJ0_isLatin1_aae02 cJ0_isLatin1_aae02 1 (some .boolean) rmJ0_isLatin1_aae02 [.ref (gK G o)] N f m (some (.int r)) N f m := by
  unfold fJ0_isLatin1_aae02 at hf
  refine MT.of (by decide) (Nat.le_of_ble_eq_true rfl) (fun V ls hV hR B hl => ?_)
  have B : CX V G cJ0_isLatin1_aae02 1 "java/lang/String" (some .boolean) := B
  have hl : lv_has ls 1 [(0, .ref (gK G o))] := hl
  show WX V G N f m 0 0 (QQ V G (some (.int r)) N f m 0 0) 0 ls []
  refine x_getstZ B q_768 dJ0_isLatin1_aae02_0 ?_
  refine x_if_eq (tgt := 17) B dJ0_isLatin1_aae02_3 (by decide) (fun h1 => ?_) (fun h1 => ?_)
  · have hf := ip h1 hf
    refine x_iconst (v := (nI 0)) B dJ0_isLatin1_aae02_17 (by decide) ?_
    obtain rfl := rt1 hf
    exact x_zret B (by decide) dJ0_isLatin1_aae02_18
  · have hf := iq h1 hf
    refine x_aload_n B dJ0_isLatin1_aae02_6 rfl (lv_at hl 0 rfl) ?_
    refine x_strC B ho q_1619 dJ0_isLatin1_aae02_7 ?_
    refine x_if_ne (tgt := 17) B dJ0_isLatin1_aae02_10 (by decide) (fun h2 => ?_) (fun h2 => ?_)
    · have hf := ip h2 hf
      refine x_iconst (v := (nI 1)) B dJ0_isLatin1_aae02_13 (by decide) ?_
      refine x_goto (tgt := 18) B dJ0_isLatin1_aae02_14 (by decide) ?_
      obtain rfl := rt1 hf
      exact x_zret B (by decide) dJ0_isLatin1_aae02_18
    · have hf := iq h2 hf
      refine x_iconst (v := (nI 0)) B dJ0_isLatin1_aae02_17 (by decide) ?_
      obtain rfl := rt1 hf
      exact x_zret B (by decide) dJ0_isLatin1_aae02_18
def rmJ3_checkIndex_8e157 : Room := { frames := 0, cells := 0, slots := 0, locals := 0 }
def fJ3_checkIndex_8e157 (n : Nat) (a1 : Int32) (a2 : Int32)  : Option (Int32) :=
  if a1 < 0 then (
  none) else (
  if a1 < a2 then (
  some a1) else (
  none))
set_option maxHeartbeats 4000000 in
set_option maxRecDepth 100000 in
theorem kJ3_checkIndex_8e157 {l : Launch} {G : GE} {N : Nat} {f m : Mm} {n : Nat} {a1 : Int32} {a2 : Int32} {w : Value} {r : Int32} (hw : w.category = 1) (hf : fJ3_checkIndex_8e157 n a1 a2 = some r) : MT l G yJ3_checkIndex_8e157 cJ3_checkIndex_8e157 3 (some .int) rmJ3_checkIndex_8e157 [.int a1, .int a2, w] N f m (some (.int r)) N f m := by
  unfold fJ3_checkIndex_8e157 at hf
  refine MT.of (by decide) (by simp [lg_sl, hw, show (Value.int a1).category = 1 from rfl, show (Value.int a2).category = 1 from rfl]) (fun V ls hV hR B hl => ?_)
  have B : CX V G cJ3_checkIndex_8e157 3 "jdk/internal/util/Preconditions" (some .int) := B
  have hl : lv_has ls 3 [(0, .int a1), (1, .int a2), (2, w)] := hl
  show WX V G N f m 0 0 (QQ V G (some (.int r)) N f m 0 0) 0 ls []
  refine x_iload_n B dJ3_checkIndex_8e157_0 rfl (lv_at hl 0 rfl) ?_
  refine x_if_lt (tgt := 9) B dJ3_checkIndex_8e157_1 (by decide) (fun h1 => ?_) (fun h1 => ?_)
  · have hf := ip h1 hf
    cases hf
  · have hf := iq h1 hf
    refine x_iload_n B dJ3_checkIndex_8e157_4 rfl (lv_at hl 0 rfl) ?_
    refine x_iload_n B dJ3_checkIndex_8e157_5 rfl (lv_at hl 1 rfl) ?_
    refine x_icmp_lt (tgt := 16) B dJ3_checkIndex_8e157_6 (by decide) (fun h2 => ?_) (fun h2 => ?_)
    · have hf := ip h2 hf
      refine x_iload_n B dJ3_checkIndex_8e157_16 rfl (lv_at hl 0 rfl) ?_
      obtain rfl := rt1 hf
      exact x_iret B dJ3_checkIndex_8e157_17
    · have hf := iq h2 hf
      cases hf
def rmJ0_checkIndex_df160 : Room := { frames := 1, cells := 0, slots := 0, locals := 22 }
set_option maxHeartbeats 4000000 in
set_option maxRecDepth 100000 in
theorem cw_J0_checkIndex_df160_J3_checkIndex_8e157 : cwB rmJ0_checkIndex_df160 rmJ3_checkIndex_8e157 yJ3_checkIndex_8e157 cJ3_checkIndex_8e157 3 (some .int) 3 := ⟨q_788, q_63, by decide, by decide⟩
def fJ0_checkIndex_df160 (n : Nat) (a1 : Int32) (a2 : Int32)  : Option (Unit) :=
  bn (fJ3_checkIndex_8e157 n a1 a2) fun r4 =>
  some ()
set_option maxHeartbeats 4000000 in
set_option maxRecDepth 100000 in
theorem kJ0_checkIndex_df160 {l : Launch} {G : GE} {N : Nat} {f m : Mm} {n : Nat} {a1 : Int32} {a2 : Int32}  (hf : fJ0_checkIndex_df160 n a1 a2 = some ()) : MT l G yJ0_checkIndex_df160 cJ0_checkIndex_df160 2 none rmJ0_checkIndex_df160 [.int a1, .int a2] N f m none N f m := by
  unfold fJ0_checkIndex_df160 at hf
  refine MT.of (by decide) (Nat.le_of_ble_eq_true rfl) (fun V ls hV hR B hl => ?_)
  have B : CX V G cJ0_checkIndex_df160 2 "java/lang/String" none := B
  have hl : lv_has ls 2 [(0, .int a1), (1, .int a2)] := hl
  show WX V G N f m 0 0 (QQ V G none N f m 0 0) 0 ls []
  refine x_iload_n B dJ0_checkIndex_df160_0 rfl (lv_at hl 0 rfl) ?_
  refine x_iload_n B dJ0_checkIndex_df160_1 rfl (lv_at hl 1 rfl) ?_
  refine x_gstQ B q_784 dJ0_checkIndex_df160_2 (fun w1 h2 => ?_)
  obtain ⟨r4, c3, hf⟩ := bn_some hf
  refine x_callS0 (rest := []) B (kJ3_checkIndex_8e157 h2 c3) ⟨rfl, rfl⟩ q_786 q_787 (by rw [hR]; exact cw_J0_checkIndex_df160_J3_checkIndex_8e157) rfl rfl hl.1 (Nat.le_of_ble_eq_true rfl) dJ0_checkIndex_df160_5 ⟨Nat.zero_le _, Nat.zero_le _⟩ ?_
  refine x_pop B dJ0_checkIndex_df160_8 rfl ?_
  exact x_vret B dJ0_checkIndex_df160_9
def rmJ1_charAt_3b067 : Room := { frames := 2, cells := 0, slots := 0, locals := 43 }
set_option maxHeartbeats 4000000 in
set_option maxRecDepth 100000 in
theorem cw_J1_charAt_3b067_J0_checkIndex_df160 : cwB rmJ1_charAt_3b067 rmJ0_checkIndex_df160 yJ0_checkIndex_df160 cJ0_checkIndex_df160 2 none 2 := ⟨q_783, q_61, by decide, by decide⟩
def fJ1_charAt_3b067 (n : Nat) (b1 : Nat) (a2 : Int32)  : Option (Int32) :=
  bn (fJ0_checkIndex_df160 n a2 (Int32.ofNat (strL b1))) fun r2 =>
  gd (ib a2 (strL b1)) <|
  gd (ncB ((((strB b1 a2.toNatClampNeg) &&& (nI 255)).toUInt32 % 65536).toInt32)) <|
  some ((((strB b1 a2.toNatClampNeg) &&& (nI 255)).toUInt32 % 65536).toInt32)
set_option maxHeartbeats 4000000 in
set_option maxRecDepth 100000 in
theorem kJ1_charAt_3b067 {l : Launch} {G : GE} {N : Nat} {f m : Mm} {n : Nat} {b1 : Nat} {a2 : Int32} {r : Int32} (hb1 : b1 < 3) (hf : fJ1_charAt_3b067 n b1 a2 = some r) : MT l G yJ1_charAt_3b067 cJ1_charAt_3b067 2 (some .char) rmJ1_charAt_3b067 [.ref (gV G b1), .int a2] N f m (some (.int r)) N f m := by
  unfold fJ1_charAt_3b067 at hf
  refine MT.of (by decide) (Nat.le_of_ble_eq_true rfl) (fun V ls hV hR B hl => ?_)
  have B : CX V G cJ1_charAt_3b067 2 "java/lang/StringLatin1" (some .char) := B
  have hl : lv_has ls 2 [(0, .ref (gV G b1)), (1, .int a2)] := hl
  show WX V G N f m 0 0 (QQ V G (some (.int r)) N f m 0 0) 0 ls []
  refine x_iload_n B dJ1_charAt_3b067_0 rfl (lv_at hl 1 rfl) ?_
  refine x_aload_n B dJ1_charAt_3b067_1 rfl (lv_at hl 0 rfl) ?_
  refine x_strN B hb1 dJ1_charAt_3b067_2 ?_
  obtain ⟨r2, c1, hf⟩ := bn_some hf
  refine x_callS0 (rest := []) B (kJ0_checkIndex_df160 c1) ⟨rfl, rfl⟩ q_781 q_782 (by rw [hR]; exact cw_J1_charAt_3b067_J0_checkIndex_df160) rfl rfl hl.1 (Nat.le_of_ble_eq_true rfl) dJ1_charAt_3b067_3 ⟨Nat.zero_le _, Nat.zero_le _⟩ ?_
  refine x_aload_n B dJ1_charAt_3b067_6 rfl (lv_at hl 0 rfl) ?_
  refine x_iload_n B dJ1_charAt_3b067_7 rfl (lv_at hl 1 rfl) ?_
  obtain ⟨h3, hf⟩ := gd_some hf
  refine x_strA B hb1 h3 dJ1_charAt_3b067_8 ?_
  refine x_sipush (v := (nI 255)) B dJ1_charAt_3b067_9 (by decide) ?_
  refine x_iand B dJ1_charAt_3b067_12 ?_
  refine x_i2c B dJ1_charAt_3b067_13 ?_
  obtain ⟨h4, hf⟩ := gd_some hf
  obtain rfl := rt1 hf
  exact x_cret B h4 dJ1_charAt_3b067_14
def rmJ0_charAt_5068e : Room := { frames := 4, cells := 0, slots := 0, locals := 85 }
set_option maxHeartbeats 4000000 in
set_option maxRecDepth 100000 in
theorem cw_J0_charAt_5068e_J0_isLatin1_aae02 : cwB rmJ0_charAt_5068e rmJ0_isLatin1_aae02 yJ0_isLatin1_aae02 cJ0_isLatin1_aae02 1 (some .boolean) 0 := ⟨q_777, q_61, by decide, by decide⟩
set_option maxHeartbeats 4000000 in
set_option maxRecDepth 100000 in
theorem cw_J0_charAt_5068e_J1_charAt_3b067 : cwB rmJ0_charAt_5068e rmJ1_charAt_3b067 yJ1_charAt_3b067 cJ1_charAt_3b067 2 (some .char) 2 := ⟨q_780, q_62, by decide, by decide⟩
def fJ0_charAt_5068e (n : Nat) (o : Nat) (a1 : Int32)  : Option (Int32) :=
  bn (fJ0_isLatin1_aae02 n o) fun r2 =>
  if r2 = 0 then (
  none) else (
  bn (fJ1_charAt_3b067 n o a1) fun r5 =>
  gd (ncB r5) <|
  some r5)
set_option maxHeartbeats 4000000 in
set_option maxRecDepth 100000 in
theorem kJ0_charAt_5068e {l : Launch} {G : GE} {N : Nat} {f m : Mm} {n : Nat} {o : Nat} {a1 : Int32} {r : Int32} (ho : o < 3) (hf : fJ0_charAt_5068e n o a1 = some r) : MT l G yJ0_charAt_5068e cJ0_charAt_5068e 2 (some .char) rmJ0_charAt_5068e [.ref (gK G o), .int a1] N f m (some (.int r)) N f m := by
  unfold fJ0_charAt_5068e at hf
  refine MT.of (by decide) (Nat.le_of_ble_eq_true rfl) (fun V ls hV hR B hl => ?_)
  have B : CX V G cJ0_charAt_5068e 2 "java/lang/String" (some .char) := B
  have hl : lv_has ls 2 [(0, .ref (gK G o)), (1, .int a1)] := hl
  show WX V G N f m 0 0 (QQ V G (some (.int r)) N f m 0 0) 0 ls []
  refine x_aload_n B dJ0_charAt_5068e_0 rfl (lv_at hl 0 rfl) ?_
  obtain ⟨r2, c1, hf⟩ := bn_some hf
  refine x_callT0 (rest := []) B (kJ0_isLatin1_aae02 ho c1) ⟨rfl, rfl⟩ ho q_774 q_775 q_776 (by rw [hR]; exact cw_J0_charAt_5068e_J0_isLatin1_aae02) rfl rfl hl.1 (Nat.le_of_ble_eq_true rfl) dJ0_charAt_5068e_1 ⟨Nat.zero_le _, Nat.zero_le _⟩ ?_
  refine x_if_eq (tgt := 16) B dJ0_charAt_5068e_4 (by decide) (fun h3 => ?_) (fun h3 => ?_)
  · have hf := ip h3 hf
    cases hf
  · have hf := iq h3 hf
    refine x_aload_n B dJ0_charAt_5068e_7 rfl (lv_at hl 0 rfl) ?_
    refine x_strV B ho q_1618 dJ0_charAt_5068e_8 ?_
    refine x_iload_n B dJ0_charAt_5068e_11 rfl (lv_at hl 1 rfl) ?_
    obtain ⟨r5, c4, hf⟩ := bn_some hf
    refine x_callS0 (rest := []) B (kJ1_charAt_3b067 ho c4) ⟨rfl, rfl⟩ q_778 q_779 (by rw [hR]; exact cw_J0_charAt_5068e_J1_charAt_3b067) rfl rfl hl.1 (Nat.le_of_ble_eq_true rfl) dJ0_charAt_5068e_12 ⟨Nat.zero_le _, Nat.zero_le _⟩ ?_
    obtain ⟨h6, hf⟩ := gd_some hf
    obtain rfl := rt1 hf
    exact x_cret B h6 dJ0_charAt_5068e_15
def rmJ0_coder_7d493 : Room := { frames := 0, cells := 0, slots := 0, locals := 0 }
def fJ0_coder_7d493 (n : Nat) (o : Nat)  : Option (Int32) :=
  if (nI 1) = 0 then (
  some (nI 1)) else (
  some (nI 0))
set_option maxHeartbeats 4000000 in
set_option maxRecDepth 100000 in
theorem kJ0_coder_7d493 {l : Launch} {G : GE} {N : Nat} {f m : Mm} {n : Nat} {o : Nat} {r : Int32} (ho : o < 3) (hf : fJ0_coder_7d493 n o = some r) : MT l G yJ0_coder_7d493 cJ0_coder_7d493 1 (some .byte) rmJ0_coder_7d493 [.ref (gK G o)] N f m (some (.int r)) N f m := by
  unfold fJ0_coder_7d493 at hf
  refine MT.of (by decide) (Nat.le_of_ble_eq_true rfl) (fun V ls hV hR B hl => ?_)
  have B : CX V G cJ0_coder_7d493 1 "java/lang/String" (some .byte) := B
  have hl : lv_has ls 1 [(0, .ref (gK G o))] := hl
  show WX V G N f m 0 0 (QQ V G (some (.int r)) N f m 0 0) 0 ls []
  refine x_getstZ B q_768 dJ0_coder_7d493_0 ?_
  refine x_if_eq (tgt := 13) B dJ0_coder_7d493_3 (by decide) (fun h1 => ?_) (fun h1 => ?_)
  · have hf := ip h1 hf
    refine x_iconst (v := (nI 1)) B dJ0_coder_7d493_13 (by decide) ?_
    obtain rfl := rt1 hf
    exact x_bret B (by decide) dJ0_coder_7d493_14
  · have hf := iq h1 hf
    refine x_aload_n B dJ0_coder_7d493_6 rfl (lv_at hl 0 rfl) ?_
    refine x_strC B ho q_1619 dJ0_coder_7d493_7 ?_
    refine x_goto (tgt := 14) B dJ0_coder_7d493_10 (by decide) ?_
    obtain rfl := rt1 hf
    exact x_bret B (by decide) dJ0_coder_7d493_14
def rmJ0_length_8abf5 : Room := { frames := 1, cells := 0, slots := 0, locals := 20 }
set_option maxHeartbeats 4000000 in
set_option maxRecDepth 100000 in
theorem cw_J0_length_8abf5_J0_coder_7d493 : cwB rmJ0_length_8abf5 rmJ0_coder_7d493 yJ0_coder_7d493 cJ0_coder_7d493 1 (some .byte) 0 := ⟨q_767, q_61, by decide, by decide⟩
def fJ0_length_8abf5 (n : Nat) (o : Nat)  : Option (Int32) :=
  bn (fJ0_coder_7d493 n o) fun r2 =>
  some (shrI (Int32.ofNat (strL o)) r2)
set_option maxHeartbeats 4000000 in
set_option maxRecDepth 100000 in
theorem kJ0_length_8abf5 {l : Launch} {G : GE} {N : Nat} {f m : Mm} {n : Nat} {o : Nat} {r : Int32} (ho : o < 3) (hf : fJ0_length_8abf5 n o = some r) : MT l G yJ0_length_8abf5 cJ0_length_8abf5 1 (some .int) rmJ0_length_8abf5 [.ref (gK G o)] N f m (some (.int r)) N f m := by
  unfold fJ0_length_8abf5 at hf
  refine MT.of (by decide) (Nat.le_of_ble_eq_true rfl) (fun V ls hV hR B hl => ?_)
  have B : CX V G cJ0_length_8abf5 1 "java/lang/String" (some .int) := B
  have hl : lv_has ls 1 [(0, .ref (gK G o))] := hl
  show WX V G N f m 0 0 (QQ V G (some (.int r)) N f m 0 0) 0 ls []
  refine x_aload_n B dJ0_length_8abf5_0 rfl (lv_at hl 0 rfl) ?_
  refine x_strV B ho q_1618 dJ0_length_8abf5_1 ?_
  refine x_strN B ho dJ0_length_8abf5_4 ?_
  refine x_aload_n B dJ0_length_8abf5_5 rfl (lv_at hl 0 rfl) ?_
  obtain ⟨r2, c1, hf⟩ := bn_some hf
  refine x_callT0 (rest := [.int (Int32.ofNat (strL o))]) B (kJ0_coder_7d493 ho c1) ⟨rfl, rfl⟩ ho q_764 q_765 q_766 (by rw [hR]; exact cw_J0_length_8abf5_J0_coder_7d493) rfl rfl hl.1 (Nat.le_of_ble_eq_true rfl) dJ0_length_8abf5_6 ⟨Nat.zero_le _, Nat.zero_le _⟩ ?_
  refine y_ishr B dJ0_length_8abf5_9 ?_
  obtain rfl := rt1 hf
  exact x_iret B dJ0_length_8abf5_10
def rmX9_isOpen : Room := { frames := 5, cells := 0, slots := 0, locals := 106 }
set_option maxHeartbeats 4000000 in
set_option maxRecDepth 100000 in
theorem cw_X9_isOpen_J0_charAt_5068e : cwB rmX9_isOpen rmJ0_charAt_5068e yJ0_charAt_5068e cJ0_charAt_5068e 2 (some .char) 1 := ⟨q_773, q_61, by decide, by decide⟩
set_option maxHeartbeats 4000000 in
set_option maxRecDepth 100000 in
theorem cw_X9_isOpen_J0_length_8abf5 : cwB rmX9_isOpen rmJ0_length_8abf5 yJ0_length_8abf5 cJ0_length_8abf5 1 (some .int) 0 := ⟨q_763, q_61, by decide, by decide⟩
def fX9_isOpen_29 (n : Nat) (o : Nat) (b1 : Nat)  (k29 : Int32 → Mm → Option (Int32)) (x2 : Int32) (f : Mm) : Option (Int32) :=
  bn (fJ0_length_8abf5 n b1) fun r6 =>
  if r6 ≤ x2 then (
  some (nI 1)) else (
  gd (ib ((f o 3) + x2) 96) <|
  bn (fJ0_charAt_5068e n b1 x2) fun r10 =>
  if (f (o + 1) ((f o 3) + x2).toNatClampNeg) = r10 then (
  k29 (x2 + (nI 1)) f) else (
  some (nI 0)))
def fX9_isOpen_29L (n : Nat) (o : Nat) (b1 : Nat)  : Nat → Int32 → Mm → Option (Int32)
  | 0 => fun _ _ => none
  | q + 1 => fX9_isOpen_29 n o b1  (fX9_isOpen_29L n o b1  q)
set_option maxHeartbeats 4000000 in
set_option maxRecDepth 100000 in
theorem fX9_isOpen_29_ok {V : VE} {G : GE} {N : Nat} {f m : Mm} {n : Nat} {ls : Array Slot} {o : Nat} {b1 : Nat} {r : Int32} (B : CX V G cX9_isOpen 3 "FluxWatch$Tape" (some .boolean)) (hR : V.2.2.2.1 = rmX9_isOpen) (ho : rg 9 o) (hb1 : b1 < 3)  {k29 : Int32 → Mm → Option (Int32)} (hk29 : ∀ (x2 : Int32) (mm : Mm) (ls : Array Slot),  lv_has ls 3 [(0, .ref (gz G + o)), (1, .ref (gK G b1)), (2, .int x2)] → k29 x2 mm = some r → WX V G N mm m 0 0 (QQ V G (some (.int r)) N mm m 0 0) 29 ls []) {x2 : Int32}  (hl : lv_has ls 3 [(0, .ref (gz G + o)), (1, .ref (gK G b1)), (2, .int x2)]) (hf : fX9_isOpen_29 n o b1 k29 x2 f = some r) : WX V G N f m 0 0 (QQ V G (some (.int r)) N f m 0 0) 29 ls [] := by
  unfold fX9_isOpen_29 at hf
  refine x_iload_n B dX9_isOpen_29 rfl (lv_at hl 2 rfl) ?_
  refine x_aload_n B dX9_isOpen_30 rfl (lv_at hl 1 rfl) ?_
  obtain ⟨r6, c5, hf⟩ := bn_some hf
  refine x_callT0 (rest := [.int x2]) B (kJ0_length_8abf5 hb1 c5) ⟨rfl, rfl⟩ hb1 q_760 q_761 q_762 (by rw [hR]; exact cw_X9_isOpen_J0_length_8abf5) rfl rfl hl.1 (Nat.le_of_ble_eq_true rfl) dX9_isOpen_31 ⟨Nat.zero_le _, Nat.zero_le _⟩ ?_
  refine x_icmp_ge (tgt := 64) B dX9_isOpen_34 (by decide) (fun h7 => ?_) (fun h7 => ?_)
  · have hf := ip h7 hf
    refine x_iconst (v := (nI 1)) B dX9_isOpen_64 (by decide) ?_
    obtain rfl := rt1 hf
    exact x_zret B (by decide) dX9_isOpen_65
  · have hf := iq h7 hf
    refine x_aload_n B dX9_isOpen_37 rfl (lv_at hl 0 rfl) ?_
    refine y_getFs (C := RX9) (T := TX9) (NN := 6) (d := 1) B (ho.at0 rfl) inX9 rfl (j := 0) (by decide) q_315 rfl rfl (by decide) dX9_isOpen_38 ?_
    refine x_aload_n B dX9_isOpen_41 rfl (lv_at hl 0 rfl) ?_
    refine y_getFi (C := RX9) (T := TX9) (NN := 6) B (ho.at0 rfl) inX9 rfl (j := 3) (by decide) q_320 rfl rfl dX9_isOpen_42 ?_
    refine x_iload_n B dX9_isOpen_45 rfl (lv_at hl 2 rfl) ?_
    refine x_iadd B dX9_isOpen_46 ?_
    obtain ⟨h8, hf⟩ := gd_some hf
    refine x_ialdF B (ho.at 1 rfl) h8 dX9_isOpen_47 ?_
    refine x_aload_n B dX9_isOpen_48 rfl (lv_at hl 1 rfl) ?_
    refine x_iload_n B dX9_isOpen_49 rfl (lv_at hl 2 rfl) ?_
    obtain ⟨r10, c9, hf⟩ := bn_some hf
    refine x_callT0 (rest := [.int (f (o + 1) ((f o 3) + x2).toNatClampNeg)]) B (kJ0_charAt_5068e hb1 c9) ⟨rfl, rfl⟩ hb1 q_770 q_771 q_772 (by rw [hR]; exact cw_X9_isOpen_J0_charAt_5068e) rfl rfl hl.1 (Nat.le_of_ble_eq_true rfl) dX9_isOpen_50 ⟨Nat.zero_le _, Nat.zero_le _⟩ ?_
    refine x_icmp_eq (tgt := 58) B dX9_isOpen_53 (by decide) (fun h11 => ?_) (fun h11 => ?_)
    · have hf := ip h11 hf
      refine x_iinc (k := 2) (v := (nI 1)) (lv' := [(2, .int (x2 + (nI 1))), (0, .ref (gz G + o)), (1, .ref (gK G b1))]) B dX9_isOpen_58 hl rfl (by decide) (by decide) rfl (fun ls hl => ?_)
      refine x_goto (tgt := 29) B dX9_isOpen_61 (by decide) ?_
      exact hk29 _ _ _ (lv_sub hl [1, 2, 0] rfl) hf
    · have hf := iq h11 hf
      refine x_iconst (v := (nI 0)) B dX9_isOpen_56 (by decide) ?_
      obtain rfl := rt1 hf
      exact x_zret B (by decide) dX9_isOpen_57
set_option maxHeartbeats 4000000 in
set_option maxRecDepth 100000 in
theorem fX9_isOpen_29L_ok {V : VE} {G : GE} {N : Nat} {m : Mm} {n : Nat}  {o : Nat} {b1 : Nat} {r : Int32} (B : CX V G cX9_isOpen 3 "FluxWatch$Tape" (some .boolean)) (hR : V.2.2.2.1 = rmX9_isOpen) (ho : rg 9 o) (hb1 : b1 < 3)  : ∀ (q : Nat) (x2 : Int32) (mm : Mm) (ls : Array Slot),  lv_has ls 3 [(0, .ref (gz G + o)), (1, .ref (gK G b1)), (2, .int x2)] → fX9_isOpen_29L n o b1 q x2 mm = some r → WX V G N mm m 0 0 (QQ V G (some (.int r)) N mm m 0 0) 29 ls [] := by
  intro q
  induction q with
  | zero =>
    intro x2 mm ls hl hf
    cases hf
  | succ q ih =>
    intro x2 mm ls hl hf
    exact fX9_isOpen_29_ok B hR ho hb1  ih  hl hf
def fX9_isOpen (n : Nat) (o : Nat) (b1 : Nat) (f : Mm) : Option (Int32) :=
  if (f o 2) = (-2 : Int32) then (
  bn (fJ0_length_8abf5 n b1) fun r3 =>
  if ((f o 4) - (f o 3)) = r3 then (
  fX9_isOpen_29L n o b1 n (nI 0) f) else (
  some (nI 0))) else (
  some (nI 0))
set_option maxHeartbeats 4000000 in
set_option maxRecDepth 100000 in
theorem kX9_isOpen {l : Launch} {G : GE} {N : Nat} {f m : Mm} {n : Nat} {o : Nat} {b1 : Nat} {r : Int32} (ho : rg 9 o) (hb1 : b1 < 3) (hf : fX9_isOpen n o b1 f = some r) : MT l G yX9_isOpen cX9_isOpen 3 (some .boolean) rmX9_isOpen [.ref (gz G + o), .ref (gK G b1)] N f m (some (.int r)) N f m := by
  unfold fX9_isOpen at hf
  refine MT.of (by decide) (Nat.le_of_ble_eq_true rfl) (fun V ls hV hR B hl => ?_)
  have B : CX V G cX9_isOpen 3 "FluxWatch$Tape" (some .boolean) := B
  have hl : lv_has ls 3 [(0, .ref (gz G + o)), (1, .ref (gK G b1))] := hl
  show WX V G N f m 0 0 (QQ V G (some (.int r)) N f m 0 0) 0 ls []
  refine x_aload_n B dX9_isOpen_0 rfl (lv_at hl 0 rfl) ?_
  refine y_getFi (C := RX9) (T := TX9) (NN := 6) B (ho.at0 rfl) inX9 rfl (j := 2) (by decide) q_318 rfl rfl dX9_isOpen_1 ?_
  refine x_bipush (v := (-2 : Int32)) B dX9_isOpen_4 (by decide) ?_
  refine x_icmp_ne (tgt := 25) B dX9_isOpen_6 (by decide) (fun h1 => ?_) (fun h1 => ?_)
  · have hf := ip h1 hf
    refine x_aload_n B dX9_isOpen_9 rfl (lv_at hl 0 rfl) ?_
    refine y_getFi (C := RX9) (T := TX9) (NN := 6) B (ho.at0 rfl) inX9 rfl (j := 4) (by decide) q_322 rfl rfl dX9_isOpen_10 ?_
    refine x_aload_n B dX9_isOpen_13 rfl (lv_at hl 0 rfl) ?_
    refine y_getFi (C := RX9) (T := TX9) (NN := 6) B (ho.at0 rfl) inX9 rfl (j := 3) (by decide) q_320 rfl rfl dX9_isOpen_14 ?_
    refine x_isub B dX9_isOpen_17 ?_
    refine x_aload_n B dX9_isOpen_18 rfl (lv_at hl 1 rfl) ?_
    obtain ⟨r3, c2, hf⟩ := bn_some hf
    refine x_callT0 (rest := [.int ((f o 4) - (f o 3))]) B (kJ0_length_8abf5 hb1 c2) ⟨rfl, rfl⟩ hb1 q_760 q_761 q_762 (by rw [hR]; exact cw_X9_isOpen_J0_length_8abf5) rfl rfl hl.1 (Nat.le_of_ble_eq_true rfl) dX9_isOpen_19 ⟨Nat.zero_le _, Nat.zero_le _⟩ ?_
    refine x_icmp_eq (tgt := 27) B dX9_isOpen_22 (by decide) (fun h4 => ?_) (fun h4 => ?_)
    · have hf := ip h4 hf
      refine x_iconst (v := (nI 0)) B dX9_isOpen_27 (by decide) ?_
      refine x_istore_n (lv' := [(2, .int (nI 0)), (0, .ref (gz G + o)), (1, .ref (gK G b1))]) B dX9_isOpen_28 rfl hl (by decide) rfl (fun ls hl => ?_)
      exact fX9_isOpen_29L_ok B hR ho hb1  n _ _ _ (lv_sub hl [1, 2, 0] rfl) hf
    · have hf := iq h4 hf
      refine x_iconst (v := (nI 0)) B dX9_isOpen_25 (by decide) ?_
      obtain rfl := rt1 hf
      exact x_zret B (by decide) dX9_isOpen_26
  · have hf := iq h1 hf
    refine x_iconst (v := (nI 0)) B dX9_isOpen_25 (by decide) ?_
    obtain rfl := rt1 hf
    exact x_zret B (by decide) dX9_isOpen_26
def rmX3_openKey : Room := { frames := 6, cells := 0, slots := 0, locals := 128 }
set_option maxHeartbeats 4000000 in
set_option maxRecDepth 100000 in
theorem cw_X3_openKey_X9_isOpen : cwB rmX3_openKey rmX9_isOpen yX9_isOpen cX9_isOpen 3 (some .boolean) 1 := ⟨q_759, q_55, by decide, by decide⟩
def fX3_openKey (n : Nat) (o : Nat) (f : Mm) : Option (Int32) :=
  bn (fX9_isOpen n (o + 1) 0 f) fun r2 =>
  if r2 = 0 then (
  bn (fX9_isOpen n (o + 1) 1 f) fun r5 =>
  if r5 = 0 then (
  bn (fX9_isOpen n (o + 1) 2 f) fun r8 =>
  if r8 = 0 then (
  some (-1 : Int32)) else (
  some (nI 2))) else (
  some (nI 1))) else (
  some (nI 0))
set_option maxHeartbeats 4000000 in
set_option maxRecDepth 100000 in
theorem kX3_openKey {l : Launch} {G : GE} {N : Nat} {f m : Mm} {n : Nat} {o : Nat} {r : Int32} (ho : rg 3 o) (hf : fX3_openKey n o f = some r) : MT l G yX3_openKey cX3_openKey 1 (some .int) rmX3_openKey [.ref (gz G + o)] N f m (some (.int r)) N f m := by
  unfold fX3_openKey at hf
  refine MT.of (by decide) (Nat.le_of_ble_eq_true rfl) (fun V ls hV hR B hl => ?_)
  have B : CX V G cX3_openKey 1 "FluxWatch$LawReader" (some .int) := B
  have hl : lv_has ls 1 [(0, .ref (gz G + o))] := hl
  show WX V G N f m 0 0 (QQ V G (some (.int r)) N f m 0 0) 0 ls []
  refine x_aload_n B dX3_openKey_0 rfl (lv_at hl 0 rfl) ?_
  refine y_getFs (C := RX3) (T := TX3) (NN := 5) (d := 1) B (ho.at0 rfl) inX3 rfl (j := 0) (by decide) q_338 rfl rfl (by decide) dX3_openKey_1 ?_
  refine x_ldcS (i := 0) B B.2.2.2.2.2.2.2.2.2.1.2.2.2.2.2.1 dX3_openKey_4 ?_
  obtain ⟨r2, c1, hf⟩ := bn_some hf
  refine x_callV0 (rest := []) B (kX9_isOpen (rs_3_1_9 ho) (by decide) c1) ⟨rfl, rfl⟩ ((rs_3_1_9 ho).at0 (N := N) rfl).lt ((rs_3_1_9 ho).at0 (N := N) rfl).2 rfl (by decide) q_756 q_757 q_758 (by rw [hR]; exact cw_X3_openKey_X9_isOpen) rfl rfl hl.1 (Nat.le_of_ble_eq_true rfl) dX3_openKey_6 ⟨Nat.zero_le _, Nat.zero_le _⟩ ?_
  refine x_if_eq (tgt := 14) B dX3_openKey_9 (by decide) (fun h3 => ?_) (fun h3 => ?_)
  · have hf := ip h3 hf
    refine x_aload_n B dX3_openKey_14 rfl (lv_at hl 0 rfl) ?_
    refine y_getFs (C := RX3) (T := TX3) (NN := 5) (d := 1) B (ho.at0 rfl) inX3 rfl (j := 0) (by decide) q_338 rfl rfl (by decide) dX3_openKey_15 ?_
    refine x_ldcS (i := 1) B B.2.2.2.2.2.2.2.2.2.1.2.2.2.2.2.2.1 dX3_openKey_18 ?_
    obtain ⟨r5, c4, hf⟩ := bn_some hf
    refine x_callV0 (rest := []) B (kX9_isOpen (rs_3_1_9 ho) (by decide) c4) ⟨rfl, rfl⟩ ((rs_3_1_9 ho).at0 (N := N) rfl).lt ((rs_3_1_9 ho).at0 (N := N) rfl).2 rfl (by decide) q_756 q_757 q_758 (by rw [hR]; exact cw_X3_openKey_X9_isOpen) rfl rfl hl.1 (Nat.le_of_ble_eq_true rfl) dX3_openKey_20 ⟨Nat.zero_le _, Nat.zero_le _⟩ ?_
    refine x_if_eq (tgt := 28) B dX3_openKey_23 (by decide) (fun h6 => ?_) (fun h6 => ?_)
    · have hf := ip h6 hf
      refine x_aload_n B dX3_openKey_28 rfl (lv_at hl 0 rfl) ?_
      refine y_getFs (C := RX3) (T := TX3) (NN := 5) (d := 1) B (ho.at0 rfl) inX3 rfl (j := 0) (by decide) q_338 rfl rfl (by decide) dX3_openKey_29 ?_
      refine x_ldcS (i := 2) B B.2.2.2.2.2.2.2.2.2.1.2.2.2.2.2.2.2.1 dX3_openKey_32 ?_
      obtain ⟨r8, c7, hf⟩ := bn_some hf
      refine x_callV0 (rest := []) B (kX9_isOpen (rs_3_1_9 ho) (by decide) c7) ⟨rfl, rfl⟩ ((rs_3_1_9 ho).at0 (N := N) rfl).lt ((rs_3_1_9 ho).at0 (N := N) rfl).2 rfl (by decide) q_756 q_757 q_758 (by rw [hR]; exact cw_X3_openKey_X9_isOpen) rfl rfl hl.1 (Nat.le_of_ble_eq_true rfl) dX3_openKey_34 ⟨Nat.zero_le _, Nat.zero_le _⟩ ?_
      refine x_if_eq (tgt := 44) B dX3_openKey_37 (by decide) (fun h9 => ?_) (fun h9 => ?_)
      · have hf := ip h9 hf
        refine x_iconst (v := (-1 : Int32)) B dX3_openKey_44 (by decide) ?_
        obtain rfl := rt1 hf
        exact x_iret B dX3_openKey_45
      · have hf := iq h9 hf
        refine x_iconst (v := (nI 2)) B dX3_openKey_40 (by decide) ?_
        refine x_goto (tgt := 45) B dX3_openKey_41 (by decide) ?_
        obtain rfl := rt1 hf
        exact x_iret B dX3_openKey_45
    · have hf := iq h6 hf
      refine x_iconst (v := (nI 1)) B dX3_openKey_26 (by decide) ?_
      obtain rfl := rt1 hf
      exact x_iret B dX3_openKey_27
  · have hf := iq h3 hf
    refine x_iconst (v := (nI 0)) B dX3_openKey_12 (by decide) ?_
    obtain rfl := rt1 hf
    exact x_iret B dX3_openKey_13
def rmX3_addPiece : Room := { frames := 0, cells := 0, slots := 0, locals := 0 }
def fX3_addPiece (n : Nat) (o : Nat) (a1 : Int32) (f : Mm) : Option (Mm) :=
  if (nI 96) ≤ (f o 2) then (
  some f) else (
  gd (ib (f o 2) 96) <|
  lt (up f (o + 3) (f o 2).toNatClampNeg a1) fun f3 =>
  lt (up f3 o 2 ((f3 o 2) + (nI 1))) fun f5 =>
  some f5)
set_option maxHeartbeats 4000000 in
set_option maxRecDepth 100000 in
theorem kX3_addPiece {l : Launch} {G : GE} {N : Nat} {f m : Mm} {n : Nat} {o : Nat} {a1 : Int32} {g : Mm} (ho : rg 3 o) (hf : fX3_addPiece n o a1 f = some g) : MT l G yX3_addPiece cX3_addPiece 2 none rmX3_addPiece [.ref (gz G + o), .int a1] N f m none N g m := by
  unfold fX3_addPiece at hf
  refine MT.of (by decide) (Nat.le_of_ble_eq_true rfl) (fun V ls hV hR B hl => ?_)
  have B : CX V G cX3_addPiece 2 "FluxWatch$LawReader" none := B
  have hl : lv_has ls 2 [(0, .ref (gz G + o)), (1, .int a1)] := hl
  show WX V G N f m 0 0 (QQ V G none N g m 0 0) 0 ls []
  refine x_aload_n B dX3_addPiece_0 rfl (lv_at hl 0 rfl) ?_
  refine y_getFi (C := RX3) (T := TX3) (NN := 5) B (ho.at0 rfl) inX3 rfl (j := 2) (by decide) q_341 rfl rfl dX3_addPiece_1 ?_
  refine x_aload_n B dX3_addPiece_4 rfl (lv_at hl 0 rfl) ?_
  refine y_getFs (C := RX3) (T := TX3) (NN := 5) (d := 3) B (ho.at0 rfl) inX3 rfl (j := 1) (by decide) q_340 rfl rfl (by decide) dX3_addPiece_5 ?_
  refine x_alenF (v := (nI 96)) B (ho.at 3 rfl) (by decide) dX3_addPiece_8 ?_
  refine x_icmp_ge (tgt := 32) B dX3_addPiece_9 (by decide) (fun h1 => ?_) (fun h1 => ?_)
  · have hf := ip h1 hf
    obtain rfl := rt1 hf
    exact x_vret B dX3_addPiece_32
  · have hf := iq h1 hf
    refine x_aload_n B dX3_addPiece_12 rfl (lv_at hl 0 rfl) ?_
    refine y_getFs (C := RX3) (T := TX3) (NN := 5) (d := 3) B (ho.at0 rfl) inX3 rfl (j := 1) (by decide) q_340 rfl rfl (by decide) dX3_addPiece_13 ?_
    refine x_aload_n B dX3_addPiece_16 rfl (lv_at hl 0 rfl) ?_
    refine y_getFi (C := RX3) (T := TX3) (NN := 5) B (ho.at0 rfl) inX3 rfl (j := 2) (by decide) q_341 rfl rfl dX3_addPiece_17 ?_
    refine x_iload_n B dX3_addPiece_20 rfl (lv_at hl 1 rfl) ?_
    obtain ⟨h2, hf⟩ := gd_some hf
    refine x_iastF B (ho.at 3 rfl) h2 dX3_addPiece_21 (fun f3 e4 => ?_)
    have hf := lt_some hf e4
    refine x_aload_n B dX3_addPiece_22 rfl (lv_at hl 0 rfl) ?_
    refine x_dup B dX3_addPiece_23 rfl ?_
    refine y_getFi (C := RX3) (T := TX3) (NN := 5) B (ho.at0 rfl) inX3 rfl (j := 2) (by decide) q_341 rfl rfl dX3_addPiece_24 ?_
    refine x_iconst (v := (nI 1)) B dX3_addPiece_27 (by decide) ?_
    refine x_iadd B dX3_addPiece_28 ?_
    refine x_putF (C := RX3) (T := TX3) (NN := 5) (ty0 := tyX3) (ty := .int) B (ho.at0 rfl) inX3 tyX3_ok nmX3 rfl (j := 2) (by decide) q_341 rfl rfl rfl rfl rfl rfl dX3_addPiece_29 (fun f5 e6 => ?_)
    have hf := lt_some hf e6
    obtain rfl := rt1 hf
    exact x_vret B dX3_addPiece_32
def rmX3_levelOf : Room := { frames := 0, cells := 0, slots := 0, locals := 0 }
def fX3_levelOf (n : Nat) (a1 : Int32)  : Option (Int32) :=
  if a1 = (nI 38) then (
  some (nI 1)) else (
  if a1 = (nI 42) then (
  some (nI 4)) else (
  if a1 = (nI 43) then (
  some (nI 3)) else (
  if a1 = (nI 45) then (
  some (nI 3)) else (
  if a1 = (nI 47) then (
  some (nI 4)) else (
  if a1 = (nI 60) then (
  some (nI 2)) else (
  if a1 = (nI 61) then (
  some (nI 2)) else (
  if a1 = (nI 62) then (
  some (nI 2)) else (
  if a1 = (nI 124) then (
  some (nI 0)) else (
  some (-1 : Int32))))))))))
set_option maxHeartbeats 4000000 in
set_option maxRecDepth 100000 in
theorem kX3_levelOf {l : Launch} {G : GE} {N : Nat} {f m : Mm} {n : Nat} {a1 : Int32} {r : Int32}  (hf : fX3_levelOf n a1 = some r) : MT l G yX3_levelOf cX3_levelOf 1 (some .int) rmX3_levelOf [.int a1] N f m (some (.int r)) N f m := by
  unfold fX3_levelOf at hf
  refine MT.of (by decide) (Nat.le_of_ble_eq_true rfl) (fun V ls hV hR B hl => ?_)
  have B : CX V G cX3_levelOf 1 "FluxWatch$LawReader" (some .int) := B
  have hl : lv_has ls 1 [(0, .int a1)] := hl
  show WX V G N f m 0 0 (QQ V G (some (.int r)) N f m 0 0) 0 ls []
  refine x_iload_n B dX3_levelOf_0 rfl (lv_at hl 0 rfl) ?_
  by_cases h1 : a1 = (nI 38)
  · have hf := ip h1 hf
    refine x_look (tgt := 86) (off := 85) B dX3_levelOf_1 (by decide) (by rw [h1]; first | done | rfl) (by decide) ?_
    refine x_iconst (v := (nI 1)) B dX3_levelOf_86 (by decide) ?_
    obtain rfl := rt1 hf
    exact x_iret B dX3_levelOf_87
  · have hf := iq h1 hf
    by_cases h2 : a1 = (nI 42)
    · have hf := ip h2 hf
      refine x_look (tgt := 92) (off := 91) B dX3_levelOf_1 (by decide) (by rw [h2]; first | done | rfl) (by decide) ?_
      refine x_iconst (v := (nI 4)) B dX3_levelOf_92 (by decide) ?_
      obtain rfl := rt1 hf
      exact x_iret B dX3_levelOf_93
    · have hf := iq h2 hf
      by_cases h3 : a1 = (nI 43)
      · have hf := ip h3 hf
        refine x_look (tgt := 90) (off := 89) B dX3_levelOf_1 (by decide) (by rw [h3]; first | done | rfl) (by decide) ?_
        refine x_iconst (v := (nI 3)) B dX3_levelOf_90 (by decide) ?_
        obtain rfl := rt1 hf
        exact x_iret B dX3_levelOf_91
      · have hf := iq h3 hf
        by_cases h4 : a1 = (nI 45)
        · have hf := ip h4 hf
          refine x_look (tgt := 90) (off := 89) B dX3_levelOf_1 (by decide) (by rw [h4]; first | done | rfl) (by decide) ?_
          refine x_iconst (v := (nI 3)) B dX3_levelOf_90 (by decide) ?_
          obtain rfl := rt1 hf
          exact x_iret B dX3_levelOf_91
        · have hf := iq h4 hf
          by_cases h5 : a1 = (nI 47)
          · have hf := ip h5 hf
            refine x_look (tgt := 92) (off := 91) B dX3_levelOf_1 (by decide) (by rw [h5]; first | done | rfl) (by decide) ?_
            refine x_iconst (v := (nI 4)) B dX3_levelOf_92 (by decide) ?_
            obtain rfl := rt1 hf
            exact x_iret B dX3_levelOf_93
          · have hf := iq h5 hf
            by_cases h6 : a1 = (nI 60)
            · have hf := ip h6 hf
              refine x_look (tgt := 88) (off := 87) B dX3_levelOf_1 (by decide) (by rw [h6]; first | done | rfl) (by decide) ?_
              refine x_iconst (v := (nI 2)) B dX3_levelOf_88 (by decide) ?_
              obtain rfl := rt1 hf
              exact x_iret B dX3_levelOf_89
            · have hf := iq h6 hf
              by_cases h7 : a1 = (nI 61)
              · have hf := ip h7 hf
                refine x_look (tgt := 88) (off := 87) B dX3_levelOf_1 (by decide) (by rw [h7]; first | done | rfl) (by decide) ?_
                refine x_iconst (v := (nI 2)) B dX3_levelOf_88 (by decide) ?_
                obtain rfl := rt1 hf
                exact x_iret B dX3_levelOf_89
              · have hf := iq h7 hf
                by_cases h8 : a1 = (nI 62)
                · have hf := ip h8 hf
                  refine x_look (tgt := 88) (off := 87) B dX3_levelOf_1 (by decide) (by rw [h8]; first | done | rfl) (by decide) ?_
                  refine x_iconst (v := (nI 2)) B dX3_levelOf_88 (by decide) ?_
                  obtain rfl := rt1 hf
                  exact x_iret B dX3_levelOf_89
                · have hf := iq h8 hf
                  by_cases h9 : a1 = (nI 124)
                  · have hf := ip h9 hf
                    refine x_look (tgt := 84) (off := 83) B dX3_levelOf_1 (by decide) (by rw [h9]; first | done | rfl) (by decide) ?_
                    refine x_iconst (v := (nI 0)) B dX3_levelOf_84 (by decide) ?_
                    obtain rfl := rt1 hf
                    exact x_iret B dX3_levelOf_85
                  · have hf := iq h9 hf
                    refine x_look (tgt := 94) (off := 93) B dX3_levelOf_1 (by decide) ((lv_osw h1 rfl).trans ((lv_osw h2 rfl).trans ((lv_osw h3 rfl).trans ((lv_osw h4 rfl).trans ((lv_osw h5 rfl).trans ((lv_osw h6 rfl).trans ((lv_osw h7 rfl).trans ((lv_osw h8 rfl).trans ((lv_osw h9 rfl).trans rfl))))))))) (by decide) ?_
                    refine x_iconst (v := (-1 : Int32)) B dX3_levelOf_94 (by decide) ?_
                    obtain rfl := rt1 hf
                    exact x_iret B dX3_levelOf_95
def rmX3_isNameOpen : Room := { frames := 0, cells := 0, slots := 0, locals := 0 }
def fX3_isNameOpen (n : Nat) (o : Nat) (f : Mm) : Option (Int32) :=
  if (f (o + 1) 2) = (-2 : Int32) then (
  if (f (o + 1) 5) = (nI 100) then (
  some (nI 1)) else (
  if (f (o + 1) 5) = (nI 112) then (
  if (f o 4) = (nI 1) then (
  some (nI 1)) else (
  some (nI 0))) else (
  if (f (o + 1) 5) = (nI 115) then (
  some (nI 1)) else (
  if (f (o + 1) 5) = (nI 119) then (
  if (f o 4) = 0 then (
  some (nI 1)) else (
  some (nI 0))) else (
  some (nI 0)))))) else (
  some (nI 0))
set_option maxHeartbeats 4000000 in
set_option maxRecDepth 100000 in
theorem kX3_isNameOpen {l : Launch} {G : GE} {N : Nat} {f m : Mm} {n : Nat} {o : Nat} {r : Int32} (ho : rg 3 o) (hf : fX3_isNameOpen n o f = some r) : MT l G yX3_isNameOpen cX3_isNameOpen 1 (some .boolean) rmX3_isNameOpen [.ref (gz G + o)] N f m (some (.int r)) N f m := by
  unfold fX3_isNameOpen at hf
  refine MT.of (by decide) (Nat.le_of_ble_eq_true rfl) (fun V ls hV hR B hl => ?_)
  have B : CX V G cX3_isNameOpen 1 "FluxWatch$LawReader" (some .boolean) := B
  have hl : lv_has ls 1 [(0, .ref (gz G + o))] := hl
  show WX V G N f m 0 0 (QQ V G (some (.int r)) N f m 0 0) 0 ls []
  refine x_aload_n B dX3_isNameOpen_0 rfl (lv_at hl 0 rfl) ?_
  refine y_getFs (C := RX3) (T := TX3) (NN := 5) (d := 1) B (ho.at0 rfl) inX3 rfl (j := 0) (by decide) q_338 rfl rfl (by decide) dX3_isNameOpen_1 ?_
  refine y_getFi (C := RX9) (T := TX9) (NN := 6) B ((rs_3_1_9 ho).at0 rfl) inX9 rfl (j := 2) (by decide) q_319 rfl rfl dX3_isNameOpen_4 ?_
  refine x_bipush (v := (-2 : Int32)) B dX3_isNameOpen_7 (by decide) ?_
  refine x_icmp_eq (tgt := 14) B dX3_isNameOpen_9 (by decide) (fun h1 => ?_) (fun h1 => ?_)
  · have hf := ip h1 hf
    refine x_aload_n B dX3_isNameOpen_14 rfl (lv_at hl 0 rfl) ?_
    refine y_getFs (C := RX3) (T := TX3) (NN := 5) (d := 1) B (ho.at0 rfl) inX3 rfl (j := 0) (by decide) q_338 rfl rfl (by decide) dX3_isNameOpen_15 ?_
    refine y_getFi (C := RX9) (T := TX9) (NN := 6) B ((rs_3_1_9 ho).at0 rfl) inX9 rfl (j := 5) (by decide) q_324 rfl rfl dX3_isNameOpen_18 ?_
    by_cases h2 : (f (o + 1) 5) = (nI 100)
    · have hf := ip h2 hf
      refine x_look (tgt := 64) (off := 43) B dX3_isNameOpen_21 (by decide) (by rw [h2]; first | done | rfl) (by decide) ?_
      refine x_iconst (v := (nI 1)) B dX3_isNameOpen_64 (by decide) ?_
      obtain rfl := rt1 hf
      exact x_zret B (by decide) dX3_isNameOpen_65
    · have hf := iq h2 hf
      by_cases h3 : (f (o + 1) 5) = (nI 112)
      · have hf := ip h3 hf
        refine x_look (tgt := 79) (off := 58) B dX3_isNameOpen_21 (by decide) (by rw [h3]; first | done | rfl) (by decide) ?_
        refine x_aload_n B dX3_isNameOpen_79 rfl (lv_at hl 0 rfl) ?_
        refine y_getFi (C := RX3) (T := TX3) (NN := 5) B (ho.at0 rfl) inX3 rfl (j := 4) (by decide) q_343 rfl rfl dX3_isNameOpen_80 ?_
        refine x_iconst (v := (nI 1)) B dX3_isNameOpen_83 (by decide) ?_
        refine x_icmp_ne (tgt := 91) B dX3_isNameOpen_84 (by decide) (fun h4 => ?_) (fun h4 => ?_)
        · have hf := ip h4 hf
          refine x_iconst (v := (nI 1)) B dX3_isNameOpen_87 (by decide) ?_
          refine x_goto (tgt := 92) B dX3_isNameOpen_88 (by decide) ?_
          obtain rfl := rt1 hf
          exact x_zret B (by decide) dX3_isNameOpen_92
        · have hf := iq h4 hf
          refine x_iconst (v := (nI 0)) B dX3_isNameOpen_91 (by decide) ?_
          obtain rfl := rt1 hf
          exact x_zret B (by decide) dX3_isNameOpen_92
      · have hf := iq h3 hf
        by_cases h5 : (f (o + 1) 5) = (nI 115)
        · have hf := ip h5 hf
          refine x_look (tgt := 64) (off := 43) B dX3_isNameOpen_21 (by decide) (by rw [h5]; first | done | rfl) (by decide) ?_
          refine x_iconst (v := (nI 1)) B dX3_isNameOpen_64 (by decide) ?_
          obtain rfl := rt1 hf
          exact x_zret B (by decide) dX3_isNameOpen_65
        · have hf := iq h5 hf
          by_cases h6 : (f (o + 1) 5) = (nI 119)
          · have hf := ip h6 hf
            refine x_look (tgt := 66) (off := 45) B dX3_isNameOpen_21 (by decide) (by rw [h6]; first | done | rfl) (by decide) ?_
            refine x_aload_n B dX3_isNameOpen_66 rfl (lv_at hl 0 rfl) ?_
            refine y_getFi (C := RX3) (T := TX3) (NN := 5) B (ho.at0 rfl) inX3 rfl (j := 4) (by decide) q_343 rfl rfl dX3_isNameOpen_67 ?_
            refine x_if_ne (tgt := 77) B dX3_isNameOpen_70 (by decide) (fun h7 => ?_) (fun h7 => ?_)
            · have hf := ip h7 hf
              refine x_iconst (v := (nI 1)) B dX3_isNameOpen_73 (by decide) ?_
              refine x_goto (tgt := 78) B dX3_isNameOpen_74 (by decide) ?_
              obtain rfl := rt1 hf
              exact x_zret B (by decide) dX3_isNameOpen_78
            · have hf := iq h7 hf
              refine x_iconst (v := (nI 0)) B dX3_isNameOpen_77 (by decide) ?_
              obtain rfl := rt1 hf
              exact x_zret B (by decide) dX3_isNameOpen_78
          · have hf := iq h6 hf
            refine x_look (tgt := 93) (off := 72) B dX3_isNameOpen_21 (by decide) ((lv_osw h2 rfl).trans ((lv_osw h3 rfl).trans ((lv_osw h5 rfl).trans ((lv_osw h6 rfl).trans rfl)))) (by decide) ?_
            refine x_iconst (v := (nI 0)) B dX3_isNameOpen_93 (by decide) ?_
            obtain rfl := rt1 hf
            exact x_zret B (by decide) dX3_isNameOpen_94
  · have hf := iq h1 hf
    refine x_iconst (v := (nI 0)) B dX3_isNameOpen_12 (by decide) ?_
    obtain rfl := rt1 hf
    exact x_zret B (by decide) dX3_isNameOpen_13
def rmX9_isDigit : Room := { frames := 0, cells := 0, slots := 0, locals := 0 }
def fX9_isDigit (n : Nat) (o : Nat) (a1 : Int32) (f : Mm) : Option (Int32) :=
  gd (ib a1 96) <|
  if (f (o + 1) a1.toNatClampNeg) < (nI 48) then (
  some (nI 0)) else (
  gd (ib a1 96) <|
  if (nI 57) < (f (o + 1) a1.toNatClampNeg) then (
  some (nI 0)) else (
  some (nI 1)))
set_option maxHeartbeats 4000000 in
set_option maxRecDepth 100000 in
theorem kX9_isDigit {l : Launch} {G : GE} {N : Nat} {f m : Mm} {n : Nat} {o : Nat} {a1 : Int32} {r : Int32} (ho : rg 9 o) (hf : fX9_isDigit n o a1 f = some r) : MT l G yX9_isDigit cX9_isDigit 2 (some .boolean) rmX9_isDigit [.ref (gz G + o), .int a1] N f m (some (.int r)) N f m := by
  unfold fX9_isDigit at hf
  refine MT.of (by decide) (Nat.le_of_ble_eq_true rfl) (fun V ls hV hR B hl => ?_)
  have B : CX V G cX9_isDigit 2 "FluxWatch$Tape" (some .boolean) := B
  have hl : lv_has ls 2 [(0, .ref (gz G + o)), (1, .int a1)] := hl
  show WX V G N f m 0 0 (QQ V G (some (.int r)) N f m 0 0) 0 ls []
  refine x_aload_n B dX9_isDigit_0 rfl (lv_at hl 0 rfl) ?_
  refine y_getFs (C := RX9) (T := TX9) (NN := 6) (d := 1) B (ho.at0 rfl) inX9 rfl (j := 0) (by decide) q_315 rfl rfl (by decide) dX9_isDigit_1 ?_
  refine x_iload_n B dX9_isDigit_4 rfl (lv_at hl 1 rfl) ?_
  obtain ⟨h1, hf⟩ := gd_some hf
  refine x_ialdF B (ho.at 1 rfl) h1 dX9_isDigit_5 ?_
  refine x_bipush (v := (nI 48)) B dX9_isDigit_6 (by decide) ?_
  refine x_icmp_lt (tgt := 26) B dX9_isDigit_8 (by decide) (fun h2 => ?_) (fun h2 => ?_)
  · have hf := ip h2 hf
    refine x_iconst (v := (nI 0)) B dX9_isDigit_26 (by decide) ?_
    obtain rfl := rt1 hf
    exact x_zret B (by decide) dX9_isDigit_27
  · have hf := iq h2 hf
    refine x_aload_n B dX9_isDigit_11 rfl (lv_at hl 0 rfl) ?_
    refine y_getFs (C := RX9) (T := TX9) (NN := 6) (d := 1) B (ho.at0 rfl) inX9 rfl (j := 0) (by decide) q_315 rfl rfl (by decide) dX9_isDigit_12 ?_
    refine x_iload_n B dX9_isDigit_15 rfl (lv_at hl 1 rfl) ?_
    obtain ⟨h3, hf⟩ := gd_some hf
    refine x_ialdF B (ho.at 1 rfl) h3 dX9_isDigit_16 ?_
    refine x_bipush (v := (nI 57)) B dX9_isDigit_17 (by decide) ?_
    refine x_icmp_gt (tgt := 26) B dX9_isDigit_19 (by decide) (fun h4 => ?_) (fun h4 => ?_)
    · have hf := ip h4 hf
      refine x_iconst (v := (nI 0)) B dX9_isDigit_26 (by decide) ?_
      obtain rfl := rt1 hf
      exact x_zret B (by decide) dX9_isDigit_27
    · have hf := iq h4 hf
      refine x_iconst (v := (nI 1)) B dX9_isDigit_22 (by decide) ?_
      refine x_goto (tgt := 27) B dX9_isDigit_23 (by decide) ?_
      obtain rfl := rt1 hf
      exact x_zret B (by decide) dX9_isDigit_27
def rmX9_isLetter : Room := { frames := 0, cells := 0, slots := 0, locals := 0 }
def fX9_isLetter (n : Nat) (o : Nat) (a1 : Int32) (f : Mm) : Option (Int32) :=
  gd (ib a1 96) <|
  if (f (o + 1) a1.toNatClampNeg) < (nI 97) then (
  some (nI 0)) else (
  gd (ib a1 96) <|
  if (nI 122) < (f (o + 1) a1.toNatClampNeg) then (
  some (nI 0)) else (
  some (nI 1)))
set_option maxHeartbeats 4000000 in
set_option maxRecDepth 100000 in
theorem kX9_isLetter {l : Launch} {G : GE} {N : Nat} {f m : Mm} {n : Nat} {o : Nat} {a1 : Int32} {r : Int32} (ho : rg 9 o) (hf : fX9_isLetter n o a1 f = some r) : MT l G yX9_isLetter cX9_isLetter 2 (some .boolean) rmX9_isLetter [.ref (gz G + o), .int a1] N f m (some (.int r)) N f m := by
  unfold fX9_isLetter at hf
  refine MT.of (by decide) (Nat.le_of_ble_eq_true rfl) (fun V ls hV hR B hl => ?_)
  have B : CX V G cX9_isLetter 2 "FluxWatch$Tape" (some .boolean) := B
  have hl : lv_has ls 2 [(0, .ref (gz G + o)), (1, .int a1)] := hl
  show WX V G N f m 0 0 (QQ V G (some (.int r)) N f m 0 0) 0 ls []
  refine x_aload_n B dX9_isLetter_0 rfl (lv_at hl 0 rfl) ?_
  refine y_getFs (C := RX9) (T := TX9) (NN := 6) (d := 1) B (ho.at0 rfl) inX9 rfl (j := 0) (by decide) q_315 rfl rfl (by decide) dX9_isLetter_1 ?_
  refine x_iload_n B dX9_isLetter_4 rfl (lv_at hl 1 rfl) ?_
  obtain ⟨h1, hf⟩ := gd_some hf
  refine x_ialdF B (ho.at 1 rfl) h1 dX9_isLetter_5 ?_
  refine x_bipush (v := (nI 97)) B dX9_isLetter_6 (by decide) ?_
  refine x_icmp_lt (tgt := 26) B dX9_isLetter_8 (by decide) (fun h2 => ?_) (fun h2 => ?_)
  · have hf := ip h2 hf
    refine x_iconst (v := (nI 0)) B dX9_isLetter_26 (by decide) ?_
    obtain rfl := rt1 hf
    exact x_zret B (by decide) dX9_isLetter_27
  · have hf := iq h2 hf
    refine x_aload_n B dX9_isLetter_11 rfl (lv_at hl 0 rfl) ?_
    refine y_getFs (C := RX9) (T := TX9) (NN := 6) (d := 1) B (ho.at0 rfl) inX9 rfl (j := 0) (by decide) q_315 rfl rfl (by decide) dX9_isLetter_12 ?_
    refine x_iload_n B dX9_isLetter_15 rfl (lv_at hl 1 rfl) ?_
    obtain ⟨h3, hf⟩ := gd_some hf
    refine x_ialdF B (ho.at 1 rfl) h3 dX9_isLetter_16 ?_
    refine x_bipush (v := (nI 122)) B dX9_isLetter_17 (by decide) ?_
    refine x_icmp_gt (tgt := 26) B dX9_isLetter_19 (by decide) (fun h4 => ?_) (fun h4 => ?_)
    · have hf := ip h4 hf
      refine x_iconst (v := (nI 0)) B dX9_isLetter_26 (by decide) ?_
      obtain rfl := rt1 hf
      exact x_zret B (by decide) dX9_isLetter_27
    · have hf := iq h4 hf
      refine x_iconst (v := (nI 1)) B dX9_isLetter_22 (by decide) ?_
      refine x_goto (tgt := 27) B dX9_isLetter_23 (by decide) ?_
      obtain rfl := rt1 hf
      exact x_zret B (by decide) dX9_isLetter_27
def rmX9_openNumber : Room := { frames := 1, cells := 0, slots := 0, locals := 21 }
set_option maxHeartbeats 4000000 in
set_option maxRecDepth 100000 in
theorem cw_X9_openNumber_X9_isDigit : cwB rmX9_openNumber rmX9_isDigit yX9_isDigit cX9_isDigit 2 (some .boolean) 1 := ⟨q_746, q_55, by decide, by decide⟩
def fX9_openNumber_98 (n : Nat) (o : Nat)  (s0 : Int32) (f : Mm) : Option (Mm) :=
  lt (up f o 2 s0) fun f5 =>
  some f5
set_option maxHeartbeats 4000000 in
set_option maxRecDepth 100000 in
theorem fX9_openNumber_98_ok {V : VE} {G : GE} {N : Nat} {f m : Mm} {n : Nat} {ls : Array Slot} {o : Nat} {g : Mm} (B : CX V G cX9_openNumber 1 "FluxWatch$Tape" none) (hR : V.2.2.2.1 = rmX9_openNumber) (ho : rg 9 o)  {s0 : Int32}  (hl : lv_has ls 1 []) (hf : fX9_openNumber_98 n o s0 f = some g) : WX V G N f m 0 0 (QQ V G none N g m 0 0) 98 ls [.int s0, .ref (gz G + o)] := by
  unfold fX9_openNumber_98 at hf
  refine x_putF (C := RX9) (T := TX9) (NN := 6) (ty0 := tyX9) (ty := .int) B (ho.at0 rfl) inX9 tyX9_ok nmX9 rfl (j := 2) (by decide) q_318 rfl rfl rfl rfl rfl rfl dX9_openNumber_98 (fun f5 e6 => ?_)
  have hf := lt_some hf e6
  obtain rfl := rt1 hf
  exact x_vret B dX9_openNumber_101
def fX9_openNumber_77 (n : Nat) (o : Nat)   (f : Mm) : Option (Mm) :=
  if ((f o 4) - (f o 3)) ≤ (nI 4) then (
  fX9_openNumber_98 n o (-3 : Int32) f) else (
  fX9_openNumber_98 n o (-4 : Int32) f)
set_option maxHeartbeats 4000000 in
set_option maxRecDepth 100000 in
theorem fX9_openNumber_77_ok {V : VE} {G : GE} {N : Nat} {f m : Mm} {n : Nat} {ls : Array Slot} {o : Nat} {g : Mm} (B : CX V G cX9_openNumber 1 "FluxWatch$Tape" none) (hR : V.2.2.2.1 = rmX9_openNumber) (ho : rg 9 o)    (hl : lv_has ls 1 [(0, .ref (gz G + o))]) (hf : fX9_openNumber_77 n o f = some g) : WX V G N f m 0 0 (QQ V G none N g m 0 0) 77 ls [] := by
  unfold fX9_openNumber_77 at hf
  refine x_aload_n B dX9_openNumber_77 rfl (lv_at hl 0 rfl) ?_
  refine x_aload_n B dX9_openNumber_78 rfl (lv_at hl 0 rfl) ?_
  refine y_getFi (C := RX9) (T := TX9) (NN := 6) B (ho.at0 rfl) inX9 rfl (j := 4) (by decide) q_322 rfl rfl dX9_openNumber_79 ?_
  refine x_aload_n B dX9_openNumber_82 rfl (lv_at hl 0 rfl) ?_
  refine y_getFi (C := RX9) (T := TX9) (NN := 6) B (ho.at0 rfl) inX9 rfl (j := 3) (by decide) q_320 rfl rfl dX9_openNumber_83 ?_
  refine x_isub B dX9_openNumber_86 ?_
  refine x_iconst (v := (nI 4)) B dX9_openNumber_87 (by decide) ?_
  refine x_icmp_le (tgt := 96) B dX9_openNumber_88 (by decide) (fun h4 => ?_) (fun h4 => ?_)
  · have hf := ip h4 hf
    refine x_bipush (v := (-3 : Int32)) B dX9_openNumber_96 (by decide) ?_
    exact fX9_openNumber_98_ok B hR ho  (lv_sub hl [] rfl) hf
  · have hf := iq h4 hf
    refine x_bipush (v := (-4 : Int32)) B dX9_openNumber_91 (by decide) ?_
    refine x_goto (tgt := 98) B dX9_openNumber_93 (by decide) ?_
    exact fX9_openNumber_98_ok B hR ho  (lv_sub hl [] rfl) hf
def fX9_openNumber_64 (n : Nat) (o : Nat) (k5 : Mm → Option (Mm))  (f : Mm) : Option (Mm) :=
  lt (up f o 4 ((f o 4) + (nI 1))) fun f11 =>
  k5 f11
set_option maxHeartbeats 4000000 in
set_option maxRecDepth 100000 in
theorem fX9_openNumber_64_ok {V : VE} {G : GE} {N : Nat} {f m : Mm} {n : Nat} {ls : Array Slot} {o : Nat} {g : Mm} (B : CX V G cX9_openNumber 1 "FluxWatch$Tape" none) (hR : V.2.2.2.1 = rmX9_openNumber) (ho : rg 9 o) {k5 : Mm → Option (Mm)} (hk5 : ∀  (mm : Mm) (ls : Array Slot),  lv_has ls 1 [(0, .ref (gz G + o))] → k5 mm = some g → WX V G N mm m 0 0 (QQ V G none N g m 0 0) 5 ls [])   (hl : lv_has ls 1 [(0, .ref (gz G + o))]) (hf : fX9_openNumber_64 n o k5 f = some g) : WX V G N f m 0 0 (QQ V G none N g m 0 0) 64 ls [] := by
  unfold fX9_openNumber_64 at hf
  refine x_aload_n B dX9_openNumber_64 rfl (lv_at hl 0 rfl) ?_
  refine x_dup B dX9_openNumber_65 rfl ?_
  refine y_getFi (C := RX9) (T := TX9) (NN := 6) B (ho.at0 rfl) inX9 rfl (j := 4) (by decide) q_322 rfl rfl dX9_openNumber_66 ?_
  refine x_iconst (v := (nI 1)) B dX9_openNumber_69 (by decide) ?_
  refine x_iadd B dX9_openNumber_70 ?_
  refine x_putF (C := RX9) (T := TX9) (NN := 6) (ty0 := tyX9) (ty := .int) B (ho.at0 rfl) inX9 tyX9_ok nmX9 rfl (j := 4) (by decide) q_322 rfl rfl rfl rfl rfl rfl dX9_openNumber_71 (fun f11 e12 => ?_)
  have hf := lt_some hf e12
  refine x_goto (tgt := 5) B dX9_openNumber_74 (by decide) ?_
  exact hk5 _ _ hl hf
def fX9_openNumber_5 (n : Nat) (o : Nat)  (k5 : Mm → Option (Mm))  (f : Mm) : Option (Mm) :=
  if (f o 1) ≤ (f o 4) then (
  fX9_openNumber_77 n o f) else (
  bn (fX9_isDigit n o (f o 4) f) fun r8 =>
  if r8 = 0 then (
  fX9_openNumber_77 n o f) else (
  if (nI 4) ≤ ((f o 4) - (f o 3)) then (
  fX9_openNumber_64 n o k5 f) else (
  gd (ib (f o 4) 96) <|
  lt (up f o 5 ((((f o 5) * (nI 10)) + (f (o + 1) (f o 4).toNatClampNeg)) - (nI 48))) fun f14 =>
  fX9_openNumber_64 n o k5 f14)))
def fX9_openNumber_5L (n : Nat) (o : Nat)  : Nat → Mm → Option (Mm)
  | 0 => fun _ => none
  | q + 1 => fX9_openNumber_5 n o  (fX9_openNumber_5L n o  q)
set_option maxHeartbeats 4000000 in
set_option maxRecDepth 100000 in
theorem fX9_openNumber_5_ok {V : VE} {G : GE} {N : Nat} {f m : Mm} {n : Nat} {ls : Array Slot} {o : Nat} {g : Mm} (B : CX V G cX9_openNumber 1 "FluxWatch$Tape" none) (hR : V.2.2.2.1 = rmX9_openNumber) (ho : rg 9 o)  {k5 : Mm → Option (Mm)} (hk5 : ∀  (mm : Mm) (ls : Array Slot),  lv_has ls 1 [(0, .ref (gz G + o))] → k5 mm = some g → WX V G N mm m 0 0 (QQ V G none N g m 0 0) 5 ls [])   (hl : lv_has ls 1 [(0, .ref (gz G + o))]) (hf : fX9_openNumber_5 n o k5 f = some g) : WX V G N f m 0 0 (QQ V G none N g m 0 0) 5 ls [] := by
  unfold fX9_openNumber_5 at hf
  refine x_aload_n B dX9_openNumber_5 rfl (lv_at hl 0 rfl) ?_
  refine y_getFi (C := RX9) (T := TX9) (NN := 6) B (ho.at0 rfl) inX9 rfl (j := 4) (by decide) q_322 rfl rfl dX9_openNumber_6 ?_
  refine x_aload_n B dX9_openNumber_9 rfl (lv_at hl 0 rfl) ?_
  refine y_getFi (C := RX9) (T := TX9) (NN := 6) B (ho.at0 rfl) inX9 rfl (j := 1) (by decide) q_316 rfl rfl dX9_openNumber_10 ?_
  refine x_icmp_ge (tgt := 77) B dX9_openNumber_13 (by decide) (fun h3 => ?_) (fun h3 => ?_)
  · have hf := ip h3 hf
    exact fX9_openNumber_77_ok B hR ho  hl hf
  · have hf := iq h3 hf
    refine x_aload_n B dX9_openNumber_16 rfl (lv_at hl 0 rfl) ?_
    refine x_aload_n B dX9_openNumber_17 rfl (lv_at hl 0 rfl) ?_
    refine y_getFi (C := RX9) (T := TX9) (NN := 6) B (ho.at0 rfl) inX9 rfl (j := 4) (by decide) q_322 rfl rfl dX9_openNumber_18 ?_
    obtain ⟨r8, c7, hf⟩ := bn_some hf
    refine x_callV0 (rest := []) B (kX9_isDigit ho c7) ⟨rfl, rfl⟩ (ho.at0 (N := N) rfl).lt (ho.at0 (N := N) rfl).2 rfl (by decide) q_743 q_744 q_745 (by rw [hR]; exact cw_X9_openNumber_X9_isDigit) rfl rfl hl.1 (Nat.le_of_ble_eq_true rfl) dX9_openNumber_21 ⟨Nat.zero_le _, Nat.zero_le _⟩ ?_
    refine x_if_eq (tgt := 77) B dX9_openNumber_24 (by decide) (fun h9 => ?_) (fun h9 => ?_)
    · have hf := ip h9 hf
      exact fX9_openNumber_77_ok B hR ho  hl hf
    · have hf := iq h9 hf
      refine x_aload_n B dX9_openNumber_27 rfl (lv_at hl 0 rfl) ?_
      refine y_getFi (C := RX9) (T := TX9) (NN := 6) B (ho.at0 rfl) inX9 rfl (j := 4) (by decide) q_322 rfl rfl dX9_openNumber_28 ?_
      refine x_aload_n B dX9_openNumber_31 rfl (lv_at hl 0 rfl) ?_
      refine y_getFi (C := RX9) (T := TX9) (NN := 6) B (ho.at0 rfl) inX9 rfl (j := 3) (by decide) q_320 rfl rfl dX9_openNumber_32 ?_
      refine x_isub B dX9_openNumber_35 ?_
      refine x_iconst (v := (nI 4)) B dX9_openNumber_36 (by decide) ?_
      refine x_icmp_ge (tgt := 64) B dX9_openNumber_37 (by decide) (fun h10 => ?_) (fun h10 => ?_)
      · have hf := ip h10 hf
        exact fX9_openNumber_64_ok B hR ho hk5 hl hf
      · have hf := iq h10 hf
        refine x_aload_n B dX9_openNumber_40 rfl (lv_at hl 0 rfl) ?_
        refine x_aload_n B dX9_openNumber_41 rfl (lv_at hl 0 rfl) ?_
        refine y_getFi (C := RX9) (T := TX9) (NN := 6) B (ho.at0 rfl) inX9 rfl (j := 5) (by decide) q_323 rfl rfl dX9_openNumber_42 ?_
        refine x_bipush (v := (nI 10)) B dX9_openNumber_45 (by decide) ?_
        refine x_imul B dX9_openNumber_47 ?_
        refine x_aload_n B dX9_openNumber_48 rfl (lv_at hl 0 rfl) ?_
        refine y_getFs (C := RX9) (T := TX9) (NN := 6) (d := 1) B (ho.at0 rfl) inX9 rfl (j := 0) (by decide) q_315 rfl rfl (by decide) dX9_openNumber_49 ?_
        refine x_aload_n B dX9_openNumber_52 rfl (lv_at hl 0 rfl) ?_
        refine y_getFi (C := RX9) (T := TX9) (NN := 6) B (ho.at0 rfl) inX9 rfl (j := 4) (by decide) q_322 rfl rfl dX9_openNumber_53 ?_
        obtain ⟨h13, hf⟩ := gd_some hf
        refine x_ialdF B (ho.at 1 rfl) h13 dX9_openNumber_56 ?_
        refine x_iadd B dX9_openNumber_57 ?_
        refine x_bipush (v := (nI 48)) B dX9_openNumber_58 (by decide) ?_
        refine x_isub B dX9_openNumber_60 ?_
        refine x_putF (C := RX9) (T := TX9) (NN := 6) (ty0 := tyX9) (ty := .int) B (ho.at0 rfl) inX9 tyX9_ok nmX9 rfl (j := 5) (by decide) q_323 rfl rfl rfl rfl rfl rfl dX9_openNumber_61 (fun f14 e15 => ?_)
        have hf := lt_some hf e15
        exact fX9_openNumber_64_ok B hR ho hk5 hl hf
set_option maxHeartbeats 4000000 in
set_option maxRecDepth 100000 in
theorem fX9_openNumber_5L_ok {V : VE} {G : GE} {N : Nat} {m : Mm} {n : Nat}  {o : Nat} {g : Mm} (B : CX V G cX9_openNumber 1 "FluxWatch$Tape" none) (hR : V.2.2.2.1 = rmX9_openNumber) (ho : rg 9 o)  : ∀ (q : Nat)  (mm : Mm) (ls : Array Slot),  lv_has ls 1 [(0, .ref (gz G + o))] → fX9_openNumber_5L n o q mm = some g → WX V G N mm m 0 0 (QQ V G none N g m 0 0) 5 ls [] := by
  intro q
  induction q with
  | zero =>
    intro mm ls hl hf
    cases hf
  | succ q ih =>
    intro mm ls hl hf
    exact fX9_openNumber_5_ok B hR ho  ih  hl hf
def fX9_openNumber (n : Nat) (o : Nat) (f : Mm) : Option (Mm) :=
  lt (up f o 5 (nI 0)) fun f1 =>
  fX9_openNumber_5L n o n f1
set_option maxHeartbeats 4000000 in
set_option maxRecDepth 100000 in
theorem kX9_openNumber {l : Launch} {G : GE} {N : Nat} {f m : Mm} {n : Nat} {o : Nat} {g : Mm} (ho : rg 9 o) (hf : fX9_openNumber n o f = some g) : MT l G yX9_openNumber cX9_openNumber 1 none rmX9_openNumber [.ref (gz G + o)] N f m none N g m := by
  unfold fX9_openNumber at hf
  refine MT.of (by decide) (Nat.le_of_ble_eq_true rfl) (fun V ls hV hR B hl => ?_)
  have B : CX V G cX9_openNumber 1 "FluxWatch$Tape" none := B
  have hl : lv_has ls 1 [(0, .ref (gz G + o))] := hl
  show WX V G N f m 0 0 (QQ V G none N g m 0 0) 0 ls []
  refine x_aload_n B dX9_openNumber_0 rfl (lv_at hl 0 rfl) ?_
  refine x_iconst (v := (nI 0)) B dX9_openNumber_1 (by decide) ?_
  refine x_putF (C := RX9) (T := TX9) (NN := 6) (ty0 := tyX9) (ty := .int) B (ho.at0 rfl) inX9 tyX9_ok nmX9 rfl (j := 5) (by decide) q_323 rfl rfl rfl rfl rfl rfl dX9_openNumber_2 (fun f1 e2 => ?_)
  have hf := lt_some hf e2
  exact fX9_openNumber_5L_ok B hR ho  n _ _ hl hf
def rmX9_openWord : Room := { frames := 1, cells := 0, slots := 0, locals := 21 }
set_option maxHeartbeats 4000000 in
set_option maxRecDepth 100000 in
theorem cw_X9_openWord_X9_isLetter : cwB rmX9_openWord rmX9_isLetter yX9_isLetter cX9_isLetter 2 (some .boolean) 1 := ⟨q_738, q_55, by decide, by decide⟩
def fX9_openWord_68 (n : Nat) (o : Nat)  (s0 : Int32) (f : Mm) : Option (Mm) :=
  lt (up f o 5 s0) fun f6 =>
  some f6
set_option maxHeartbeats 4000000 in
set_option maxRecDepth 100000 in
theorem fX9_openWord_68_ok {V : VE} {G : GE} {N : Nat} {f m : Mm} {n : Nat} {ls : Array Slot} {o : Nat} {g : Mm} (B : CX V G cX9_openWord 1 "FluxWatch$Tape" none) (hR : V.2.2.2.1 = rmX9_openWord) (ho : rg 9 o)  {s0 : Int32}  (hl : lv_has ls 1 []) (hf : fX9_openWord_68 n o s0 f = some g) : WX V G N f m 0 0 (QQ V G none N g m 0 0) 68 ls [.int s0, .ref (gz G + o)] := by
  unfold fX9_openWord_68 at hf
  refine x_putF (C := RX9) (T := TX9) (NN := 6) (ty0 := tyX9) (ty := .int) B (ho.at0 rfl) inX9 tyX9_ok nmX9 rfl (j := 5) (by decide) q_323 rfl rfl rfl rfl rfl rfl dX9_openWord_68 (fun f6 e7 => ?_)
  have hf := lt_some hf e7
  obtain rfl := rt1 hf
  exact x_vret B dX9_openWord_71
def fX9_openWord_35 (n : Nat) (o : Nat)   (f : Mm) : Option (Mm) :=
  lt (up f o 2 (-2 : Int32)) fun f2 =>
  if ((f2 o 4) - (f2 o 3)) = (nI 1) then (
  gd (ib (f2 o 3) 96) <|
  fX9_openWord_68 n o (f2 (o + 1) (f2 o 3).toNatClampNeg) f2) else (
  fX9_openWord_68 n o (nI 0) f2)
set_option maxHeartbeats 4000000 in
set_option maxRecDepth 100000 in
theorem fX9_openWord_35_ok {V : VE} {G : GE} {N : Nat} {f m : Mm} {n : Nat} {ls : Array Slot} {o : Nat} {g : Mm} (B : CX V G cX9_openWord 1 "FluxWatch$Tape" none) (hR : V.2.2.2.1 = rmX9_openWord) (ho : rg 9 o)    (hl : lv_has ls 1 [(0, .ref (gz G + o))]) (hf : fX9_openWord_35 n o f = some g) : WX V G N f m 0 0 (QQ V G none N g m 0 0) 35 ls [] := by
  unfold fX9_openWord_35 at hf
  refine x_aload_n B dX9_openWord_35 rfl (lv_at hl 0 rfl) ?_
  refine x_bipush (v := (-2 : Int32)) B dX9_openWord_36 (by decide) ?_
  refine x_putF (C := RX9) (T := TX9) (NN := 6) (ty0 := tyX9) (ty := .int) B (ho.at0 rfl) inX9 tyX9_ok nmX9 rfl (j := 2) (by decide) q_318 rfl rfl rfl rfl rfl rfl dX9_openWord_38 (fun f2 e3 => ?_)
  have hf := lt_some hf e3
  refine x_aload_n B dX9_openWord_41 rfl (lv_at hl 0 rfl) ?_
  refine x_aload_n B dX9_openWord_42 rfl (lv_at hl 0 rfl) ?_
  refine y_getFi (C := RX9) (T := TX9) (NN := 6) B (ho.at0 rfl) inX9 rfl (j := 4) (by decide) q_322 rfl rfl dX9_openWord_43 ?_
  refine x_aload_n B dX9_openWord_46 rfl (lv_at hl 0 rfl) ?_
  refine y_getFi (C := RX9) (T := TX9) (NN := 6) B (ho.at0 rfl) inX9 rfl (j := 3) (by decide) q_320 rfl rfl dX9_openWord_47 ?_
  refine x_isub B dX9_openWord_50 ?_
  refine x_iconst (v := (nI 1)) B dX9_openWord_51 (by decide) ?_
  refine x_icmp_ne (tgt := 67) B dX9_openWord_52 (by decide) (fun h4 => ?_) (fun h4 => ?_)
  · have hf := ip h4 hf
    refine x_aload_n B dX9_openWord_55 rfl (lv_at hl 0 rfl) ?_
    refine y_getFs (C := RX9) (T := TX9) (NN := 6) (d := 1) B (ho.at0 rfl) inX9 rfl (j := 0) (by decide) q_315 rfl rfl (by decide) dX9_openWord_56 ?_
    refine x_aload_n B dX9_openWord_59 rfl (lv_at hl 0 rfl) ?_
    refine y_getFi (C := RX9) (T := TX9) (NN := 6) B (ho.at0 rfl) inX9 rfl (j := 3) (by decide) q_320 rfl rfl dX9_openWord_60 ?_
    obtain ⟨h5, hf⟩ := gd_some hf
    refine x_ialdF B (ho.at 1 rfl) h5 dX9_openWord_63 ?_
    refine x_goto (tgt := 68) B dX9_openWord_64 (by decide) ?_
    exact fX9_openWord_68_ok B hR ho  (lv_sub hl [] rfl) hf
  · have hf := iq h4 hf
    refine x_iconst (v := (nI 0)) B dX9_openWord_67 (by decide) ?_
    exact fX9_openWord_68_ok B hR ho  (lv_sub hl [] rfl) hf
def fX9_openWord_0 (n : Nat) (o : Nat)  (k0 : Mm → Option (Mm))  (f : Mm) : Option (Mm) :=
  if (f o 1) ≤ (f o 4) then (
  fX9_openWord_35 n o f) else (
  bn (fX9_isLetter n o (f o 4) f) fun r9 =>
  if r9 = 0 then (
  fX9_openWord_35 n o f) else (
  lt (up f o 4 ((f o 4) + (nI 1))) fun f11 =>
  k0 f11))
def fX9_openWord_0L (n : Nat) (o : Nat)  : Nat → Mm → Option (Mm)
  | 0 => fun _ => none
  | q + 1 => fX9_openWord_0 n o  (fX9_openWord_0L n o  q)
set_option maxHeartbeats 4000000 in
set_option maxRecDepth 100000 in
theorem fX9_openWord_0_ok {V : VE} {G : GE} {N : Nat} {f m : Mm} {n : Nat} {ls : Array Slot} {o : Nat} {g : Mm} (B : CX V G cX9_openWord 1 "FluxWatch$Tape" none) (hR : V.2.2.2.1 = rmX9_openWord) (ho : rg 9 o)  {k0 : Mm → Option (Mm)} (hk0 : ∀  (mm : Mm) (ls : Array Slot),  lv_has ls 1 [(0, .ref (gz G + o))] → k0 mm = some g → WX V G N mm m 0 0 (QQ V G none N g m 0 0) 0 ls [])   (hl : lv_has ls 1 [(0, .ref (gz G + o))]) (hf : fX9_openWord_0 n o k0 f = some g) : WX V G N f m 0 0 (QQ V G none N g m 0 0) 0 ls [] := by
  unfold fX9_openWord_0 at hf
  refine x_aload_n B dX9_openWord_0 rfl (lv_at hl 0 rfl) ?_
  refine y_getFi (C := RX9) (T := TX9) (NN := 6) B (ho.at0 rfl) inX9 rfl (j := 4) (by decide) q_322 rfl rfl dX9_openWord_1 ?_
  refine x_aload_n B dX9_openWord_4 rfl (lv_at hl 0 rfl) ?_
  refine y_getFi (C := RX9) (T := TX9) (NN := 6) B (ho.at0 rfl) inX9 rfl (j := 1) (by decide) q_316 rfl rfl dX9_openWord_5 ?_
  refine x_icmp_ge (tgt := 35) B dX9_openWord_8 (by decide) (fun h1 => ?_) (fun h1 => ?_)
  · have hf := ip h1 hf
    exact fX9_openWord_35_ok B hR ho  hl hf
  · have hf := iq h1 hf
    refine x_aload_n B dX9_openWord_11 rfl (lv_at hl 0 rfl) ?_
    refine x_aload_n B dX9_openWord_12 rfl (lv_at hl 0 rfl) ?_
    refine y_getFi (C := RX9) (T := TX9) (NN := 6) B (ho.at0 rfl) inX9 rfl (j := 4) (by decide) q_322 rfl rfl dX9_openWord_13 ?_
    obtain ⟨r9, c8, hf⟩ := bn_some hf
    refine x_callV0 (rest := []) B (kX9_isLetter ho c8) ⟨rfl, rfl⟩ (ho.at0 (N := N) rfl).lt (ho.at0 (N := N) rfl).2 rfl (by decide) q_735 q_736 q_737 (by rw [hR]; exact cw_X9_openWord_X9_isLetter) rfl rfl hl.1 (Nat.le_of_ble_eq_true rfl) dX9_openWord_16 ⟨Nat.zero_le _, Nat.zero_le _⟩ ?_
    refine x_if_eq (tgt := 35) B dX9_openWord_19 (by decide) (fun h10 => ?_) (fun h10 => ?_)
    · have hf := ip h10 hf
      exact fX9_openWord_35_ok B hR ho  hl hf
    · have hf := iq h10 hf
      refine x_aload_n B dX9_openWord_22 rfl (lv_at hl 0 rfl) ?_
      refine x_dup B dX9_openWord_23 rfl ?_
      refine y_getFi (C := RX9) (T := TX9) (NN := 6) B (ho.at0 rfl) inX9 rfl (j := 4) (by decide) q_322 rfl rfl dX9_openWord_24 ?_
      refine x_iconst (v := (nI 1)) B dX9_openWord_27 (by decide) ?_
      refine x_iadd B dX9_openWord_28 ?_
      refine x_putF (C := RX9) (T := TX9) (NN := 6) (ty0 := tyX9) (ty := .int) B (ho.at0 rfl) inX9 tyX9_ok nmX9 rfl (j := 4) (by decide) q_322 rfl rfl rfl rfl rfl rfl dX9_openWord_29 (fun f11 e12 => ?_)
      have hf := lt_some hf e12
      refine x_goto (tgt := 0) B dX9_openWord_32 (by decide) ?_
      exact hk0 _ _ hl hf
set_option maxHeartbeats 4000000 in
set_option maxRecDepth 100000 in
theorem fX9_openWord_0L_ok {V : VE} {G : GE} {N : Nat} {m : Mm} {n : Nat}  {o : Nat} {g : Mm} (B : CX V G cX9_openWord 1 "FluxWatch$Tape" none) (hR : V.2.2.2.1 = rmX9_openWord) (ho : rg 9 o)  : ∀ (q : Nat)  (mm : Mm) (ls : Array Slot),  lv_has ls 1 [(0, .ref (gz G + o))] → fX9_openWord_0L n o q mm = some g → WX V G N mm m 0 0 (QQ V G none N g m 0 0) 0 ls [] := by
  intro q
  induction q with
  | zero =>
    intro mm ls hl hf
    cases hf
  | succ q ih =>
    intro mm ls hl hf
    exact fX9_openWord_0_ok B hR ho  ih  hl hf
def fX9_openWord (n : Nat) (o : Nat) (f : Mm) : Option (Mm) :=
  fX9_openWord_0L n o n f
set_option maxHeartbeats 4000000 in
set_option maxRecDepth 100000 in
theorem kX9_openWord {l : Launch} {G : GE} {N : Nat} {f m : Mm} {n : Nat} {o : Nat} {g : Mm} (ho : rg 9 o) (hf : fX9_openWord n o f = some g) : MT l G yX9_openWord cX9_openWord 1 none rmX9_openWord [.ref (gz G + o)] N f m none N g m := by
  unfold fX9_openWord at hf
  refine MT.of (by decide) (Nat.le_of_ble_eq_true rfl) (fun V ls hV hR B hl => ?_)
  have B : CX V G cX9_openWord 1 "FluxWatch$Tape" none := B
  have hl : lv_has ls 1 [(0, .ref (gz G + o))] := hl
  show WX V G N f m 0 0 (QQ V G none N g m 0 0) 0 ls []
  exact fX9_openWord_0L_ok B hR ho  n _ _ hl hf
def rmX9_openNext : Room := { frames := 2, cells := 0, slots := 0, locals := 41 }
set_option maxHeartbeats 4000000 in
set_option maxRecDepth 100000 in
theorem cw_X9_openNext_X9_isDigit : cwB rmX9_openNext rmX9_isDigit yX9_isDigit cX9_isDigit 2 (some .boolean) 1 := ⟨q_746, q_55, by decide, by decide⟩
set_option maxHeartbeats 4000000 in
set_option maxRecDepth 100000 in
theorem cw_X9_openNext_X9_isLetter : cwB rmX9_openNext rmX9_isLetter yX9_isLetter cX9_isLetter 2 (some .boolean) 1 := ⟨q_738, q_55, by decide, by decide⟩
set_option maxHeartbeats 4000000 in
set_option maxRecDepth 100000 in
theorem cw_X9_openNext_X9_openNumber : cwB rmX9_openNext rmX9_openNumber yX9_openNumber cX9_openNumber 1 none 0 := ⟨q_750, q_55, by decide, by decide⟩
set_option maxHeartbeats 4000000 in
set_option maxRecDepth 100000 in
theorem cw_X9_openNext_X9_openWord : cwB rmX9_openNext rmX9_openWord yX9_openWord cX9_openWord 1 none 0 := ⟨q_742, q_55, by decide, by decide⟩
def fX9_openNext_199 (n : Nat) (o : Nat)   (f : Mm) : Option (Mm) :=
  lt (up f o 2 (-4 : Int32)) fun f23 =>
  some f23
set_option maxHeartbeats 4000000 in
set_option maxRecDepth 100000 in
theorem fX9_openNext_199_ok {V : VE} {G : GE} {N : Nat} {f m : Mm} {n : Nat} {ls : Array Slot} {o : Nat} {g : Mm} (B : CX V G cX9_openNext 3 "FluxWatch$Tape" none) (hR : V.2.2.2.1 = rmX9_openNext) (ho : rg 9 o)    (hl : lv_has ls 3 [(0, .ref (gz G + o))]) (hf : fX9_openNext_199 n o f = some g) : WX V G N f m 0 0 (QQ V G none N g m 0 0) 199 ls [] := by
  unfold fX9_openNext_199 at hf
  refine x_aload_n B dX9_openNext_199 rfl (lv_at hl 0 rfl) ?_
  refine x_bipush (v := (-4 : Int32)) B dX9_openNext_200 (by decide) ?_
  refine x_putF (C := RX9) (T := TX9) (NN := 6) (ty0 := tyX9) (ty := .int) B (ho.at0 rfl) inX9 tyX9_ok nmX9 rfl (j := 2) (by decide) q_318 rfl rfl rfl rfl rfl rfl dX9_openNext_202 (fun f23 e24 => ?_)
  have hf := lt_some hf e24
  obtain rfl := rt1 hf
  exact x_vret B dX9_openNext_205
def fX9_openNext_173 (n : Nat) (o : Nat)  (x1 : Int32) (x2 : Int32) (f : Mm) : Option (Mm) :=
  if x1 = 0 then (
  some f) else (
  if x2 = 0 then (
  some f) else (
  if (f o 2) = (-2 : Int32) then (
  fX9_openNext_199 n o f) else (
  if (f o 2) = (-3 : Int32) then (
  fX9_openNext_199 n o f) else (
  some f))))
set_option maxHeartbeats 4000000 in
set_option maxRecDepth 100000 in
theorem fX9_openNext_173_ok {V : VE} {G : GE} {N : Nat} {f m : Mm} {n : Nat} {ls : Array Slot} {o : Nat} {g : Mm} (B : CX V G cX9_openNext 3 "FluxWatch$Tape" none) (hR : V.2.2.2.1 = rmX9_openNext) (ho : rg 9 o)  {x1 : Int32} {x2 : Int32}  (hl : lv_has ls 3 [(0, .ref (gz G + o)), (1, .int x1), (2, .int x2)]) (hf : fX9_openNext_173 n o x1 x2 f = some g) : WX V G N f m 0 0 (QQ V G none N g m 0 0) 173 ls [] := by
  unfold fX9_openNext_173 at hf
  refine x_iload_n B dX9_openNext_173 rfl (lv_at hl 1 rfl) ?_
  refine x_if_eq (tgt := 205) B dX9_openNext_174 (by decide) (fun h20 => ?_) (fun h20 => ?_)
  · have hf := ip h20 hf
    obtain rfl := rt1 hf
    exact x_vret B dX9_openNext_205
  · have hf := iq h20 hf
    refine x_iload_n B dX9_openNext_177 rfl (lv_at hl 2 rfl) ?_
    refine x_if_eq (tgt := 205) B dX9_openNext_178 (by decide) (fun h21 => ?_) (fun h21 => ?_)
    · have hf := ip h21 hf
      obtain rfl := rt1 hf
      exact x_vret B dX9_openNext_205
    · have hf := iq h21 hf
      refine x_aload_n B dX9_openNext_181 rfl (lv_at hl 0 rfl) ?_
      refine y_getFi (C := RX9) (T := TX9) (NN := 6) B (ho.at0 rfl) inX9 rfl (j := 2) (by decide) q_318 rfl rfl dX9_openNext_182 ?_
      refine x_bipush (v := (-2 : Int32)) B dX9_openNext_185 (by decide) ?_
      refine x_icmp_eq (tgt := 199) B dX9_openNext_187 (by decide) (fun h22 => ?_) (fun h22 => ?_)
      · have hf := ip h22 hf
        exact fX9_openNext_199_ok B hR ho  (lv_sub hl [0] rfl) hf
      · have hf := iq h22 hf
        refine x_aload_n B dX9_openNext_190 rfl (lv_at hl 0 rfl) ?_
        refine y_getFi (C := RX9) (T := TX9) (NN := 6) B (ho.at0 rfl) inX9 rfl (j := 2) (by decide) q_318 rfl rfl dX9_openNext_191 ?_
        refine x_bipush (v := (-3 : Int32)) B dX9_openNext_194 (by decide) ?_
        refine x_icmp_ne (tgt := 205) B dX9_openNext_196 (by decide) (fun h25 => ?_) (fun h25 => ?_)
        · have hf := ip h25 hf
          exact fX9_openNext_199_ok B hR ho  (lv_sub hl [0] rfl) hf
        · have hf := iq h25 hf
          obtain rfl := rt1 hf
          exact x_vret B dX9_openNext_205
def fX9_openNext_86 (n : Nat) (o : Nat)  (x1 : Int32) (s0 : Int32) (f : Mm) : Option (Mm) :=
  lt (up f o 4 (f o 3)) fun f6 =>
  if (f6 o 3) < (f6 o 1) then (
  bn (fX9_isLetter n o (f6 o 3) f6) fun r10 =>
  if r10 = 0 then (
  bn (fX9_isDigit n o (f6 o 3) f6) fun r13 =>
  if r13 = 0 then (
  gd (ib (f6 o 3) 96) <|
  lt (up f6 o 2 (f6 (o + 1) (f6 o 3).toNatClampNeg)) fun f16 =>
  lt (up f16 o 4 ((f16 o 3) + (nI 1))) fun f18 =>
  fX9_openNext_173 n o x1 s0 f18) else (
  bn (fX9_openNumber n o f6) fun f27 =>
  fX9_openNext_173 n o x1 s0 f27)) else (
  bn (fX9_openWord n o f6) fun f29 =>
  fX9_openNext_173 n o x1 s0 f29)) else (
  lt (up f6 o 2 (-1 : Int32)) fun f30 =>
  fX9_openNext_173 n o x1 s0 f30)
set_option maxHeartbeats 4000000 in
set_option maxRecDepth 100000 in
theorem fX9_openNext_86_ok {V : VE} {G : GE} {N : Nat} {f m : Mm} {n : Nat} {ls : Array Slot} {o : Nat} {g : Mm} (B : CX V G cX9_openNext 3 "FluxWatch$Tape" none) (hR : V.2.2.2.1 = rmX9_openNext) (ho : rg 9 o)  {x1 : Int32} {s0 : Int32}  (hl : lv_has ls 3 [(0, .ref (gz G + o)), (1, .int x1)]) (hf : fX9_openNext_86 n o x1 s0 f = some g) : WX V G N f m 0 0 (QQ V G none N g m 0 0) 86 ls [.int s0] := by
  unfold fX9_openNext_86 at hf
  refine x_istore_n (lv' := [(2, .int s0), (0, .ref (gz G + o)), (1, .int x1)]) B dX9_openNext_86 rfl hl (by decide) rfl (fun ls hl => ?_)
  refine x_aload_n B dX9_openNext_87 rfl (lv_at hl 1 rfl) ?_
  refine x_aload_n B dX9_openNext_88 rfl (lv_at hl 1 rfl) ?_
  refine y_getFi (C := RX9) (T := TX9) (NN := 6) B (ho.at0 rfl) inX9 rfl (j := 3) (by decide) q_320 rfl rfl dX9_openNext_89 ?_
  refine x_putF (C := RX9) (T := TX9) (NN := 6) (ty0 := tyX9) (ty := .int) B (ho.at0 rfl) inX9 tyX9_ok nmX9 rfl (j := 4) (by decide) q_322 rfl rfl rfl rfl rfl rfl dX9_openNext_92 (fun f6 e7 => ?_)
  have hf := lt_some hf e7
  refine x_aload_n B dX9_openNext_95 rfl (lv_at hl 1 rfl) ?_
  refine y_getFi (C := RX9) (T := TX9) (NN := 6) B (ho.at0 rfl) inX9 rfl (j := 3) (by decide) q_320 rfl rfl dX9_openNext_96 ?_
  refine x_aload_n B dX9_openNext_99 rfl (lv_at hl 1 rfl) ?_
  refine y_getFi (C := RX9) (T := TX9) (NN := 6) B (ho.at0 rfl) inX9 rfl (j := 1) (by decide) q_316 rfl rfl dX9_openNext_100 ?_
  refine x_icmp_lt (tgt := 114) B dX9_openNext_103 (by decide) (fun h8 => ?_) (fun h8 => ?_)
  · have hf := ip h8 hf
    refine x_aload_n B dX9_openNext_114 rfl (lv_at hl 1 rfl) ?_
    refine x_aload_n B dX9_openNext_115 rfl (lv_at hl 1 rfl) ?_
    refine y_getFi (C := RX9) (T := TX9) (NN := 6) B (ho.at0 rfl) inX9 rfl (j := 3) (by decide) q_320 rfl rfl dX9_openNext_116 ?_
    obtain ⟨r10, c9, hf⟩ := bn_some hf
    refine x_callV0 (rest := []) B (kX9_isLetter ho c9) ⟨rfl, rfl⟩ (ho.at0 (N := N) rfl).lt (ho.at0 (N := N) rfl).2 rfl (by decide) q_735 q_736 q_737 (by rw [hR]; exact cw_X9_openNext_X9_isLetter) rfl rfl hl.1 (Nat.le_of_ble_eq_true rfl) dX9_openNext_119 ⟨Nat.zero_le _, Nat.zero_le _⟩ ?_
    refine x_if_eq (tgt := 132) B dX9_openNext_122 (by decide) (fun h11 => ?_) (fun h11 => ?_)
    · have hf := ip h11 hf
      refine x_aload_n B dX9_openNext_132 rfl (lv_at hl 1 rfl) ?_
      refine x_aload_n B dX9_openNext_133 rfl (lv_at hl 1 rfl) ?_
      refine y_getFi (C := RX9) (T := TX9) (NN := 6) B (ho.at0 rfl) inX9 rfl (j := 3) (by decide) q_320 rfl rfl dX9_openNext_134 ?_
      obtain ⟨r13, c12, hf⟩ := bn_some hf
      refine x_callV0 (rest := []) B (kX9_isDigit ho c12) ⟨rfl, rfl⟩ (ho.at0 (N := N) rfl).lt (ho.at0 (N := N) rfl).2 rfl (by decide) q_743 q_744 q_745 (by rw [hR]; exact cw_X9_openNext_X9_isDigit) rfl rfl hl.1 (Nat.le_of_ble_eq_true rfl) dX9_openNext_137 ⟨Nat.zero_le _, Nat.zero_le _⟩ ?_
      refine x_if_eq (tgt := 150) B dX9_openNext_140 (by decide) (fun h14 => ?_) (fun h14 => ?_)
      · have hf := ip h14 hf
        refine x_aload_n B dX9_openNext_150 rfl (lv_at hl 1 rfl) ?_
        refine x_aload_n B dX9_openNext_151 rfl (lv_at hl 1 rfl) ?_
        refine y_getFs (C := RX9) (T := TX9) (NN := 6) (d := 1) B (ho.at0 rfl) inX9 rfl (j := 0) (by decide) q_315 rfl rfl (by decide) dX9_openNext_152 ?_
        refine x_aload_n B dX9_openNext_155 rfl (lv_at hl 1 rfl) ?_
        refine y_getFi (C := RX9) (T := TX9) (NN := 6) B (ho.at0 rfl) inX9 rfl (j := 3) (by decide) q_320 rfl rfl dX9_openNext_156 ?_
        obtain ⟨h15, hf⟩ := gd_some hf
        refine x_ialdF B (ho.at 1 rfl) h15 dX9_openNext_159 ?_
        refine x_putF (C := RX9) (T := TX9) (NN := 6) (ty0 := tyX9) (ty := .int) B (ho.at0 rfl) inX9 tyX9_ok nmX9 rfl (j := 2) (by decide) q_318 rfl rfl rfl rfl rfl rfl dX9_openNext_160 (fun f16 e17 => ?_)
        have hf := lt_some hf e17
        refine x_aload_n B dX9_openNext_163 rfl (lv_at hl 1 rfl) ?_
        refine x_aload_n B dX9_openNext_164 rfl (lv_at hl 1 rfl) ?_
        refine y_getFi (C := RX9) (T := TX9) (NN := 6) B (ho.at0 rfl) inX9 rfl (j := 3) (by decide) q_320 rfl rfl dX9_openNext_165 ?_
        refine x_iconst (v := (nI 1)) B dX9_openNext_168 (by decide) ?_
        refine x_iadd B dX9_openNext_169 ?_
        refine x_putF (C := RX9) (T := TX9) (NN := 6) (ty0 := tyX9) (ty := .int) B (ho.at0 rfl) inX9 tyX9_ok nmX9 rfl (j := 4) (by decide) q_322 rfl rfl rfl rfl rfl rfl dX9_openNext_170 (fun f18 e19 => ?_)
        have hf := lt_some hf e19
        exact fX9_openNext_173_ok B hR ho  (lv_sub hl [1, 2, 0] rfl) hf
      · have hf := iq h14 hf
        refine x_aload_n B dX9_openNext_143 rfl (lv_at hl 1 rfl) ?_
        obtain ⟨f27, c26, hf⟩ := bn_some hf
        refine x_callV0 (rest := []) B (kX9_openNumber ho c26) ⟨rfl, rfl⟩ (ho.at0 (N := N) rfl).lt (ho.at0 (N := N) rfl).2 rfl (by decide) q_747 q_748 q_749 (by rw [hR]; exact cw_X9_openNext_X9_openNumber) rfl rfl hl.1 (Nat.le_of_ble_eq_true rfl) dX9_openNext_144 ⟨Nat.zero_le _, Nat.zero_le _⟩ ?_
        refine x_goto (tgt := 173) B dX9_openNext_147 (by decide) ?_
        exact fX9_openNext_173_ok B hR ho  (lv_sub hl [1, 2, 0] rfl) hf
    · have hf := iq h11 hf
      refine x_aload_n B dX9_openNext_125 rfl (lv_at hl 1 rfl) ?_
      obtain ⟨f29, c28, hf⟩ := bn_some hf
      refine x_callV0 (rest := []) B (kX9_openWord ho c28) ⟨rfl, rfl⟩ (ho.at0 (N := N) rfl).lt (ho.at0 (N := N) rfl).2 rfl (by decide) q_739 q_740 q_741 (by rw [hR]; exact cw_X9_openNext_X9_openWord) rfl rfl hl.1 (Nat.le_of_ble_eq_true rfl) dX9_openNext_126 ⟨Nat.zero_le _, Nat.zero_le _⟩ ?_
      refine x_goto (tgt := 173) B dX9_openNext_129 (by decide) ?_
      exact fX9_openNext_173_ok B hR ho  (lv_sub hl [1, 2, 0] rfl) hf
  · have hf := iq h8 hf
    refine x_aload_n B dX9_openNext_106 rfl (lv_at hl 1 rfl) ?_
    refine x_iconst (v := (-1 : Int32)) B dX9_openNext_107 (by decide) ?_
    refine x_putF (C := RX9) (T := TX9) (NN := 6) (ty0 := tyX9) (ty := .int) B (ho.at0 rfl) inX9 tyX9_ok nmX9 rfl (j := 2) (by decide) q_318 rfl rfl rfl rfl rfl rfl dX9_openNext_108 (fun f30 e31 => ?_)
    have hf := lt_some hf e31
    refine x_goto (tgt := 173) B dX9_openNext_111 (by decide) ?_
    exact fX9_openNext_173_ok B hR ho  (lv_sub hl [1, 2, 0] rfl) hf
def fX9_openNext_70 (n : Nat) (o : Nat)  (x1 : Int32) (f : Mm) : Option (Mm) :=
  if (f o 3) = (f o 4) then (
  fX9_openNext_86 n o x1 (nI 1) f) else (
  fX9_openNext_86 n o x1 (nI 0) f)
set_option maxHeartbeats 4000000 in
set_option maxRecDepth 100000 in
theorem fX9_openNext_70_ok {V : VE} {G : GE} {N : Nat} {f m : Mm} {n : Nat} {ls : Array Slot} {o : Nat} {g : Mm} (B : CX V G cX9_openNext 3 "FluxWatch$Tape" none) (hR : V.2.2.2.1 = rmX9_openNext) (ho : rg 9 o)  {x1 : Int32}  (hl : lv_has ls 3 [(0, .ref (gz G + o)), (1, .int x1)]) (hf : fX9_openNext_70 n o x1 f = some g) : WX V G N f m 0 0 (QQ V G none N g m 0 0) 70 ls [] := by
  unfold fX9_openNext_70 at hf
  refine x_aload_n B dX9_openNext_70 rfl (lv_at hl 0 rfl) ?_
  refine y_getFi (C := RX9) (T := TX9) (NN := 6) B (ho.at0 rfl) inX9 rfl (j := 3) (by decide) q_320 rfl rfl dX9_openNext_71 ?_
  refine x_aload_n B dX9_openNext_74 rfl (lv_at hl 0 rfl) ?_
  refine y_getFi (C := RX9) (T := TX9) (NN := 6) B (ho.at0 rfl) inX9 rfl (j := 4) (by decide) q_322 rfl rfl dX9_openNext_75 ?_
  refine x_icmp_ne (tgt := 85) B dX9_openNext_78 (by decide) (fun h5 => ?_) (fun h5 => ?_)
  · have hf := ip h5 hf
    refine x_iconst (v := (nI 1)) B dX9_openNext_81 (by decide) ?_
    refine x_goto (tgt := 86) B dX9_openNext_82 (by decide) ?_
    exact fX9_openNext_86_ok B hR ho  hl hf
  · have hf := iq h5 hf
    refine x_iconst (v := (nI 0)) B dX9_openNext_85 (by decide) ?_
    exact fX9_openNext_86_ok B hR ho  hl hf
def fX9_openNext_32 (n : Nat) (o : Nat)  (k32 : Int32 → Mm → Option (Mm)) (x1 : Int32) (f : Mm) : Option (Mm) :=
  if (f o 1) ≤ (f o 3) then (
  fX9_openNext_70 n o x1 f) else (
  gd (ib (f o 3) 96) <|
  if (f (o + 1) (f o 3).toNatClampNeg) = (nI 32) then (
  lt (up f o 3 ((f o 3) + (nI 1))) fun f34 =>
  k32 x1 f34) else (
  fX9_openNext_70 n o x1 f))
def fX9_openNext_32L (n : Nat) (o : Nat)  : Nat → Int32 → Mm → Option (Mm)
  | 0 => fun _ _ => none
  | q + 1 => fX9_openNext_32 n o  (fX9_openNext_32L n o  q)
set_option maxHeartbeats 4000000 in
set_option maxRecDepth 100000 in
theorem fX9_openNext_32_ok {V : VE} {G : GE} {N : Nat} {f m : Mm} {n : Nat} {ls : Array Slot} {o : Nat} {g : Mm} (B : CX V G cX9_openNext 3 "FluxWatch$Tape" none) (hR : V.2.2.2.1 = rmX9_openNext) (ho : rg 9 o)  {k32 : Int32 → Mm → Option (Mm)} (hk32 : ∀ (x1 : Int32) (mm : Mm) (ls : Array Slot),  lv_has ls 3 [(0, .ref (gz G + o)), (1, .int x1)] → k32 x1 mm = some g → WX V G N mm m 0 0 (QQ V G none N g m 0 0) 32 ls []) {x1 : Int32}  (hl : lv_has ls 3 [(0, .ref (gz G + o)), (1, .int x1)]) (hf : fX9_openNext_32 n o k32 x1 f = some g) : WX V G N f m 0 0 (QQ V G none N g m 0 0) 32 ls [] := by
  unfold fX9_openNext_32 at hf
  refine x_aload_n B dX9_openNext_32 rfl (lv_at hl 0 rfl) ?_
  refine y_getFi (C := RX9) (T := TX9) (NN := 6) B (ho.at0 rfl) inX9 rfl (j := 3) (by decide) q_320 rfl rfl dX9_openNext_33 ?_
  refine x_aload_n B dX9_openNext_36 rfl (lv_at hl 0 rfl) ?_
  refine y_getFi (C := RX9) (T := TX9) (NN := 6) B (ho.at0 rfl) inX9 rfl (j := 1) (by decide) q_316 rfl rfl dX9_openNext_37 ?_
  refine x_icmp_ge (tgt := 70) B dX9_openNext_40 (by decide) (fun h4 => ?_) (fun h4 => ?_)
  · have hf := ip h4 hf
    exact fX9_openNext_70_ok B hR ho  hl hf
  · have hf := iq h4 hf
    refine x_aload_n B dX9_openNext_43 rfl (lv_at hl 0 rfl) ?_
    refine y_getFs (C := RX9) (T := TX9) (NN := 6) (d := 1) B (ho.at0 rfl) inX9 rfl (j := 0) (by decide) q_315 rfl rfl (by decide) dX9_openNext_44 ?_
    refine x_aload_n B dX9_openNext_47 rfl (lv_at hl 0 rfl) ?_
    refine y_getFi (C := RX9) (T := TX9) (NN := 6) B (ho.at0 rfl) inX9 rfl (j := 3) (by decide) q_320 rfl rfl dX9_openNext_48 ?_
    obtain ⟨h32, hf⟩ := gd_some hf
    refine x_ialdF B (ho.at 1 rfl) h32 dX9_openNext_51 ?_
    refine x_bipush (v := (nI 32)) B dX9_openNext_52 (by decide) ?_
    refine x_icmp_ne (tgt := 70) B dX9_openNext_54 (by decide) (fun h33 => ?_) (fun h33 => ?_)
    · have hf := ip h33 hf
      refine x_aload_n B dX9_openNext_57 rfl (lv_at hl 0 rfl) ?_
      refine x_dup B dX9_openNext_58 rfl ?_
      refine y_getFi (C := RX9) (T := TX9) (NN := 6) B (ho.at0 rfl) inX9 rfl (j := 3) (by decide) q_320 rfl rfl dX9_openNext_59 ?_
      refine x_iconst (v := (nI 1)) B dX9_openNext_62 (by decide) ?_
      refine x_iadd B dX9_openNext_63 ?_
      refine x_putF (C := RX9) (T := TX9) (NN := 6) (ty0 := tyX9) (ty := .int) B (ho.at0 rfl) inX9 tyX9_ok nmX9 rfl (j := 3) (by decide) q_320 rfl rfl rfl rfl rfl rfl dX9_openNext_64 (fun f34 e35 => ?_)
      have hf := lt_some hf e35
      refine x_goto (tgt := 32) B dX9_openNext_67 (by decide) ?_
      exact hk32 _ _ _ hl hf
    · have hf := iq h33 hf
      exact fX9_openNext_70_ok B hR ho  hl hf
set_option maxHeartbeats 4000000 in
set_option maxRecDepth 100000 in
theorem fX9_openNext_32L_ok {V : VE} {G : GE} {N : Nat} {m : Mm} {n : Nat}  {o : Nat} {g : Mm} (B : CX V G cX9_openNext 3 "FluxWatch$Tape" none) (hR : V.2.2.2.1 = rmX9_openNext) (ho : rg 9 o)  : ∀ (q : Nat) (x1 : Int32) (mm : Mm) (ls : Array Slot),  lv_has ls 3 [(0, .ref (gz G + o)), (1, .int x1)] → fX9_openNext_32L n o q x1 mm = some g → WX V G N mm m 0 0 (QQ V G none N g m 0 0) 32 ls [] := by
  intro q
  induction q with
  | zero =>
    intro x1 mm ls hl hf
    cases hf
  | succ q ih =>
    intro x1 mm ls hl hf
    exact fX9_openNext_32_ok B hR ho  ih  hl hf
def fX9_openNext_23 (n : Nat) (o : Nat)  (s0 : Int32) (f : Mm) : Option (Mm) :=
  lt (up f o 3 (f o 4)) fun f2 =>
  fX9_openNext_32L n o n s0 f2
set_option maxHeartbeats 4000000 in
set_option maxRecDepth 100000 in
theorem fX9_openNext_23_ok {V : VE} {G : GE} {N : Nat} {f m : Mm} {n : Nat} {ls : Array Slot} {o : Nat} {g : Mm} (B : CX V G cX9_openNext 3 "FluxWatch$Tape" none) (hR : V.2.2.2.1 = rmX9_openNext) (ho : rg 9 o)  {s0 : Int32}  (hl : lv_has ls 3 [(0, .ref (gz G + o))]) (hf : fX9_openNext_23 n o s0 f = some g) : WX V G N f m 0 0 (QQ V G none N g m 0 0) 23 ls [.int s0] := by
  unfold fX9_openNext_23 at hf
  refine x_istore_n (lv' := [(1, .int s0), (0, .ref (gz G + o))]) B dX9_openNext_23 rfl hl (by decide) rfl (fun ls hl => ?_)
  refine x_aload_n B dX9_openNext_24 rfl (lv_at hl 1 rfl) ?_
  refine x_aload_n B dX9_openNext_25 rfl (lv_at hl 1 rfl) ?_
  refine y_getFi (C := RX9) (T := TX9) (NN := 6) B (ho.at0 rfl) inX9 rfl (j := 4) (by decide) q_322 rfl rfl dX9_openNext_26 ?_
  refine x_putF (C := RX9) (T := TX9) (NN := 6) (ty0 := tyX9) (ty := .int) B (ho.at0 rfl) inX9 tyX9_ok nmX9 rfl (j := 3) (by decide) q_320 rfl rfl rfl rfl rfl rfl dX9_openNext_29 (fun f2 e3 => ?_)
  have hf := lt_some hf e3
  exact fX9_openNext_32L_ok B hR ho  n _ _ _ (lv_sub hl [1, 0] rfl) hf
def fX9_openNext_18 (n : Nat) (o : Nat)   (f : Mm) : Option (Mm) :=
  fX9_openNext_23 n o (nI 1) f
set_option maxHeartbeats 4000000 in
set_option maxRecDepth 100000 in
theorem fX9_openNext_18_ok {V : VE} {G : GE} {N : Nat} {f m : Mm} {n : Nat} {ls : Array Slot} {o : Nat} {g : Mm} (B : CX V G cX9_openNext 3 "FluxWatch$Tape" none) (hR : V.2.2.2.1 = rmX9_openNext) (ho : rg 9 o)    (hl : lv_has ls 3 [(0, .ref (gz G + o))]) (hf : fX9_openNext_18 n o f = some g) : WX V G N f m 0 0 (QQ V G none N g m 0 0) 18 ls [] := by
  unfold fX9_openNext_18 at hf
  refine x_iconst (v := (nI 1)) B dX9_openNext_18 (by decide) ?_
  refine x_goto (tgt := 23) B dX9_openNext_19 (by decide) ?_
  exact fX9_openNext_23_ok B hR ho  hl hf
def fX9_openNext (n : Nat) (o : Nat) (f : Mm) : Option (Mm) :=
  if (f o 2) = (-2 : Int32) then (
  fX9_openNext_18 n o f) else (
  if (f o 2) = (-3 : Int32) then (
  fX9_openNext_18 n o f) else (
  fX9_openNext_23 n o (nI 0) f))
set_option maxHeartbeats 4000000 in
set_option maxRecDepth 100000 in
theorem kX9_openNext {l : Launch} {G : GE} {N : Nat} {f m : Mm} {n : Nat} {o : Nat} {g : Mm} (ho : rg 9 o) (hf : fX9_openNext n o f = some g) : MT l G yX9_openNext cX9_openNext 3 none rmX9_openNext [.ref (gz G + o)] N f m none N g m := by
  unfold fX9_openNext at hf
  refine MT.of (by decide) (Nat.le_of_ble_eq_true rfl) (fun V ls hV hR B hl => ?_)
  have B : CX V G cX9_openNext 3 "FluxWatch$Tape" none := B
  have hl : lv_has ls 3 [(0, .ref (gz G + o))] := hl
  show WX V G N f m 0 0 (QQ V G none N g m 0 0) 0 ls []
  refine x_aload_n B dX9_openNext_0 rfl (lv_at hl 0 rfl) ?_
  refine y_getFi (C := RX9) (T := TX9) (NN := 6) B (ho.at0 rfl) inX9 rfl (j := 2) (by decide) q_318 rfl rfl dX9_openNext_1 ?_
  refine x_bipush (v := (-2 : Int32)) B dX9_openNext_4 (by decide) ?_
  refine x_icmp_eq (tgt := 18) B dX9_openNext_6 (by decide) (fun h1 => ?_) (fun h1 => ?_)
  · have hf := ip h1 hf
    exact fX9_openNext_18_ok B hR ho  hl hf
  · have hf := iq h1 hf
    refine x_aload_n B dX9_openNext_9 rfl (lv_at hl 0 rfl) ?_
    refine y_getFi (C := RX9) (T := TX9) (NN := 6) B (ho.at0 rfl) inX9 rfl (j := 2) (by decide) q_318 rfl rfl dX9_openNext_10 ?_
    refine x_bipush (v := (-3 : Int32)) B dX9_openNext_13 (by decide) ?_
    refine x_icmp_ne (tgt := 22) B dX9_openNext_15 (by decide) (fun h36 => ?_) (fun h36 => ?_)
    · have hf := ip h36 hf
      exact fX9_openNext_18_ok B hR ho  hl hf
    · have hf := iq h36 hf
      refine x_iconst (v := (nI 0)) B dX9_openNext_22 (by decide) ?_
      exact fX9_openNext_23_ok B hR ho  hl hf
def rmG (d : Nat) : Room := { frames := d + 10, cells := 0, slots := 0, locals := 60 * d + 400 }
set_option maxHeartbeats 4000000 in
set_option maxRecDepth 100000 in
theorem cw_X3_readBracket_X3_readLevel {d : Nat} : cwB (rmG (d + 1)) (rmG d) yX3_readLevel cX3_readLevel 7 (some .boolean) 3 := ⟨q_814, q_54, by decide, by simp only [rmG]; omega⟩
set_option maxHeartbeats 4000000 in
set_option maxRecDepth 100000 in
theorem cw_X3_readBracket_X9_openNext {d : Nat} : cwB (rmG (d + 1)) (rmX9_openNext) yX9_openNext cX9_openNext 3 none 0 := ⟨q_734, q_55, by decide, by simp only [rmG, rmX9_openNext]; omega⟩
def fX3_readBracket (n : Nat) (ureadLevel : Int32 → Int32 → Int32 → Mm → Option (Int32 × Mm)) (o : Nat) (a1 : Int32) (a2 : Int32) (f : Mm) : Option (Int32 × Mm) :=
  bn (fX9_openNext n (o + 1) f) fun f2 =>
  bn2 (ureadLevel (nI 0) a1 a2 f2) fun r5 f4 =>
  if r5 = 0 then (
  some ((nI 0), f4)) else (
  if (f4 (o + 1) 2) = (nI 41) then (
  bn (fX9_openNext n (o + 1) f4) fun f9 =>
  some ((nI 1), f9)) else (
  some ((nI 0), f4)))
set_option maxHeartbeats 4000000 in
set_option maxRecDepth 100000 in
theorem kX3_readBracket {l : Launch} {G : GE} {N : Nat} {f m : Mm} {n : Nat} {ureadLevel : Int32 → Int32 → Int32 → Mm → Option (Int32 × Mm)} {o : Nat} {a1 : Int32} {a2 : Int32} {d : Nat} {r : Int32} {g : Mm} (ho : rg 3 o) (hureadLevel : ∀ (a1 a2 a3 : Int32) (mm : Mm) {r : Int32} {g : Mm}, ureadLevel a1 a2 a3 mm = some (r, g) → MT l G yX3_readLevel cX3_readLevel 7 (some .boolean) (rmG d) [.ref (gz G + o), .int a1, .int a2, .int a3] N mm m (some (.int r)) N g m) (hf : fX3_readBracket n ureadLevel o a1 a2 f = some (r, g)) : MT l G yX3_readBracket cX3_readBracket 3 (some .boolean) (rmG (d + 1)) [.ref (gz G + o), .int a1, .int a2] N f m (some (.int r)) N g m := by
  unfold fX3_readBracket at hf
  refine MT.of (by decide) (Nat.le_of_ble_eq_true rfl) (fun V ls hV hR B hl => ?_)
  subst hV
  have B : CX V G cX3_readBracket 3 "FluxWatch$LawReader" (some .boolean) := B
  have hl : lv_has ls 3 [(0, .ref (gz G + o)), (1, .int a1), (2, .int a2)] := hl
  show WX V G N f m 0 0 (QQ V G (some (.int r)) N g m 0 0) 0 ls []
  refine x_aload_n B dX3_readBracket_0 rfl (lv_at hl 0 rfl) ?_
  refine y_getFs (C := RX3) (T := TX3) (NN := 5) (d := 1) B (ho.at0 rfl) inX3 rfl (j := 0) (by decide) q_338 rfl rfl (by decide) dX3_readBracket_1 ?_
  obtain ⟨f2, c1, hf⟩ := bn_some hf
  refine x_callV0 (rest := []) B (kX9_openNext (rs_3_1_9 ho) c1) ⟨rfl, rfl⟩ ((rs_3_1_9 ho).at0 (N := N) rfl).lt ((rs_3_1_9 ho).at0 (N := N) rfl).2 rfl (by decide) q_810 q_732 q_733 (by rw [hR]; exact cw_X3_readBracket_X9_openNext) rfl rfl hl.1 (Nat.le_of_ble_eq_true rfl) dX3_readBracket_4 ⟨Nat.zero_le _, Nat.zero_le _⟩ ?_
  refine x_aload_n B dX3_readBracket_7 rfl (lv_at hl 0 rfl) ?_
  refine x_iconst (v := (nI 0)) B dX3_readBracket_8 (by decide) ?_
  refine x_iload_n B dX3_readBracket_9 rfl (lv_at hl 1 rfl) ?_
  refine x_iload_n B dX3_readBracket_10 rfl (lv_at hl 2 rfl) ?_
  obtain ⟨r5, f4, c3, hf⟩ := bn2_some hf
  refine x_callV0 (rest := []) B (hureadLevel _ _ _ _ c3) ⟨rfl, rfl⟩ (ho.at0 (N := N) rfl).lt (ho.at0 (N := N) rfl).2 rfl (by decide) q_811 q_813 q_1 (by rw [hR]; exact cw_X3_readBracket_X3_readLevel) rfl rfl hl.1 (Nat.le_of_ble_eq_true rfl) dX3_readBracket_11 ⟨Nat.zero_le _, Nat.zero_le _⟩ ?_
  refine x_if_eq (tgt := 29) B dX3_readBracket_14 (by decide) (fun h6 => ?_) (fun h6 => ?_)
  · have hf := ip h6 hf
    refine x_iconst (v := (nI 0)) B dX3_readBracket_29 (by decide) ?_
    obtain ⟨rfl, rfl⟩ := rt2 hf
    exact x_zret B (by decide) dX3_readBracket_30
  · have hf := iq h6 hf
    refine x_aload_n B dX3_readBracket_17 rfl (lv_at hl 0 rfl) ?_
    refine y_getFs (C := RX3) (T := TX3) (NN := 5) (d := 1) B (ho.at0 rfl) inX3 rfl (j := 0) (by decide) q_338 rfl rfl (by decide) dX3_readBracket_18 ?_
    refine y_getFi (C := RX9) (T := TX9) (NN := 6) B ((rs_3_1_9 ho).at0 rfl) inX9 rfl (j := 2) (by decide) q_319 rfl rfl dX3_readBracket_21 ?_
    refine x_bipush (v := (nI 41)) B dX3_readBracket_24 (by decide) ?_
    refine x_icmp_eq (tgt := 31) B dX3_readBracket_26 (by decide) (fun h7 => ?_) (fun h7 => ?_)
    · have hf := ip h7 hf
      refine x_aload_n B dX3_readBracket_31 rfl (lv_at hl 0 rfl) ?_
      refine y_getFs (C := RX3) (T := TX3) (NN := 5) (d := 1) B (ho.at0 rfl) inX3 rfl (j := 0) (by decide) q_338 rfl rfl (by decide) dX3_readBracket_32 ?_
      obtain ⟨f9, c8, hf⟩ := bn_some hf
      refine x_callV0 (rest := []) B (kX9_openNext (rs_3_1_9 ho) c8) ⟨rfl, rfl⟩ ((rs_3_1_9 ho).at0 (N := N) rfl).lt ((rs_3_1_9 ho).at0 (N := N) rfl).2 rfl (by decide) q_810 q_732 q_733 (by rw [hR]; exact cw_X3_readBracket_X9_openNext) rfl rfl hl.1 (Nat.le_of_ble_eq_true rfl) dX3_readBracket_35 ⟨Nat.zero_le _, Nat.zero_le _⟩ ?_
      refine x_iconst (v := (nI 1)) B dX3_readBracket_38 (by decide) ?_
      obtain ⟨rfl, rfl⟩ := rt2 hf
      exact x_zret B (by decide) dX3_readBracket_39
    · have hf := iq h7 hf
      refine x_iconst (v := (nI 0)) B dX3_readBracket_29 (by decide) ?_
      obtain ⟨rfl, rfl⟩ := rt2 hf
      exact x_zret B (by decide) dX3_readBracket_30
set_option maxHeartbeats 4000000 in
set_option maxRecDepth 100000 in
theorem cw_X3_readNot_X3_addPiece {d : Nat} : cwB (rmG (d + 1)) (rmX3_addPiece) yX3_addPiece cX3_addPiece 2 none 1 := ⟨q_826, q_54, by decide, by simp only [rmG, rmX3_addPiece]; omega⟩
set_option maxHeartbeats 4000000 in
set_option maxRecDepth 100000 in
theorem cw_X3_readNot_X3_readPiece {d : Nat} : cwB (rmG (d + 1)) (rmG d) yX3_readPiece cX3_readPiece 3 (some .boolean) 2 := ⟨q_818, q_54, by decide, by simp only [rmG]; omega⟩
set_option maxHeartbeats 4000000 in
set_option maxRecDepth 100000 in
theorem cw_X3_readNot_X9_openNext {d : Nat} : cwB (rmG (d + 1)) (rmX9_openNext) yX9_openNext cX9_openNext 3 none 0 := ⟨q_734, q_55, by decide, by simp only [rmG, rmX9_openNext]; omega⟩
def fX3_readNot (n : Nat) (ureadPiece : Int32 → Int32 → Mm → Option (Int32 × Mm)) (o : Nat) (a1 : Int32) (a2 : Int32) (f : Mm) : Option (Int32 × Mm) :=
  bn (fX9_openNext n (o + 1) f) fun f2 =>
  bn2 (ureadPiece a1 a2 f2) fun r5 f4 =>
  if r5 = 0 then (
  some ((nI 0), f4)) else (
  bn (fX3_addPiece n o (nI 10033) f4) fun f8 =>
  some ((nI 1), f8))
set_option maxHeartbeats 4000000 in
set_option maxRecDepth 100000 in
theorem kX3_readNot {l : Launch} {G : GE} {N : Nat} {f m : Mm} {n : Nat} {ureadPiece : Int32 → Int32 → Mm → Option (Int32 × Mm)} {o : Nat} {a1 : Int32} {a2 : Int32} {d : Nat} {r : Int32} {g : Mm} (ho : rg 3 o) (hureadPiece : ∀ (a1 a2 : Int32) (mm : Mm) {r : Int32} {g : Mm}, ureadPiece a1 a2 mm = some (r, g) → MT l G yX3_readPiece cX3_readPiece 3 (some .boolean) (rmG d) [.ref (gz G + o), .int a1, .int a2] N mm m (some (.int r)) N g m) (hf : fX3_readNot n ureadPiece o a1 a2 f = some (r, g)) : MT l G yX3_readNot cX3_readNot 3 (some .boolean) (rmG (d + 1)) [.ref (gz G + o), .int a1, .int a2] N f m (some (.int r)) N g m := by
  unfold fX3_readNot at hf
  refine MT.of (by decide) (Nat.le_of_ble_eq_true rfl) (fun V ls hV hR B hl => ?_)
  subst hV
  have B : CX V G cX3_readNot 3 "FluxWatch$LawReader" (some .boolean) := B
  have hl : lv_has ls 3 [(0, .ref (gz G + o)), (1, .int a1), (2, .int a2)] := hl
  show WX V G N f m 0 0 (QQ V G (some (.int r)) N g m 0 0) 0 ls []
  refine x_aload_n B dX3_readNot_0 rfl (lv_at hl 0 rfl) ?_
  refine y_getFs (C := RX3) (T := TX3) (NN := 5) (d := 1) B (ho.at0 rfl) inX3 rfl (j := 0) (by decide) q_338 rfl rfl (by decide) dX3_readNot_1 ?_
  obtain ⟨f2, c1, hf⟩ := bn_some hf
  refine x_callV0 (rest := []) B (kX9_openNext (rs_3_1_9 ho) c1) ⟨rfl, rfl⟩ ((rs_3_1_9 ho).at0 (N := N) rfl).lt ((rs_3_1_9 ho).at0 (N := N) rfl).2 rfl (by decide) q_810 q_732 q_733 (by rw [hR]; exact cw_X3_readNot_X9_openNext) rfl rfl hl.1 (Nat.le_of_ble_eq_true rfl) dX3_readNot_4 ⟨Nat.zero_le _, Nat.zero_le _⟩ ?_
  refine x_aload_n B dX3_readNot_7 rfl (lv_at hl 0 rfl) ?_
  refine x_iload_n B dX3_readNot_8 rfl (lv_at hl 1 rfl) ?_
  refine x_iload_n B dX3_readNot_9 rfl (lv_at hl 2 rfl) ?_
  obtain ⟨r5, f4, c3, hf⟩ := bn2_some hf
  refine x_callV0 (rest := []) B (hureadPiece _ _ _ c3) ⟨rfl, rfl⟩ (ho.at0 (N := N) rfl).lt (ho.at0 (N := N) rfl).2 rfl (by decide) q_815 q_817 q_2 (by rw [hR]; exact cw_X3_readNot_X3_readPiece) rfl rfl hl.1 (Nat.le_of_ble_eq_true rfl) dX3_readNot_10 ⟨Nat.zero_le _, Nat.zero_le _⟩ ?_
  refine x_if_ne (tgt := 18) B dX3_readNot_13 (by decide) (fun h6 => ?_) (fun h6 => ?_)
  · have hf := ip h6 hf
    refine x_iconst (v := (nI 0)) B dX3_readNot_16 (by decide) ?_
    obtain ⟨rfl, rfl⟩ := rt2 hf
    exact x_zret B (by decide) dX3_readNot_17
  · have hf := iq h6 hf
    refine x_aload_n B dX3_readNot_18 rfl (lv_at hl 0 rfl) ?_
    refine x_sipush (v := (nI 10033)) B dX3_readNot_19 (by decide) ?_
    obtain ⟨f8, c7, hf⟩ := bn_some hf
    refine x_callV0 (rest := []) B (kX3_addPiece ho c7) ⟨rfl, rfl⟩ (ho.at0 (N := N) rfl).lt (ho.at0 (N := N) rfl).2 rfl (by decide) q_823 q_825 q_4 (by rw [hR]; exact cw_X3_readNot_X3_addPiece) rfl rfl hl.1 (Nat.le_of_ble_eq_true rfl) dX3_readNot_22 ⟨Nat.zero_le _, Nat.zero_le _⟩ ?_
    refine x_iconst (v := (nI 1)) B dX3_readNot_25 (by decide) ?_
    obtain ⟨rfl, rfl⟩ := rt2 hf
    exact x_zret B (by decide) dX3_readNot_26
set_option maxHeartbeats 4000000 in
set_option maxRecDepth 100000 in
theorem cw_X3_readPiece_X3_addPiece {d : Nat} : cwB (rmG (d + 1)) (rmX3_addPiece) yX3_addPiece cX3_addPiece 2 none 1 := ⟨q_826, q_54, by decide, by simp only [rmG, rmX3_addPiece]; omega⟩
set_option maxHeartbeats 4000000 in
set_option maxRecDepth 100000 in
theorem cw_X3_readPiece_X3_isNameOpen {d : Nat} : cwB (rmG (d + 1)) (rmX3_isNameOpen) yX3_isNameOpen cX3_isNameOpen 1 (some .boolean) 0 := ⟨q_822, q_54, by decide, by simp only [rmG, rmX3_isNameOpen]; omega⟩
set_option maxHeartbeats 4000000 in
set_option maxRecDepth 100000 in
theorem cw_X3_readPiece_X3_readBracket {d : Nat} : cwB (rmG (d + 1)) (rmG d) yX3_readBracket cX3_readBracket 3 (some .boolean) 2 := ⟨q_834, q_54, by decide, by simp only [rmG]; omega⟩
set_option maxHeartbeats 4000000 in
set_option maxRecDepth 100000 in
theorem cw_X3_readPiece_X3_readNot {d : Nat} : cwB (rmG (d + 1)) (rmG d) yX3_readNot cX3_readNot 3 (some .boolean) 2 := ⟨q_830, q_54, by decide, by simp only [rmG]; omega⟩
set_option maxHeartbeats 4000000 in
set_option maxRecDepth 100000 in
theorem cw_X3_readPiece_X9_openNext {d : Nat} : cwB (rmG (d + 1)) (rmX9_openNext) yX9_openNext cX9_openNext 3 none 0 := ⟨q_734, q_55, by decide, by simp only [rmG, rmX9_openNext]; omega⟩
def fX3_readPiece_53 (n : Nat) (ureadBracket : Int32 → Int32 → Mm → Option (Int32 × Mm)) (ureadNot : Int32 → Int32 → Mm → Option (Int32 × Mm)) (o : Nat)  (s0 : Int32) (f : Mm) : Option (Int32 × Mm) :=
  bn (fX3_addPiece n o s0 f) fun f4 =>
  lt (up f4 o 3 ((f4 o 3) + (nI 1))) fun f5 =>
  bn (fX9_openNext n (o + 1) f5) fun f8 =>
  some ((nI 1), f8)
set_option maxHeartbeats 4000000 in
set_option maxRecDepth 100000 in
theorem fX3_readPiece_53_ok {V : VE} {G : GE} {N : Nat} {f m : Mm} {n : Nat} {ls : Array Slot} {ureadBracket : Int32 → Int32 → Mm → Option (Int32 × Mm)} {ureadNot : Int32 → Int32 → Mm → Option (Int32 × Mm)} {o : Nat} {r : Int32} {g : Mm} {d : Nat} (B : CX V G cX3_readPiece 3 "FluxWatch$LawReader" (some .boolean)) (hR : V.2.2.2.1 = rmG (d + 1)) (ho : rg 3 o) (hureadBracket : ∀ (a1 a2 : Int32) (mm : Mm) {r : Int32} {g : Mm}, ureadBracket a1 a2 mm = some (r, g) → MT V.2.1 G yX3_readBracket cX3_readBracket 3 (some .boolean) (rmG d) [.ref (gz G + o), .int a1, .int a2] N mm m (some (.int r)) N g m) (hureadNot : ∀ (a1 a2 : Int32) (mm : Mm) {r : Int32} {g : Mm}, ureadNot a1 a2 mm = some (r, g) → MT V.2.1 G yX3_readNot cX3_readNot 3 (some .boolean) (rmG d) [.ref (gz G + o), .int a1, .int a2] N mm m (some (.int r)) N g m)  {s0 : Int32}  (hl : lv_has ls 3 [(0, .ref (gz G + o))]) (hf : fX3_readPiece_53 n ureadBracket ureadNot o s0 f = some (r, g)) : WX V G N f m 0 0 (QQ V G (some (.int r)) N g m 0 0) 53 ls [.int s0, .ref (gz G + o)] := by
  unfold fX3_readPiece_53 at hf
  obtain ⟨f4, c3, hf⟩ := bn_some hf
  refine x_callV0 (rest := []) B (kX3_addPiece ho c3) ⟨rfl, rfl⟩ (ho.at0 (N := N) rfl).lt (ho.at0 (N := N) rfl).2 rfl (by decide) q_823 q_825 q_4 (by rw [hR]; exact cw_X3_readPiece_X3_addPiece) rfl rfl hl.1 (Nat.le_of_ble_eq_true rfl) dX3_readPiece_53 ⟨Nat.zero_le _, Nat.zero_le _⟩ ?_
  refine x_aload_n B dX3_readPiece_56 rfl (lv_at hl 0 rfl) ?_
  refine x_dup B dX3_readPiece_57 rfl ?_
  refine y_getFi (C := RX3) (T := TX3) (NN := 5) B (ho.at0 rfl) inX3 rfl (j := 3) (by decide) q_342 rfl rfl dX3_readPiece_58 ?_
  refine x_iconst (v := (nI 1)) B dX3_readPiece_61 (by decide) ?_
  refine x_iadd B dX3_readPiece_62 ?_
  refine x_putF (C := RX3) (T := TX3) (NN := 5) (ty0 := tyX3) (ty := .int) B (ho.at0 rfl) inX3 tyX3_ok nmX3 rfl (j := 3) (by decide) q_342 rfl rfl rfl rfl rfl rfl dX3_readPiece_63 (fun f5 e6 => ?_)
  have hf := lt_some hf e6
  refine x_aload_n B dX3_readPiece_66 rfl (lv_at hl 0 rfl) ?_
  refine y_getFs (C := RX3) (T := TX3) (NN := 5) (d := 1) B (ho.at0 rfl) inX3 rfl (j := 0) (by decide) q_338 rfl rfl (by decide) dX3_readPiece_67 ?_
  obtain ⟨f8, c7, hf⟩ := bn_some hf
  refine x_callV0 (rest := []) B (kX9_openNext (rs_3_1_9 ho) c7) ⟨rfl, rfl⟩ ((rs_3_1_9 ho).at0 (N := N) rfl).lt ((rs_3_1_9 ho).at0 (N := N) rfl).2 rfl (by decide) q_810 q_732 q_733 (by rw [hR]; exact cw_X3_readPiece_X9_openNext) rfl rfl hl.1 (Nat.le_of_ble_eq_true rfl) dX3_readPiece_70 ⟨Nat.zero_le _, Nat.zero_le _⟩ ?_
  refine x_iconst (v := (nI 1)) B dX3_readPiece_73 (by decide) ?_
  obtain ⟨rfl, rfl⟩ := rt2 hf
  exact x_zret B (by decide) dX3_readPiece_74
def fX3_readPiece_19 (n : Nat) (ureadBracket : Int32 → Int32 → Mm → Option (Int32 × Mm)) (ureadNot : Int32 → Int32 → Mm → Option (Int32 × Mm)) (o : Nat)   (f : Mm) : Option (Int32 × Mm) :=
  if (f (o + 1) 2) = (-3 : Int32) then (
  fX3_readPiece_53 n ureadBracket ureadNot o (f (o + 1) 5) f) else (
  fX3_readPiece_53 n ureadBracket ureadNot o ((nI 10000) + (f (o + 1) 5)) f)
set_option maxHeartbeats 4000000 in
set_option maxRecDepth 100000 in
theorem fX3_readPiece_19_ok {V : VE} {G : GE} {N : Nat} {f m : Mm} {n : Nat} {ls : Array Slot} {ureadBracket : Int32 → Int32 → Mm → Option (Int32 × Mm)} {ureadNot : Int32 → Int32 → Mm → Option (Int32 × Mm)} {o : Nat} {r : Int32} {g : Mm} {d : Nat} (B : CX V G cX3_readPiece 3 "FluxWatch$LawReader" (some .boolean)) (hR : V.2.2.2.1 = rmG (d + 1)) (ho : rg 3 o) (hureadBracket : ∀ (a1 a2 : Int32) (mm : Mm) {r : Int32} {g : Mm}, ureadBracket a1 a2 mm = some (r, g) → MT V.2.1 G yX3_readBracket cX3_readBracket 3 (some .boolean) (rmG d) [.ref (gz G + o), .int a1, .int a2] N mm m (some (.int r)) N g m) (hureadNot : ∀ (a1 a2 : Int32) (mm : Mm) {r : Int32} {g : Mm}, ureadNot a1 a2 mm = some (r, g) → MT V.2.1 G yX3_readNot cX3_readNot 3 (some .boolean) (rmG d) [.ref (gz G + o), .int a1, .int a2] N mm m (some (.int r)) N g m)    (hl : lv_has ls 3 [(0, .ref (gz G + o))]) (hf : fX3_readPiece_19 n ureadBracket ureadNot o f = some (r, g)) : WX V G N f m 0 0 (QQ V G (some (.int r)) N g m 0 0) 19 ls [] := by
  unfold fX3_readPiece_19 at hf
  refine x_aload_n B dX3_readPiece_19 rfl (lv_at hl 0 rfl) ?_
  refine x_aload_n B dX3_readPiece_20 rfl (lv_at hl 0 rfl) ?_
  refine y_getFs (C := RX3) (T := TX3) (NN := 5) (d := 1) B (ho.at0 rfl) inX3 rfl (j := 0) (by decide) q_338 rfl rfl (by decide) dX3_readPiece_21 ?_
  refine y_getFi (C := RX9) (T := TX9) (NN := 6) B ((rs_3_1_9 ho).at0 rfl) inX9 rfl (j := 2) (by decide) q_319 rfl rfl dX3_readPiece_24 ?_
  refine x_bipush (v := (-3 : Int32)) B dX3_readPiece_27 (by decide) ?_
  refine x_icmp_ne (tgt := 42) B dX3_readPiece_29 (by decide) (fun h2 => ?_) (fun h2 => ?_)
  · have hf := ip h2 hf
    refine x_aload_n B dX3_readPiece_32 rfl (lv_at hl 0 rfl) ?_
    refine y_getFs (C := RX3) (T := TX3) (NN := 5) (d := 1) B (ho.at0 rfl) inX3 rfl (j := 0) (by decide) q_338 rfl rfl (by decide) dX3_readPiece_33 ?_
    refine y_getFi (C := RX9) (T := TX9) (NN := 6) B ((rs_3_1_9 ho).at0 rfl) inX9 rfl (j := 5) (by decide) q_324 rfl rfl dX3_readPiece_36 ?_
    refine x_goto (tgt := 53) B dX3_readPiece_39 (by decide) ?_
    exact fX3_readPiece_53_ok B hR ho hureadBracket hureadNot  hl hf
  · have hf := iq h2 hf
    refine x_sipush (v := (nI 10000)) B dX3_readPiece_42 (by decide) ?_
    refine x_aload_n B dX3_readPiece_45 rfl (lv_at hl 0 rfl) ?_
    refine y_getFs (C := RX3) (T := TX3) (NN := 5) (d := 1) B (ho.at0 rfl) inX3 rfl (j := 0) (by decide) q_338 rfl rfl (by decide) dX3_readPiece_46 ?_
    refine y_getFi (C := RX9) (T := TX9) (NN := 6) B ((rs_3_1_9 ho).at0 rfl) inX9 rfl (j := 5) (by decide) q_324 rfl rfl dX3_readPiece_49 ?_
    refine x_iadd B dX3_readPiece_52 ?_
    exact fX3_readPiece_53_ok B hR ho hureadBracket hureadNot  hl hf
def fX3_readPiece_102 (n : Nat) (ureadBracket : Int32 → Int32 → Mm → Option (Int32 × Mm)) (ureadNot : Int32 → Int32 → Mm → Option (Int32 × Mm)) (o : Nat)  (x1 : Int32) (x2 : Int32) (f : Mm) : Option (Int32 × Mm) :=
  if (f (o + 1) 2) = (nI 40) then (
  if (nI 8) ≤ x1 then (
  some ((nI 0), f)) else (
  bn2 (ureadBracket (x1 + (nI 1)) x2 f) fun r18 f17 =>
  if r18 = 0 then (
  some ((nI 0), f17)) else (
  some ((nI 1), f17)))) else (
  some ((nI 0), f))
set_option maxHeartbeats 4000000 in
set_option maxRecDepth 100000 in
theorem fX3_readPiece_102_ok {V : VE} {G : GE} {N : Nat} {f m : Mm} {n : Nat} {ls : Array Slot} {ureadBracket : Int32 → Int32 → Mm → Option (Int32 × Mm)} {ureadNot : Int32 → Int32 → Mm → Option (Int32 × Mm)} {o : Nat} {r : Int32} {g : Mm} {d : Nat} (B : CX V G cX3_readPiece 3 "FluxWatch$LawReader" (some .boolean)) (hR : V.2.2.2.1 = rmG (d + 1)) (ho : rg 3 o) (hureadBracket : ∀ (a1 a2 : Int32) (mm : Mm) {r : Int32} {g : Mm}, ureadBracket a1 a2 mm = some (r, g) → MT V.2.1 G yX3_readBracket cX3_readBracket 3 (some .boolean) (rmG d) [.ref (gz G + o), .int a1, .int a2] N mm m (some (.int r)) N g m) (hureadNot : ∀ (a1 a2 : Int32) (mm : Mm) {r : Int32} {g : Mm}, ureadNot a1 a2 mm = some (r, g) → MT V.2.1 G yX3_readNot cX3_readNot 3 (some .boolean) (rmG d) [.ref (gz G + o), .int a1, .int a2] N mm m (some (.int r)) N g m)  {x1 : Int32} {x2 : Int32}  (hl : lv_has ls 3 [(0, .ref (gz G + o)), (1, .int x1), (2, .int x2)]) (hf : fX3_readPiece_102 n ureadBracket ureadNot o x1 x2 f = some (r, g)) : WX V G N f m 0 0 (QQ V G (some (.int r)) N g m 0 0) 102 ls [] := by
  unfold fX3_readPiece_102 at hf
  refine x_aload_n B dX3_readPiece_102 rfl (lv_at hl 0 rfl) ?_
  refine y_getFs (C := RX3) (T := TX3) (NN := 5) (d := 1) B (ho.at0 rfl) inX3 rfl (j := 0) (by decide) q_338 rfl rfl (by decide) dX3_readPiece_103 ?_
  refine y_getFi (C := RX9) (T := TX9) (NN := 6) B ((rs_3_1_9 ho).at0 rfl) inX9 rfl (j := 2) (by decide) q_319 rfl rfl dX3_readPiece_106 ?_
  refine x_bipush (v := (nI 40)) B dX3_readPiece_109 (by decide) ?_
  refine x_icmp_ne (tgt := 135) B dX3_readPiece_111 (by decide) (fun h14 => ?_) (fun h14 => ?_)
  · have hf := ip h14 hf
    refine x_iload_n B dX3_readPiece_114 rfl (lv_at hl 1 rfl) ?_
    refine x_bipush (v := (nI 8)) B dX3_readPiece_115 (by decide) ?_
    refine x_icmp_ge (tgt := 135) B dX3_readPiece_117 (by decide) (fun h15 => ?_) (fun h15 => ?_)
    · have hf := ip h15 hf
      refine x_iconst (v := (nI 0)) B dX3_readPiece_135 (by decide) ?_
      obtain ⟨rfl, rfl⟩ := rt2 hf
      exact x_zret B (by decide) dX3_readPiece_136
    · have hf := iq h15 hf
      refine x_aload_n B dX3_readPiece_120 rfl (lv_at hl 0 rfl) ?_
      refine x_iload_n B dX3_readPiece_121 rfl (lv_at hl 1 rfl) ?_
      refine x_iconst (v := (nI 1)) B dX3_readPiece_122 (by decide) ?_
      refine x_iadd B dX3_readPiece_123 ?_
      refine x_iload_n B dX3_readPiece_124 rfl (lv_at hl 2 rfl) ?_
      obtain ⟨r18, f17, c16, hf⟩ := bn2_some hf
      refine x_callV0 (rest := []) B (hureadBracket _ _ _ c16) ⟨rfl, rfl⟩ (ho.at0 (N := N) rfl).lt (ho.at0 (N := N) rfl).2 rfl (by decide) q_831 q_833 q_6 (by rw [hR]; exact cw_X3_readPiece_X3_readBracket) rfl rfl hl.1 (Nat.le_of_ble_eq_true rfl) dX3_readPiece_125 ⟨Nat.zero_le _, Nat.zero_le _⟩ ?_
      refine x_if_eq (tgt := 135) B dX3_readPiece_128 (by decide) (fun h19 => ?_) (fun h19 => ?_)
      · have hf := ip h19 hf
        refine x_iconst (v := (nI 0)) B dX3_readPiece_135 (by decide) ?_
        obtain ⟨rfl, rfl⟩ := rt2 hf
        exact x_zret B (by decide) dX3_readPiece_136
      · have hf := iq h19 hf
        refine x_iconst (v := (nI 1)) B dX3_readPiece_131 (by decide) ?_
        refine x_goto (tgt := 136) B dX3_readPiece_132 (by decide) ?_
        obtain ⟨rfl, rfl⟩ := rt2 hf
        exact x_zret B (by decide) dX3_readPiece_136
  · have hf := iq h14 hf
    refine x_iconst (v := (nI 0)) B dX3_readPiece_135 (by decide) ?_
    obtain ⟨rfl, rfl⟩ := rt2 hf
    exact x_zret B (by decide) dX3_readPiece_136
def fX3_readPiece (n : Nat) (ureadBracket : Int32 → Int32 → Mm → Option (Int32 × Mm)) (ureadNot : Int32 → Int32 → Mm → Option (Int32 × Mm)) (o : Nat) (a1 : Int32) (a2 : Int32) (f : Mm) : Option (Int32 × Mm) :=
  if (f (o + 1) 2) = (-3 : Int32) then (
  fX3_readPiece_19 n ureadBracket ureadNot o f) else (
  bn (fX3_isNameOpen n o f) fun r10 =>
  if r10 = 0 then (
  if (f (o + 1) 2) = (nI 33) then (
  if (nI 8) ≤ a2 then (
  fX3_readPiece_102 n ureadBracket ureadNot o a1 a2 f) else (
  bn2 (ureadNot a1 (a2 + (nI 1)) f) fun r22 f21 =>
  gd (zb r22) <|
  some (r22, f21))) else (
  fX3_readPiece_102 n ureadBracket ureadNot o a1 a2 f)) else (
  fX3_readPiece_19 n ureadBracket ureadNot o f))
set_option maxHeartbeats 4000000 in
set_option maxRecDepth 100000 in
theorem kX3_readPiece {l : Launch} {G : GE} {N : Nat} {f m : Mm} {n : Nat} {ureadBracket : Int32 → Int32 → Mm → Option (Int32 × Mm)} {ureadNot : Int32 → Int32 → Mm → Option (Int32 × Mm)} {o : Nat} {a1 : Int32} {a2 : Int32} {d : Nat} {r : Int32} {g : Mm} (ho : rg 3 o) (hureadBracket : ∀ (a1 a2 : Int32) (mm : Mm) {r : Int32} {g : Mm}, ureadBracket a1 a2 mm = some (r, g) → MT l G yX3_readBracket cX3_readBracket 3 (some .boolean) (rmG d) [.ref (gz G + o), .int a1, .int a2] N mm m (some (.int r)) N g m) (hureadNot : ∀ (a1 a2 : Int32) (mm : Mm) {r : Int32} {g : Mm}, ureadNot a1 a2 mm = some (r, g) → MT l G yX3_readNot cX3_readNot 3 (some .boolean) (rmG d) [.ref (gz G + o), .int a1, .int a2] N mm m (some (.int r)) N g m) (hf : fX3_readPiece n ureadBracket ureadNot o a1 a2 f = some (r, g)) : MT l G yX3_readPiece cX3_readPiece 3 (some .boolean) (rmG (d + 1)) [.ref (gz G + o), .int a1, .int a2] N f m (some (.int r)) N g m := by
  unfold fX3_readPiece at hf
  refine MT.of (by decide) (Nat.le_of_ble_eq_true rfl) (fun V ls hV hR B hl => ?_)
  subst hV
  have B : CX V G cX3_readPiece 3 "FluxWatch$LawReader" (some .boolean) := B
  have hl : lv_has ls 3 [(0, .ref (gz G + o)), (1, .int a1), (2, .int a2)] := hl
  show WX V G N f m 0 0 (QQ V G (some (.int r)) N g m 0 0) 0 ls []
  refine x_aload_n B dX3_readPiece_0 rfl (lv_at hl 0 rfl) ?_
  refine y_getFs (C := RX3) (T := TX3) (NN := 5) (d := 1) B (ho.at0 rfl) inX3 rfl (j := 0) (by decide) q_338 rfl rfl (by decide) dX3_readPiece_1 ?_
  refine y_getFi (C := RX9) (T := TX9) (NN := 6) B ((rs_3_1_9 ho).at0 rfl) inX9 rfl (j := 2) (by decide) q_319 rfl rfl dX3_readPiece_4 ?_
  refine x_bipush (v := (-3 : Int32)) B dX3_readPiece_7 (by decide) ?_
  refine x_icmp_eq (tgt := 19) B dX3_readPiece_9 (by decide) (fun h1 => ?_) (fun h1 => ?_)
  · have hf := ip h1 hf
    exact fX3_readPiece_19_ok B hR ho hureadBracket hureadNot  (lv_sub hl [0] rfl) hf
  · have hf := iq h1 hf
    refine x_aload_n B dX3_readPiece_12 rfl (lv_at hl 0 rfl) ?_
    obtain ⟨r10, c9, hf⟩ := bn_some hf
    refine x_callV0 (rest := []) B (kX3_isNameOpen ho c9) ⟨rfl, rfl⟩ (ho.at0 (N := N) rfl).lt (ho.at0 (N := N) rfl).2 rfl (by decide) q_819 q_821 q_3 (by rw [hR]; exact cw_X3_readPiece_X3_isNameOpen) rfl rfl hl.1 (Nat.le_of_ble_eq_true rfl) dX3_readPiece_13 ⟨Nat.zero_le _, Nat.zero_le _⟩ ?_
    refine x_if_eq (tgt := 75) B dX3_readPiece_16 (by decide) (fun h11 => ?_) (fun h11 => ?_)
    · have hf := ip h11 hf
      refine x_aload_n B dX3_readPiece_75 rfl (lv_at hl 0 rfl) ?_
      refine y_getFs (C := RX3) (T := TX3) (NN := 5) (d := 1) B (ho.at0 rfl) inX3 rfl (j := 0) (by decide) q_338 rfl rfl (by decide) dX3_readPiece_76 ?_
      refine y_getFi (C := RX9) (T := TX9) (NN := 6) B ((rs_3_1_9 ho).at0 rfl) inX9 rfl (j := 2) (by decide) q_319 rfl rfl dX3_readPiece_79 ?_
      refine x_bipush (v := (nI 33)) B dX3_readPiece_82 (by decide) ?_
      refine x_icmp_ne (tgt := 102) B dX3_readPiece_84 (by decide) (fun h12 => ?_) (fun h12 => ?_)
      · have hf := ip h12 hf
        refine x_iload_n B dX3_readPiece_87 rfl (lv_at hl 2 rfl) ?_
        refine x_bipush (v := (nI 8)) B dX3_readPiece_88 (by decide) ?_
        refine x_icmp_ge (tgt := 102) B dX3_readPiece_90 (by decide) (fun h13 => ?_) (fun h13 => ?_)
        · have hf := ip h13 hf
          exact fX3_readPiece_102_ok B hR ho hureadBracket hureadNot  hl hf
        · have hf := iq h13 hf
          refine x_aload_n B dX3_readPiece_93 rfl (lv_at hl 0 rfl) ?_
          refine x_iload_n B dX3_readPiece_94 rfl (lv_at hl 1 rfl) ?_
          refine x_iload_n B dX3_readPiece_95 rfl (lv_at hl 2 rfl) ?_
          refine x_iconst (v := (nI 1)) B dX3_readPiece_96 (by decide) ?_
          refine x_iadd B dX3_readPiece_97 ?_
          obtain ⟨r22, f21, c20, hf⟩ := bn2_some hf
          refine x_callV0 (rest := []) B (hureadNot _ _ _ c20) ⟨rfl, rfl⟩ (ho.at0 (N := N) rfl).lt (ho.at0 (N := N) rfl).2 rfl (by decide) q_827 q_829 q_5 (by rw [hR]; exact cw_X3_readPiece_X3_readNot) rfl rfl hl.1 (Nat.le_of_ble_eq_true rfl) dX3_readPiece_98 ⟨Nat.zero_le _, Nat.zero_le _⟩ ?_
          obtain ⟨h23, hf⟩ := gd_some hf
          obtain ⟨rfl, rfl⟩ := rt2 hf
          exact x_zret B h23 dX3_readPiece_101
      · have hf := iq h12 hf
        exact fX3_readPiece_102_ok B hR ho hureadBracket hureadNot  hl hf
    · have hf := iq h11 hf
      exact fX3_readPiece_19_ok B hR ho hureadBracket hureadNot  (lv_sub hl [0] rfl) hf
set_option maxHeartbeats 4000000 in
set_option maxRecDepth 100000 in
theorem cw_X3_readLevel_X3_addPiece {d : Nat} : cwB (rmG (d + 1)) (rmX3_addPiece) yX3_addPiece cX3_addPiece 2 none 1 := ⟨q_826, q_54, by decide, by simp only [rmG, rmX3_addPiece]; omega⟩
set_option maxHeartbeats 4000000 in
set_option maxRecDepth 100000 in
theorem cw_X3_readLevel_X3_levelOf {d : Nat} : cwB (rmG (d + 1)) (rmX3_levelOf) yX3_levelOf cX3_levelOf 1 (some .int) 1 := ⟨q_837, q_54, by decide, by simp only [rmG, rmX3_levelOf]; omega⟩
set_option maxHeartbeats 4000000 in
set_option maxRecDepth 100000 in
theorem cw_X3_readLevel_X3_readLevel {d : Nat} : cwB (rmG (d + 1)) (rmG d) yX3_readLevel cX3_readLevel 7 (some .boolean) 3 := ⟨q_814, q_54, by decide, by simp only [rmG]; omega⟩
set_option maxHeartbeats 4000000 in
set_option maxRecDepth 100000 in
theorem cw_X3_readLevel_X3_readPiece {d : Nat} : cwB (rmG (d + 1)) (rmG d) yX3_readPiece cX3_readPiece 3 (some .boolean) 2 := ⟨q_818, q_54, by decide, by simp only [rmG]; omega⟩
set_option maxHeartbeats 4000000 in
set_option maxRecDepth 100000 in
theorem cw_X3_readLevel_X9_openNext {d : Nat} : cwB (rmG (d + 1)) (rmX9_openNext) yX9_openNext cX9_openNext 3 none 0 := ⟨q_734, q_55, by decide, by simp only [rmG, rmX9_openNext]; omega⟩
def fX3_readLevel_42 (n : Nat) (ureadLevel : Int32 → Int32 → Int32 → Mm → Option (Int32 × Mm)) (ureadPiece : Int32 → Int32 → Mm → Option (Int32 × Mm)) (o : Nat)  (k42 : Int32 → Int32 → Int32 → Int32 → Int32 → Mm → Option (Int32 × Mm)) (x1 : Int32) (x2 : Int32) (x3 : Int32) (x4 : Int32) (x5 : Int32) (f : Mm) : Option (Int32 × Mm) :=
  if x4 ≤ x5 then (
  some ((nI 1), f)) else (
  bn (fX3_levelOf n (f (o + 1) 2)) fun r9 =>
  if r9 = x1 then (
  bn (fX9_openNext n (o + 1) f) fun f12 =>
  bn2 (ureadLevel (x1 + (nI 1)) x2 x3 f12) fun r15 f14 =>
  if r15 = 0 then (
  some ((nI 0), f14)) else (
  bn (fX3_addPiece n o ((nI 10000) + (f (o + 1) 2)) f14) fun f18 =>
  k42 x1 x2 x3 x4 (x5 + (nI 1)) f18)) else (
  some ((nI 1), f)))
def fX3_readLevel_42L (n : Nat) (ureadLevel : Int32 → Int32 → Int32 → Mm → Option (Int32 × Mm)) (ureadPiece : Int32 → Int32 → Mm → Option (Int32 × Mm)) (o : Nat)  : Nat → Int32 → Int32 → Int32 → Int32 → Int32 → Mm → Option (Int32 × Mm)
  | 0 => fun _ _ _ _ _ _ => none
  | q + 1 => fX3_readLevel_42 n ureadLevel ureadPiece o  (fX3_readLevel_42L n ureadLevel ureadPiece o  q)
set_option maxHeartbeats 4000000 in
set_option maxRecDepth 100000 in
theorem fX3_readLevel_42_ok {V : VE} {G : GE} {N : Nat} {f m : Mm} {n : Nat} {ls : Array Slot} {ureadLevel : Int32 → Int32 → Int32 → Mm → Option (Int32 × Mm)} {ureadPiece : Int32 → Int32 → Mm → Option (Int32 × Mm)} {o : Nat} {r : Int32} {g : Mm} {d : Nat} (B : CX V G cX3_readLevel 7 "FluxWatch$LawReader" (some .boolean)) (hR : V.2.2.2.1 = rmG (d + 1)) (ho : rg 3 o) (hureadLevel : ∀ (a1 a2 a3 : Int32) (mm : Mm) {r : Int32} {g : Mm}, ureadLevel a1 a2 a3 mm = some (r, g) → MT V.2.1 G yX3_readLevel cX3_readLevel 7 (some .boolean) (rmG d) [.ref (gz G + o), .int a1, .int a2, .int a3] N mm m (some (.int r)) N g m) (hureadPiece : ∀ (a1 a2 : Int32) (mm : Mm) {r : Int32} {g : Mm}, ureadPiece a1 a2 mm = some (r, g) → MT V.2.1 G yX3_readPiece cX3_readPiece 3 (some .boolean) (rmG d) [.ref (gz G + o), .int a1, .int a2] N mm m (some (.int r)) N g m)  {k42 : Int32 → Int32 → Int32 → Int32 → Int32 → Mm → Option (Int32 × Mm)} (hk42 : ∀ (x1 : Int32) (x2 : Int32) (x3 : Int32) (x4 : Int32) (x5 : Int32) (mm : Mm) (ls : Array Slot),  lv_has ls 7 [(0, .ref (gz G + o)), (1, .int x1), (2, .int x2), (3, .int x3), (4, .int x4), (5, .int x5)] → k42 x1 x2 x3 x4 x5 mm = some (r, g) → WX V G N mm m 0 0 (QQ V G (some (.int r)) N g m 0 0) 42 ls []) {x1 : Int32} {x2 : Int32} {x3 : Int32} {x4 : Int32} {x5 : Int32}  (hl : lv_has ls 7 [(0, .ref (gz G + o)), (1, .int x1), (2, .int x2), (3, .int x3), (4, .int x4), (5, .int x5)]) (hf : fX3_readLevel_42 n ureadLevel ureadPiece o k42 x1 x2 x3 x4 x5 f = some (r, g)) : WX V G N f m 0 0 (QQ V G (some (.int r)) N g m 0 0) 42 ls [] := by
  unfold fX3_readLevel_42 at hf
  refine x_iload B dX3_readLevel_42 (lv_at hl 5 rfl) ?_
  refine x_iload B dX3_readLevel_44 (lv_at hl 4 rfl) ?_
  refine x_icmp_ge (tgt := 109) B dX3_readLevel_46 (by decide) (fun h7 => ?_) (fun h7 => ?_)
  · have hf := ip h7 hf
    refine x_iconst (v := (nI 1)) B dX3_readLevel_109 (by decide) ?_
    obtain ⟨rfl, rfl⟩ := rt2 hf
    exact x_zret B (by decide) dX3_readLevel_110
  · have hf := iq h7 hf
    refine x_aload_n B dX3_readLevel_49 rfl (lv_at hl 0 rfl) ?_
    refine y_getFs (C := RX3) (T := TX3) (NN := 5) (d := 1) B (ho.at0 rfl) inX3 rfl (j := 0) (by decide) q_338 rfl rfl (by decide) dX3_readLevel_50 ?_
    refine y_getFi (C := RX9) (T := TX9) (NN := 6) B ((rs_3_1_9 ho).at0 rfl) inX9 rfl (j := 2) (by decide) q_319 rfl rfl dX3_readLevel_53 ?_
    obtain ⟨r9, c8, hf⟩ := bn_some hf
    refine x_callS0 (rest := []) B (kX3_levelOf c8) ⟨rfl, rfl⟩ q_835 q_836 (by rw [hR]; exact cw_X3_readLevel_X3_levelOf) rfl rfl hl.1 (Nat.le_of_ble_eq_true rfl) dX3_readLevel_56 ⟨Nat.zero_le _, Nat.zero_le _⟩ ?_
    refine x_iload_n B dX3_readLevel_59 rfl (lv_at hl 1 rfl) ?_
    refine x_icmp_ne (tgt := 109) B dX3_readLevel_60 (by decide) (fun h10 => ?_) (fun h10 => ?_)
    · have hf := ip h10 hf
      refine x_aload_n B dX3_readLevel_63 rfl (lv_at hl 0 rfl) ?_
      refine y_getFs (C := RX3) (T := TX3) (NN := 5) (d := 1) B (ho.at0 rfl) inX3 rfl (j := 0) (by decide) q_338 rfl rfl (by decide) dX3_readLevel_64 ?_
      refine y_getFi (C := RX9) (T := TX9) (NN := 6) B ((rs_3_1_9 ho).at0 rfl) inX9 rfl (j := 2) (by decide) q_319 rfl rfl dX3_readLevel_67 ?_
      refine x_istore (lv' := [(6, .int (f (o + 1) 2)), (0, .ref (gz G + o)), (1, .int x1), (2, .int x2), (3, .int x3), (4, .int x4), (5, .int x5)]) B dX3_readLevel_70 hl (by decide) rfl (fun ls hl => ?_)
      refine x_aload_n B dX3_readLevel_72 rfl (lv_at hl 1 rfl) ?_
      refine y_getFs (C := RX3) (T := TX3) (NN := 5) (d := 1) B (ho.at0 rfl) inX3 rfl (j := 0) (by decide) q_338 rfl rfl (by decide) dX3_readLevel_73 ?_
      obtain ⟨f12, c11, hf⟩ := bn_some hf
      refine x_callV0 (rest := []) B (kX9_openNext (rs_3_1_9 ho) c11) ⟨rfl, rfl⟩ ((rs_3_1_9 ho).at0 (N := N) rfl).lt ((rs_3_1_9 ho).at0 (N := N) rfl).2 rfl (by decide) q_810 q_732 q_733 (by rw [hR]; exact cw_X3_readLevel_X9_openNext) rfl rfl hl.1 (Nat.le_of_ble_eq_true rfl) dX3_readLevel_76 ⟨Nat.zero_le _, Nat.zero_le _⟩ ?_
      refine x_aload_n B dX3_readLevel_79 rfl (lv_at hl 1 rfl) ?_
      refine x_iload_n B dX3_readLevel_80 rfl (lv_at hl 2 rfl) ?_
      refine x_iconst (v := (nI 1)) B dX3_readLevel_81 (by decide) ?_
      refine x_iadd B dX3_readLevel_82 ?_
      refine x_iload_n B dX3_readLevel_83 rfl (lv_at hl 3 rfl) ?_
      refine x_iload_n B dX3_readLevel_84 rfl (lv_at hl 4 rfl) ?_
      obtain ⟨r15, f14, c13, hf⟩ := bn2_some hf
      refine x_callV0 (rest := []) B (hureadLevel _ _ _ _ c13) ⟨rfl, rfl⟩ (ho.at0 (N := N) rfl).lt (ho.at0 (N := N) rfl).2 rfl (by decide) q_811 q_813 q_1 (by rw [hR]; exact cw_X3_readLevel_X3_readLevel) rfl rfl hl.1 (Nat.le_of_ble_eq_true rfl) dX3_readLevel_85 ⟨Nat.zero_le _, Nat.zero_le _⟩ ?_
      refine x_if_ne (tgt := 93) B dX3_readLevel_88 (by decide) (fun h16 => ?_) (fun h16 => ?_)
      · have hf := ip h16 hf
        refine x_iconst (v := (nI 0)) B dX3_readLevel_91 (by decide) ?_
        obtain ⟨rfl, rfl⟩ := rt2 hf
        exact x_zret B (by decide) dX3_readLevel_92
      · have hf := iq h16 hf
        refine x_aload_n B dX3_readLevel_93 rfl (lv_at hl 1 rfl) ?_
        refine x_sipush (v := (nI 10000)) B dX3_readLevel_94 (by decide) ?_
        refine x_iload B dX3_readLevel_97 (lv_at hl 0 rfl) ?_
        refine x_iadd B dX3_readLevel_99 ?_
        obtain ⟨f18, c17, hf⟩ := bn_some hf
        refine x_callV0 (rest := []) B (kX3_addPiece ho c17) ⟨rfl, rfl⟩ (ho.at0 (N := N) rfl).lt (ho.at0 (N := N) rfl).2 rfl (by decide) q_823 q_825 q_4 (by rw [hR]; exact cw_X3_readLevel_X3_addPiece) rfl rfl hl.1 (Nat.le_of_ble_eq_true rfl) dX3_readLevel_100 ⟨Nat.zero_le _, Nat.zero_le _⟩ ?_
        refine x_iinc (k := 6) (v := (nI 1)) (lv' := [(5, .int (x5 + (nI 1))), (6, .int (f (o + 1) 2)), (0, .ref (gz G + o)), (1, .int x1), (2, .int x2), (3, .int x3), (4, .int x4)]) B dX3_readLevel_103 hl rfl (by decide) (by decide) rfl (fun ls hl => ?_)
        refine x_goto (tgt := 42) B dX3_readLevel_106 (by decide) ?_
        exact hk42 _ _ _ _ _ _ _ (lv_sub hl [2, 3, 4, 5, 6, 0] rfl) hf
    · have hf := iq h10 hf
      refine x_iconst (v := (nI 1)) B dX3_readLevel_109 (by decide) ?_
      obtain ⟨rfl, rfl⟩ := rt2 hf
      exact x_zret B (by decide) dX3_readLevel_110
set_option maxHeartbeats 4000000 in
set_option maxRecDepth 100000 in
theorem fX3_readLevel_42L_ok {V : VE} {G : GE} {N : Nat} {m : Mm} {n : Nat}  {ureadLevel : Int32 → Int32 → Int32 → Mm → Option (Int32 × Mm)} {ureadPiece : Int32 → Int32 → Mm → Option (Int32 × Mm)} {o : Nat} {r : Int32} {g : Mm} {d : Nat} (B : CX V G cX3_readLevel 7 "FluxWatch$LawReader" (some .boolean)) (hR : V.2.2.2.1 = rmG (d + 1)) (ho : rg 3 o) (hureadLevel : ∀ (a1 a2 a3 : Int32) (mm : Mm) {r : Int32} {g : Mm}, ureadLevel a1 a2 a3 mm = some (r, g) → MT V.2.1 G yX3_readLevel cX3_readLevel 7 (some .boolean) (rmG d) [.ref (gz G + o), .int a1, .int a2, .int a3] N mm m (some (.int r)) N g m) (hureadPiece : ∀ (a1 a2 : Int32) (mm : Mm) {r : Int32} {g : Mm}, ureadPiece a1 a2 mm = some (r, g) → MT V.2.1 G yX3_readPiece cX3_readPiece 3 (some .boolean) (rmG d) [.ref (gz G + o), .int a1, .int a2] N mm m (some (.int r)) N g m)  : ∀ (q : Nat) (x1 : Int32) (x2 : Int32) (x3 : Int32) (x4 : Int32) (x5 : Int32) (mm : Mm) (ls : Array Slot),  lv_has ls 7 [(0, .ref (gz G + o)), (1, .int x1), (2, .int x2), (3, .int x3), (4, .int x4), (5, .int x5)] → fX3_readLevel_42L n ureadLevel ureadPiece o q x1 x2 x3 x4 x5 mm = some (r, g) → WX V G N mm m 0 0 (QQ V G (some (.int r)) N g m 0 0) 42 ls [] := by
  intro q
  induction q with
  | zero =>
    intro x1 x2 x3 x4 x5 mm ls hl hf
    cases hf
  | succ q ih =>
    intro x1 x2 x3 x4 x5 mm ls hl hf
    exact fX3_readLevel_42_ok B hR ho hureadLevel hureadPiece  ih  hl hf
def fX3_readLevel_37 (n : Nat) (ureadLevel : Int32 → Int32 → Int32 → Mm → Option (Int32 × Mm)) (ureadPiece : Int32 → Int32 → Mm → Option (Int32 × Mm)) (o : Nat)  (x1 : Int32) (x2 : Int32) (x3 : Int32) (s0 : Int32) (f : Mm) : Option (Int32 × Mm) :=
  fX3_readLevel_42L n ureadLevel ureadPiece o n x1 x2 x3 s0 (nI 0) f
set_option maxHeartbeats 4000000 in
set_option maxRecDepth 100000 in
theorem fX3_readLevel_37_ok {V : VE} {G : GE} {N : Nat} {f m : Mm} {n : Nat} {ls : Array Slot} {ureadLevel : Int32 → Int32 → Int32 → Mm → Option (Int32 × Mm)} {ureadPiece : Int32 → Int32 → Mm → Option (Int32 × Mm)} {o : Nat} {r : Int32} {g : Mm} {d : Nat} (B : CX V G cX3_readLevel 7 "FluxWatch$LawReader" (some .boolean)) (hR : V.2.2.2.1 = rmG (d + 1)) (ho : rg 3 o) (hureadLevel : ∀ (a1 a2 a3 : Int32) (mm : Mm) {r : Int32} {g : Mm}, ureadLevel a1 a2 a3 mm = some (r, g) → MT V.2.1 G yX3_readLevel cX3_readLevel 7 (some .boolean) (rmG d) [.ref (gz G + o), .int a1, .int a2, .int a3] N mm m (some (.int r)) N g m) (hureadPiece : ∀ (a1 a2 : Int32) (mm : Mm) {r : Int32} {g : Mm}, ureadPiece a1 a2 mm = some (r, g) → MT V.2.1 G yX3_readPiece cX3_readPiece 3 (some .boolean) (rmG d) [.ref (gz G + o), .int a1, .int a2] N mm m (some (.int r)) N g m)  {x1 : Int32} {x2 : Int32} {x3 : Int32} {s0 : Int32}  (hl : lv_has ls 7 [(0, .ref (gz G + o)), (1, .int x1), (2, .int x2), (3, .int x3)]) (hf : fX3_readLevel_37 n ureadLevel ureadPiece o x1 x2 x3 s0 f = some (r, g)) : WX V G N f m 0 0 (QQ V G (some (.int r)) N g m 0 0) 37 ls [.int s0] := by
  unfold fX3_readLevel_37 at hf
  refine x_istore (lv' := [(4, .int s0), (0, .ref (gz G + o)), (1, .int x1), (2, .int x2), (3, .int x3)]) B dX3_readLevel_37 hl (by decide) rfl (fun ls hl => ?_)
  refine x_iconst (v := (nI 0)) B dX3_readLevel_39 (by decide) ?_
  refine x_istore (lv' := [(5, .int (nI 0)), (4, .int s0), (0, .ref (gz G + o)), (1, .int x1), (2, .int x2), (3, .int x3)]) B dX3_readLevel_40 hl (by decide) rfl (fun ls hl => ?_)
  exact fX3_readLevel_42L_ok B hR ho hureadLevel hureadPiece  n _ _ _ _ _ _ _ (lv_sub hl [2, 3, 4, 5, 1, 0] rfl) hf
def fX3_readLevel (n : Nat) (ureadLevel : Int32 → Int32 → Int32 → Mm → Option (Int32 × Mm)) (ureadPiece : Int32 → Int32 → Mm → Option (Int32 × Mm)) (o : Nat) (a1 : Int32) (a2 : Int32) (a3 : Int32) (f : Mm) : Option (Int32 × Mm) :=
  if a1 ≤ (nI 4) then (
  bn2 (ureadLevel (a1 + (nI 1)) a2 a3 f) fun r4 f3 =>
  if r4 = 0 then (
  some ((nI 0), f3)) else (
  if a1 = (nI 2) then (
  fX3_readLevel_37 n ureadLevel ureadPiece o a1 a2 a3 (nI 1) f3) else (
  fX3_readLevel_37 n ureadLevel ureadPiece o a1 a2 a3 (nI 96) f3))) else (
  bn2 (ureadPiece a2 a3 f) fun r21 f20 =>
  gd (zb r21) <|
  some (r21, f20))
set_option maxHeartbeats 4000000 in
set_option maxRecDepth 100000 in
theorem kX3_readLevel {l : Launch} {G : GE} {N : Nat} {f m : Mm} {n : Nat} {ureadLevel : Int32 → Int32 → Int32 → Mm → Option (Int32 × Mm)} {ureadPiece : Int32 → Int32 → Mm → Option (Int32 × Mm)} {o : Nat} {a1 : Int32} {a2 : Int32} {a3 : Int32} {d : Nat} {r : Int32} {g : Mm} (ho : rg 3 o) (hureadLevel : ∀ (a1 a2 a3 : Int32) (mm : Mm) {r : Int32} {g : Mm}, ureadLevel a1 a2 a3 mm = some (r, g) → MT l G yX3_readLevel cX3_readLevel 7 (some .boolean) (rmG d) [.ref (gz G + o), .int a1, .int a2, .int a3] N mm m (some (.int r)) N g m) (hureadPiece : ∀ (a1 a2 : Int32) (mm : Mm) {r : Int32} {g : Mm}, ureadPiece a1 a2 mm = some (r, g) → MT l G yX3_readPiece cX3_readPiece 3 (some .boolean) (rmG d) [.ref (gz G + o), .int a1, .int a2] N mm m (some (.int r)) N g m) (hf : fX3_readLevel n ureadLevel ureadPiece o a1 a2 a3 f = some (r, g)) : MT l G yX3_readLevel cX3_readLevel 7 (some .boolean) (rmG (d + 1)) [.ref (gz G + o), .int a1, .int a2, .int a3] N f m (some (.int r)) N g m := by
  unfold fX3_readLevel at hf
  refine MT.of (by decide) (Nat.le_of_ble_eq_true rfl) (fun V ls hV hR B hl => ?_)
  subst hV
  have B : CX V G cX3_readLevel 7 "FluxWatch$LawReader" (some .boolean) := B
  have hl : lv_has ls 7 [(0, .ref (gz G + o)), (1, .int a1), (2, .int a2), (3, .int a3)] := hl
  show WX V G N f m 0 0 (QQ V G (some (.int r)) N g m 0 0) 0 ls []
  refine x_iload_n B dX3_readLevel_0 rfl (lv_at hl 1 rfl) ?_
  refine x_iconst (v := (nI 4)) B dX3_readLevel_1 (by decide) ?_
  refine x_icmp_le (tgt := 12) B dX3_readLevel_2 (by decide) (fun h1 => ?_) (fun h1 => ?_)
  · have hf := ip h1 hf
    refine x_aload_n B dX3_readLevel_12 rfl (lv_at hl 0 rfl) ?_
    refine x_iload_n B dX3_readLevel_13 rfl (lv_at hl 1 rfl) ?_
    refine x_iconst (v := (nI 1)) B dX3_readLevel_14 (by decide) ?_
    refine x_iadd B dX3_readLevel_15 ?_
    refine x_iload_n B dX3_readLevel_16 rfl (lv_at hl 2 rfl) ?_
    refine x_iload_n B dX3_readLevel_17 rfl (lv_at hl 3 rfl) ?_
    obtain ⟨r4, f3, c2, hf⟩ := bn2_some hf
    refine x_callV0 (rest := []) B (hureadLevel _ _ _ _ c2) ⟨rfl, rfl⟩ (ho.at0 (N := N) rfl).lt (ho.at0 (N := N) rfl).2 rfl (by decide) q_811 q_813 q_1 (by rw [hR]; exact cw_X3_readLevel_X3_readLevel) rfl rfl hl.1 (Nat.le_of_ble_eq_true rfl) dX3_readLevel_18 ⟨Nat.zero_le _, Nat.zero_le _⟩ ?_
    refine x_if_ne (tgt := 26) B dX3_readLevel_21 (by decide) (fun h5 => ?_) (fun h5 => ?_)
    · have hf := ip h5 hf
      refine x_iconst (v := (nI 0)) B dX3_readLevel_24 (by decide) ?_
      obtain ⟨rfl, rfl⟩ := rt2 hf
      exact x_zret B (by decide) dX3_readLevel_25
    · have hf := iq h5 hf
      refine x_iload_n B dX3_readLevel_26 rfl (lv_at hl 1 rfl) ?_
      refine x_iconst (v := (nI 2)) B dX3_readLevel_27 (by decide) ?_
      refine x_icmp_ne (tgt := 35) B dX3_readLevel_28 (by decide) (fun h6 => ?_) (fun h6 => ?_)
      · have hf := ip h6 hf
        refine x_iconst (v := (nI 1)) B dX3_readLevel_31 (by decide) ?_
        refine x_goto (tgt := 37) B dX3_readLevel_32 (by decide) ?_
        exact fX3_readLevel_37_ok B hR ho hureadLevel hureadPiece  hl hf
      · have hf := iq h6 hf
        refine x_bipush (v := (nI 96)) B dX3_readLevel_35 (by decide) ?_
        exact fX3_readLevel_37_ok B hR ho hureadLevel hureadPiece  hl hf
  · have hf := iq h1 hf
    refine x_aload_n B dX3_readLevel_5 rfl (lv_at hl 0 rfl) ?_
    refine x_iload_n B dX3_readLevel_6 rfl (lv_at hl 2 rfl) ?_
    refine x_iload_n B dX3_readLevel_7 rfl (lv_at hl 3 rfl) ?_
    obtain ⟨r21, f20, c19, hf⟩ := bn2_some hf
    refine x_callV0 (rest := []) B (hureadPiece _ _ _ c19) ⟨rfl, rfl⟩ (ho.at0 (N := N) rfl).lt (ho.at0 (N := N) rfl).2 rfl (by decide) q_815 q_817 q_2 (by rw [hR]; exact cw_X3_readLevel_X3_readPiece) rfl rfl hl.1 (Nat.le_of_ble_eq_true rfl) dX3_readLevel_8 ⟨Nat.zero_le _, Nat.zero_le _⟩ ?_
    obtain ⟨h22, hf⟩ := gd_some hf
    obtain ⟨rfl, rfl⟩ := rt2 hf
    exact x_zret B h22 dX3_readLevel_11
def rd (n o : Nat) : Nat → (Int32 → Int32 → Int32 → Mm → Option (Int32 × Mm)) × (Int32 → Int32 → Mm → Option (Int32 × Mm)) × (Int32 → Int32 → Mm → Option (Int32 × Mm)) × (Int32 → Int32 → Mm → Option (Int32 × Mm))
  | 0 => (fun _ _ _ _ => none, fun _ _ _ => none, fun _ _ _ => none, fun _ _ _ => none)
  | d + 1 => (fX3_readLevel n (rd n o d).1 (rd n o d).2.1 o, fX3_readPiece n (rd n o d).2.2.2 (rd n o d).2.2.1 o, fX3_readNot n (rd n o d).2.1 o, fX3_readBracket n (rd n o d).1 o)
set_option maxHeartbeats 4000000 in
set_option maxRecDepth 100000 in
theorem rd_ok {l : Launch} {G : GE} {N : Nat} {m : Mm} {n o : Nat} (ho : rg 3 o) : ∀ d : Nat, (∀ (a1 a2 a3 : Int32) (mm : Mm) {r : Int32} {g : Mm}, (rd n o d).1 a1 a2 a3 mm = some (r, g) → MT l G yX3_readLevel cX3_readLevel 7 (some .boolean) (rmG d) [.ref (gz G + o), .int a1, .int a2, .int a3] N mm m (some (.int r)) N g m) ∧ (∀ (a1 a2 : Int32) (mm : Mm) {r : Int32} {g : Mm}, (rd n o d).2.1 a1 a2 mm = some (r, g) → MT l G yX3_readPiece cX3_readPiece 3 (some .boolean) (rmG d) [.ref (gz G + o), .int a1, .int a2] N mm m (some (.int r)) N g m) ∧ (∀ (a1 a2 : Int32) (mm : Mm) {r : Int32} {g : Mm}, (rd n o d).2.2.1 a1 a2 mm = some (r, g) → MT l G yX3_readNot cX3_readNot 3 (some .boolean) (rmG d) [.ref (gz G + o), .int a1, .int a2] N mm m (some (.int r)) N g m) ∧ (∀ (a1 a2 : Int32) (mm : Mm) {r : Int32} {g : Mm}, (rd n o d).2.2.2 a1 a2 mm = some (r, g) → MT l G yX3_readBracket cX3_readBracket 3 (some .boolean) (rmG d) [.ref (gz G + o), .int a1, .int a2] N mm m (some (.int r)) N g m) := by
  intro d
  induction d with
  | zero => exact ⟨fun _ _ _ _ _ _ h => (by cases h), fun _ _ _ _ _ h => (by cases h), fun _ _ _ _ _ h => (by cases h), fun _ _ _ _ _ h => (by cases h)⟩
  | succ d ih => exact ⟨fun _ _ _ _ _ _ h => kX3_readLevel ho ih.1 ih.2.1 h, fun _ _ _ _ _ h => kX3_readPiece ho ih.2.2.2 ih.2.2.1 h, fun _ _ _ _ _ h => kX3_readNot ho ih.2.1 h, fun _ _ _ _ _ h => kX3_readBracket ho ih.1 h⟩
def fX3_readLevelC (n o : Nat) (a1 a2 a3 : Int32) (f : Mm) : Option (Int32 × Mm) := (rd n o 120).1 a1 a2 a3 f
theorem kX3_readLevelC {l : Launch} {G : GE} {N : Nat} {f m : Mm} {n o : Nat} {a1 a2 a3 : Int32} {r : Int32} {g : Mm} (ho : rg 3 o) (hf : fX3_readLevelC n o a1 a2 a3 f = some (r, g)) : MT l G yX3_readLevel cX3_readLevel 7 (some .boolean) (rmG 120) [.ref (gz G + o), .int a1, .int a2, .int a3] N f m (some (.int r)) N g m := (rd_ok ho 120).1 a1 a2 a3 f hf
def rmX9_openFirst : Room := { frames := 3, cells := 0, slots := 0, locals := 63 }
set_option maxHeartbeats 4000000 in
set_option maxRecDepth 100000 in
theorem cw_X9_openFirst_X9_openNext : cwB rmX9_openFirst rmX9_openNext yX9_openNext cX9_openNext 3 none 0 := ⟨q_734, q_55, by decide, by decide⟩
def fX9_openFirst (n : Nat) (o : Nat) (f : Mm) : Option (Mm) :=
  lt (up f o 2 (-1 : Int32)) fun f1 =>
  lt (up f1 o 4 (nI 0)) fun f3 =>
  bn (fX9_openNext n o f3) fun f6 =>
  some f6
set_option maxHeartbeats 4000000 in
set_option maxRecDepth 100000 in
theorem kX9_openFirst {l : Launch} {G : GE} {N : Nat} {f m : Mm} {n : Nat} {o : Nat} {g : Mm} (ho : rg 9 o) (hf : fX9_openFirst n o f = some g) : MT l G yX9_openFirst cX9_openFirst 1 none rmX9_openFirst [.ref (gz G + o)] N f m none N g m := by
  unfold fX9_openFirst at hf
  refine MT.of (by decide) (Nat.le_of_ble_eq_true rfl) (fun V ls hV hR B hl => ?_)
  have B : CX V G cX9_openFirst 1 "FluxWatch$Tape" none := B
  have hl : lv_has ls 1 [(0, .ref (gz G + o))] := hl
  show WX V G N f m 0 0 (QQ V G none N g m 0 0) 0 ls []
  refine x_aload_n B dX9_openFirst_0 rfl (lv_at hl 0 rfl) ?_
  refine x_iconst (v := (-1 : Int32)) B dX9_openFirst_1 (by decide) ?_
  refine x_putF (C := RX9) (T := TX9) (NN := 6) (ty0 := tyX9) (ty := .int) B (ho.at0 rfl) inX9 tyX9_ok nmX9 rfl (j := 2) (by decide) q_318 rfl rfl rfl rfl rfl rfl dX9_openFirst_2 (fun f1 e2 => ?_)
  have hf := lt_some hf e2
  refine x_aload_n B dX9_openFirst_5 rfl (lv_at hl 0 rfl) ?_
  refine x_iconst (v := (nI 0)) B dX9_openFirst_6 (by decide) ?_
  refine x_putF (C := RX9) (T := TX9) (NN := 6) (ty0 := tyX9) (ty := .int) B (ho.at0 rfl) inX9 tyX9_ok nmX9 rfl (j := 4) (by decide) q_322 rfl rfl rfl rfl rfl rfl dX9_openFirst_7 (fun f3 e4 => ?_)
  have hf := lt_some hf e4
  refine x_aload_n B dX9_openFirst_10 rfl (lv_at hl 0 rfl) ?_
  obtain ⟨f6, c5, hf⟩ := bn_some hf
  refine x_callV0 (rest := []) B (kX9_openNext ho c5) ⟨rfl, rfl⟩ (ho.at0 (N := N) rfl).lt (ho.at0 (N := N) rfl).2 rfl (by decide) q_731 q_732 q_733 (by rw [hR]; exact cw_X9_openFirst_X9_openNext) rfl rfl hl.1 (Nat.le_of_ble_eq_true rfl) dX9_openFirst_11 ⟨Nat.zero_le _, Nat.zero_le _⟩ ?_
  obtain rfl := rt1 hf
  exact x_vret B dX9_openFirst_14
def rmX3_readLaw : Room := { frames := 131, cells := 0, slots := 0, locals := 7626 }
set_option maxHeartbeats 4000000 in
set_option maxRecDepth 100000 in
theorem cw_X3_readLaw_X3_openKey : cwB rmX3_readLaw rmX3_openKey yX3_openKey cX3_openKey 1 (some .int) 0 := ⟨q_754, q_54, by decide, by decide⟩
set_option maxHeartbeats 4000000 in
set_option maxRecDepth 100000 in
theorem cw_X3_readLaw_X3_readLevel : cwB rmX3_readLaw (rmG 120) yX3_readLevel cX3_readLevel 7 (some .boolean) 3 := ⟨q_814, q_54, by decide, by decide⟩
set_option maxHeartbeats 4000000 in
set_option maxRecDepth 100000 in
theorem cw_X3_readLaw_X9_openFirst : cwB rmX3_readLaw rmX9_openFirst yX9_openFirst cX9_openFirst 1 none 0 := ⟨q_730, q_55, by decide, by decide⟩
set_option maxHeartbeats 4000000 in
set_option maxRecDepth 100000 in
theorem cw_X3_readLaw_X9_openNext : cwB rmX3_readLaw rmX9_openNext yX9_openNext cX9_openNext 3 none 0 := ⟨q_734, q_55, by decide, by decide⟩
def fX3_readLaw (n : Nat) (o : Nat) (f : Mm) : Option (Int32 × Mm) :=
  lt (up f o 2 (nI 0)) fun f1 =>
  lt (up f1 o 3 (nI 0)) fun f3 =>
  bn (fX9_openFirst n (o + 1) f3) fun f6 =>
  bn (fX3_openKey n o f6) fun r8 =>
  lt (up f6 o 4 r8) fun f9 =>
  if 0 ≤ (f9 o 4) then (
  bn (fX9_openNext n (o + 1) f9) fun f13 =>
  bn2 (fX3_readLevelC n o (nI 0) (nI 0) (nI 0) f13) fun r16 f15 =>
  if r16 = 0 then (
  some ((nI 0), f15)) else (
  if (f15 (o + 1) 2) = (-1 : Int32) then (
  some ((nI 1), f15)) else (
  some ((nI 0), f15)))) else (
  some ((nI 0), f9))
set_option maxHeartbeats 4000000 in
set_option maxRecDepth 100000 in
theorem kX3_readLaw {l : Launch} {G : GE} {N : Nat} {f m : Mm} {n : Nat} {o : Nat} {r : Int32} {g : Mm} (ho : rg 3 o) (hf : fX3_readLaw n o f = some (r, g)) : MT l G yX3_readLaw cX3_readLaw 1 (some .boolean) rmX3_readLaw [.ref (gz G + o)] N f m (some (.int r)) N g m := by
  unfold fX3_readLaw at hf
  refine MT.of (by decide) (Nat.le_of_ble_eq_true rfl) (fun V ls hV hR B hl => ?_)
  have B : CX V G cX3_readLaw 1 "FluxWatch$LawReader" (some .boolean) := B
  have hl : lv_has ls 1 [(0, .ref (gz G + o))] := hl
  show WX V G N f m 0 0 (QQ V G (some (.int r)) N g m 0 0) 0 ls []
  refine x_aload_n B dX3_readLaw_0 rfl (lv_at hl 0 rfl) ?_
  refine x_iconst (v := (nI 0)) B dX3_readLaw_1 (by decide) ?_
  refine x_putF (C := RX3) (T := TX3) (NN := 5) (ty0 := tyX3) (ty := .int) B (ho.at0 rfl) inX3 tyX3_ok nmX3 rfl (j := 2) (by decide) q_341 rfl rfl rfl rfl rfl rfl dX3_readLaw_2 (fun f1 e2 => ?_)
  have hf := lt_some hf e2
  refine x_aload_n B dX3_readLaw_5 rfl (lv_at hl 0 rfl) ?_
  refine x_iconst (v := (nI 0)) B dX3_readLaw_6 (by decide) ?_
  refine x_putF (C := RX3) (T := TX3) (NN := 5) (ty0 := tyX3) (ty := .int) B (ho.at0 rfl) inX3 tyX3_ok nmX3 rfl (j := 3) (by decide) q_342 rfl rfl rfl rfl rfl rfl dX3_readLaw_7 (fun f3 e4 => ?_)
  have hf := lt_some hf e4
  refine x_aload_n B dX3_readLaw_10 rfl (lv_at hl 0 rfl) ?_
  refine y_getFs (C := RX3) (T := TX3) (NN := 5) (d := 1) B (ho.at0 rfl) inX3 rfl (j := 0) (by decide) q_338 rfl rfl (by decide) dX3_readLaw_11 ?_
  obtain ⟨f6, c5, hf⟩ := bn_some hf
  refine x_callV0 (rest := []) B (kX9_openFirst (rs_3_1_9 ho) c5) ⟨rfl, rfl⟩ ((rs_3_1_9 ho).at0 (N := N) rfl).lt ((rs_3_1_9 ho).at0 (N := N) rfl).2 rfl (by decide) q_727 q_728 q_729 (by rw [hR]; exact cw_X3_readLaw_X9_openFirst) rfl rfl hl.1 (Nat.le_of_ble_eq_true rfl) dX3_readLaw_14 ⟨Nat.zero_le _, Nat.zero_le _⟩ ?_
  refine x_aload_n B dX3_readLaw_17 rfl (lv_at hl 0 rfl) ?_
  refine x_aload_n B dX3_readLaw_18 rfl (lv_at hl 0 rfl) ?_
  obtain ⟨r8, c7, hf⟩ := bn_some hf
  refine x_callV0 (rest := [.ref (gz G + o)]) B (kX3_openKey ho c7) ⟨rfl, rfl⟩ (ho.at0 (N := N) rfl).lt (ho.at0 (N := N) rfl).2 rfl (by decide) q_751 q_753 q_0 (by rw [hR]; exact cw_X3_readLaw_X3_openKey) rfl rfl hl.1 (Nat.le_of_ble_eq_true rfl) dX3_readLaw_19 ⟨Nat.zero_le _, Nat.zero_le _⟩ ?_
  refine x_putF (C := RX3) (T := TX3) (NN := 5) (ty0 := tyX3) (ty := .int) B (ho.at0 rfl) inX3 tyX3_ok nmX3 rfl (j := 4) (by decide) q_343 rfl rfl rfl rfl rfl rfl dX3_readLaw_22 (fun f9 e10 => ?_)
  have hf := lt_some hf e10
  refine x_aload_n B dX3_readLaw_25 rfl (lv_at hl 0 rfl) ?_
  refine y_getFi (C := RX3) (T := TX3) (NN := 5) B (ho.at0 rfl) inX3 rfl (j := 4) (by decide) q_343 rfl rfl dX3_readLaw_26 ?_
  refine x_if_ge (tgt := 34) B dX3_readLaw_29 (by decide) (fun h11 => ?_) (fun h11 => ?_)
  · have hf := ip h11 hf
    refine x_aload_n B dX3_readLaw_34 rfl (lv_at hl 0 rfl) ?_
    refine y_getFs (C := RX3) (T := TX3) (NN := 5) (d := 1) B (ho.at0 rfl) inX3 rfl (j := 0) (by decide) q_338 rfl rfl (by decide) dX3_readLaw_35 ?_
    obtain ⟨f13, c12, hf⟩ := bn_some hf
    refine x_callV0 (rest := []) B (kX9_openNext (rs_3_1_9 ho) c12) ⟨rfl, rfl⟩ ((rs_3_1_9 ho).at0 (N := N) rfl).lt ((rs_3_1_9 ho).at0 (N := N) rfl).2 rfl (by decide) q_810 q_732 q_733 (by rw [hR]; exact cw_X3_readLaw_X9_openNext) rfl rfl hl.1 (Nat.le_of_ble_eq_true rfl) dX3_readLaw_38 ⟨Nat.zero_le _, Nat.zero_le _⟩ ?_
    refine x_aload_n B dX3_readLaw_41 rfl (lv_at hl 0 rfl) ?_
    refine x_iconst (v := (nI 0)) B dX3_readLaw_42 (by decide) ?_
    refine x_iconst (v := (nI 0)) B dX3_readLaw_43 (by decide) ?_
    refine x_iconst (v := (nI 0)) B dX3_readLaw_44 (by decide) ?_
    obtain ⟨r16, f15, c14, hf⟩ := bn2_some hf
    refine x_callV0 (rest := []) B (kX3_readLevelC ho c14) ⟨rfl, rfl⟩ (ho.at0 (N := N) rfl).lt (ho.at0 (N := N) rfl).2 rfl (by decide) q_811 q_813 q_1 (by rw [hR]; exact cw_X3_readLaw_X3_readLevel) rfl rfl hl.1 (Nat.le_of_ble_eq_true rfl) dX3_readLaw_45 ⟨Nat.zero_le _, Nat.zero_le _⟩ ?_
    refine x_if_eq (tgt := 66) B dX3_readLaw_48 (by decide) (fun h17 => ?_) (fun h17 => ?_)
    · have hf := ip h17 hf
      refine x_iconst (v := (nI 0)) B dX3_readLaw_66 (by decide) ?_
      obtain ⟨rfl, rfl⟩ := rt2 hf
      exact x_zret B (by decide) dX3_readLaw_67
    · have hf := iq h17 hf
      refine x_aload_n B dX3_readLaw_51 rfl (lv_at hl 0 rfl) ?_
      refine y_getFs (C := RX3) (T := TX3) (NN := 5) (d := 1) B (ho.at0 rfl) inX3 rfl (j := 0) (by decide) q_338 rfl rfl (by decide) dX3_readLaw_52 ?_
      refine y_getFi (C := RX9) (T := TX9) (NN := 6) B ((rs_3_1_9 ho).at0 rfl) inX9 rfl (j := 2) (by decide) q_319 rfl rfl dX3_readLaw_55 ?_
      refine x_iconst (v := (-1 : Int32)) B dX3_readLaw_58 (by decide) ?_
      refine x_icmp_ne (tgt := 66) B dX3_readLaw_59 (by decide) (fun h18 => ?_) (fun h18 => ?_)
      · have hf := ip h18 hf
        refine x_iconst (v := (nI 1)) B dX3_readLaw_62 (by decide) ?_
        refine x_goto (tgt := 67) B dX3_readLaw_63 (by decide) ?_
        obtain ⟨rfl, rfl⟩ := rt2 hf
        exact x_zret B (by decide) dX3_readLaw_67
      · have hf := iq h18 hf
        refine x_iconst (v := (nI 0)) B dX3_readLaw_66 (by decide) ?_
        obtain ⟨rfl, rfl⟩ := rt2 hf
        exact x_zret B (by decide) dX3_readLaw_67
  · have hf := iq h11 hf
    refine x_iconst (v := (nI 0)) B dX3_readLaw_32 (by decide) ?_
    obtain ⟨rfl, rfl⟩ := rt2 hf
    exact x_zret B (by decide) dX3_readLaw_33
def rmX10_addLaw : Room := { frames := 0, cells := 0, slots := 0, locals := 0 }
def fX10_addLaw (n : Nat) (o : Nat) (b1 : Nat) (f : Mm) : Option (Int32 × Mm) :=
  if (nI 14) ≤ (f o 10) then (
  some ((-1000000003 : Int32), f)) else (
  if (f b1 0) < 0 then (
  some ((-1000000003 : Int32), f)) else (
  if (f b1 0) ≤ (nI 2) then (
  gd (ib (f o 10) 14) <|
  gd (decide ((b1 - 130) / 3 + 1 < 2147483648)) <|
  lt (up f (o + 14) (f o 10).toNatClampNeg (lcode b1)) fun f6 =>
  gd (ib (f6 b1 0) 3) <|
  lt (up f6 (o + 15) (f6 b1 0).toNatClampNeg (f6 o 10)) fun f9 =>
  lt (up f9 o 10 ((f9 o 10) + (nI 1))) fun f11 =>
  some ((f11 o 10) - (nI 1), f11)) else (
  some ((-1000000003 : Int32), f))))
set_option maxHeartbeats 4000000 in
set_option maxRecDepth 100000 in
theorem kX10_addLaw {l : Launch} {G : GE} {N : Nat} {f m : Mm} {n : Nat} {o : Nat} {b1 : Nat} {r : Int32} {g : Mm} (ho : rg 10 o) (hb1 : lk N b1) (hf : fX10_addLaw n o b1 f = some (r, g)) : MT l G yX10_addLaw cX10_addLaw 2 (some .int) rmX10_addLaw [.ref (gz G + o), .ref (gz G + b1)] N f m (some (.int r)) N g m := by
  unfold fX10_addLaw at hf
  refine MT.of (by decide) (Nat.le_of_ble_eq_true rfl) (fun V ls hV hR B hl => ?_)
  have B : CX V G cX10_addLaw 2 "FluxWatch$World" (some .int) := B
  have hl : lv_has ls 2 [(0, .ref (gz G + o)), (1, .ref (gz G + b1))] := hl
  show WX V G N f m 0 0 (QQ V G (some (.int r)) N g m 0 0) 0 ls []
  refine x_aload_n B dX10_addLaw_0 rfl (lv_at hl 0 rfl) ?_
  refine y_getFi (C := RX10) (T := TX10) (NN := 16) B (ho.at0 rfl) inX10 rfl (j := 10) (by decide) q_211 rfl rfl dX10_addLaw_1 ?_
  refine x_bipush (v := (nI 14)) B dX10_addLaw_4 (by decide) ?_
  refine x_icmp_ge (tgt := 24) B dX10_addLaw_6 (by decide) (fun h1 => ?_) (fun h1 => ?_)
  · have hf := ip h1 hf
    refine x_ldc (v := (-1000000003 : Int32)) B q_882 dX10_addLaw_24 ?_
    obtain ⟨rfl, rfl⟩ := rt2 hf
    exact x_iret B dX10_addLaw_26
  · have hf := iq h1 hf
    refine x_aload_n B dX10_addLaw_9 rfl (lv_at hl 1 rfl) ?_
    refine y_getFi (C := RX2) (T := TX2) (NN := 4) B hb1.a0 inX2 rfl (j := 0) (by decide) q_862 rfl rfl dX10_addLaw_10 ?_
    refine x_if_lt (tgt := 24) B dX10_addLaw_13 (by decide) (fun h2 => ?_) (fun h2 => ?_)
    · have hf := ip h2 hf
      refine x_ldc (v := (-1000000003 : Int32)) B q_882 dX10_addLaw_24 ?_
      obtain ⟨rfl, rfl⟩ := rt2 hf
      exact x_iret B dX10_addLaw_26
    · have hf := iq h2 hf
      refine x_aload_n B dX10_addLaw_16 rfl (lv_at hl 1 rfl) ?_
      refine y_getFi (C := RX2) (T := TX2) (NN := 4) B hb1.a0 inX2 rfl (j := 0) (by decide) q_862 rfl rfl dX10_addLaw_17 ?_
      refine x_iconst (v := (nI 2)) B dX10_addLaw_20 (by decide) ?_
      refine x_icmp_le (tgt := 27) B dX10_addLaw_21 (by decide) (fun h3 => ?_) (fun h3 => ?_)
      · have hf := ip h3 hf
        refine x_aload_n B dX10_addLaw_27 rfl (lv_at hl 0 rfl) ?_
        refine y_getFs (C := RX10) (T := TX10) (NN := 16) (d := 14) B (ho.at0 rfl) inX10 rfl (j := 9) (by decide) q_209 rfl rfl (by decide) dX10_addLaw_28 ?_
        refine x_aload_n B dX10_addLaw_31 rfl (lv_at hl 0 rfl) ?_
        refine y_getFi (C := RX10) (T := TX10) (NN := 16) B (ho.at0 rfl) inX10 rfl (j := 10) (by decide) q_211 rfl rfl dX10_addLaw_32 ?_
        refine x_aload_n B dX10_addLaw_35 rfl (lv_at hl 1 rfl) ?_
        obtain ⟨h4, hf⟩ := gd_some hf
        obtain ⟨h5, hf⟩ := gd_some hf
        refine x_aastL B (ho.at 14 rfl) h4 hb1 (of_decide_eq_true h5) dX10_addLaw_36 (fun f6 e7 => ?_)
        have hf := lt_some hf e7
        refine x_aload_n B dX10_addLaw_37 rfl (lv_at hl 0 rfl) ?_
        refine y_getFs (C := RX10) (T := TX10) (NN := 16) (d := 15) B (ho.at0 rfl) inX10 rfl (j := 11) (by decide) q_213 rfl rfl (by decide) dX10_addLaw_38 ?_
        refine x_aload_n B dX10_addLaw_41 rfl (lv_at hl 1 rfl) ?_
        refine y_getFi (C := RX2) (T := TX2) (NN := 4) B hb1.a0 inX2 rfl (j := 0) (by decide) q_862 rfl rfl dX10_addLaw_42 ?_
        refine x_aload_n B dX10_addLaw_45 rfl (lv_at hl 0 rfl) ?_
        refine y_getFi (C := RX10) (T := TX10) (NN := 16) B (ho.at0 rfl) inX10 rfl (j := 10) (by decide) q_211 rfl rfl dX10_addLaw_46 ?_
        obtain ⟨h8, hf⟩ := gd_some hf
        refine x_iastF B (ho.at 15 rfl) h8 dX10_addLaw_49 (fun f9 e10 => ?_)
        have hf := lt_some hf e10
        refine x_aload_n B dX10_addLaw_50 rfl (lv_at hl 0 rfl) ?_
        refine x_dup B dX10_addLaw_51 rfl ?_
        refine y_getFi (C := RX10) (T := TX10) (NN := 16) B (ho.at0 rfl) inX10 rfl (j := 10) (by decide) q_211 rfl rfl dX10_addLaw_52 ?_
        refine x_iconst (v := (nI 1)) B dX10_addLaw_55 (by decide) ?_
        refine x_iadd B dX10_addLaw_56 ?_
        refine x_putF (C := RX10) (T := TX10) (NN := 16) (ty0 := tyX10) (ty := .int) B (ho.at0 rfl) inX10 tyX10_ok nmX10 rfl (j := 10) (by decide) q_211 rfl rfl rfl rfl rfl rfl dX10_addLaw_57 (fun f11 e12 => ?_)
        have hf := lt_some hf e12
        refine x_aload_n B dX10_addLaw_60 rfl (lv_at hl 0 rfl) ?_
        refine y_getFi (C := RX10) (T := TX10) (NN := 16) B (ho.at0 rfl) inX10 rfl (j := 10) (by decide) q_211 rfl rfl dX10_addLaw_61 ?_
        refine x_iconst (v := (nI 1)) B dX10_addLaw_64 (by decide) ?_
        refine x_isub B dX10_addLaw_65 ?_
        obtain ⟨rfl, rfl⟩ := rt2 hf
        exact x_iret B dX10_addLaw_66
      · have hf := iq h3 hf
        refine x_ldc (v := (-1000000003 : Int32)) B q_882 dX10_addLaw_24 ?_
        obtain ⟨rfl, rfl⟩ := rt2 hf
        exact x_iret B dX10_addLaw_26
def rmX11_textTold : Room := { frames := 0, cells := 0, slots := 0, locals := 0 }
def fX11_textTold (n : Nat) (N : Nat) (a1 : Int32) (a2 : Int32) (f : Mm) : Option (Int32) :=
  if a1 < 0 then (
  some (-1000000001 : Int32)) else (
  if a1 < (f 1 10) then (
  gd (ib a1 14) <|
  if (f 15 a1.toNatClampNeg) = 0 then (
  some (-1000000001 : Int32)) else (gd (lkb N (f 15 a1.toNatClampNeg)) <|
  if a2 < 0 then (
  some (-1000000001 : Int32)) else (
  if a2 ≤ (nI 1) then (
  if a2 = 0 then (
  some (f (130 + 3 * ((f 15 a1.toNatClampNeg).toNatClampNeg - 1)) 0)) else (
  some (f (130 + 3 * ((f 15 a1.toNatClampNeg).toNatClampNeg - 1)) 1))) else (
  some (-1000000001 : Int32))))) else (
  some (-1000000001 : Int32)))
set_option maxHeartbeats 4000000 in
set_option maxRecDepth 100000 in
theorem kX11_textTold {l : Launch} {G : GE} {N : Nat} {f m : Mm} {n : Nat} {a1 : Int32} {a2 : Int32} {r : Int32}  (hf : fX11_textTold n N a1 a2 f = some r) : MT l G yX11_textTold cX11_textTold 4 (some .int) rmX11_textTold [.ref (gz G + 0), .int a1, .int a2] N f m (some (.int r)) N f m := by
  unfold fX11_textTold at hf
  refine MT.of (by decide) (Nat.le_of_ble_eq_true rfl) (fun V ls hV hR B hl => ?_)
  have B : CX V G cX11_textTold 4 "FluxWatch" (some .int) := B
  have hl : lv_has ls 4 [(0, .ref (gz G + 0)), (1, .int a1), (2, .int a2)] := hl
  show WX V G N f m 0 0 (QQ V G (some (.int r)) N f m 0 0) 0 ls []
  refine x_iload_n B dX11_textTold_0 rfl (lv_at hl 1 rfl) ?_
  refine x_if_lt (tgt := 15) B dX11_textTold_1 (by decide) (fun h1 => ?_) (fun h1 => ?_)
  · have hf := ip h1 hf
    refine x_ldc (v := (-1000000001 : Int32)) B q_432 dX11_textTold_15 ?_
    obtain rfl := rt1 hf
    exact x_iret B dX11_textTold_17
  · have hf := iq h1 hf
    refine x_iload_n B dX11_textTold_4 rfl (lv_at hl 1 rfl) ?_
    refine x_aload_n B dX11_textTold_5 rfl (lv_at hl 0 rfl) ?_
    refine y_getFs (C := RX11) (T := TX11) (NN := 10) (d := 1) B (rg_11_0.at0 rfl) inX11 rfl (j := 0) (by decide) q_388 rfl rfl (by decide) dX11_textTold_6 ?_
    refine y_getFi (C := RX10) (T := TX10) (NN := 16) B (rg_10_1.at0 rfl) inX10 rfl (j := 10) (by decide) q_212 rfl rfl dX11_textTold_9 ?_
    refine x_icmp_lt (tgt := 18) B dX11_textTold_12 (by decide) (fun h2 => ?_) (fun h2 => ?_)
    · have hf := ip h2 hf
      refine x_aload_n B dX11_textTold_18 rfl (lv_at hl 0 rfl) ?_
      refine y_getFs (C := RX11) (T := TX11) (NN := 10) (d := 1) B (rg_11_0.at0 rfl) inX11 rfl (j := 0) (by decide) q_388 rfl rfl (by decide) dX11_textTold_19 ?_
      refine y_getFs (C := RX10) (T := TX10) (NN := 16) (d := 14) B (rg_10_1.at0 rfl) inX10 rfl (j := 9) (by decide) q_210 rfl rfl (by decide) dX11_textTold_22 ?_
      refine x_iload_n B dX11_textTold_25 rfl (lv_at hl 1 rfl) ?_
      obtain ⟨h3, hf⟩ := gd_some hf
      refine x_aaldL B (rg_10_1.at 14 rfl) h3 dX11_textTold_26 ?_
      by_cases h4 : (f 15 a1.toNatClampNeg) = 0
      · have hf := ip h4 hf
        refine x_val (lvv_z h4) ?_
        refine y_astore_nN (lv' := [(3, .null), (0, .ref (gz G + 0)), (1, .int a1), (2, .int a2)]) B dX11_textTold_27 rfl hl (by decide) rfl (fun ls hl => ?_)
        refine y_aload_nN B dX11_textTold_28 rfl (lv_at hl 0 rfl) ?_
        refine x_ifnullN (tgt := 41) B dX11_textTold_29 (by decide) ?_
        refine x_ldc (v := (-1000000001 : Int32)) B q_432 dX11_textTold_41 ?_
        obtain rfl := rt1 hf
        exact x_iret B dX11_textTold_43
      · obtain ⟨h5, hf⟩ := gd_some (iq h4 hf)
        refine x_val (lvv_1 h4) ?_
        refine x_astore_n (lv' := [(3, .ref (gz G + (130 + 3 * ((f 15 a1.toNatClampNeg).toNatClampNeg - 1)))), (0, .ref (gz G + 0)), (1, .int a1), (2, .int a2)]) B dX11_textTold_27 rfl hl (by decide) rfl (fun ls hl => ?_)
        refine x_aload_n B dX11_textTold_28 rfl (lv_at hl 0 rfl) ?_
        refine x_ifnull B dX11_textTold_29 ?_
        refine x_iload_n B dX11_textTold_32 rfl (lv_at hl 3 rfl) ?_
        refine x_if_lt (tgt := 41) B dX11_textTold_33 (by decide) (fun h6 => ?_) (fun h6 => ?_)
        · have hf := ip h6 hf
          refine x_ldc (v := (-1000000001 : Int32)) B q_432 dX11_textTold_41 ?_
          obtain rfl := rt1 hf
          exact x_iret B dX11_textTold_43
        · have hf := iq h6 hf
          refine x_iload_n B dX11_textTold_36 rfl (lv_at hl 3 rfl) ?_
          refine x_iconst (v := (nI 1)) B dX11_textTold_37 (by decide) ?_
          refine x_icmp_le (tgt := 44) B dX11_textTold_38 (by decide) (fun h7 => ?_) (fun h7 => ?_)
          · have hf := ip h7 hf
            refine x_iload_n B dX11_textTold_44 rfl (lv_at hl 3 rfl) ?_
            refine x_if_ne (tgt := 55) B dX11_textTold_45 (by decide) (fun h8 => ?_) (fun h8 => ?_)
            · have hf := ip h8 hf
              refine x_aload_n B dX11_textTold_48 rfl (lv_at hl 0 rfl) ?_
              refine y_getFi (C := RX2) (T := TX2) (NN := 4) B (lk_of h5).a0 inX2 rfl (j := 0) (by decide) q_863 rfl rfl dX11_textTold_49 ?_
              refine x_goto (tgt := 59) B dX11_textTold_52 (by decide) ?_
              obtain rfl := rt1 hf
              exact x_iret B dX11_textTold_59
            · have hf := iq h8 hf
              refine x_aload_n B dX11_textTold_55 rfl (lv_at hl 0 rfl) ?_
              refine y_getFi (C := RX2) (T := TX2) (NN := 4) B (lk_of h5).a0 inX2 rfl (j := 1) (by decide) q_865 rfl rfl dX11_textTold_56 ?_
              obtain rfl := rt1 hf
              exact x_iret B dX11_textTold_59
          · have hf := iq h7 hf
            refine x_ldc (v := (-1000000001 : Int32)) B q_432 dX11_textTold_41 ?_
            obtain rfl := rt1 hf
            exact x_iret B dX11_textTold_43
    · have hf := iq h2 hf
      refine x_ldc (v := (-1000000001 : Int32)) B q_432 dX11_textTold_15 ?_
      obtain rfl := rt1 hf
      exact x_iret B dX11_textTold_17
def rmX11_told : Room := { frames := 3, cells := 0, slots := 0, locals := 112 }
set_option maxHeartbeats 4000000 in
set_option maxRecDepth 100000 in
theorem cw_X11_told_X10_stepFits : cwB rmX11_told rmX10_stepFits yX10_stepFits cX10_stepFits 3 (some .boolean) 1 := ⟨q_535, q_46, by decide, by decide⟩
set_option maxHeartbeats 4000000 in
set_option maxRecDepth 100000 in
theorem cw_X11_told_X11_worthOf : cwB rmX11_told rmX11_worthOf yX11_worthOf cX11_worthOf 4 (some .int) 3 := ⟨q_554, q_45, by decide, by decide⟩
set_option maxHeartbeats 4000000 in
set_option maxRecDepth 100000 in
theorem cw_X11_told_X8_has : cwB rmX11_told rmX8_has yX8_has cX8_has 2 (some .boolean) 1 := ⟨q_531, q_50, by decide, by decide⟩
def fX11_told (n : Nat) (a1 : Int32) (a2 : Int32) (f : Mm) : Option (Int32) :=
  bn (fX8_has n 10 a1 f) fun r2 =>
  if r2 = 0 then (
  some (-1000000001 : Int32)) else (
  if a2 = (nI 0) then (
  gd (ib a1 40) <|
  some (f 11 a1.toNatClampNeg)) else (
  if a2 = (nI 1) then (
  gd (ib a1 40) <|
  some (f 12 a1.toNatClampNeg)) else (
  if a2 = (nI 2) then (
  gd (ib a1 40) <|
  some (f 13 a1.toNatClampNeg)) else (
  if a2 = (nI 3) then (
  gd (ib a1 40) <|
  some (f 14 a1.toNatClampNeg)) else (
  if a2 = (nI 4) then (
  bn (fX10_stepFits n 1 a1 f) fun r14 =>
  if r14 = 0 then (
  some (nI 0)) else (
  some (nI 1))) else (
  if a2 = (nI 5) then (
  gd (ib a1 40) <|
  gd (ib a1 40) <|
  bn (fX11_worthOf n (f 11 a1.toNatClampNeg) (f 14 a1.toNatClampNeg) (f 1 2)) fun r20 =>
  some r20) else (
  some (-1000000001 : Int32))))))))
set_option maxHeartbeats 4000000 in
set_option maxRecDepth 100000 in
theorem kX11_told {l : Launch} {G : GE} {N : Nat} {f m : Mm} {n : Nat} {a1 : Int32} {a2 : Int32} {r : Int32}  (hf : fX11_told n a1 a2 f = some r) : MT l G yX11_told cX11_told 4 (some .int) rmX11_told [.ref (gz G + 0), .int a1, .int a2] N f m (some (.int r)) N f m := by
  unfold fX11_told at hf
  refine MT.of (by decide) (Nat.le_of_ble_eq_true rfl) (fun V ls hV hR B hl => ?_)
  have B : CX V G cX11_told 4 "FluxWatch" (some .int) := B
  have hl : lv_has ls 4 [(0, .ref (gz G + 0)), (1, .int a1), (2, .int a2)] := hl
  show WX V G N f m 0 0 (QQ V G (some (.int r)) N f m 0 0) 0 ls []
  refine x_aload_n B dX11_told_0 rfl (lv_at hl 0 rfl) ?_
  refine y_getFs (C := RX11) (T := TX11) (NN := 10) (d := 1) B (rg_11_0.at0 rfl) inX11 rfl (j := 0) (by decide) q_388 rfl rfl (by decide) dX11_told_1 ?_
  refine y_getFs (C := RX10) (T := TX10) (NN := 16) (d := 9) B (rg_10_1.at0 rfl) inX10 rfl (j := 8) (by decide) q_208 rfl rfl (by decide) dX11_told_4 ?_
  refine x_astore_n (lv' := [(3, .ref (gz G + 10)), (0, .ref (gz G + 0)), (1, .int a1), (2, .int a2)]) B dX11_told_7 rfl hl (by decide) rfl (fun ls hl => ?_)
  refine x_aload_n B dX11_told_8 rfl (lv_at hl 0 rfl) ?_
  refine x_iload_n B dX11_told_9 rfl (lv_at hl 2 rfl) ?_
  obtain ⟨r2, c1, hf⟩ := bn_some hf
  refine x_callV0 (rest := []) B (kX8_has rg_8_10 c1) ⟨rfl, rfl⟩ (rg_8_10.at0 (N := N) rfl).lt (rg_8_10.at0 (N := N) rfl).2 rfl (by decide) q_528 q_529 q_530 (by rw [hR]; exact cw_X11_told_X8_has) rfl rfl hl.1 (Nat.le_of_ble_eq_true rfl) dX11_told_10 ⟨Nat.zero_le _, Nat.zero_le _⟩ ?_
  refine x_if_ne (tgt := 19) B dX11_told_13 (by decide) (fun h3 => ?_) (fun h3 => ?_)
  · have hf := ip h3 hf
    refine x_ldc (v := (-1000000001 : Int32)) B q_432 dX11_told_16 ?_
    obtain rfl := rt1 hf
    exact x_iret B dX11_told_18
  · have hf := iq h3 hf
    refine x_iload_n B dX11_told_19 rfl (lv_at hl 3 rfl) ?_
    by_cases h4 : a2 = (nI 0)
    · have hf := ip h4 hf
      refine x_tabIn (a := 0) (tgt := 60) B dX11_told_20 (by rw [h4]; rfl) (by decide) (by decide) rfl (by decide) ?_
      refine x_aload_n B dX11_told_60 rfl (lv_at hl 0 rfl) ?_
      refine y_getFs (C := RX8) (T := TX8) (NN := 5) (d := 1) B (rg_8_10.at0 rfl) inX8 rfl (j := 0) (by decide) q_140 rfl rfl (by decide) dX11_told_61 ?_
      refine x_iload_n B dX11_told_64 rfl (lv_at hl 2 rfl) ?_
      obtain ⟨h5, hf⟩ := gd_some hf
      refine x_ialdF B (rg_8_10.at 1 rfl) h5 dX11_told_65 ?_
      obtain rfl := rt1 hf
      exact x_iret B dX11_told_66
    · have hf := iq h4 hf
      by_cases h6 : a2 = (nI 1)
      · have hf := ip h6 hf
        refine x_tabIn (a := 1) (tgt := 67) B dX11_told_20 (by rw [h6]; rfl) (by decide) (by decide) rfl (by decide) ?_
        refine x_aload_n B dX11_told_67 rfl (lv_at hl 0 rfl) ?_
        refine y_getFs (C := RX8) (T := TX8) (NN := 5) (d := 2) B (rg_8_10.at0 rfl) inX8 rfl (j := 1) (by decide) q_143 rfl rfl (by decide) dX11_told_68 ?_
        refine x_iload_n B dX11_told_71 rfl (lv_at hl 2 rfl) ?_
        obtain ⟨h7, hf⟩ := gd_some hf
        refine x_ialdF B (rg_8_10.at 2 rfl) h7 dX11_told_72 ?_
        obtain rfl := rt1 hf
        exact x_iret B dX11_told_73
      · have hf := iq h6 hf
        by_cases h8 : a2 = (nI 2)
        · have hf := ip h8 hf
          refine x_tabIn (a := 2) (tgt := 74) B dX11_told_20 (by rw [h8]; rfl) (by decide) (by decide) rfl (by decide) ?_
          refine x_aload_n B dX11_told_74 rfl (lv_at hl 0 rfl) ?_
          refine y_getFs (C := RX8) (T := TX8) (NN := 5) (d := 3) B (rg_8_10.at0 rfl) inX8 rfl (j := 2) (by decide) q_146 rfl rfl (by decide) dX11_told_75 ?_
          refine x_iload_n B dX11_told_78 rfl (lv_at hl 2 rfl) ?_
          obtain ⟨h9, hf⟩ := gd_some hf
          refine x_ialdF B (rg_8_10.at 3 rfl) h9 dX11_told_79 ?_
          obtain rfl := rt1 hf
          exact x_iret B dX11_told_80
        · have hf := iq h8 hf
          by_cases h10 : a2 = (nI 3)
          · have hf := ip h10 hf
            refine x_tabIn (a := 3) (tgt := 81) B dX11_told_20 (by rw [h10]; rfl) (by decide) (by decide) rfl (by decide) ?_
            refine x_aload_n B dX11_told_81 rfl (lv_at hl 0 rfl) ?_
            refine y_getFs (C := RX8) (T := TX8) (NN := 5) (d := 4) B (rg_8_10.at0 rfl) inX8 rfl (j := 3) (by decide) q_149 rfl rfl (by decide) dX11_told_82 ?_
            refine x_iload_n B dX11_told_85 rfl (lv_at hl 2 rfl) ?_
            obtain ⟨h11, hf⟩ := gd_some hf
            refine x_ialdF B (rg_8_10.at 4 rfl) h11 dX11_told_86 ?_
            obtain rfl := rt1 hf
            exact x_iret B dX11_told_87
          · have hf := iq h10 hf
            by_cases h12 : a2 = (nI 4)
            · have hf := ip h12 hf
              refine x_tabIn (a := 4) (tgt := 88) B dX11_told_20 (by rw [h12]; rfl) (by decide) (by decide) rfl (by decide) ?_
              refine x_aload_n B dX11_told_88 rfl (lv_at hl 1 rfl) ?_
              refine y_getFs (C := RX11) (T := TX11) (NN := 10) (d := 1) B (rg_11_0.at0 rfl) inX11 rfl (j := 0) (by decide) q_388 rfl rfl (by decide) dX11_told_89 ?_
              refine x_iload_n B dX11_told_92 rfl (lv_at hl 2 rfl) ?_
              obtain ⟨r14, c13, hf⟩ := bn_some hf
              refine x_callV0 (rest := []) B (kX10_stepFits rg_10_1 c13) ⟨rfl, rfl⟩ (rg_10_1.at0 (N := N) rfl).lt (rg_10_1.at0 (N := N) rfl).2 rfl (by decide) q_532 q_533 q_534 (by rw [hR]; exact cw_X11_told_X10_stepFits) rfl rfl hl.1 (Nat.le_of_ble_eq_true rfl) dX11_told_93 ⟨Nat.zero_le _, Nat.zero_le _⟩ ?_
              refine x_if_eq (tgt := 103) B dX11_told_96 (by decide) (fun h15 => ?_) (fun h15 => ?_)
              · have hf := ip h15 hf
                refine x_iconst (v := (nI 0)) B dX11_told_103 (by decide) ?_
                obtain rfl := rt1 hf
                exact x_iret B dX11_told_104
              · have hf := iq h15 hf
                refine x_iconst (v := (nI 1)) B dX11_told_99 (by decide) ?_
                refine x_goto (tgt := 104) B dX11_told_100 (by decide) ?_
                obtain rfl := rt1 hf
                exact x_iret B dX11_told_104
            · have hf := iq h12 hf
              by_cases h16 : a2 = (nI 5)
              · have hf := ip h16 hf
                refine x_tabIn (a := 5) (tgt := 105) B dX11_told_20 (by rw [h16]; rfl) (by decide) (by decide) rfl (by decide) ?_
                refine x_aload_n B dX11_told_105 rfl (lv_at hl 0 rfl) ?_
                refine y_getFs (C := RX8) (T := TX8) (NN := 5) (d := 1) B (rg_8_10.at0 rfl) inX8 rfl (j := 0) (by decide) q_140 rfl rfl (by decide) dX11_told_106 ?_
                refine x_iload_n B dX11_told_109 rfl (lv_at hl 2 rfl) ?_
                obtain ⟨h17, hf⟩ := gd_some hf
                refine x_ialdF B (rg_8_10.at 1 rfl) h17 dX11_told_110 ?_
                refine x_aload_n B dX11_told_111 rfl (lv_at hl 0 rfl) ?_
                refine y_getFs (C := RX8) (T := TX8) (NN := 5) (d := 4) B (rg_8_10.at0 rfl) inX8 rfl (j := 3) (by decide) q_149 rfl rfl (by decide) dX11_told_112 ?_
                refine x_iload_n B dX11_told_115 rfl (lv_at hl 2 rfl) ?_
                obtain ⟨h18, hf⟩ := gd_some hf
                refine x_ialdF B (rg_8_10.at 4 rfl) h18 dX11_told_116 ?_
                refine x_aload_n B dX11_told_117 rfl (lv_at hl 1 rfl) ?_
                refine y_getFs (C := RX11) (T := TX11) (NN := 10) (d := 1) B (rg_11_0.at0 rfl) inX11 rfl (j := 0) (by decide) q_388 rfl rfl (by decide) dX11_told_118 ?_
                refine y_getFi (C := RX10) (T := TX10) (NN := 16) B (rg_10_1.at0 rfl) inX10 rfl (j := 2) (by decide) q_196 rfl rfl dX11_told_121 ?_
                obtain ⟨r20, c19, hf⟩ := bn_some hf
                refine x_callS0 (rest := []) B (kX11_worthOf c19) ⟨rfl, rfl⟩ q_552 q_553 (by rw [hR]; exact cw_X11_told_X11_worthOf) rfl rfl hl.1 (Nat.le_of_ble_eq_true rfl) dX11_told_124 ⟨Nat.zero_le _, Nat.zero_le _⟩ ?_
                obtain rfl := rt1 hf
                exact x_iret B dX11_told_127
              · have hf := iq h16 hf
                have h4t := lv_neT h4 (show ((nI 0)).toInt = 0 from rfl)
                have h6t := lv_neT h6 (show ((nI 1)).toInt = 1 from rfl)
                have h8t := lv_neT h8 (show ((nI 2)).toInt = 2 from rfl)
                have h10t := lv_neT h10 (show ((nI 3)).toInt = 3 from rfl)
                have h12t := lv_neT h12 (show ((nI 4)).toInt = 4 from rfl)
                have h16t := lv_neT h16 (show ((nI 5)).toInt = 5 from rfl)
                refine x_tabOut (tgt := 128) B dX11_told_20 (by omega) (by decide) ?_
                refine x_ldc (v := (-1000000001 : Int32)) B q_432 dX11_told_128 ?_
                obtain rfl := rt1 hf
                exact x_iret B dX11_told_130
def rmX11_trim : Room := { frames := 0, cells := 0, slots := 0, locals := 0 }
def fX11_trim (n : Nat) (a1 : Int32) (f : Mm) : Option (Int32 × Mm) :=
  if a1 < 0 then (
  some ((-1000000001 : Int32), f)) else (
  if a1 ≤ (f 100 1) then (
  lt (up f 100 1 a1) fun f3 =>
  some (a1, f3)) else (
  some ((-1000000001 : Int32), f)))
set_option maxHeartbeats 4000000 in
set_option maxRecDepth 100000 in
theorem kX11_trim {l : Launch} {G : GE} {N : Nat} {f m : Mm} {n : Nat} {a1 : Int32} {r : Int32} {g : Mm}  (hf : fX11_trim n a1 f = some (r, g)) : MT l G yX11_trim cX11_trim 2 (some .int) rmX11_trim [.ref (gz G + 0), .int a1] N f m (some (.int r)) N g m := by
  unfold fX11_trim at hf
  refine MT.of (by decide) (Nat.le_of_ble_eq_true rfl) (fun V ls hV hR B hl => ?_)
  have B : CX V G cX11_trim 2 "FluxWatch" (some .int) := B
  have hl : lv_has ls 2 [(0, .ref (gz G + 0)), (1, .int a1)] := hl
  show WX V G N f m 0 0 (QQ V G (some (.int r)) N g m 0 0) 0 ls []
  refine x_iload_n B dX11_trim_0 rfl (lv_at hl 1 rfl) ?_
  refine x_if_lt (tgt := 18) B dX11_trim_1 (by decide) (fun h1 => ?_) (fun h1 => ?_)
  · have hf := ip h1 hf
    refine x_ldc (v := (-1000000001 : Int32)) B q_432 dX11_trim_18 ?_
    obtain ⟨rfl, rfl⟩ := rt2 hf
    exact x_iret B dX11_trim_20
  · have hf := iq h1 hf
    refine x_iload_n B dX11_trim_4 rfl (lv_at hl 1 rfl) ?_
    refine x_aload_n B dX11_trim_5 rfl (lv_at hl 0 rfl) ?_
    refine y_getFs (C := RX11) (T := TX11) (NN := 10) (d := 99) B (rg_11_0.at0 rfl) inX11 rfl (j := 8) (by decide) q_396 rfl rfl (by decide) dX11_trim_6 ?_
    refine y_getFs (C := RX3) (T := TX3) (NN := 5) (d := 1) B (rg_3_99.at0 rfl) inX3 rfl (j := 0) (by decide) q_339 rfl rfl (by decide) dX11_trim_9 ?_
    refine y_getFi (C := RX9) (T := TX9) (NN := 6) B (rg_9_100.at0 rfl) inX9 rfl (j := 1) (by decide) q_317 rfl rfl dX11_trim_12 ?_
    refine x_icmp_le (tgt := 21) B dX11_trim_15 (by decide) (fun h2 => ?_) (fun h2 => ?_)
    · have hf := ip h2 hf
      refine x_aload_n B dX11_trim_21 rfl (lv_at hl 0 rfl) ?_
      refine y_getFs (C := RX11) (T := TX11) (NN := 10) (d := 99) B (rg_11_0.at0 rfl) inX11 rfl (j := 8) (by decide) q_396 rfl rfl (by decide) dX11_trim_22 ?_
      refine y_getFs (C := RX3) (T := TX3) (NN := 5) (d := 1) B (rg_3_99.at0 rfl) inX3 rfl (j := 0) (by decide) q_339 rfl rfl (by decide) dX11_trim_25 ?_
      refine x_iload_n B dX11_trim_28 rfl (lv_at hl 1 rfl) ?_
      refine x_putF (C := RX9) (T := TX9) (NN := 6) (ty0 := tyX9) (ty := .int) B (rg_9_100.at0 rfl) inX9 tyX9_ok nmX9 rfl (j := 1) (by decide) q_317 rfl rfl rfl rfl rfl rfl dX11_trim_29 (fun f3 e4 => ?_)
      have hf := lt_some hf e4
      refine x_iload_n B dX11_trim_32 rfl (lv_at hl 1 rfl) ?_
      obtain ⟨rfl, rfl⟩ := rt2 hf
      exact x_iret B dX11_trim_33
    · have hf := iq h2 hf
      refine x_ldc (v := (-1000000001 : Int32)) B q_432 dX11_trim_18 ?_
      obtain ⟨rfl, rfl⟩ := rt2 hf
      exact x_iret B dX11_trim_20
def rmX11_turns : Room := { frames := 1, cells := 0, slots := 0, locals := 21 }
set_option maxHeartbeats 4000000 in
set_option maxRecDepth 100000 in
theorem cw_X11_turns_X11_isKind : cwB rmX11_turns rmX11_isKind yX11_isKind cX11_isKind 1 (some .boolean) 1 := ⟨q_511, q_45, by decide, by decide⟩
set_option maxHeartbeats 4000000 in
set_option maxRecDepth 100000 in
theorem cw_X11_turns_X8_has : cwB rmX11_turns rmX8_has yX8_has cX8_has 2 (some .boolean) 1 := ⟨q_531, q_50, by decide, by decide⟩
def fX11_turns (n : Nat) (a1 : Int32) (a2 : Int32) (f : Mm) : Option (Int32 × Mm) :=
  bn (fX8_has n 10 a1 f) fun r2 =>
  if r2 = 0 then (
  some ((-1000000001 : Int32), f)) else (
  bn (fX11_isKind n a2) fun r5 =>
  if r5 = 0 then (
  some ((-1000000001 : Int32), f)) else (
  gd (ib a1 40) <|
  gd (ib a1 40) <|
  lt (up f 11 a1.toNatClampNeg a2) fun f9 =>
  some (f 11 a1.toNatClampNeg, f9)))
set_option maxHeartbeats 4000000 in
set_option maxRecDepth 100000 in
theorem kX11_turns {l : Launch} {G : GE} {N : Nat} {f m : Mm} {n : Nat} {a1 : Int32} {a2 : Int32} {r : Int32} {g : Mm}  (hf : fX11_turns n a1 a2 f = some (r, g)) : MT l G yX11_turns cX11_turns 4 (some .int) rmX11_turns [.ref (gz G + 0), .int a1, .int a2] N f m (some (.int r)) N g m := by
  unfold fX11_turns at hf
  refine MT.of (by decide) (Nat.le_of_ble_eq_true rfl) (fun V ls hV hR B hl => ?_)
  have B : CX V G cX11_turns 4 "FluxWatch" (some .int) := B
  have hl : lv_has ls 4 [(0, .ref (gz G + 0)), (1, .int a1), (2, .int a2)] := hl
  show WX V G N f m 0 0 (QQ V G (some (.int r)) N g m 0 0) 0 ls []
  refine x_aload_n B dX11_turns_0 rfl (lv_at hl 0 rfl) ?_
  refine y_getFs (C := RX11) (T := TX11) (NN := 10) (d := 1) B (rg_11_0.at0 rfl) inX11 rfl (j := 0) (by decide) q_388 rfl rfl (by decide) dX11_turns_1 ?_
  refine y_getFs (C := RX10) (T := TX10) (NN := 16) (d := 9) B (rg_10_1.at0 rfl) inX10 rfl (j := 8) (by decide) q_208 rfl rfl (by decide) dX11_turns_4 ?_
  refine x_iload_n B dX11_turns_7 rfl (lv_at hl 1 rfl) ?_
  obtain ⟨r2, c1, hf⟩ := bn_some hf
  refine x_callV0 (rest := []) B (kX8_has rg_8_10 c1) ⟨rfl, rfl⟩ (rg_8_10.at0 (N := N) rfl).lt (rg_8_10.at0 (N := N) rfl).2 rfl (by decide) q_528 q_529 q_530 (by rw [hR]; exact cw_X11_turns_X8_has) rfl rfl hl.1 (Nat.le_of_ble_eq_true rfl) dX11_turns_8 ⟨Nat.zero_le _, Nat.zero_le _⟩ ?_
  refine x_if_eq (tgt := 21) B dX11_turns_11 (by decide) (fun h3 => ?_) (fun h3 => ?_)
  · have hf := ip h3 hf
    refine x_ldc (v := (-1000000001 : Int32)) B q_432 dX11_turns_21 ?_
    obtain ⟨rfl, rfl⟩ := rt2 hf
    exact x_iret B dX11_turns_23
  · have hf := iq h3 hf
    refine x_iload_n B dX11_turns_14 rfl (lv_at hl 2 rfl) ?_
    obtain ⟨r5, c4, hf⟩ := bn_some hf
    refine x_callS0 (rest := []) B (kX11_isKind c4) ⟨rfl, rfl⟩ q_509 q_510 (by rw [hR]; exact cw_X11_turns_X11_isKind) rfl rfl hl.1 (Nat.le_of_ble_eq_true rfl) dX11_turns_15 ⟨Nat.zero_le _, Nat.zero_le _⟩ ?_
    refine x_if_ne (tgt := 24) B dX11_turns_18 (by decide) (fun h6 => ?_) (fun h6 => ?_)
    · have hf := ip h6 hf
      refine x_ldc (v := (-1000000001 : Int32)) B q_432 dX11_turns_21 ?_
      obtain ⟨rfl, rfl⟩ := rt2 hf
      exact x_iret B dX11_turns_23
    · have hf := iq h6 hf
      refine x_aload_n B dX11_turns_24 rfl (lv_at hl 0 rfl) ?_
      refine y_getFs (C := RX11) (T := TX11) (NN := 10) (d := 1) B (rg_11_0.at0 rfl) inX11 rfl (j := 0) (by decide) q_388 rfl rfl (by decide) dX11_turns_25 ?_
      refine y_getFs (C := RX10) (T := TX10) (NN := 16) (d := 9) B (rg_10_1.at0 rfl) inX10 rfl (j := 8) (by decide) q_208 rfl rfl (by decide) dX11_turns_28 ?_
      refine y_getFs (C := RX8) (T := TX8) (NN := 5) (d := 1) B (rg_8_10.at0 rfl) inX8 rfl (j := 0) (by decide) q_140 rfl rfl (by decide) dX11_turns_31 ?_
      refine x_iload_n B dX11_turns_34 rfl (lv_at hl 1 rfl) ?_
      obtain ⟨h7, hf⟩ := gd_some hf
      refine x_ialdF B (rg_8_10.at 1 rfl) h7 dX11_turns_35 ?_
      refine x_istore_n (lv' := [(3, .int (f 11 a1.toNatClampNeg)), (0, .ref (gz G + 0)), (1, .int a1), (2, .int a2)]) B dX11_turns_36 rfl hl (by decide) rfl (fun ls hl => ?_)
      refine x_aload_n B dX11_turns_37 rfl (lv_at hl 1 rfl) ?_
      refine y_getFs (C := RX11) (T := TX11) (NN := 10) (d := 1) B (rg_11_0.at0 rfl) inX11 rfl (j := 0) (by decide) q_388 rfl rfl (by decide) dX11_turns_38 ?_
      refine y_getFs (C := RX10) (T := TX10) (NN := 16) (d := 9) B (rg_10_1.at0 rfl) inX10 rfl (j := 8) (by decide) q_208 rfl rfl (by decide) dX11_turns_41 ?_
      refine y_getFs (C := RX8) (T := TX8) (NN := 5) (d := 1) B (rg_8_10.at0 rfl) inX8 rfl (j := 0) (by decide) q_140 rfl rfl (by decide) dX11_turns_44 ?_
      refine x_iload_n B dX11_turns_47 rfl (lv_at hl 2 rfl) ?_
      refine x_iload_n B dX11_turns_48 rfl (lv_at hl 3 rfl) ?_
      obtain ⟨h8, hf⟩ := gd_some hf
      refine x_iastF B (rg_8_10.at 1 rfl) h8 dX11_turns_49 (fun f9 e10 => ?_)
      have hf := lt_some hf e10
      refine x_iload_n B dX11_turns_50 rfl (lv_at hl 0 rfl) ?_
      obtain ⟨rfl, rfl⟩ := rt2 hf
      exact x_iret B dX11_turns_51
def rmX11_watch : Room := { frames := 2, cells := 0, slots := 0, locals := 41 }
set_option maxHeartbeats 4000000 in
set_option maxRecDepth 100000 in
theorem cw_X11_watch_X11_isSpan : cwB rmX11_watch rmX11_isSpan yX11_isSpan cX11_isSpan 2 (some .boolean) 2 := ⟨q_473, q_45, by decide, by decide⟩
set_option maxHeartbeats 4000000 in
set_option maxRecDepth 100000 in
theorem cw_X11_watch_X1_has : cwB rmX11_watch rmX1_has yX1_has cX1_has 2 (some .boolean) 1 := ⟨q_440, q_47, by decide, by decide⟩
set_option maxHeartbeats 4000000 in
set_option maxRecDepth 100000 in
theorem cw_X11_watch_X7_add : cwB rmX11_watch rmX7_add yX7_add cX7_add 4 (some .int) 3 := ⟨q_480, q_48, by decide, by decide⟩
def fX11_watch (n : Nat) (a1 : Int32) (a2 : Int32) (a3 : Int32) (f : Mm) : Option (Int32 × Mm) :=
  bn (fX1_has n 2 a1 f) fun r2 =>
  if r2 = 0 then (
  some ((-1000000001 : Int32), f)) else (
  bn (fX11_isSpan n a2 a3) fun r5 =>
  if r5 = 0 then (
  some ((-1000000001 : Int32), f)) else (
  bn2 (fX7_add n 6 a1 a2 a3 f) fun r9 f8 =>
  some (r9, f8)))
set_option maxHeartbeats 4000000 in
set_option maxRecDepth 100000 in
theorem kX11_watch {l : Launch} {G : GE} {N : Nat} {f m : Mm} {n : Nat} {a1 : Int32} {a2 : Int32} {a3 : Int32} {r : Int32} {g : Mm}  (hf : fX11_watch n a1 a2 a3 f = some (r, g)) : MT l G yX11_watch cX11_watch 4 (some .int) rmX11_watch [.ref (gz G + 0), .int a1, .int a2, .int a3] N f m (some (.int r)) N g m := by
  unfold fX11_watch at hf
  refine MT.of (by decide) (Nat.le_of_ble_eq_true rfl) (fun V ls hV hR B hl => ?_)
  have B : CX V G cX11_watch 4 "FluxWatch" (some .int) := B
  have hl : lv_has ls 4 [(0, .ref (gz G + 0)), (1, .int a1), (2, .int a2), (3, .int a3)] := hl
  show WX V G N f m 0 0 (QQ V G (some (.int r)) N g m 0 0) 0 ls []
  refine x_aload_n B dX11_watch_0 rfl (lv_at hl 0 rfl) ?_
  refine y_getFs (C := RX11) (T := TX11) (NN := 10) (d := 1) B (rg_11_0.at0 rfl) inX11 rfl (j := 0) (by decide) q_388 rfl rfl (by decide) dX11_watch_1 ?_
  refine y_getFs (C := RX10) (T := TX10) (NN := 16) (d := 1) B (rg_10_1.at0 rfl) inX10 rfl (j := 6) (by decide) q_204 rfl rfl (by decide) dX11_watch_4 ?_
  refine x_iload_n B dX11_watch_7 rfl (lv_at hl 1 rfl) ?_
  obtain ⟨r2, c1, hf⟩ := bn_some hf
  refine x_callV0 (rest := []) B (kX1_has rg_1_2 c1) ⟨rfl, rfl⟩ (rg_1_2.at0 (N := N) rfl).lt (rg_1_2.at0 (N := N) rfl).2 rfl (by decide) q_437 q_438 q_439 (by rw [hR]; exact cw_X11_watch_X1_has) rfl rfl hl.1 (Nat.le_of_ble_eq_true rfl) dX11_watch_8 ⟨Nat.zero_le _, Nat.zero_le _⟩ ?_
  refine x_if_eq (tgt := 38) B dX11_watch_11 (by decide) (fun h3 => ?_) (fun h3 => ?_)
  · have hf := ip h3 hf
    refine x_ldc (v := (-1000000001 : Int32)) B q_432 dX11_watch_38 ?_
    obtain ⟨rfl, rfl⟩ := rt2 hf
    exact x_iret B dX11_watch_40
  · have hf := iq h3 hf
    refine x_iload_n B dX11_watch_14 rfl (lv_at hl 2 rfl) ?_
    refine x_iload_n B dX11_watch_15 rfl (lv_at hl 3 rfl) ?_
    obtain ⟨r5, c4, hf⟩ := bn_some hf
    refine x_callS0 (rest := []) B (kX11_isSpan c4) ⟨rfl, rfl⟩ q_471 q_472 (by rw [hR]; exact cw_X11_watch_X11_isSpan) rfl rfl hl.1 (Nat.le_of_ble_eq_true rfl) dX11_watch_16 ⟨Nat.zero_le _, Nat.zero_le _⟩ ?_
    refine x_if_eq (tgt := 38) B dX11_watch_19 (by decide) (fun h6 => ?_) (fun h6 => ?_)
    · have hf := ip h6 hf
      refine x_ldc (v := (-1000000001 : Int32)) B q_432 dX11_watch_38 ?_
      obtain ⟨rfl, rfl⟩ := rt2 hf
      exact x_iret B dX11_watch_40
    · have hf := iq h6 hf
      refine x_aload_n B dX11_watch_22 rfl (lv_at hl 0 rfl) ?_
      refine y_getFs (C := RX11) (T := TX11) (NN := 10) (d := 1) B (rg_11_0.at0 rfl) inX11 rfl (j := 0) (by decide) q_388 rfl rfl (by decide) dX11_watch_23 ?_
      refine y_getFs (C := RX10) (T := TX10) (NN := 16) (d := 5) B (rg_10_1.at0 rfl) inX10 rfl (j := 7) (by decide) q_206 rfl rfl (by decide) dX11_watch_26 ?_
      refine x_iload_n B dX11_watch_29 rfl (lv_at hl 1 rfl) ?_
      refine x_iload_n B dX11_watch_30 rfl (lv_at hl 2 rfl) ?_
      refine x_iload_n B dX11_watch_31 rfl (lv_at hl 3 rfl) ?_
      obtain ⟨r9, f8, c7, hf⟩ := bn2_some hf
      refine x_callV0 (rest := []) B (kX7_add rg_7_6 c7) ⟨rfl, rfl⟩ (rg_7_6.at0 (N := N) rfl).lt (rg_7_6.at0 (N := N) rfl).2 rfl (by decide) q_477 q_478 q_479 (by rw [hR]; exact cw_X11_watch_X7_add) rfl rfl hl.1 (Nat.le_of_ble_eq_true rfl) dX11_watch_32 ⟨Nat.zero_le _, Nat.zero_le _⟩ ?_
      refine x_goto (tgt := 40) B dX11_watch_35 (by decide) ?_
      obtain ⟨rfl, rfl⟩ := rt2 hf
      exact x_iret B dX11_watch_40
def rmX11_why : Room := { frames := 0, cells := 0, slots := 0, locals := 0 }
def fX11_why (n : Nat) (a1 : Int32) (f : Mm) : Option (Int32) :=
  if a1 < 0 then (
  some (-1000000001 : Int32)) else (
  if a1 ≤ (nI 2) then (
  gd (ib a1 3) <|
  some (f 16 a1.toNatClampNeg)) else (
  some (-1000000001 : Int32)))
set_option maxHeartbeats 4000000 in
set_option maxRecDepth 100000 in
theorem kX11_why {l : Launch} {G : GE} {N : Nat} {f m : Mm} {n : Nat} {a1 : Int32} {r : Int32}  (hf : fX11_why n a1 f = some r) : MT l G yX11_why cX11_why 2 (some .int) rmX11_why [.ref (gz G + 0), .int a1] N f m (some (.int r)) N f m := by
  unfold fX11_why at hf
  refine MT.of (by decide) (Nat.le_of_ble_eq_true rfl) (fun V ls hV hR B hl => ?_)
  have B : CX V G cX11_why 2 "FluxWatch" (some .int) := B
  have hl : lv_has ls 2 [(0, .ref (gz G + 0)), (1, .int a1)] := hl
  show WX V G N f m 0 0 (QQ V G (some (.int r)) N f m 0 0) 0 ls []
  refine x_iload_n B dX11_why_0 rfl (lv_at hl 1 rfl) ?_
  refine x_if_lt (tgt := 9) B dX11_why_1 (by decide) (fun h1 => ?_) (fun h1 => ?_)
  · have hf := ip h1 hf
    refine x_ldc (v := (-1000000001 : Int32)) B q_432 dX11_why_9 ?_
    refine x_goto (tgt := 23) B dX11_why_11 (by decide) ?_
    obtain rfl := rt1 hf
    exact x_iret B dX11_why_23
  · have hf := iq h1 hf
    refine x_iload_n B dX11_why_4 rfl (lv_at hl 1 rfl) ?_
    refine x_iconst (v := (nI 2)) B dX11_why_5 (by decide) ?_
    refine x_icmp_le (tgt := 14) B dX11_why_6 (by decide) (fun h2 => ?_) (fun h2 => ?_)
    · have hf := ip h2 hf
      refine x_aload_n B dX11_why_14 rfl (lv_at hl 0 rfl) ?_
      refine y_getFs (C := RX11) (T := TX11) (NN := 10) (d := 1) B (rg_11_0.at0 rfl) inX11 rfl (j := 0) (by decide) q_388 rfl rfl (by decide) dX11_why_15 ?_
      refine y_getFs (C := RX10) (T := TX10) (NN := 16) (d := 15) B (rg_10_1.at0 rfl) inX10 rfl (j := 11) (by decide) q_214 rfl rfl (by decide) dX11_why_18 ?_
      refine x_iload_n B dX11_why_21 rfl (lv_at hl 1 rfl) ?_
      obtain ⟨h3, hf⟩ := gd_some hf
      refine x_ialdF B (rg_10_1.at 15 rfl) h3 dX11_why_22 ?_
      obtain rfl := rt1 hf
      exact x_iret B dX11_why_23
    · have hf := iq h2 hf
      refine x_ldc (v := (-1000000001 : Int32)) B q_432 dX11_why_9 ?_
      refine x_goto (tgt := 23) B dX11_why_11 (by decide) ?_
      obtain rfl := rt1 hf
      exact x_iret B dX11_why_23
def rmX11_width : Room := { frames := 3, cells := 0, slots := 0, locals := 113 }
set_option maxHeartbeats 4000000 in
set_option maxRecDepth 100000 in
theorem cw_X11_width_X10_knocksWithin : cwB rmX11_width rmX10_knocksWithin yX10_knocksWithin cX10_knocksWithin 4 (some .int) 1 := ⟨q_921, q_46, by decide, by decide⟩
def fX11_width_15 (n : Nat)   (k15 : Int32 → Int32 → Mm → Option (Int32)) (x1 : Int32) (x2 : Int32) (f : Mm) : Option (Int32) :=
  if (nI 99) < x2 then (
  some (-1000000005 : Int32)) else (
  bn (fX10_knocksWithin n 1 x2 f) fun r5 =>
  if r5 < x1 then (
  k15 x1 (x2 + (nI 1)) f) else (
  some x2))
def fX11_width_15L (n : Nat)   : Nat → Int32 → Int32 → Mm → Option (Int32)
  | 0 => fun _ _ _ => none
  | q + 1 => fX11_width_15 n   (fX11_width_15L n   q)
set_option maxHeartbeats 4000000 in
set_option maxRecDepth 100000 in
theorem fX11_width_15_ok {V : VE} {G : GE} {N : Nat} {f m : Mm} {n : Nat} {ls : Array Slot} {r : Int32} (B : CX V G cX11_width 3 "FluxWatch" (some .int)) (hR : V.2.2.2.1 = rmX11_width)   {k15 : Int32 → Int32 → Mm → Option (Int32)} (hk15 : ∀ (x1 : Int32) (x2 : Int32) (mm : Mm) (ls : Array Slot),  lv_has ls 3 [(0, .ref (gz G + 0)), (1, .int x1), (2, .int x2)] → k15 x1 x2 mm = some r → WX V G N mm m 0 0 (QQ V G (some (.int r)) N mm m 0 0) 15 ls []) {x1 : Int32} {x2 : Int32}  (hl : lv_has ls 3 [(0, .ref (gz G + 0)), (1, .int x1), (2, .int x2)]) (hf : fX11_width_15 n  k15 x1 x2 f = some r) : WX V G N f m 0 0 (QQ V G (some (.int r)) N f m 0 0) 15 ls [] := by
  unfold fX11_width_15 at hf
  refine x_iload_n B dX11_width_15 rfl (lv_at hl 2 rfl) ?_
  refine x_bipush (v := (nI 99)) B dX11_width_16 (by decide) ?_
  refine x_icmp_gt (tgt := 41) B dX11_width_18 (by decide) (fun h3 => ?_) (fun h3 => ?_)
  · have hf := ip h3 hf
    refine x_ldc (v := (-1000000005 : Int32)) B q_461 dX11_width_41 ?_
    obtain rfl := rt1 hf
    exact x_iret B dX11_width_43
  · have hf := iq h3 hf
    refine x_aload_n B dX11_width_21 rfl (lv_at hl 0 rfl) ?_
    refine y_getFs (C := RX11) (T := TX11) (NN := 10) (d := 1) B (rg_11_0.at0 rfl) inX11 rfl (j := 0) (by decide) q_388 rfl rfl (by decide) dX11_width_22 ?_
    refine x_iload_n B dX11_width_25 rfl (lv_at hl 2 rfl) ?_
    obtain ⟨r5, c4, hf⟩ := bn_some hf
    refine x_callV0 (rest := []) B (kX10_knocksWithin rg_10_1 c4) ⟨rfl, rfl⟩ (rg_10_1.at0 (N := N) rfl).lt (rg_10_1.at0 (N := N) rfl).2 rfl (by decide) q_918 q_919 q_920 (by rw [hR]; exact cw_X11_width_X10_knocksWithin) rfl rfl hl.1 (Nat.le_of_ble_eq_true rfl) dX11_width_26 ⟨Nat.zero_le _, Nat.zero_le _⟩ ?_
    refine x_iload_n B dX11_width_29 rfl (lv_at hl 1 rfl) ?_
    refine x_icmp_lt (tgt := 35) B dX11_width_30 (by decide) (fun h6 => ?_) (fun h6 => ?_)
    · have hf := ip h6 hf
      refine x_iinc (k := 2) (v := (nI 1)) (lv' := [(2, .int (x2 + (nI 1))), (0, .ref (gz G + 0)), (1, .int x1)]) B dX11_width_35 hl rfl (by decide) (by decide) rfl (fun ls hl => ?_)
      refine x_goto (tgt := 15) B dX11_width_38 (by decide) ?_
      exact hk15 _ _ _ _ (lv_sub hl [1, 2, 0] rfl) hf
    · have hf := iq h6 hf
      refine x_iload_n B dX11_width_33 rfl (lv_at hl 2 rfl) ?_
      obtain rfl := rt1 hf
      exact x_iret B dX11_width_34
set_option maxHeartbeats 4000000 in
set_option maxRecDepth 100000 in
theorem fX11_width_15L_ok {V : VE} {G : GE} {N : Nat} {m : Mm} {n : Nat}  {r : Int32} (B : CX V G cX11_width 3 "FluxWatch" (some .int)) (hR : V.2.2.2.1 = rmX11_width)   : ∀ (q : Nat) (x1 : Int32) (x2 : Int32) (mm : Mm) (ls : Array Slot),  lv_has ls 3 [(0, .ref (gz G + 0)), (1, .int x1), (2, .int x2)] → fX11_width_15L n  q x1 x2 mm = some r → WX V G N mm m 0 0 (QQ V G (some (.int r)) N mm m 0 0) 15 ls [] := by
  intro q
  induction q with
  | zero =>
    intro x1 x2 mm ls hl hf
    cases hf
  | succ q ih =>
    intro x1 x2 mm ls hl hf
    exact fX11_width_15_ok B hR   ih  hl hf
def fX11_width (n : Nat) (a1 : Int32) (f : Mm) : Option (Int32) :=
  if a1 < 0 then (
  some (-1000000001 : Int32)) else (
  if a1 ≤ (nI 60) then (
  fX11_width_15L n n a1 (nI 0) f) else (
  some (-1000000001 : Int32)))
set_option maxHeartbeats 4000000 in
set_option maxRecDepth 100000 in
theorem kX11_width {l : Launch} {G : GE} {N : Nat} {f m : Mm} {n : Nat} {a1 : Int32} {r : Int32}  (hf : fX11_width n a1 f = some r) : MT l G yX11_width cX11_width 3 (some .int) rmX11_width [.ref (gz G + 0), .int a1] N f m (some (.int r)) N f m := by
  unfold fX11_width at hf
  refine MT.of (by decide) (Nat.le_of_ble_eq_true rfl) (fun V ls hV hR B hl => ?_)
  have B : CX V G cX11_width 3 "FluxWatch" (some .int) := B
  have hl : lv_has ls 3 [(0, .ref (gz G + 0)), (1, .int a1)] := hl
  show WX V G N f m 0 0 (QQ V G (some (.int r)) N f m 0 0) 0 ls []
  refine x_iload_n B dX11_width_0 rfl (lv_at hl 1 rfl) ?_
  refine x_if_lt (tgt := 10) B dX11_width_1 (by decide) (fun h1 => ?_) (fun h1 => ?_)
  · have hf := ip h1 hf
    refine x_ldc (v := (-1000000001 : Int32)) B q_432 dX11_width_10 ?_
    obtain rfl := rt1 hf
    exact x_iret B dX11_width_12
  · have hf := iq h1 hf
    refine x_iload_n B dX11_width_4 rfl (lv_at hl 1 rfl) ?_
    refine x_bipush (v := (nI 60)) B dX11_width_5 (by decide) ?_
    refine x_icmp_le (tgt := 13) B dX11_width_7 (by decide) (fun h2 => ?_) (fun h2 => ?_)
    · have hf := ip h2 hf
      refine x_iconst (v := (nI 0)) B dX11_width_13 (by decide) ?_
      refine x_istore_n (lv' := [(2, .int (nI 0)), (0, .ref (gz G + 0)), (1, .int a1)]) B dX11_width_14 rfl hl (by decide) rfl (fun ls hl => ?_)
      exact fX11_width_15L_ok B hR  n _ _ _ _ (lv_sub hl [1, 2, 0] rfl) hf
    · have hf := iq h2 hf
      refine x_ldc (v := (-1000000001 : Int32)) B q_432 dX11_width_10 ?_
      obtain rfl := rt1 hf
      exact x_iret B dX11_width_12
