def rmX11_isKind : Room := { frames := 0, cells := 0, slots := 0, locals := 0 }
def fX11_isKind (n : Nat) (a1 : Int32)  : Option (Int32) :=
  if a1 < 0 then (
  some (nI 0)) else (
  if (nI 5) < a1 then (
  some (nI 0)) else (
  some (nI 1)))
set_option maxHeartbeats 4000000 in
set_option maxRecDepth 100000 in
theorem kX11_isKind {l : Launch} {G : GE} {N : Nat} {f m : Mm} {n : Nat} {a1 : Int32} {r : Int32}  (hf : fX11_isKind n a1 = some r) : MT l G yX11_isKind cX11_isKind 1 (some .boolean) rmX11_isKind [.int a1] N f m (some (.int r)) N f m := by
  unfold fX11_isKind at hf
  refine MT.of (by decide) (Nat.le_of_ble_eq_true rfl) (fun V ls hV hR B hl => ?_)
  have B : CX V G cX11_isKind 1 "FluxWatch" (some .boolean) := B
  have hl : lv_has ls 1 [(0, .int a1)] := hl
  show WX V G N f m 0 0 (QQ V G (some (.int r)) N f m 0 0) 0 ls []
  refine x_iload_n B dX11_isKind_0 rfl (lv_at hl 0 rfl) ?_
  refine x_if_lt (tgt := 13) B dX11_isKind_1 (by decide) (fun h1 => ?_) (fun h1 => ?_)
  · have hf := ip h1 hf
    refine x_iconst (v := (nI 0)) B dX11_isKind_13 (by decide) ?_
    obtain rfl := rt1 hf
    exact x_zret B (by decide) dX11_isKind_14
  · have hf := iq h1 hf
    refine x_iload_n B dX11_isKind_4 rfl (lv_at hl 0 rfl) ?_
    refine x_iconst (v := (nI 5)) B dX11_isKind_5 (by decide) ?_
    refine x_icmp_gt (tgt := 13) B dX11_isKind_6 (by decide) (fun h2 => ?_) (fun h2 => ?_)
    · have hf := ip h2 hf
      refine x_iconst (v := (nI 0)) B dX11_isKind_13 (by decide) ?_
      obtain rfl := rt1 hf
      exact x_zret B (by decide) dX11_isKind_14
    · have hf := iq h2 hf
      refine x_iconst (v := (nI 1)) B dX11_isKind_9 (by decide) ?_
      refine x_goto (tgt := 14) B dX11_isKind_10 (by decide) ?_
      obtain rfl := rt1 hf
      exact x_zret B (by decide) dX11_isKind_14
def rmX11_isUnder : Room := { frames := 1, cells := 0, slots := 0, locals := 20 }
set_option maxHeartbeats 4000000 in
set_option maxRecDepth 100000 in
theorem cw_X11_isUnder_X11_isKind : cwB rmX11_isUnder rmX11_isKind yX11_isKind cX11_isKind 1 (some .boolean) 1 := ⟨q_511, q_45, by decide, by decide⟩
def fX11_isUnder_4 (n : Nat)   (k4 : Int32 → Int32 → Int32 → Mm → Option (Int32)) (x1 : Int32) (x2 : Int32) (x3 : Int32) (f : Mm) : Option (Int32) :=
  if (nI 6) ≤ x3 then (
  some (nI 0)) else (
  bn (fX11_isKind n x2) fun r6 =>
  if r6 = 0 then (
  some (nI 0)) else (
  if x2 = x1 then (
  some (nI 1)) else (
  gd (ib x2 6) <|
  lt (([-1, 0, 0, 1, 2, 0] : List Int32).getD x2.toNatClampNeg 0) fun v13 =>
  k4 x1 v13 (x3 + (nI 1)) f)))
def fX11_isUnder_4L (n : Nat)   : Nat → Int32 → Int32 → Int32 → Mm → Option (Int32)
  | 0 => fun _ _ _ _ => none
  | q + 1 => fX11_isUnder_4 n   (fX11_isUnder_4L n   q)
set_option maxHeartbeats 4000000 in
set_option maxRecDepth 100000 in
theorem fX11_isUnder_4_ok {V : VE} {G : GE} {N : Nat} {f m : Mm} {n : Nat} {ls : Array Slot} {r : Int32} (B : CX V G cX11_isUnder 4 "FluxWatch" (some .boolean)) (hR : V.2.2.2.1 = rmX11_isUnder)   {k4 : Int32 → Int32 → Int32 → Mm → Option (Int32)} (hk4 : ∀ (x1 : Int32) (x2 : Int32) (x3 : Int32) (mm : Mm) (ls : Array Slot),  lv_has ls 4 [(1, .int x1), (2, .int x2), (3, .int x3)] → k4 x1 x2 x3 mm = some r → WX V G N mm m 0 0 (QQ V G (some (.int r)) N mm m 0 0) 4 ls []) {x1 : Int32} {x2 : Int32} {x3 : Int32}  (hl : lv_has ls 4 [(1, .int x1), (2, .int x2), (3, .int x3)]) (hf : fX11_isUnder_4 n  k4 x1 x2 x3 f = some r) : WX V G N f m 0 0 (QQ V G (some (.int r)) N f m 0 0) 4 ls [] := by
  unfold fX11_isUnder_4 at hf
  refine x_iload_n B dX11_isUnder_4 rfl (lv_at hl 2 rfl) ?_
  refine x_gst (xs := [-1, 0, 0, 1, 2, 0]) B B.2.2.2.2.2.2.2.2.2.1.1 q_563 dX11_isUnder_5 (fun b1 h2 h3 => ?_)
  refine x_salen (v := (nI 6)) B h2 h3 (by decide) dX11_isUnder_8 ?_
  refine x_icmp_ge (tgt := 38) B dX11_isUnder_9 (by decide) (fun h4 => ?_) (fun h4 => ?_)
  · have hf := ip h4 hf
    refine x_iconst (v := (nI 0)) B dX11_isUnder_38 (by decide) ?_
    obtain rfl := rt1 hf
    exact x_zret B (by decide) dX11_isUnder_39
  · have hf := iq h4 hf
    refine x_iload_n B dX11_isUnder_12 rfl (lv_at hl 1 rfl) ?_
    obtain ⟨r6, c5, hf⟩ := bn_some hf
    refine x_callS0 (rest := []) B (kX11_isKind c5) ⟨rfl, rfl⟩ q_509 q_510 (by rw [hR]; exact cw_X11_isUnder_X11_isKind) rfl rfl hl.1 (Nat.le_of_ble_eq_true rfl) dX11_isUnder_13 ⟨Nat.zero_le _, Nat.zero_le _⟩ ?_
    refine x_if_eq (tgt := 38) B dX11_isUnder_16 (by decide) (fun h7 => ?_) (fun h7 => ?_)
    · have hf := ip h7 hf
      refine x_iconst (v := (nI 0)) B dX11_isUnder_38 (by decide) ?_
      obtain rfl := rt1 hf
      exact x_zret B (by decide) dX11_isUnder_39
    · have hf := iq h7 hf
      refine x_iload_n B dX11_isUnder_19 rfl (lv_at hl 1 rfl) ?_
      refine x_iload_n B dX11_isUnder_20 rfl (lv_at hl 0 rfl) ?_
      refine x_icmp_ne (tgt := 26) B dX11_isUnder_21 (by decide) (fun h8 => ?_) (fun h8 => ?_)
      · have hf := ip h8 hf
        refine x_iconst (v := (nI 1)) B dX11_isUnder_24 (by decide) ?_
        obtain rfl := rt1 hf
        exact x_zret B (by decide) dX11_isUnder_25
      · have hf := iq h8 hf
        refine x_gst (xs := [-1, 0, 0, 1, 2, 0]) B B.2.2.2.2.2.2.2.2.2.1.1 q_563 dX11_isUnder_26 (fun b9 h10 h11 => ?_)
        refine x_iload_n B dX11_isUnder_29 rfl (lv_at hl 1 rfl) ?_
        obtain ⟨h12, hf⟩ := gd_some hf
        refine x_sald B h10 h11 h12 dX11_isUnder_30 ?_
        refine x_nm (fun v13 e14 => ?_)
        have hf := lt_some hf e14
        refine x_istore_n (lv' := [(2, .int v13), (1, .int x1), (3, .int x3)]) B dX11_isUnder_31 rfl hl (by decide) rfl (fun ls hl => ?_)
        refine x_iinc (k := 2) (v := (nI 1)) (lv' := [(3, .int (x3 + (nI 1))), (2, .int v13), (1, .int x1)]) B dX11_isUnder_32 hl rfl (by decide) (by decide) rfl (fun ls hl => ?_)
        refine x_goto (tgt := 4) B dX11_isUnder_35 (by decide) ?_
        exact hk4 _ _ _ _ _ (lv_sub hl [2, 1, 0] rfl) hf
set_option maxHeartbeats 4000000 in
set_option maxRecDepth 100000 in
theorem fX11_isUnder_4L_ok {V : VE} {G : GE} {N : Nat} {m : Mm} {n : Nat}  {r : Int32} (B : CX V G cX11_isUnder 4 "FluxWatch" (some .boolean)) (hR : V.2.2.2.1 = rmX11_isUnder)   : ∀ (q : Nat) (x1 : Int32) (x2 : Int32) (x3 : Int32) (mm : Mm) (ls : Array Slot),  lv_has ls 4 [(1, .int x1), (2, .int x2), (3, .int x3)] → fX11_isUnder_4L n  q x1 x2 x3 mm = some r → WX V G N mm m 0 0 (QQ V G (some (.int r)) N mm m 0 0) 4 ls [] := by
  intro q
  induction q with
  | zero =>
    intro x1 x2 x3 mm ls hl hf
    cases hf
  | succ q ih =>
    intro x1 x2 x3 mm ls hl hf
    exact fX11_isUnder_4_ok B hR   ih  hl hf
def fX11_isUnder (n : Nat) (a1 : Int32) (a2 : Int32) (f : Mm) : Option (Int32) :=
  fX11_isUnder_4L n n a2 a1 (nI 0) f
set_option maxHeartbeats 4000000 in
set_option maxRecDepth 100000 in
theorem kX11_isUnder {l : Launch} {G : GE} {N : Nat} {f m : Mm} {n : Nat} {a1 : Int32} {a2 : Int32} {r : Int32}  (hf : fX11_isUnder n a1 a2 f = some r) : MT l G yX11_isUnder cX11_isUnder 4 (some .boolean) rmX11_isUnder [.int a1, .int a2] N f m (some (.int r)) N f m := by
  unfold fX11_isUnder at hf
  refine MT.of (by decide) (Nat.le_of_ble_eq_true rfl) (fun V ls hV hR B hl => ?_)
  have B : CX V G cX11_isUnder 4 "FluxWatch" (some .boolean) := B
  have hl : lv_has ls 4 [(0, .int a1), (1, .int a2)] := hl
  show WX V G N f m 0 0 (QQ V G (some (.int r)) N f m 0 0) 0 ls []
  refine x_iload_n B dX11_isUnder_0 rfl (lv_at hl 0 rfl) ?_
  refine x_istore_n (lv' := [(2, .int a1), (0, .int a1), (1, .int a2)]) B dX11_isUnder_1 rfl hl (by decide) rfl (fun ls hl => ?_)
  refine x_iconst (v := (nI 0)) B dX11_isUnder_2 (by decide) ?_
  refine x_istore_n (lv' := [(3, .int (nI 0)), (2, .int a1), (0, .int a1), (1, .int a2)]) B dX11_isUnder_3 rfl hl (by decide) rfl (fun ls hl => ?_)
  exact fX11_isUnder_4L_ok B hR  n _ _ _ _ _ (lv_sub hl [3, 1, 0] rfl) hf
def rmX8_has : Room := { frames := 0, cells := 0, slots := 0, locals := 0 }
def fX8_has (n : Nat) (o : Nat) (a1 : Int32) (f : Mm) : Option (Int32) :=
  if a1 < 0 then (
  some (nI 0)) else (
  if (f o 4) ≤ a1 then (
  some (nI 0)) else (
  some (nI 1)))
set_option maxHeartbeats 4000000 in
set_option maxRecDepth 100000 in
theorem kX8_has {l : Launch} {G : GE} {N : Nat} {f m : Mm} {n : Nat} {o : Nat} {a1 : Int32} {r : Int32} (ho : rg 8 o) (hf : fX8_has n o a1 f = some r) : MT l G yX8_has cX8_has 2 (some .boolean) rmX8_has [.ref (gz G + o), .int a1] N f m (some (.int r)) N f m := by
  unfold fX8_has at hf
  refine MT.of (by decide) (Nat.le_of_ble_eq_true rfl) (fun V ls hV hR B hl => ?_)
  have B : CX V G cX8_has 2 "FluxWatch$Steps" (some .boolean) := B
  have hl : lv_has ls 2 [(0, .ref (gz G + o)), (1, .int a1)] := hl
  show WX V G N f m 0 0 (QQ V G (some (.int r)) N f m 0 0) 0 ls []
  refine x_iload_n B dX8_has_0 rfl (lv_at hl 1 rfl) ?_
  refine x_if_lt (tgt := 16) B dX8_has_1 (by decide) (fun h1 => ?_) (fun h1 => ?_)
  · have hf := ip h1 hf
    refine x_iconst (v := (nI 0)) B dX8_has_16 (by decide) ?_
    obtain rfl := rt1 hf
    exact x_zret B (by decide) dX8_has_17
  · have hf := iq h1 hf
    refine x_iload_n B dX8_has_4 rfl (lv_at hl 1 rfl) ?_
    refine x_aload_n B dX8_has_5 rfl (lv_at hl 0 rfl) ?_
    refine y_getFi (C := RX8) (T := TX8) (NN := 5) B (ho.at0 rfl) inX8 rfl (j := 4) (by decide) q_151 rfl rfl dX8_has_6 ?_
    refine x_icmp_ge (tgt := 16) B dX8_has_9 (by decide) (fun h2 => ?_) (fun h2 => ?_)
    · have hf := ip h2 hf
      refine x_iconst (v := (nI 0)) B dX8_has_16 (by decide) ?_
      obtain rfl := rt1 hf
      exact x_zret B (by decide) dX8_has_17
    · have hf := iq h2 hf
      refine x_iconst (v := (nI 1)) B dX8_has_12 (by decide) ?_
      refine x_goto (tgt := 17) B dX8_has_13 (by decide) ?_
      obtain rfl := rt1 hf
      exact x_zret B (by decide) dX8_has_17
def rmX11_as : Room := { frames := 2, cells := 0, slots := 0, locals := 43 }
set_option maxHeartbeats 4000000 in
set_option maxRecDepth 100000 in
theorem cw_X11_as_X11_isKind : cwB rmX11_as rmX11_isKind yX11_isKind cX11_isKind 1 (some .boolean) 1 := ⟨q_511, q_45, by decide, by decide⟩
set_option maxHeartbeats 4000000 in
set_option maxRecDepth 100000 in
theorem cw_X11_as_X11_isUnder : cwB rmX11_as rmX11_isUnder yX11_isUnder cX11_isUnder 4 (some .boolean) 2 := ⟨q_562, q_45, by decide, by decide⟩
set_option maxHeartbeats 4000000 in
set_option maxRecDepth 100000 in
theorem cw_X11_as_X8_has : cwB rmX11_as rmX8_has yX8_has cX8_has 2 (some .boolean) 1 := ⟨q_531, q_50, by decide, by decide⟩
def fX11_as (n : Nat) (a1 : Int32) (a2 : Int32) (f : Mm) : Option (Int32) :=
  bn (fX8_has n 10 a1 f) fun r2 =>
  if r2 = 0 then (
  some (-1000000001 : Int32)) else (
  bn (fX11_isKind n a2) fun r5 =>
  if r5 = 0 then (
  some (-1000000001 : Int32)) else (
  gd (ib a1 40) <|
  bn (fX11_isUnder n (f 11 a1.toNatClampNeg) a2 f) fun r9 =>
  if r9 = 0 then (
  some (-1000000012 : Int32)) else (
  gd (ib a1 40) <|
  some (f 14 a1.toNatClampNeg))))
set_option maxHeartbeats 4000000 in
set_option maxRecDepth 100000 in
theorem kX11_as {l : Launch} {G : GE} {N : Nat} {f m : Mm} {n : Nat} {a1 : Int32} {a2 : Int32} {r : Int32}  (hf : fX11_as n a1 a2 f = some r) : MT l G yX11_as cX11_as 3 (some .int) rmX11_as [.ref (gz G + 0), .int a1, .int a2] N f m (some (.int r)) N f m := by
  unfold fX11_as at hf
  refine MT.of (by decide) (Nat.le_of_ble_eq_true rfl) (fun V ls hV hR B hl => ?_)
  have B : CX V G cX11_as 3 "FluxWatch" (some .int) := B
  have hl : lv_has ls 3 [(0, .ref (gz G + 0)), (1, .int a1), (2, .int a2)] := hl
  show WX V G N f m 0 0 (QQ V G (some (.int r)) N f m 0 0) 0 ls []
  refine x_aload_n B dX11_as_0 rfl (lv_at hl 0 rfl) ?_
  refine y_getFs (C := RX11) (T := TX11) (NN := 10) (d := 1) B (rg_11_0.at0 rfl) inX11 rfl (j := 0) (by decide) q_388 rfl rfl (by decide) dX11_as_1 ?_
  refine y_getFs (C := RX10) (T := TX10) (NN := 16) (d := 9) B (rg_10_1.at0 rfl) inX10 rfl (j := 8) (by decide) q_208 rfl rfl (by decide) dX11_as_4 ?_
  refine x_iload_n B dX11_as_7 rfl (lv_at hl 1 rfl) ?_
  obtain ⟨r2, c1, hf⟩ := bn_some hf
  refine x_callV0 (rest := []) B (kX8_has rg_8_10 c1) ⟨rfl, rfl⟩ (rg_8_10.at0 (N := N) rfl).lt (rg_8_10.at0 (N := N) rfl).2 rfl (by decide) q_528 q_529 q_530 (by rw [hR]; exact cw_X11_as_X8_has) rfl rfl hl.1 (Nat.le_of_ble_eq_true rfl) dX11_as_8 ⟨Nat.zero_le _, Nat.zero_le _⟩ ?_
  refine x_if_eq (tgt := 21) B dX11_as_11 (by decide) (fun h3 => ?_) (fun h3 => ?_)
  · have hf := ip h3 hf
    refine x_ldc (v := (-1000000001 : Int32)) B q_432 dX11_as_21 ?_
    obtain rfl := rt1 hf
    exact x_iret B dX11_as_23
  · have hf := iq h3 hf
    refine x_iload_n B dX11_as_14 rfl (lv_at hl 2 rfl) ?_
    obtain ⟨r5, c4, hf⟩ := bn_some hf
    refine x_callS0 (rest := []) B (kX11_isKind c4) ⟨rfl, rfl⟩ q_509 q_510 (by rw [hR]; exact cw_X11_as_X11_isKind) rfl rfl hl.1 (Nat.le_of_ble_eq_true rfl) dX11_as_15 ⟨Nat.zero_le _, Nat.zero_le _⟩ ?_
    refine x_if_ne (tgt := 24) B dX11_as_18 (by decide) (fun h6 => ?_) (fun h6 => ?_)
    · have hf := ip h6 hf
      refine x_ldc (v := (-1000000001 : Int32)) B q_432 dX11_as_21 ?_
      obtain rfl := rt1 hf
      exact x_iret B dX11_as_23
    · have hf := iq h6 hf
      refine x_aload_n B dX11_as_24 rfl (lv_at hl 0 rfl) ?_
      refine y_getFs (C := RX11) (T := TX11) (NN := 10) (d := 1) B (rg_11_0.at0 rfl) inX11 rfl (j := 0) (by decide) q_388 rfl rfl (by decide) dX11_as_25 ?_
      refine y_getFs (C := RX10) (T := TX10) (NN := 16) (d := 9) B (rg_10_1.at0 rfl) inX10 rfl (j := 8) (by decide) q_208 rfl rfl (by decide) dX11_as_28 ?_
      refine y_getFs (C := RX8) (T := TX8) (NN := 5) (d := 1) B (rg_8_10.at0 rfl) inX8 rfl (j := 0) (by decide) q_140 rfl rfl (by decide) dX11_as_31 ?_
      refine x_iload_n B dX11_as_34 rfl (lv_at hl 1 rfl) ?_
      obtain ⟨h7, hf⟩ := gd_some hf
      refine x_ialdF B (rg_8_10.at 1 rfl) h7 dX11_as_35 ?_
      refine x_iload_n B dX11_as_36 rfl (lv_at hl 2 rfl) ?_
      obtain ⟨r9, c8, hf⟩ := bn_some hf
      refine x_callS0 (rest := []) B (kX11_isUnder c8) ⟨rfl, rfl⟩ q_560 q_561 (by rw [hR]; exact cw_X11_as_X11_isUnder) rfl rfl hl.1 (Nat.le_of_ble_eq_true rfl) dX11_as_37 ⟨Nat.zero_le _, Nat.zero_le _⟩ ?_
      refine x_if_eq (tgt := 58) B dX11_as_40 (by decide) (fun h10 => ?_) (fun h10 => ?_)
      · have hf := ip h10 hf
        refine x_ldc (v := (-1000000012 : Int32)) B q_565 dX11_as_58 ?_
        obtain rfl := rt1 hf
        exact x_iret B dX11_as_60
      · have hf := iq h10 hf
        refine x_aload_n B dX11_as_43 rfl (lv_at hl 0 rfl) ?_
        refine y_getFs (C := RX11) (T := TX11) (NN := 10) (d := 1) B (rg_11_0.at0 rfl) inX11 rfl (j := 0) (by decide) q_388 rfl rfl (by decide) dX11_as_44 ?_
        refine y_getFs (C := RX10) (T := TX10) (NN := 16) (d := 9) B (rg_10_1.at0 rfl) inX10 rfl (j := 8) (by decide) q_208 rfl rfl (by decide) dX11_as_47 ?_
        refine y_getFs (C := RX8) (T := TX8) (NN := 5) (d := 4) B (rg_8_10.at0 rfl) inX8 rfl (j := 3) (by decide) q_149 rfl rfl (by decide) dX11_as_50 ?_
        refine x_iload_n B dX11_as_53 rfl (lv_at hl 1 rfl) ?_
        obtain ⟨h11, hf⟩ := gd_some hf
        refine x_ialdF B (rg_8_10.at 4 rfl) h11 dX11_as_54 ?_
        refine x_goto (tgt := 60) B dX11_as_55 (by decide) ?_
        obtain rfl := rt1 hf
        exact x_iret B dX11_as_60
def rmX11_isSlot : Room := { frames := 0, cells := 0, slots := 0, locals := 0 }
def fX11_isSlot (n : Nat) (a1 : Int32)  : Option (Int32) :=
  if a1 < 0 then (
  some (nI 0)) else (
  if (nI 5) ≤ a1 then (
  some (nI 0)) else (
  some (nI 1)))
set_option maxHeartbeats 4000000 in
set_option maxRecDepth 100000 in
theorem kX11_isSlot {l : Launch} {G : GE} {N : Nat} {f m : Mm} {n : Nat} {a1 : Int32} {r : Int32}  (hf : fX11_isSlot n a1 = some r) : MT l G yX11_isSlot cX11_isSlot 1 (some .boolean) rmX11_isSlot [.int a1] N f m (some (.int r)) N f m := by
  unfold fX11_isSlot at hf
  refine MT.of (by decide) (Nat.le_of_ble_eq_true rfl) (fun V ls hV hR B hl => ?_)
  have B : CX V G cX11_isSlot 1 "FluxWatch" (some .boolean) := B
  have hl : lv_has ls 1 [(0, .int a1)] := hl
  show WX V G N f m 0 0 (QQ V G (some (.int r)) N f m 0 0) 0 ls []
  refine x_iload_n B dX11_isSlot_0 rfl (lv_at hl 0 rfl) ?_
  refine x_if_lt (tgt := 13) B dX11_isSlot_1 (by decide) (fun h1 => ?_) (fun h1 => ?_)
  · have hf := ip h1 hf
    refine x_iconst (v := (nI 0)) B dX11_isSlot_13 (by decide) ?_
    obtain rfl := rt1 hf
    exact x_zret B (by decide) dX11_isSlot_14
  · have hf := iq h1 hf
    refine x_iload_n B dX11_isSlot_4 rfl (lv_at hl 0 rfl) ?_
    refine x_iconst (v := (nI 5)) B dX11_isSlot_5 (by decide) ?_
    refine x_icmp_ge (tgt := 13) B dX11_isSlot_6 (by decide) (fun h2 => ?_) (fun h2 => ?_)
    · have hf := ip h2 hf
      refine x_iconst (v := (nI 0)) B dX11_isSlot_13 (by decide) ?_
      obtain rfl := rt1 hf
      exact x_zret B (by decide) dX11_isSlot_14
    · have hf := iq h2 hf
      refine x_iconst (v := (nI 1)) B dX11_isSlot_9 (by decide) ?_
      refine x_goto (tgt := 14) B dX11_isSlot_10 (by decide) ?_
      obtain rfl := rt1 hf
      exact x_zret B (by decide) dX11_isSlot_14
def rmX11_worthOf : Room := { frames := 1, cells := 0, slots := 0, locals := 68 }
def fX11_worthOf (n : Nat) (a1 : Int32) (a2 : Int32) (a3 : Int32)  : Option (Int32) :=
  if a1 = (nI 1) then (
  some ((absI a2) + a3)) else (
  if a1 = (nI 2) then (
  some ((absI a2) / (nI 2))) else (
  if a1 = (nI 3) then (
  some ((nI 2) * ((absI a2) + a3))) else (
  if a1 = (nI 4) then (
  some (((absI a2) / (nI 2)) - (nI 1))) else (
  if a1 = (nI 5) then (
  some (nI 0)) else (
  some (absI a2))))))
set_option maxHeartbeats 4000000 in
set_option maxRecDepth 100000 in
theorem kX11_worthOf {l : Launch} {G : GE} {N : Nat} {f m : Mm} {n : Nat} {a1 : Int32} {a2 : Int32} {a3 : Int32} {r : Int32}  (hf : fX11_worthOf n a1 a2 a3 = some r) : MT l G yX11_worthOf cX11_worthOf 4 (some .int) rmX11_worthOf [.int a1, .int a2, .int a3] N f m (some (.int r)) N f m := by
  unfold fX11_worthOf at hf
  refine MT.of (by decide) (Nat.le_of_ble_eq_true rfl) (fun V ls hV hR B hl => ?_)
  have B : CX V G cX11_worthOf 4 "FluxWatch" (some .int) := B
  have hl : lv_has ls 4 [(0, .int a1), (1, .int a2), (2, .int a3)] := hl
  show WX V G N f m 0 0 (QQ V G (some (.int r)) N f m 0 0) 0 ls []
  refine x_iload_n B dX11_worthOf_0 rfl (lv_at hl 1 rfl) ?_
  refine y_abs B q_555 q_541 q_49 q_542 hl.1 (by rw [hR]; decide) (by rw [hR]; decide) (Nat.le_of_ble_eq_true rfl) ⟨Nat.zero_le _, Nat.zero_le _⟩ dX11_worthOf_1 ?_
  refine x_istore_n (lv' := [(3, .int (absI a2)), (0, .int a1), (1, .int a2), (2, .int a3)]) B dX11_worthOf_4 rfl hl (by decide) rfl (fun ls hl => ?_)
  refine x_iload_n B dX11_worthOf_5 rfl (lv_at hl 1 rfl) ?_
  by_cases h1 : a1 = (nI 1)
  · have hf := ip h1 hf
    refine x_tabIn (a := 1) (tgt := 40) B dX11_worthOf_6 (by rw [h1]; rfl) (by decide) (by decide) rfl (by decide) ?_
    refine x_iload_n B dX11_worthOf_40 rfl (lv_at hl 0 rfl) ?_
    refine x_iload_n B dX11_worthOf_41 rfl (lv_at hl 3 rfl) ?_
    refine x_iadd B dX11_worthOf_42 ?_
    obtain rfl := rt1 hf
    exact x_iret B dX11_worthOf_43
  · have hf := iq h1 hf
    by_cases h2 : a1 = (nI 2)
    · have hf := ip h2 hf
      refine x_tabIn (a := 2) (tgt := 44) B dX11_worthOf_6 (by rw [h2]; rfl) (by decide) (by decide) rfl (by decide) ?_
      refine x_iload_n B dX11_worthOf_44 rfl (lv_at hl 0 rfl) ?_
      refine x_iconst (v := (nI 2)) B dX11_worthOf_45 (by decide) ?_
      refine x_idiv B dX11_worthOf_46 (by decide) ?_
      obtain rfl := rt1 hf
      exact x_iret B dX11_worthOf_47
    · have hf := iq h2 hf
      by_cases h3 : a1 = (nI 3)
      · have hf := ip h3 hf
        refine x_tabIn (a := 3) (tgt := 48) B dX11_worthOf_6 (by rw [h3]; rfl) (by decide) (by decide) rfl (by decide) ?_
        refine x_iconst (v := (nI 2)) B dX11_worthOf_48 (by decide) ?_
        refine x_iload_n B dX11_worthOf_49 rfl (lv_at hl 0 rfl) ?_
        refine x_iload_n B dX11_worthOf_50 rfl (lv_at hl 3 rfl) ?_
        refine x_iadd B dX11_worthOf_51 ?_
        refine x_imul B dX11_worthOf_52 ?_
        obtain rfl := rt1 hf
        exact x_iret B dX11_worthOf_53
      · have hf := iq h3 hf
        by_cases h4 : a1 = (nI 4)
        · have hf := ip h4 hf
          refine x_tabIn (a := 4) (tgt := 54) B dX11_worthOf_6 (by rw [h4]; rfl) (by decide) (by decide) rfl (by decide) ?_
          refine x_iload_n B dX11_worthOf_54 rfl (lv_at hl 0 rfl) ?_
          refine x_iconst (v := (nI 2)) B dX11_worthOf_55 (by decide) ?_
          refine x_idiv B dX11_worthOf_56 (by decide) ?_
          refine x_iconst (v := (nI 1)) B dX11_worthOf_57 (by decide) ?_
          refine x_isub B dX11_worthOf_58 ?_
          obtain rfl := rt1 hf
          exact x_iret B dX11_worthOf_59
        · have hf := iq h4 hf
          by_cases h5 : a1 = (nI 5)
          · have hf := ip h5 hf
            refine x_tabIn (a := 5) (tgt := 60) B dX11_worthOf_6 (by rw [h5]; rfl) (by decide) (by decide) rfl (by decide) ?_
            refine x_iconst (v := (nI 0)) B dX11_worthOf_60 (by decide) ?_
            obtain rfl := rt1 hf
            exact x_iret B dX11_worthOf_61
          · have hf := iq h5 hf
            have h1t := lv_neT h1 (show ((nI 1)).toInt = 1 from rfl)
            have h2t := lv_neT h2 (show ((nI 2)).toInt = 2 from rfl)
            have h3t := lv_neT h3 (show ((nI 3)).toInt = 3 from rfl)
            have h4t := lv_neT h4 (show ((nI 4)).toInt = 4 from rfl)
            have h5t := lv_neT h5 (show ((nI 5)).toInt = 5 from rfl)
            refine x_tabOut (tgt := 62) B dX11_worthOf_6 (by omega) (by decide) ?_
            refine x_iload_n B dX11_worthOf_62 rfl (lv_at hl 0 rfl) ?_
            obtain rfl := rt1 hf
            exact x_iret B dX11_worthOf_63
def rmX11_ask : Room := { frames := 2, cells := 0, slots := 0, locals := 91 }
set_option maxHeartbeats 4000000 in
set_option maxRecDepth 100000 in
theorem cw_X11_ask_X11_isKind : cwB rmX11_ask rmX11_isKind yX11_isKind cX11_isKind 1 (some .boolean) 1 := ⟨q_511, q_45, by decide, by decide⟩
set_option maxHeartbeats 4000000 in
set_option maxRecDepth 100000 in
theorem cw_X11_ask_X11_isSlot : cwB rmX11_ask rmX11_isSlot yX11_isSlot cX11_isSlot 1 (some .boolean) 1 := ⟨q_1040, q_45, by decide, by decide⟩
set_option maxHeartbeats 4000000 in
set_option maxRecDepth 100000 in
theorem cw_X11_ask_X11_isUnder : cwB rmX11_ask rmX11_isUnder yX11_isUnder cX11_isUnder 4 (some .boolean) 2 := ⟨q_562, q_45, by decide, by decide⟩
set_option maxHeartbeats 4000000 in
set_option maxRecDepth 100000 in
theorem cw_X11_ask_X11_worthOf : cwB rmX11_ask rmX11_worthOf yX11_worthOf cX11_worthOf 4 (some .int) 3 := ⟨q_554, q_45, by decide, by decide⟩
def fX11_ask (n : Nat) (a1 : Int32) (a2 : Int32) (f : Mm) : Option (Int32) :=
  bn (fX11_isSlot n a1) fun r2 =>
  if r2 = 0 then (
  some (-1000000001 : Int32)) else (
  bn (fX11_isKind n a2) fun r5 =>
  if r5 = 0 then (
  some (-1000000001 : Int32)) else (
  gd (ib a1 5) <|
  if (f (82 + 1 + 3 * a1.toNatClampNeg) 0) = 0 then (
  some (-1000000011 : Int32)) else (
  if (f (82 + 1 + 3 * a1.toNatClampNeg) 0) = (nI 1) then (
  bn (fX11_isUnder n (f (82 + 1 + 3 * a1.toNatClampNeg) 1) a2 f) fun r11 =>
  if r11 = 0 then (
  some (-1000000012 : Int32)) else (
  bn (fX11_worthOf n (f (82 + 1 + 3 * a1.toNatClampNeg) 1) (f (82 + 1 + 3 * a1.toNatClampNeg) 2) (f 1 2)) fun r14 =>
  some r14)) else (
  some (-1000000012 : Int32)))))
set_option maxHeartbeats 4000000 in
set_option maxRecDepth 100000 in
theorem kX11_ask {l : Launch} {G : GE} {N : Nat} {f m : Mm} {n : Nat} {a1 : Int32} {a2 : Int32} {r : Int32}  (hf : fX11_ask n a1 a2 f = some r) : MT l G yX11_ask cX11_ask 4 (some .int) rmX11_ask [.ref (gz G + 0), .int a1, .int a2] N f m (some (.int r)) N f m := by
  unfold fX11_ask at hf
  refine MT.of (by decide) (Nat.le_of_ble_eq_true rfl) (fun V ls hV hR B hl => ?_)
  have B : CX V G cX11_ask 4 "FluxWatch" (some .int) := B
  have hl : lv_has ls 4 [(0, .ref (gz G + 0)), (1, .int a1), (2, .int a2)] := hl
  show WX V G N f m 0 0 (QQ V G (some (.int r)) N f m 0 0) 0 ls []
  refine x_iload_n B dX11_ask_0 rfl (lv_at hl 1 rfl) ?_
  obtain ⟨r2, c1, hf⟩ := bn_some hf
  refine x_callS0 (rest := []) B (kX11_isSlot c1) ⟨rfl, rfl⟩ q_1038 q_1039 (by rw [hR]; exact cw_X11_ask_X11_isSlot) rfl rfl hl.1 (Nat.le_of_ble_eq_true rfl) dX11_ask_1 ⟨Nat.zero_le _, Nat.zero_le _⟩ ?_
  refine x_if_eq (tgt := 14) B dX11_ask_4 (by decide) (fun h3 => ?_) (fun h3 => ?_)
  · have hf := ip h3 hf
    refine x_ldc (v := (-1000000001 : Int32)) B q_432 dX11_ask_14 ?_
    obtain rfl := rt1 hf
    exact x_iret B dX11_ask_16
  · have hf := iq h3 hf
    refine x_iload_n B dX11_ask_7 rfl (lv_at hl 2 rfl) ?_
    obtain ⟨r5, c4, hf⟩ := bn_some hf
    refine x_callS0 (rest := []) B (kX11_isKind c4) ⟨rfl, rfl⟩ q_509 q_510 (by rw [hR]; exact cw_X11_ask_X11_isKind) rfl rfl hl.1 (Nat.le_of_ble_eq_true rfl) dX11_ask_8 ⟨Nat.zero_le _, Nat.zero_le _⟩ ?_
    refine x_if_ne (tgt := 17) B dX11_ask_11 (by decide) (fun h6 => ?_) (fun h6 => ?_)
    · have hf := ip h6 hf
      refine x_ldc (v := (-1000000001 : Int32)) B q_432 dX11_ask_14 ?_
      obtain rfl := rt1 hf
      exact x_iret B dX11_ask_16
    · have hf := iq h6 hf
      refine x_aload_n B dX11_ask_17 rfl (lv_at hl 0 rfl) ?_
      refine y_getFs (C := RX11) (T := TX11) (NN := 10) (d := 82) B (rg_11_0.at0 rfl) inX11 rfl (j := 5) (by decide) q_393 rfl rfl (by decide) dX11_ask_18 ?_
      refine x_iload_n B dX11_ask_21 rfl (lv_at hl 1 rfl) ?_
      obtain ⟨h7, hf⟩ := gd_some hf
      refine x_aaldT B (rg_11_0.at 82 rfl) h7 dX11_ask_22 ?_
      refine x_astore_n (lv' := [(3, .ref (gz G + (82 + 1 + 3 * a1.toNatClampNeg))), (0, .ref (gz G + 0)), (1, .int a1), (2, .int a2)]) B dX11_ask_23 rfl hl (by decide) rfl (fun ls hl => ?_)
      refine x_aload_n B dX11_ask_24 rfl (lv_at hl 0 rfl) ?_
      refine y_getFi (C := RX6) (T := TX6) (NN := 5) B ((rg_slo h7).at0 rfl) inX6 rfl (j := 0) (by decide) q_286 rfl rfl dX11_ask_25 ?_
      refine x_if_ne (tgt := 35) B dX11_ask_28 (by decide) (fun h8 => ?_) (fun h8 => ?_)
      · have hf := ip h8 hf
        refine x_ldc_w (v := (-1000000011 : Int32)) B q_910 dX11_ask_31 ?_
        obtain rfl := rt1 hf
        exact x_iret B dX11_ask_34
      · have hf := iq h8 hf
        refine x_aload_n B dX11_ask_35 rfl (lv_at hl 0 rfl) ?_
        refine y_getFi (C := RX6) (T := TX6) (NN := 5) B ((rg_slo h7).at0 rfl) inX6 rfl (j := 0) (by decide) q_286 rfl rfl dX11_ask_36 ?_
        refine x_iconst (v := (nI 1)) B dX11_ask_39 (by decide) ?_
        refine x_icmp_ne (tgt := 54) B dX11_ask_40 (by decide) (fun h9 => ?_) (fun h9 => ?_)
        · have hf := ip h9 hf
          refine x_aload_n B dX11_ask_43 rfl (lv_at hl 0 rfl) ?_
          refine y_getFi (C := RX6) (T := TX6) (NN := 5) B ((rg_slo h7).at0 rfl) inX6 rfl (j := 1) (by decide) q_287 rfl rfl dX11_ask_44 ?_
          refine x_iload_n B dX11_ask_47 rfl (lv_at hl 3 rfl) ?_
          obtain ⟨r11, c10, hf⟩ := bn_some hf
          refine x_callS0 (rest := []) B (kX11_isUnder c10) ⟨rfl, rfl⟩ q_560 q_561 (by rw [hR]; exact cw_X11_ask_X11_isUnder) rfl rfl hl.1 (Nat.le_of_ble_eq_true rfl) dX11_ask_48 ⟨Nat.zero_le _, Nat.zero_le _⟩ ?_
          refine x_if_ne (tgt := 57) B dX11_ask_51 (by decide) (fun h12 => ?_) (fun h12 => ?_)
          · have hf := ip h12 hf
            refine x_ldc (v := (-1000000012 : Int32)) B q_565 dX11_ask_54 ?_
            obtain rfl := rt1 hf
            exact x_iret B dX11_ask_56
          · have hf := iq h12 hf
            refine x_aload_n B dX11_ask_57 rfl (lv_at hl 0 rfl) ?_
            refine y_getFi (C := RX6) (T := TX6) (NN := 5) B ((rg_slo h7).at0 rfl) inX6 rfl (j := 1) (by decide) q_287 rfl rfl dX11_ask_58 ?_
            refine x_aload_n B dX11_ask_61 rfl (lv_at hl 0 rfl) ?_
            refine y_getFi (C := RX6) (T := TX6) (NN := 5) B ((rg_slo h7).at0 rfl) inX6 rfl (j := 2) (by decide) q_288 rfl rfl dX11_ask_62 ?_
            refine x_aload_n B dX11_ask_65 rfl (lv_at hl 1 rfl) ?_
            refine y_getFs (C := RX11) (T := TX11) (NN := 10) (d := 1) B (rg_11_0.at0 rfl) inX11 rfl (j := 0) (by decide) q_388 rfl rfl (by decide) dX11_ask_66 ?_
            refine y_getFi (C := RX10) (T := TX10) (NN := 16) B (rg_10_1.at0 rfl) inX10 rfl (j := 2) (by decide) q_196 rfl rfl dX11_ask_69 ?_
            obtain ⟨r14, c13, hf⟩ := bn_some hf
            refine x_callS0 (rest := []) B (kX11_worthOf c13) ⟨rfl, rfl⟩ q_552 q_553 (by rw [hR]; exact cw_X11_ask_X11_worthOf) rfl rfl hl.1 (Nat.le_of_ble_eq_true rfl) dX11_ask_72 ⟨Nat.zero_le _, Nat.zero_le _⟩ ?_
            obtain rfl := rt1 hf
            exact x_iret B dX11_ask_75
        · have hf := iq h9 hf
          refine x_ldc (v := (-1000000012 : Int32)) B q_565 dX11_ask_54 ?_
          obtain rfl := rt1 hf
          exact x_iret B dX11_ask_56
def rmX11_heldRate : Room := { frames := 1, cells := 0, slots := 0, locals := 68 }
def fX11_heldRate (n : Nat) (a1 : Int32)  : Option (Int32) :=
  some (maxI (nI 0) (minI (nI 999) a1))
set_option maxHeartbeats 4000000 in
set_option maxRecDepth 100000 in
theorem kX11_heldRate {l : Launch} {G : GE} {N : Nat} {f m : Mm} {n : Nat} {a1 : Int32} {r : Int32}  (hf : fX11_heldRate n a1 = some r) : MT l G yX11_heldRate cX11_heldRate 1 (some .int) rmX11_heldRate [.int a1] N f m (some (.int r)) N f m := by
  unfold fX11_heldRate at hf
  refine MT.of (by decide) (Nat.le_of_ble_eq_true rfl) (fun V ls hV hR B hl => ?_)
  have B : CX V G cX11_heldRate 1 "FluxWatch" (some .int) := B
  have hl : lv_has ls 1 [(0, .int a1)] := hl
  show WX V G N f m 0 0 (QQ V G (some (.int r)) N f m 0 0) 0 ls []
  refine x_iconst (v := (nI 0)) B dX11_heldRate_0 (by decide) ?_
  refine x_sipush (v := (nI 999)) B dX11_heldRate_1 (by decide) ?_
  refine x_iload_n B dX11_heldRate_4 rfl (lv_at hl 0 rfl) ?_
  refine y_min B q_630 q_114 q_49 q_115 hl.1 (by rw [hR]; decide) (by rw [hR]; decide) (Nat.le_of_ble_eq_true rfl) ⟨Nat.zero_le _, Nat.zero_le _⟩ dX11_heldRate_5 ?_
  refine y_max B q_631 q_632 q_49 q_633 hl.1 (by rw [hR]; decide) (by rw [hR]; decide) (Nat.le_of_ble_eq_true rfl) ⟨Nat.zero_le _, Nat.zero_le _⟩ dX11_heldRate_8 ?_
  obtain rfl := rt1 hf
  exact x_iret B dX11_heldRate_11
def rmX2_isName : Room := { frames := 0, cells := 0, slots := 0, locals := 0 }
def fX2_isName (n : Nat) (a1 : Int32)  : Option (Int32) :=
  if a1 < (nI 97) then (
  some (nI 0)) else (
  if (nI 122) < a1 then (
  some (nI 0)) else (
  some (nI 1)))
set_option maxHeartbeats 4000000 in
set_option maxRecDepth 100000 in
theorem kX2_isName {l : Launch} {G : GE} {N : Nat} {f m : Mm} {n : Nat} {a1 : Int32} {r : Int32}  (hf : fX2_isName n a1 = some r) : MT l G yX2_isName cX2_isName 1 (some .boolean) rmX2_isName [.int a1] N f m (some (.int r)) N f m := by
  unfold fX2_isName at hf
  refine MT.of (by decide) (Nat.le_of_ble_eq_true rfl) (fun V ls hV hR B hl => ?_)
  have B : CX V G cX2_isName 1 "FluxWatch$Law" (some .boolean) := B
  have hl : lv_has ls 1 [(0, .int a1)] := hl
  show WX V G N f m 0 0 (QQ V G (some (.int r)) N f m 0 0) 0 ls []
  refine x_iload_n B dX2_isName_0 rfl (lv_at hl 0 rfl) ?_
  refine x_bipush (v := (nI 97)) B dX2_isName_1 (by decide) ?_
  refine x_icmp_lt (tgt := 16) B dX2_isName_3 (by decide) (fun h1 => ?_) (fun h1 => ?_)
  · have hf := ip h1 hf
    refine x_iconst (v := (nI 0)) B dX2_isName_16 (by decide) ?_
    obtain rfl := rt1 hf
    exact x_zret B (by decide) dX2_isName_17
  · have hf := iq h1 hf
    refine x_iload_n B dX2_isName_6 rfl (lv_at hl 0 rfl) ?_
    refine x_bipush (v := (nI 122)) B dX2_isName_7 (by decide) ?_
    refine x_icmp_gt (tgt := 16) B dX2_isName_9 (by decide) (fun h2 => ?_) (fun h2 => ?_)
    · have hf := ip h2 hf
      refine x_iconst (v := (nI 0)) B dX2_isName_16 (by decide) ?_
      obtain rfl := rt1 hf
      exact x_zret B (by decide) dX2_isName_17
    · have hf := iq h2 hf
      refine x_iconst (v := (nI 1)) B dX2_isName_12 (by decide) ?_
      refine x_goto (tgt := 17) B dX2_isName_13 (by decide) ?_
      obtain rfl := rt1 hf
      exact x_zret B (by decide) dX2_isName_17
def rmX2_joined : Room := { frames := 0, cells := 0, slots := 0, locals := 0 }
def fX2_joined (n : Nat) (a1 : Int32) (a2 : Int32) (a3 : Int32)  : Option (Int32) :=
  if a1 = (nI 38) then (
  if a2 = 0 then (
  some (nI 0)) else (
  if a3 = 0 then (
  some (nI 0)) else (
  some (nI 1)))) else (
  if a1 = (nI 42) then (
  some (a2 * a3)) else (
  if a1 = (nI 43) then (
  some (a2 + a3)) else (
  if a1 = (nI 45) then (
  some (a2 - a3)) else (
  if a1 = (nI 60) then (
  if a3 ≤ a2 then (
  some (nI 0)) else (
  some (nI 1))) else (
  if a1 = (nI 61) then (
  if a2 = a3 then (
  some (nI 1)) else (
  some (nI 0))) else (
  if a1 = (nI 62) then (
  if a2 ≤ a3 then (
  some (nI 0)) else (
  some (nI 1))) else (
  if a1 = (nI 124) then (
  if a2 = 0 then (
  if a3 = 0 then (
  some (nI 0)) else (
  some (nI 1))) else (
  some (nI 1))) else (
  if a3 = 0 then (
  some (nI 0)) else (
  gd (nz a3) <|
  some (a2 / a3))))))))))
set_option maxHeartbeats 4000000 in
set_option maxRecDepth 100000 in
theorem kX2_joined {l : Launch} {G : GE} {N : Nat} {f m : Mm} {n : Nat} {a1 : Int32} {a2 : Int32} {a3 : Int32} {r : Int32}  (hf : fX2_joined n a1 a2 a3 = some r) : MT l G yX2_joined cX2_joined 3 (some .int) rmX2_joined [.int a1, .int a2, .int a3] N f m (some (.int r)) N f m := by
  unfold fX2_joined at hf
  refine MT.of (by decide) (Nat.le_of_ble_eq_true rfl) (fun V ls hV hR B hl => ?_)
  have B : CX V G cX2_joined 3 "FluxWatch$Law" (some .int) := B
  have hl : lv_has ls 3 [(0, .int a1), (1, .int a2), (2, .int a3)] := hl
  show WX V G N f m 0 0 (QQ V G (some (.int r)) N f m 0 0) 0 ls []
  refine x_iload_n B dX2_joined_0 rfl (lv_at hl 0 rfl) ?_
  by_cases h1 : a1 = (nI 38)
  · have hf := ip h1 hf
    refine x_look (tgt := 90) (off := 89) B dX2_joined_1 (by decide) (by rw [h1]; first | done | rfl) (by decide) ?_
    refine x_iload_n B dX2_joined_90 rfl (lv_at hl 1 rfl) ?_
    refine x_if_eq (tgt := 102) B dX2_joined_91 (by decide) (fun h2 => ?_) (fun h2 => ?_)
    · have hf := ip h2 hf
      refine x_iconst (v := (nI 0)) B dX2_joined_102 (by decide) ?_
      obtain rfl := rt1 hf
      exact x_iret B dX2_joined_103
    · have hf := iq h2 hf
      refine x_iload_n B dX2_joined_94 rfl (lv_at hl 2 rfl) ?_
      refine x_if_eq (tgt := 102) B dX2_joined_95 (by decide) (fun h3 => ?_) (fun h3 => ?_)
      · have hf := ip h3 hf
        refine x_iconst (v := (nI 0)) B dX2_joined_102 (by decide) ?_
        obtain rfl := rt1 hf
        exact x_iret B dX2_joined_103
      · have hf := iq h3 hf
        refine x_iconst (v := (nI 1)) B dX2_joined_98 (by decide) ?_
        refine x_goto (tgt := 103) B dX2_joined_99 (by decide) ?_
        obtain rfl := rt1 hf
        exact x_iret B dX2_joined_103
  · have hf := iq h1 hf
    by_cases h4 : a1 = (nI 42)
    · have hf := ip h4 hf
      refine x_look (tgt := 145) (off := 144) B dX2_joined_1 (by decide) (by rw [h4]; first | done | rfl) (by decide) ?_
      refine x_iload_n B dX2_joined_145 rfl (lv_at hl 1 rfl) ?_
      refine x_iload_n B dX2_joined_146 rfl (lv_at hl 2 rfl) ?_
      refine x_imul B dX2_joined_147 ?_
      obtain rfl := rt1 hf
      exact x_iret B dX2_joined_148
    · have hf := iq h4 hf
      by_cases h5 : a1 = (nI 43)
      · have hf := ip h5 hf
        refine x_look (tgt := 137) (off := 136) B dX2_joined_1 (by decide) (by rw [h5]; first | done | rfl) (by decide) ?_
        refine x_iload_n B dX2_joined_137 rfl (lv_at hl 1 rfl) ?_
        refine x_iload_n B dX2_joined_138 rfl (lv_at hl 2 rfl) ?_
        refine x_iadd B dX2_joined_139 ?_
        obtain rfl := rt1 hf
        exact x_iret B dX2_joined_140
      · have hf := iq h5 hf
        by_cases h6 : a1 = (nI 45)
        · have hf := ip h6 hf
          refine x_look (tgt := 141) (off := 140) B dX2_joined_1 (by decide) (by rw [h6]; first | done | rfl) (by decide) ?_
          refine x_iload_n B dX2_joined_141 rfl (lv_at hl 1 rfl) ?_
          refine x_iload_n B dX2_joined_142 rfl (lv_at hl 2 rfl) ?_
          refine x_isub B dX2_joined_143 ?_
          obtain rfl := rt1 hf
          exact x_iret B dX2_joined_144
        · have hf := iq h6 hf
          by_cases h7 : a1 = (nI 60)
          · have hf := ip h7 hf
            refine x_look (tgt := 104) (off := 103) B dX2_joined_1 (by decide) (by rw [h7]; first | done | rfl) (by decide) ?_
            refine x_iload_n B dX2_joined_104 rfl (lv_at hl 1 rfl) ?_
            refine x_iload_n B dX2_joined_105 rfl (lv_at hl 2 rfl) ?_
            refine x_icmp_ge (tgt := 113) B dX2_joined_106 (by decide) (fun h8 => ?_) (fun h8 => ?_)
            · have hf := ip h8 hf
              refine x_iconst (v := (nI 0)) B dX2_joined_113 (by decide) ?_
              obtain rfl := rt1 hf
              exact x_iret B dX2_joined_114
            · have hf := iq h8 hf
              refine x_iconst (v := (nI 1)) B dX2_joined_109 (by decide) ?_
              refine x_goto (tgt := 114) B dX2_joined_110 (by decide) ?_
              obtain rfl := rt1 hf
              exact x_iret B dX2_joined_114
          · have hf := iq h7 hf
            by_cases h9 : a1 = (nI 61)
            · have hf := ip h9 hf
              refine x_look (tgt := 115) (off := 114) B dX2_joined_1 (by decide) (by rw [h9]; first | done | rfl) (by decide) ?_
              refine x_iload_n B dX2_joined_115 rfl (lv_at hl 1 rfl) ?_
              refine x_iload_n B dX2_joined_116 rfl (lv_at hl 2 rfl) ?_
              refine x_icmp_ne (tgt := 124) B dX2_joined_117 (by decide) (fun h10 => ?_) (fun h10 => ?_)
              · have hf := ip h10 hf
                refine x_iconst (v := (nI 1)) B dX2_joined_120 (by decide) ?_
                refine x_goto (tgt := 125) B dX2_joined_121 (by decide) ?_
                obtain rfl := rt1 hf
                exact x_iret B dX2_joined_125
              · have hf := iq h10 hf
                refine x_iconst (v := (nI 0)) B dX2_joined_124 (by decide) ?_
                obtain rfl := rt1 hf
                exact x_iret B dX2_joined_125
            · have hf := iq h9 hf
              by_cases h11 : a1 = (nI 62)
              · have hf := ip h11 hf
                refine x_look (tgt := 126) (off := 125) B dX2_joined_1 (by decide) (by rw [h11]; first | done | rfl) (by decide) ?_
                refine x_iload_n B dX2_joined_126 rfl (lv_at hl 1 rfl) ?_
                refine x_iload_n B dX2_joined_127 rfl (lv_at hl 2 rfl) ?_
                refine x_icmp_le (tgt := 135) B dX2_joined_128 (by decide) (fun h12 => ?_) (fun h12 => ?_)
                · have hf := ip h12 hf
                  refine x_iconst (v := (nI 0)) B dX2_joined_135 (by decide) ?_
                  obtain rfl := rt1 hf
                  exact x_iret B dX2_joined_136
                · have hf := iq h12 hf
                  refine x_iconst (v := (nI 1)) B dX2_joined_131 (by decide) ?_
                  refine x_goto (tgt := 136) B dX2_joined_132 (by decide) ?_
                  obtain rfl := rt1 hf
                  exact x_iret B dX2_joined_136
              · have hf := iq h11 hf
                by_cases h13 : a1 = (nI 124)
                · have hf := ip h13 hf
                  refine x_look (tgt := 76) (off := 75) B dX2_joined_1 (by decide) (by rw [h13]; first | done | rfl) (by decide) ?_
                  refine x_iload_n B dX2_joined_76 rfl (lv_at hl 1 rfl) ?_
                  refine x_if_ne (tgt := 84) B dX2_joined_77 (by decide) (fun h14 => ?_) (fun h14 => ?_)
                  · have hf := ip h14 hf
                    refine x_iload_n B dX2_joined_80 rfl (lv_at hl 2 rfl) ?_
                    refine x_if_eq (tgt := 88) B dX2_joined_81 (by decide) (fun h15 => ?_) (fun h15 => ?_)
                    · have hf := ip h15 hf
                      refine x_iconst (v := (nI 0)) B dX2_joined_88 (by decide) ?_
                      obtain rfl := rt1 hf
                      exact x_iret B dX2_joined_89
                    · have hf := iq h15 hf
                      refine x_iconst (v := (nI 1)) B dX2_joined_84 (by decide) ?_
                      refine x_goto (tgt := 89) B dX2_joined_85 (by decide) ?_
                      obtain rfl := rt1 hf
                      exact x_iret B dX2_joined_89
                  · have hf := iq h14 hf
                    refine x_iconst (v := (nI 1)) B dX2_joined_84 (by decide) ?_
                    refine x_goto (tgt := 89) B dX2_joined_85 (by decide) ?_
                    obtain rfl := rt1 hf
                    exact x_iret B dX2_joined_89
                · have hf := iq h13 hf
                  refine x_look (tgt := 149) (off := 148) B dX2_joined_1 (by decide) ((lv_osw h1 rfl).trans ((lv_osw h4 rfl).trans ((lv_osw h5 rfl).trans ((lv_osw h6 rfl).trans ((lv_osw h7 rfl).trans ((lv_osw h9 rfl).trans ((lv_osw h11 rfl).trans ((lv_osw h13 rfl).trans rfl)))))))) (by decide) ?_
                  refine x_iload_n B dX2_joined_149 rfl (lv_at hl 2 rfl) ?_
                  refine x_if_ne (tgt := 157) B dX2_joined_150 (by decide) (fun h16 => ?_) (fun h16 => ?_)
                  · have hf := ip h16 hf
                    refine x_iconst (v := (nI 0)) B dX2_joined_153 (by decide) ?_
                    refine x_goto (tgt := 160) B dX2_joined_154 (by decide) ?_
                    obtain rfl := rt1 hf
                    exact x_iret B dX2_joined_160
                  · have hf := iq h16 hf
                    refine x_iload_n B dX2_joined_157 rfl (lv_at hl 1 rfl) ?_
                    refine x_iload_n B dX2_joined_158 rfl (lv_at hl 2 rfl) ?_
                    obtain ⟨h17, hf⟩ := gd_some hf
                    refine x_idiv B dX2_joined_159 (nz_ne h17) ?_
                    obtain rfl := rt1 hf
                    exact x_iret B dX2_joined_160
def rmX2_named : Room := { frames := 0, cells := 0, slots := 0, locals := 0 }
def fX2_named (n : Nat) (a1 : Int32) (a2 : Int32) (a3 : Int32) (b4 : Nat) (f : Mm) : Option (Int32) :=
  if a1 = (nI 100) then (
  some a2) else (
  if a1 = (nI 115) then (
  some a3) else (
  if a1 = (nI 119) then (
  some (f b4 2)) else (
  some (f b4 3))))
set_option maxHeartbeats 4000000 in
set_option maxRecDepth 100000 in
theorem kX2_named {l : Launch} {G : GE} {N : Nat} {f m : Mm} {n : Nat} {a1 : Int32} {a2 : Int32} {a3 : Int32} {b4 : Nat} {r : Int32} (hb4 : rg 10 b4) (hf : fX2_named n a1 a2 a3 b4 f = some r) : MT l G yX2_named cX2_named 4 (some .int) rmX2_named [.int a1, .int a2, .int a3, .ref (gz G + b4)] N f m (some (.int r)) N f m := by
  unfold fX2_named at hf
  refine MT.of (by decide) (Nat.le_of_ble_eq_true rfl) (fun V ls hV hR B hl => ?_)
  have B : CX V G cX2_named 4 "FluxWatch$Law" (some .int) := B
  have hl : lv_has ls 4 [(0, .int a1), (1, .int a2), (2, .int a3), (3, .ref (gz G + b4))] := hl
  show WX V G N f m 0 0 (QQ V G (some (.int r)) N f m 0 0) 0 ls []
  refine x_iload_n B dX2_named_0 rfl (lv_at hl 0 rfl) ?_
  by_cases h1 : a1 = (nI 100)
  · have hf := ip h1 hf
    refine x_look (tgt := 38) (off := 37) B dX2_named_1 (by decide) (by rw [h1]; first | done | rfl) (by decide) ?_
    refine x_iload_n B dX2_named_38 rfl (lv_at hl 1 rfl) ?_
    obtain rfl := rt1 hf
    exact x_iret B dX2_named_39
  · have hf := iq h1 hf
    by_cases h2 : a1 = (nI 115)
    · have hf := ip h2 hf
      refine x_look (tgt := 36) (off := 35) B dX2_named_1 (by decide) (by rw [h2]; first | done | rfl) (by decide) ?_
      refine x_iload_n B dX2_named_36 rfl (lv_at hl 2 rfl) ?_
      obtain rfl := rt1 hf
      exact x_iret B dX2_named_37
    · have hf := iq h2 hf
      by_cases h3 : a1 = (nI 119)
      · have hf := ip h3 hf
        refine x_look (tgt := 40) (off := 39) B dX2_named_1 (by decide) (by rw [h3]; first | done | rfl) (by decide) ?_
        refine x_aload_n B dX2_named_40 rfl (lv_at hl 3 rfl) ?_
        refine y_getFi (C := RX10) (T := TX10) (NN := 16) B (hb4.at0 rfl) inX10 rfl (j := 2) (by decide) q_195 rfl rfl dX2_named_41 ?_
        obtain rfl := rt1 hf
        exact x_iret B dX2_named_44
      · have hf := iq h3 hf
        refine x_look (tgt := 45) (off := 44) B dX2_named_1 (by decide) ((lv_osw h1 rfl).trans ((lv_osw h2 rfl).trans ((lv_osw h3 rfl).trans rfl))) (by decide) ?_
        refine x_aload_n B dX2_named_45 rfl (lv_at hl 3 rfl) ?_
        refine y_getFi (C := RX10) (T := TX10) (NN := 16) B (hb4.at0 rfl) inX10 rfl (j := 3) (by decide) q_198 rfl rfl dX2_named_46 ?_
        obtain rfl := rt1 hf
        exact x_iret B dX2_named_49
def rmX2_valueOn : Room := { frames := 1, cells := 0, slots := 0, locals := 23 }
set_option maxHeartbeats 4000000 in
set_option maxRecDepth 100000 in
theorem cw_X2_valueOn_X2_isName : cwB rmX2_valueOn rmX2_isName yX2_isName cX2_isName 1 (some .boolean) 1 := ⟨q_620, q_59, by decide, by decide⟩
set_option maxHeartbeats 4000000 in
set_option maxRecDepth 100000 in
theorem cw_X2_valueOn_X2_joined : cwB rmX2_valueOn rmX2_joined yX2_joined cX2_joined 3 (some .int) 3 := ⟨q_626, q_59, by decide, by decide⟩
set_option maxHeartbeats 4000000 in
set_option maxRecDepth 100000 in
theorem cw_X2_valueOn_X2_named : cwB rmX2_valueOn rmX2_named yX2_named cX2_named 4 (some .int) 4 := ⟨q_623, q_59, by decide, by decide⟩
def fX2_valueOn_178 (n : Nat) (o : Nat) (b3 : Nat) (k6 : Int32 → Int32 → Int32 → Int32 → Mm → Option (Int32 × Mm)) (x1 : Int32) (x2 : Int32) (x4 : Int32) (x5 : Int32) (f : Mm) : Option (Int32 × Mm) :=
  k6 x1 x2 x4 (x5 + (nI 1)) f
set_option maxHeartbeats 4000000 in
set_option maxRecDepth 100000 in
theorem fX2_valueOn_178_ok {V : VE} {G : GE} {N : Nat} {f m : Mm} {n : Nat} {ls : Array Slot} {o : Nat} {b3 : Nat} {r : Int32} {g : Mm} (B : CX V G cX2_valueOn 7 "FluxWatch$Law" (some .int)) (hR : V.2.2.2.1 = rmX2_valueOn) (ho : lk N o) (hb3 : rg 10 b3) {k6 : Int32 → Int32 → Int32 → Int32 → Mm → Option (Int32 × Mm)} (hk6 : ∀ (x1 : Int32) (x2 : Int32) (x4 : Int32) (x5 : Int32) (mm : Mm) (ls : Array Slot),  lv_has ls 7 [(0, .ref (gz G + o)), (1, .int x1), (2, .int x2), (3, .ref (gz G + b3)), (4, .int x4), (5, .int x5)] → k6 x1 x2 x4 x5 mm = some (r, g) → WX V G N mm m 0 0 (QQ V G (some (.int r)) N g m 0 0) 6 ls []) {x1 : Int32} {x2 : Int32} {x4 : Int32} {x5 : Int32}  (hl : lv_has ls 7 [(0, .ref (gz G + o)), (1, .int x1), (2, .int x2), (3, .ref (gz G + b3)), (4, .int x4), (5, .int x5)]) (hf : fX2_valueOn_178 n o b3 k6 x1 x2 x4 x5 f = some (r, g)) : WX V G N f m 0 0 (QQ V G (some (.int r)) N g m 0 0) 178 ls [] := by
  unfold fX2_valueOn_178 at hf
  refine x_iinc (k := 5) (v := (nI 1)) (lv' := [(5, .int (x5 + (nI 1))), (0, .ref (gz G + o)), (1, .int x1), (2, .int x2), (3, .ref (gz G + b3)), (4, .int x4)]) B dX2_valueOn_178 hl rfl (by decide) (by decide) rfl (fun ls hl => ?_)
  refine x_goto (tgt := 6) B dX2_valueOn_181 (by decide) ?_
  exact hk6 _ _ _ _ _ _ (lv_sub hl [1, 2, 3, 4, 5, 0] rfl) hf
def fX2_valueOn_63 (n : Nat) (o : Nat) (b3 : Nat) (k6 : Int32 → Int32 → Int32 → Int32 → Mm → Option (Int32 × Mm)) (x1 : Int32) (x2 : Int32) (x4 : Int32) (x5 : Int32) (s0 : Int32) (s1 : Int32) (f : Mm) : Option (Int32 × Mm) :=
  gd (ib s1 (f (o + 2) 5000).toNatClampNeg) <|
  gd (decide (s1.toNatClampNeg < 5000)) <|
  lt (up f (o + 2) s1.toNatClampNeg s0) fun f11 =>
  fX2_valueOn_178 n o b3 k6 x1 x2 x4 x5 f11
set_option maxHeartbeats 4000000 in
set_option maxRecDepth 100000 in
theorem fX2_valueOn_63_ok {V : VE} {G : GE} {N : Nat} {f m : Mm} {n : Nat} {ls : Array Slot} {o : Nat} {b3 : Nat} {r : Int32} {g : Mm} (B : CX V G cX2_valueOn 7 "FluxWatch$Law" (some .int)) (hR : V.2.2.2.1 = rmX2_valueOn) (ho : lk N o) (hb3 : rg 10 b3) {k6 : Int32 → Int32 → Int32 → Int32 → Mm → Option (Int32 × Mm)} (hk6 : ∀ (x1 : Int32) (x2 : Int32) (x4 : Int32) (x5 : Int32) (mm : Mm) (ls : Array Slot),  lv_has ls 7 [(0, .ref (gz G + o)), (1, .int x1), (2, .int x2), (3, .ref (gz G + b3)), (4, .int x4), (5, .int x5)] → k6 x1 x2 x4 x5 mm = some (r, g) → WX V G N mm m 0 0 (QQ V G (some (.int r)) N g m 0 0) 6 ls []) {x1 : Int32} {x2 : Int32} {x4 : Int32} {x5 : Int32} {s0 : Int32} {s1 : Int32}  (hl : lv_has ls 7 [(0, .ref (gz G + o)), (1, .int x1), (2, .int x2), (3, .ref (gz G + b3)), (4, .int x4), (5, .int x5)]) (hf : fX2_valueOn_63 n o b3 k6 x1 x2 x4 x5 s0 s1 f = some (r, g)) : WX V G N f m 0 0 (QQ V G (some (.int r)) N g m 0 0) 63 ls [.int s0, .int s1, .ref (gz G + (o + 2))] := by
  unfold fX2_valueOn_63 at hf
  obtain ⟨h10, hf⟩ := gd_some hf
  obtain ⟨h13, hf⟩ := gd_some hf
  refine x_iastP B ho.a2 h10 (of_decide_eq_true h13) dX2_valueOn_63 (fun f11 e12 => ?_)
  have hf := lt_some hf e12
  refine x_goto (tgt := 178) B dX2_valueOn_64 (by decide) ?_
  exact fX2_valueOn_178_ok B hR ho hb3 hk6 hl hf
def fX2_valueOn_128 (n : Nat) (o : Nat) (b3 : Nat) (k6 : Int32 → Int32 → Int32 → Int32 → Mm → Option (Int32 × Mm)) (x1 : Int32) (x2 : Int32) (x4 : Int32) (x5 : Int32) (s0 : Int32) (s1 : Int32) (f : Mm) : Option (Int32 × Mm) :=
  gd (ib s1 (f (o + 2) 5000).toNatClampNeg) <|
  gd (decide (s1.toNatClampNeg < 5000)) <|
  lt (up f (o + 2) s1.toNatClampNeg s0) fun f20 =>
  fX2_valueOn_178 n o b3 k6 x1 x2 (x4 + (nI 1)) x5 f20
set_option maxHeartbeats 4000000 in
set_option maxRecDepth 100000 in
theorem fX2_valueOn_128_ok {V : VE} {G : GE} {N : Nat} {f m : Mm} {n : Nat} {ls : Array Slot} {o : Nat} {b3 : Nat} {r : Int32} {g : Mm} (B : CX V G cX2_valueOn 7 "FluxWatch$Law" (some .int)) (hR : V.2.2.2.1 = rmX2_valueOn) (ho : lk N o) (hb3 : rg 10 b3) {k6 : Int32 → Int32 → Int32 → Int32 → Mm → Option (Int32 × Mm)} (hk6 : ∀ (x1 : Int32) (x2 : Int32) (x4 : Int32) (x5 : Int32) (mm : Mm) (ls : Array Slot),  lv_has ls 7 [(0, .ref (gz G + o)), (1, .int x1), (2, .int x2), (3, .ref (gz G + b3)), (4, .int x4), (5, .int x5)] → k6 x1 x2 x4 x5 mm = some (r, g) → WX V G N mm m 0 0 (QQ V G (some (.int r)) N g m 0 0) 6 ls []) {x1 : Int32} {x2 : Int32} {x4 : Int32} {x5 : Int32} {s0 : Int32} {s1 : Int32}  (hl : lv_has ls 7 [(0, .ref (gz G + o)), (1, .int x1), (2, .int x2), (3, .ref (gz G + b3)), (4, .int x4), (5, .int x5)]) (hf : fX2_valueOn_128 n o b3 k6 x1 x2 x4 x5 s0 s1 f = some (r, g)) : WX V G N f m 0 0 (QQ V G (some (.int r)) N g m 0 0) 128 ls [.int s0, .int s1, .ref (gz G + (o + 2))] := by
  unfold fX2_valueOn_128 at hf
  obtain ⟨h19, hf⟩ := gd_some hf
  obtain ⟨h22, hf⟩ := gd_some hf
  refine x_iastP B ho.a2 h19 (of_decide_eq_true h22) dX2_valueOn_128 (fun f20 e21 => ?_)
  have hf := lt_some hf e21
  refine x_iinc (k := 4) (v := (nI 1)) (lv' := [(4, .int (x4 + (nI 1))), (0, .ref (gz G + o)), (1, .int x1), (2, .int x2), (3, .ref (gz G + b3)), (5, .int x5)]) B dX2_valueOn_129 hl rfl (by decide) (by decide) rfl (fun ls hl => ?_)
  refine x_goto (tgt := 178) B dX2_valueOn_132 (by decide) ?_
  exact fX2_valueOn_178_ok B hR ho hb3 hk6 (lv_sub hl [1, 2, 3, 4, 0, 5] rfl) hf
def fX2_valueOn_87 (n : Nat) (o : Nat) (b3 : Nat) (k6 : Int32 → Int32 → Int32 → Int32 → Mm → Option (Int32 × Mm)) (x1 : Int32) (x2 : Int32) (x4 : Int32) (x5 : Int32) (x6 : Int32) (f : Mm) : Option (Int32 × Mm) :=
  if (Int32.ofNat (f (o + 2) 5000).toNatClampNeg) ≤ x4 then (
  fX2_valueOn_178 n o b3 k6 x1 x2 x4 x5 f) else (
  if (nI 10000) ≤ x6 then (
  bn (fX2_named n (x6 - (nI 10000)) x1 x2 b3 f) fun r18 =>
  fX2_valueOn_128 n o b3 k6 x1 x2 x4 x5 r18 x4 f) else (
  fX2_valueOn_128 n o b3 k6 x1 x2 x4 x5 x6 x4 f))
set_option maxHeartbeats 4000000 in
set_option maxRecDepth 100000 in
theorem fX2_valueOn_87_ok {V : VE} {G : GE} {N : Nat} {f m : Mm} {n : Nat} {ls : Array Slot} {o : Nat} {b3 : Nat} {r : Int32} {g : Mm} (B : CX V G cX2_valueOn 7 "FluxWatch$Law" (some .int)) (hR : V.2.2.2.1 = rmX2_valueOn) (ho : lk N o) (hb3 : rg 10 b3) {k6 : Int32 → Int32 → Int32 → Int32 → Mm → Option (Int32 × Mm)} (hk6 : ∀ (x1 : Int32) (x2 : Int32) (x4 : Int32) (x5 : Int32) (mm : Mm) (ls : Array Slot),  lv_has ls 7 [(0, .ref (gz G + o)), (1, .int x1), (2, .int x2), (3, .ref (gz G + b3)), (4, .int x4), (5, .int x5)] → k6 x1 x2 x4 x5 mm = some (r, g) → WX V G N mm m 0 0 (QQ V G (some (.int r)) N g m 0 0) 6 ls []) {x1 : Int32} {x2 : Int32} {x4 : Int32} {x5 : Int32} {x6 : Int32}  (hl : lv_has ls 7 [(0, .ref (gz G + o)), (1, .int x1), (2, .int x2), (3, .ref (gz G + b3)), (4, .int x4), (5, .int x5), (6, .int x6)]) (hf : fX2_valueOn_87 n o b3 k6 x1 x2 x4 x5 x6 f = some (r, g)) : WX V G N f m 0 0 (QQ V G (some (.int r)) N g m 0 0) 87 ls [] := by
  unfold fX2_valueOn_87 at hf
  refine x_iload B dX2_valueOn_87 (lv_at hl 4 rfl) ?_
  refine x_aload_n B dX2_valueOn_89 rfl (lv_at hl 0 rfl) ?_
  refine y_getFs (C := RX2) (T := TX2) (NN := 4) (d := 2) B ho.a0 inX2 rfl (j := 3) (by decide) q_867 rfl rfl (by decide) dX2_valueOn_90 ?_
  refine x_alenP (v := Int32.ofNat (f (o + 2) 5000).toNatClampNeg) B ho.a2 rfl dX2_valueOn_93 ?_
  refine x_icmp_ge (tgt := 178) B dX2_valueOn_94 (by decide) (fun h15 => ?_) (fun h15 => ?_)
  · have hf := ip h15 hf
    exact fX2_valueOn_178_ok B hR ho hb3 hk6 (lv_sub hl [0, 1, 2, 3, 4, 5] rfl) hf
  · have hf := iq h15 hf
    refine x_aload_n B dX2_valueOn_97 rfl (lv_at hl 0 rfl) ?_
    refine y_getFs (C := RX2) (T := TX2) (NN := 4) (d := 2) B ho.a0 inX2 rfl (j := 3) (by decide) q_867 rfl rfl (by decide) dX2_valueOn_98 ?_
    refine x_iload B dX2_valueOn_101 (lv_at hl 4 rfl) ?_
    refine x_iload B dX2_valueOn_103 (lv_at hl 6 rfl) ?_
    refine x_sipush (v := (nI 10000)) B dX2_valueOn_105 (by decide) ?_
    refine x_icmp_ge (tgt := 116) B dX2_valueOn_108 (by decide) (fun h16 => ?_) (fun h16 => ?_)
    · have hf := ip h16 hf
      refine x_iload B dX2_valueOn_116 (lv_at hl 6 rfl) ?_
      refine x_sipush (v := (nI 10000)) B dX2_valueOn_118 (by decide) ?_
      refine x_isub B dX2_valueOn_121 ?_
      refine x_iload_n B dX2_valueOn_122 rfl (lv_at hl 1 rfl) ?_
      refine x_iload_n B dX2_valueOn_123 rfl (lv_at hl 2 rfl) ?_
      refine x_aload_n B dX2_valueOn_124 rfl (lv_at hl 3 rfl) ?_
      obtain ⟨r18, c17, hf⟩ := bn_some hf
      refine x_callS0 (rest := [.int x4, .ref (gz G + (o + 2))]) B (kX2_named hb3 c17) ⟨rfl, rfl⟩ q_621 q_622 (by rw [hR]; exact cw_X2_valueOn_X2_named) rfl rfl hl.1 (Nat.le_of_ble_eq_true rfl) dX2_valueOn_125 ⟨Nat.zero_le _, Nat.zero_le _⟩ ?_
      exact fX2_valueOn_128_ok B hR ho hb3 hk6 (lv_sub hl [0, 1, 2, 3, 4, 5] rfl) hf
    · have hf := iq h16 hf
      refine x_iload B dX2_valueOn_111 (lv_at hl 6 rfl) ?_
      refine x_goto (tgt := 128) B dX2_valueOn_113 (by decide) ?_
      exact fX2_valueOn_128_ok B hR ho hb3 hk6 (lv_sub hl [0, 1, 2, 3, 4, 5] rfl) hf
def fX2_valueOn_6 (n : Nat) (o : Nat) (b3 : Nat)  (k6 : Int32 → Int32 → Int32 → Int32 → Mm → Option (Int32 × Mm)) (x1 : Int32) (x2 : Int32) (x4 : Int32) (x5 : Int32) (f : Mm) : Option (Int32 × Mm) :=
  if (Int32.ofNat (f (o + 1) 5000).toNatClampNeg) ≤ x5 then (
  gd (ib (nI 0) (f (o + 2) 5000).toNatClampNeg) <|
  some (f (o + 2) (nI 0).toNatClampNeg, f)) else (
  gd (ib x5 (f (o + 1) 5000).toNatClampNeg) <|
  lt (f (o + 1) x5.toNatClampNeg) fun v4 =>
  if v4 = (nI 10033) then (
  if x4 ≤ 0 then (
  fX2_valueOn_178 n o b3 k6 x1 x2 x4 x5 f) else (
  gd (ib (x4 - (nI 1)) (f (o + 2) 5000).toNatClampNeg) <|
  if (f (o + 2) (x4 - (nI 1)).toNatClampNeg) = 0 then (
  fX2_valueOn_63 n o b3 k6 x1 x2 x4 x5 (nI 1) (x4 - (nI 1)) f) else (
  fX2_valueOn_63 n o b3 k6 x1 x2 x4 x5 (nI 0) (x4 - (nI 1)) f))) else (
  if v4 < (nI 10000) then (
  fX2_valueOn_87 n o b3 k6 x1 x2 x4 x5 v4 f) else (
  bn (fX2_isName n (v4 - (nI 10000))) fun r24 =>
  if r24 = 0 then (
  if x4 ≤ (nI 1) then (
  fX2_valueOn_178 n o b3 k6 x1 x2 x4 x5 f) else (
  gd (ib ((x4 + (-1 : Int32)) - (nI 1)) (f (o + 2) 5000).toNatClampNeg) <|
  gd (ib (x4 + (-1 : Int32)) (f (o + 2) 5000).toNatClampNeg) <|
  bn (fX2_joined n (v4 - (nI 10000)) (f (o + 2) ((x4 + (-1 : Int32)) - (nI 1)).toNatClampNeg) (f (o + 2) (x4 + (-1 : Int32)).toNatClampNeg)) fun r30 =>
  gd (ib ((x4 + (-1 : Int32)) - (nI 1)) (f (o + 2) 5000).toNatClampNeg) <|
  gd (decide (((x4 + (-1 : Int32)) - (nI 1)).toNatClampNeg < 5000)) <|
  lt (up f (o + 2) ((x4 + (-1 : Int32)) - (nI 1)).toNatClampNeg r30) fun f32 =>
  fX2_valueOn_178 n o b3 k6 x1 x2 (x4 + (-1 : Int32)) x5 f32)) else (
  fX2_valueOn_87 n o b3 k6 x1 x2 x4 x5 v4 f))))
def fX2_valueOn_6L (n : Nat) (o : Nat) (b3 : Nat)  : Nat → Int32 → Int32 → Int32 → Int32 → Mm → Option (Int32 × Mm)
  | 0 => fun _ _ _ _ _ => none
  | q + 1 => fX2_valueOn_6 n o b3  (fX2_valueOn_6L n o b3  q)
set_option maxHeartbeats 4000000 in
set_option maxRecDepth 100000 in
theorem fX2_valueOn_6_ok {V : VE} {G : GE} {N : Nat} {f m : Mm} {n : Nat} {ls : Array Slot} {o : Nat} {b3 : Nat} {r : Int32} {g : Mm} (B : CX V G cX2_valueOn 7 "FluxWatch$Law" (some .int)) (hR : V.2.2.2.1 = rmX2_valueOn) (ho : lk N o) (hb3 : rg 10 b3)  {k6 : Int32 → Int32 → Int32 → Int32 → Mm → Option (Int32 × Mm)} (hk6 : ∀ (x1 : Int32) (x2 : Int32) (x4 : Int32) (x5 : Int32) (mm : Mm) (ls : Array Slot),  lv_has ls 7 [(0, .ref (gz G + o)), (1, .int x1), (2, .int x2), (3, .ref (gz G + b3)), (4, .int x4), (5, .int x5)] → k6 x1 x2 x4 x5 mm = some (r, g) → WX V G N mm m 0 0 (QQ V G (some (.int r)) N g m 0 0) 6 ls []) {x1 : Int32} {x2 : Int32} {x4 : Int32} {x5 : Int32}  (hl : lv_has ls 7 [(0, .ref (gz G + o)), (1, .int x1), (2, .int x2), (3, .ref (gz G + b3)), (4, .int x4), (5, .int x5)]) (hf : fX2_valueOn_6 n o b3 k6 x1 x2 x4 x5 f = some (r, g)) : WX V G N f m 0 0 (QQ V G (some (.int r)) N g m 0 0) 6 ls [] := by
  unfold fX2_valueOn_6 at hf
  refine x_iload B dX2_valueOn_6 (lv_at hl 5 rfl) ?_
  refine x_aload_n B dX2_valueOn_8 rfl (lv_at hl 0 rfl) ?_
  refine y_getFs (C := RX2) (T := TX2) (NN := 4) (d := 1) B ho.a0 inX2 rfl (j := 2) (by decide) q_866 rfl rfl (by decide) dX2_valueOn_9 ?_
  refine x_alenP (v := Int32.ofNat (f (o + 1) 5000).toNatClampNeg) B ho.a1 rfl dX2_valueOn_12 ?_
  refine x_icmp_ge (tgt := 184) B dX2_valueOn_13 (by decide) (fun h1 => ?_) (fun h1 => ?_)
  · have hf := ip h1 hf
    refine x_aload_n B dX2_valueOn_184 rfl (lv_at hl 0 rfl) ?_
    refine y_getFs (C := RX2) (T := TX2) (NN := 4) (d := 2) B ho.a0 inX2 rfl (j := 3) (by decide) q_867 rfl rfl (by decide) dX2_valueOn_185 ?_
    refine x_iconst (v := (nI 0)) B dX2_valueOn_188 (by decide) ?_
    obtain ⟨h2, hf⟩ := gd_some hf
    refine x_ialdP B ho.a2 h2 dX2_valueOn_189 ?_
    obtain ⟨rfl, rfl⟩ := rt2 hf
    exact x_iret B dX2_valueOn_190
  · have hf := iq h1 hf
    refine x_aload_n B dX2_valueOn_16 rfl (lv_at hl 0 rfl) ?_
    refine y_getFs (C := RX2) (T := TX2) (NN := 4) (d := 1) B ho.a0 inX2 rfl (j := 2) (by decide) q_866 rfl rfl (by decide) dX2_valueOn_17 ?_
    refine x_iload B dX2_valueOn_20 (lv_at hl 5 rfl) ?_
    obtain ⟨h3, hf⟩ := gd_some hf
    refine x_ialdP B ho.a1 h3 dX2_valueOn_22 ?_
    refine x_nm (fun v4 e5 => ?_)
    have hf := lt_some hf e5
    refine x_istore (lv' := [(6, .int v4), (0, .ref (gz G + o)), (1, .int x1), (2, .int x2), (3, .ref (gz G + b3)), (4, .int x4), (5, .int x5)]) B dX2_valueOn_23 hl (by decide) rfl (fun ls hl => ?_)
    refine x_iload B dX2_valueOn_25 (lv_at hl 0 rfl) ?_
    refine x_sipush (v := (nI 10033)) B dX2_valueOn_27 (by decide) ?_
    refine x_icmp_ne (tgt := 67) B dX2_valueOn_30 (by decide) (fun h6 => ?_) (fun h6 => ?_)
    · have hf := ip h6 hf
      refine x_iload B dX2_valueOn_33 (lv_at hl 5 rfl) ?_
      refine x_if_le (tgt := 178) B dX2_valueOn_35 (by decide) (fun h7 => ?_) (fun h7 => ?_)
      · have hf := ip h7 hf
        exact fX2_valueOn_178_ok B hR ho hb3 hk6 (lv_sub hl [1, 2, 3, 4, 5, 6] rfl) hf
      · have hf := iq h7 hf
        refine x_aload_n B dX2_valueOn_38 rfl (lv_at hl 1 rfl) ?_
        refine y_getFs (C := RX2) (T := TX2) (NN := 4) (d := 2) B ho.a0 inX2 rfl (j := 3) (by decide) q_867 rfl rfl (by decide) dX2_valueOn_39 ?_
        refine x_iload B dX2_valueOn_42 (lv_at hl 5 rfl) ?_
        refine x_iconst (v := (nI 1)) B dX2_valueOn_44 (by decide) ?_
        refine x_isub B dX2_valueOn_45 ?_
        refine x_aload_n B dX2_valueOn_46 rfl (lv_at hl 1 rfl) ?_
        refine y_getFs (C := RX2) (T := TX2) (NN := 4) (d := 2) B ho.a0 inX2 rfl (j := 3) (by decide) q_867 rfl rfl (by decide) dX2_valueOn_47 ?_
        refine x_iload B dX2_valueOn_50 (lv_at hl 5 rfl) ?_
        refine x_iconst (v := (nI 1)) B dX2_valueOn_52 (by decide) ?_
        refine x_isub B dX2_valueOn_53 ?_
        obtain ⟨h8, hf⟩ := gd_some hf
        refine x_ialdP B ho.a2 h8 dX2_valueOn_54 ?_
        refine x_if_ne (tgt := 62) B dX2_valueOn_55 (by decide) (fun h9 => ?_) (fun h9 => ?_)
        · have hf := ip h9 hf
          refine x_iconst (v := (nI 1)) B dX2_valueOn_58 (by decide) ?_
          refine x_goto (tgt := 63) B dX2_valueOn_59 (by decide) ?_
          exact fX2_valueOn_63_ok B hR ho hb3 hk6 (lv_sub hl [1, 2, 3, 4, 5, 6] rfl) hf
        · have hf := iq h9 hf
          refine x_iconst (v := (nI 0)) B dX2_valueOn_62 (by decide) ?_
          exact fX2_valueOn_63_ok B hR ho hb3 hk6 (lv_sub hl [1, 2, 3, 4, 5, 6] rfl) hf
    · have hf := iq h6 hf
      refine x_iload B dX2_valueOn_67 (lv_at hl 0 rfl) ?_
      refine x_sipush (v := (nI 10000)) B dX2_valueOn_69 (by decide) ?_
      refine x_icmp_lt (tgt := 87) B dX2_valueOn_72 (by decide) (fun h14 => ?_) (fun h14 => ?_)
      · have hf := ip h14 hf
        exact fX2_valueOn_87_ok B hR ho hb3 hk6 (lv_sub hl [1, 2, 3, 4, 5, 6, 0] rfl) hf
      · have hf := iq h14 hf
        refine x_iload B dX2_valueOn_75 (lv_at hl 0 rfl) ?_
        refine x_sipush (v := (nI 10000)) B dX2_valueOn_77 (by decide) ?_
        refine x_isub B dX2_valueOn_80 ?_
        obtain ⟨r24, c23, hf⟩ := bn_some hf
        refine x_callS0 (rest := []) B (kX2_isName c23) ⟨rfl, rfl⟩ q_618 q_619 (by rw [hR]; exact cw_X2_valueOn_X2_isName) rfl rfl hl.1 (Nat.le_of_ble_eq_true rfl) dX2_valueOn_81 ⟨Nat.zero_le _, Nat.zero_le _⟩ ?_
        refine x_if_eq (tgt := 135) B dX2_valueOn_84 (by decide) (fun h25 => ?_) (fun h25 => ?_)
        · have hf := ip h25 hf
          refine x_iload B dX2_valueOn_135 (lv_at hl 5 rfl) ?_
          refine x_iconst (v := (nI 1)) B dX2_valueOn_137 (by decide) ?_
          refine x_icmp_le (tgt := 178) B dX2_valueOn_138 (by decide) (fun h26 => ?_) (fun h26 => ?_)
          · have hf := ip h26 hf
            exact fX2_valueOn_178_ok B hR ho hb3 hk6 (lv_sub hl [1, 2, 3, 4, 5, 6] rfl) hf
          · have hf := iq h26 hf
            refine x_iinc (k := 5) (v := (-1 : Int32)) (lv' := [(4, .int (x4 + (-1 : Int32))), (6, .int v4), (0, .ref (gz G + o)), (1, .int x1), (2, .int x2), (3, .ref (gz G + b3)), (5, .int x5)]) B dX2_valueOn_141 hl rfl (by decide) (by decide) rfl (fun ls hl => ?_)
            refine x_aload_n B dX2_valueOn_144 rfl (lv_at hl 2 rfl) ?_
            refine y_getFs (C := RX2) (T := TX2) (NN := 4) (d := 2) B ho.a0 inX2 rfl (j := 3) (by decide) q_867 rfl rfl (by decide) dX2_valueOn_145 ?_
            refine x_iload B dX2_valueOn_148 (lv_at hl 0 rfl) ?_
            refine x_iconst (v := (nI 1)) B dX2_valueOn_150 (by decide) ?_
            refine x_isub B dX2_valueOn_151 ?_
            refine x_iload B dX2_valueOn_152 (lv_at hl 1 rfl) ?_
            refine x_sipush (v := (nI 10000)) B dX2_valueOn_154 (by decide) ?_
            refine x_isub B dX2_valueOn_157 ?_
            refine x_aload_n B dX2_valueOn_158 rfl (lv_at hl 2 rfl) ?_
            refine y_getFs (C := RX2) (T := TX2) (NN := 4) (d := 2) B ho.a0 inX2 rfl (j := 3) (by decide) q_867 rfl rfl (by decide) dX2_valueOn_159 ?_
            refine x_iload B dX2_valueOn_162 (lv_at hl 0 rfl) ?_
            refine x_iconst (v := (nI 1)) B dX2_valueOn_164 (by decide) ?_
            refine x_isub B dX2_valueOn_165 ?_
            obtain ⟨h27, hf⟩ := gd_some hf
            refine x_ialdP B ho.a2 h27 dX2_valueOn_166 ?_
            refine x_aload_n B dX2_valueOn_167 rfl (lv_at hl 2 rfl) ?_
            refine y_getFs (C := RX2) (T := TX2) (NN := 4) (d := 2) B ho.a0 inX2 rfl (j := 3) (by decide) q_867 rfl rfl (by decide) dX2_valueOn_168 ?_
            refine x_iload B dX2_valueOn_171 (lv_at hl 0 rfl) ?_
            obtain ⟨h28, hf⟩ := gd_some hf
            refine x_ialdP B ho.a2 h28 dX2_valueOn_173 ?_
            obtain ⟨r30, c29, hf⟩ := bn_some hf
            refine x_callS0 (rest := [.int ((x4 + (-1 : Int32)) - (nI 1)), .ref (gz G + (o + 2))]) B (kX2_joined c29) ⟨rfl, rfl⟩ q_624 q_625 (by rw [hR]; exact cw_X2_valueOn_X2_joined) rfl rfl hl.1 (Nat.le_of_ble_eq_true rfl) dX2_valueOn_174 ⟨Nat.zero_le _, Nat.zero_le _⟩ ?_
            obtain ⟨h31, hf⟩ := gd_some hf
            obtain ⟨h34, hf⟩ := gd_some hf
            refine x_iastP B ho.a2 h31 (of_decide_eq_true h34) dX2_valueOn_177 (fun f32 e33 => ?_)
            have hf := lt_some hf e33
            exact fX2_valueOn_178_ok B hR ho hb3 hk6 (lv_sub hl [2, 3, 4, 5, 0, 6] rfl) hf
        · have hf := iq h25 hf
          exact fX2_valueOn_87_ok B hR ho hb3 hk6 (lv_sub hl [1, 2, 3, 4, 5, 6, 0] rfl) hf
set_option maxHeartbeats 4000000 in
set_option maxRecDepth 100000 in
theorem fX2_valueOn_6L_ok {V : VE} {G : GE} {N : Nat} {m : Mm} {n : Nat}  {o : Nat} {b3 : Nat} {r : Int32} {g : Mm} (B : CX V G cX2_valueOn 7 "FluxWatch$Law" (some .int)) (hR : V.2.2.2.1 = rmX2_valueOn) (ho : lk N o) (hb3 : rg 10 b3)  : ∀ (q : Nat) (x1 : Int32) (x2 : Int32) (x4 : Int32) (x5 : Int32) (mm : Mm) (ls : Array Slot),  lv_has ls 7 [(0, .ref (gz G + o)), (1, .int x1), (2, .int x2), (3, .ref (gz G + b3)), (4, .int x4), (5, .int x5)] → fX2_valueOn_6L n o b3 q x1 x2 x4 x5 mm = some (r, g) → WX V G N mm m 0 0 (QQ V G (some (.int r)) N g m 0 0) 6 ls [] := by
  intro q
  induction q with
  | zero =>
    intro x1 x2 x4 x5 mm ls hl hf
    cases hf
  | succ q ih =>
    intro x1 x2 x4 x5 mm ls hl hf
    exact fX2_valueOn_6_ok B hR ho hb3  ih  hl hf
def fX2_valueOn (n : Nat) (o : Nat) (a1 : Int32) (a2 : Int32) (b3 : Nat) (f : Mm) : Option (Int32 × Mm) :=
  fX2_valueOn_6L n o b3 n a1 a2 (nI 0) (nI 0) f
set_option maxHeartbeats 4000000 in
set_option maxRecDepth 100000 in
theorem kX2_valueOn {l : Launch} {G : GE} {N : Nat} {f m : Mm} {n : Nat} {o : Nat} {a1 : Int32} {a2 : Int32} {b3 : Nat} {r : Int32} {g : Mm} (ho : lk N o) (hb3 : rg 10 b3) (hf : fX2_valueOn n o a1 a2 b3 f = some (r, g)) : MT l G yX2_valueOn cX2_valueOn 7 (some .int) rmX2_valueOn [.ref (gz G + o), .int a1, .int a2, .ref (gz G + b3)] N f m (some (.int r)) N g m := by
  unfold fX2_valueOn at hf
  refine MT.of (by decide) (Nat.le_of_ble_eq_true rfl) (fun V ls hV hR B hl => ?_)
  have B : CX V G cX2_valueOn 7 "FluxWatch$Law" (some .int) := B
  have hl : lv_has ls 7 [(0, .ref (gz G + o)), (1, .int a1), (2, .int a2), (3, .ref (gz G + b3))] := hl
  show WX V G N f m 0 0 (QQ V G (some (.int r)) N g m 0 0) 0 ls []
  refine x_iconst (v := (nI 0)) B dX2_valueOn_0 (by decide) ?_
  refine x_istore (lv' := [(4, .int (nI 0)), (0, .ref (gz G + o)), (1, .int a1), (2, .int a2), (3, .ref (gz G + b3))]) B dX2_valueOn_1 hl (by decide) rfl (fun ls hl => ?_)
  refine x_iconst (v := (nI 0)) B dX2_valueOn_3 (by decide) ?_
  refine x_istore (lv' := [(5, .int (nI 0)), (4, .int (nI 0)), (0, .ref (gz G + o)), (1, .int a1), (2, .int a2), (3, .ref (gz G + b3))]) B dX2_valueOn_4 hl (by decide) rfl (fun ls hl => ?_)
  exact fX2_valueOn_6L_ok B hR ho hb3  n _ _ _ _ _ _ (lv_sub hl [2, 3, 4, 5, 1, 0] rfl) hf
def rmX10_lawFor : Room := { frames := 0, cells := 0, slots := 0, locals := 0 }
def fX10_lawFor (n : Nat) (o : Nat) (a1 : Int32) (f : Mm) : Option (Int32) :=
  gd (ib a1 3) <|
  lt (f (o + 15) a1.toNatClampNeg) fun v2 =>
  if v2 < 0 then (
  some (nI 0)) else (
  if v2 < (f o 10) then (
  gd (ib v2 14) <|
  some (f (o + 14) v2.toNatClampNeg)) else (
  some (nI 0)))
set_option maxHeartbeats 4000000 in
set_option maxRecDepth 100000 in
theorem kX10_lawFor {l : Launch} {G : GE} {N : Nat} {f m : Mm} {n : Nat} {o : Nat} {a1 : Int32} {r : Int32} (ho : rg 10 o) (hf : fX10_lawFor n o a1 f = some r) : MT l G yX10_lawFor cX10_lawFor 3 (some (.object "FluxWatch$Law")) rmX10_lawFor [.ref (gz G + o), .int a1] N f m (some (lvv (gz G) r)) N f m := by
  unfold fX10_lawFor at hf
  refine MT.of (by decide) (Nat.le_of_ble_eq_true rfl) (fun V ls hV hR B hl => ?_)
  have B : CX V G cX10_lawFor 3 "FluxWatch$World" (some (.object "FluxWatch$Law")) := B
  have hl : lv_has ls 3 [(0, .ref (gz G + o)), (1, .int a1)] := hl
  show WX V G N f m 0 0 (QQ V G (some (lvv (gz G) r)) N f m 0 0) 0 ls []
  refine x_aload_n B dX10_lawFor_0 rfl (lv_at hl 0 rfl) ?_
  refine y_getFs (C := RX10) (T := TX10) (NN := 16) (d := 15) B (ho.at0 rfl) inX10 rfl (j := 11) (by decide) q_213 rfl rfl (by decide) dX10_lawFor_1 ?_
  refine x_iload_n B dX10_lawFor_4 rfl (lv_at hl 1 rfl) ?_
  obtain ⟨h1, hf⟩ := gd_some hf
  refine x_ialdF B (ho.at 15 rfl) h1 dX10_lawFor_5 ?_
  refine x_nm (fun v2 e3 => ?_)
  have hf := lt_some hf e3
  refine x_istore_n (lv' := [(2, .int v2), (0, .ref (gz G + o)), (1, .int a1)]) B dX10_lawFor_6 rfl hl (by decide) rfl (fun ls hl => ?_)
  refine x_iload_n B dX10_lawFor_7 rfl (lv_at hl 0 rfl) ?_
  refine x_if_lt (tgt := 19) B dX10_lawFor_8 (by decide) (fun h4 => ?_) (fun h4 => ?_)
  · have hf := ip h4 hf
    refine y_null B dX10_lawFor_19 ?_
    refine x_goto (tgt := 29) B dX10_lawFor_20 (by decide) ?_
    obtain rfl := rt1 hf
    exact x_lret B dX10_lawFor_29
  · have hf := iq h4 hf
    refine x_iload_n B dX10_lawFor_11 rfl (lv_at hl 0 rfl) ?_
    refine x_aload_n B dX10_lawFor_12 rfl (lv_at hl 1 rfl) ?_
    refine y_getFi (C := RX10) (T := TX10) (NN := 16) B (ho.at0 rfl) inX10 rfl (j := 10) (by decide) q_211 rfl rfl dX10_lawFor_13 ?_
    refine x_icmp_lt (tgt := 23) B dX10_lawFor_16 (by decide) (fun h5 => ?_) (fun h5 => ?_)
    · have hf := ip h5 hf
      refine x_aload_n B dX10_lawFor_23 rfl (lv_at hl 1 rfl) ?_
      refine y_getFs (C := RX10) (T := TX10) (NN := 16) (d := 14) B (ho.at0 rfl) inX10 rfl (j := 9) (by decide) q_209 rfl rfl (by decide) dX10_lawFor_24 ?_
      refine x_iload_n B dX10_lawFor_27 rfl (lv_at hl 0 rfl) ?_
      obtain ⟨h6, hf⟩ := gd_some hf
      refine x_aaldL B (ho.at 14 rfl) h6 dX10_lawFor_28 ?_
      obtain rfl := rt1 hf
      exact x_lret B dX10_lawFor_29
    · have hf := iq h5 hf
      refine y_null B dX10_lawFor_19 ?_
      refine x_goto (tgt := 29) B dX10_lawFor_20 (by decide) ?_
      obtain rfl := rt1 hf
      exact x_lret B dX10_lawFor_29
def rmX10_rateOn : Room := { frames := 2, cells := 0, slots := 0, locals := 88 }
set_option maxHeartbeats 4000000 in
set_option maxRecDepth 100000 in
theorem cw_X10_rateOn_X10_lawFor : cwB rmX10_rateOn rmX10_lawFor yX10_lawFor cX10_lawFor 3 (some (.object "FluxWatch$Law")) 1 := ⟨q_613, q_46, by decide, by decide⟩
set_option maxHeartbeats 4000000 in
set_option maxRecDepth 100000 in
theorem cw_X10_rateOn_X11_heldRate : cwB rmX10_rateOn rmX11_heldRate yX11_heldRate cX11_heldRate 1 (some .int) 1 := ⟨q_629, q_45, by decide, by decide⟩
set_option maxHeartbeats 4000000 in
set_option maxRecDepth 100000 in
theorem cw_X10_rateOn_X2_valueOn : cwB rmX10_rateOn rmX2_valueOn yX2_valueOn cX2_valueOn 7 (some .int) 3 := ⟨q_617, q_59, by decide, by decide⟩
def fX10_rateOn_21 (n : Nat) (N : Nat) (o : Nat)  (s0 : Int32) (f : Mm) : Option (Int32 × Mm) :=
  bn (fX11_heldRate n s0) fun r6 =>
  some (r6, f)
set_option maxHeartbeats 4000000 in
set_option maxRecDepth 100000 in
theorem fX10_rateOn_21_ok {V : VE} {G : GE} {N : Nat} {f m : Mm} {n : Nat} {ls : Array Slot} {o : Nat} {r : Int32} {g : Mm} (B : CX V G cX10_rateOn 4 "FluxWatch$World" (some .int)) (hR : V.2.2.2.1 = rmX10_rateOn) (ho : rg 10 o)  {s0 : Int32}  (hl : lv_has ls 4 []) (hf : fX10_rateOn_21 n N o s0 f = some (r, g)) : WX V G N f m 0 0 (QQ V G (some (.int r)) N g m 0 0) 21 ls [.int s0] := by
  unfold fX10_rateOn_21 at hf
  obtain ⟨r6, c5, hf⟩ := bn_some hf
  refine x_callSN0 (rest := []) B (kX11_heldRate c5) ⟨rfl, rfl⟩ nq_627 q_628 (by rw [hR]; exact cw_X10_rateOn_X11_heldRate) rfl rfl hl.1 (Nat.le_of_ble_eq_true rfl) dX10_rateOn_21 ⟨Nat.zero_le _, Nat.zero_le _⟩ ?_
  obtain ⟨rfl, rfl⟩ := rt2 hf
  exact x_iret B dX10_rateOn_24
def fX10_rateOn (n : Nat) (N : Nat) (o : Nat) (a1 : Int32) (a2 : Int32) (f : Mm) : Option (Int32 × Mm) :=
  bn (fX10_lawFor n o (nI 0) f) fun r2 =>
  if r2 = 0 then (
  fX10_rateOn_21 n N o a2 f) else (gd (lkb N r2) <|
  bn2 (fX2_valueOn n (130 + 3 * (r2.toNatClampNeg - 1)) a1 a2 o f) fun r9 f8 =>
  fX10_rateOn_21 n N o r9 f8)
set_option maxHeartbeats 4000000 in
set_option maxRecDepth 100000 in
theorem kX10_rateOn {l : Launch} {G : GE} {N : Nat} {f m : Mm} {n : Nat} {o : Nat} {a1 : Int32} {a2 : Int32} {r : Int32} {g : Mm} (ho : rg 10 o) (hf : fX10_rateOn n N o a1 a2 f = some (r, g)) : MT l G yX10_rateOn cX10_rateOn 4 (some .int) rmX10_rateOn [.ref (gz G + o), .int a1, .int a2] N f m (some (.int r)) N g m := by
  unfold fX10_rateOn at hf
  refine MT.of (by decide) (Nat.le_of_ble_eq_true rfl) (fun V ls hV hR B hl => ?_)
  have B : CX V G cX10_rateOn 4 "FluxWatch$World" (some .int) := B
  have hl : lv_has ls 4 [(0, .ref (gz G + o)), (1, .int a1), (2, .int a2)] := hl
  show WX V G N f m 0 0 (QQ V G (some (.int r)) N g m 0 0) 0 ls []
  refine x_aload_n B dX10_rateOn_0 rfl (lv_at hl 0 rfl) ?_
  refine x_iconst (v := (nI 0)) B dX10_rateOn_1 (by decide) ?_
  obtain ⟨r2, c1, hf⟩ := bn_some hf
  refine x_callV0 (rest := []) B (kX10_lawFor ho c1) ⟨rfl, rfl⟩ (ho.at0 (N := N) rfl).lt (ho.at0 (N := N) rfl).2 rfl (by decide) q_610 q_611 q_612 (by rw [hR]; exact cw_X10_rateOn_X10_lawFor) rfl rfl hl.1 (Nat.le_of_ble_eq_true rfl) dX10_rateOn_2 ⟨Nat.zero_le _, Nat.zero_le _⟩ ?_
  by_cases h3 : r2 = 0
  · have hf := ip h3 hf
    refine x_val (lvv_z h3) ?_
    refine y_astore_nN (lv' := [(3, .null), (0, .ref (gz G + o)), (1, .int a1), (2, .int a2)]) B dX10_rateOn_5 rfl hl (by decide) rfl (fun ls hl => ?_)
    refine y_aload_nN B dX10_rateOn_6 rfl (lv_at hl 0 rfl) ?_
    refine x_ifnonnullN B dX10_rateOn_7 ?_
    refine x_iload_n B dX10_rateOn_10 rfl (lv_at hl 3 rfl) ?_
    refine x_goto (tgt := 21) B dX10_rateOn_11 (by decide) ?_
    exact fX10_rateOn_21_ok B hR ho  (lv_sub hl [] rfl) hf
  · obtain ⟨h4, hf⟩ := gd_some (iq h3 hf)
    refine x_val (lvv_1 h3) ?_
    refine x_astore_n (lv' := [(3, .ref (gz G + (130 + 3 * (r2.toNatClampNeg - 1)))), (0, .ref (gz G + o)), (1, .int a1), (2, .int a2)]) B dX10_rateOn_5 rfl hl (by decide) rfl (fun ls hl => ?_)
    refine x_aload_n B dX10_rateOn_6 rfl (lv_at hl 0 rfl) ?_
    refine x_ifnonnull (tgt := 14) B dX10_rateOn_7 (by decide) ?_
    refine x_aload_n B dX10_rateOn_14 rfl (lv_at hl 0 rfl) ?_
    refine x_iload_n B dX10_rateOn_15 rfl (lv_at hl 2 rfl) ?_
    refine x_iload_n B dX10_rateOn_16 rfl (lv_at hl 3 rfl) ?_
    refine x_aload_n B dX10_rateOn_17 rfl (lv_at hl 1 rfl) ?_
    obtain ⟨r9, f8, c7, hf⟩ := bn2_some hf
    refine x_callV0 (rest := []) B (kX2_valueOn (lk_of h4) ho c7) ⟨rfl, rfl⟩ (lk_of h4).a0.lt (lk_of h4).a0.2 rfl (by decide) q_614 q_615 q_616 (by rw [hR]; exact cw_X10_rateOn_X2_valueOn) rfl rfl hl.1 (Nat.le_of_ble_eq_true rfl) dX10_rateOn_18 ⟨Nat.zero_le _, Nat.zero_le _⟩ ?_
    exact fX10_rateOn_21_ok B hR ho  (lv_sub hl [] rfl) hf
def rmX11_sumOf : Room := { frames := 0, cells := 0, slots := 0, locals := 0 }
def fX11_sumOf_24 (n : Nat) (b1 : Nat) (nb1 : Nat) (k4 : Int32 → Int32 → Int32 → Mm → Option (Int32)) (x1 : Int32) (x2 : Int32) (x3 : Int32) (f : Mm) : Option (Int32) :=
  k4 x1 x2 (x3 + (nI 1)) f
set_option maxHeartbeats 4000000 in
set_option maxRecDepth 100000 in
theorem fX11_sumOf_24_ok {V : VE} {G : GE} {N : Nat} {f m : Mm} {n : Nat} {ls : Array Slot} {b1 : Nat} {nb1 : Nat} {r : Int32} (B : CX V G cX11_sumOf 4 "FluxWatch" (some .int)) (hR : V.2.2.2.1 = rmX11_sumOf) (hb1 : AF N b1 (20, nb1)) {k4 : Int32 → Int32 → Int32 → Mm → Option (Int32)} (hk4 : ∀ (x1 : Int32) (x2 : Int32) (x3 : Int32) (mm : Mm) (ls : Array Slot),  lv_has ls 4 [(0, .ref (gz G + b1)), (1, .int x1), (2, .int x2), (3, .int x3)] → k4 x1 x2 x3 mm = some r → WX V G N mm m 0 0 (QQ V G (some (.int r)) N mm m 0 0) 4 ls []) {x1 : Int32} {x2 : Int32} {x3 : Int32}  (hl : lv_has ls 4 [(0, .ref (gz G + b1)), (1, .int x1), (2, .int x2), (3, .int x3)]) (hf : fX11_sumOf_24 n b1 nb1 k4 x1 x2 x3 f = some r) : WX V G N f m 0 0 (QQ V G (some (.int r)) N f m 0 0) 24 ls [] := by
  unfold fX11_sumOf_24 at hf
  refine x_iinc (k := 3) (v := (nI 1)) (lv' := [(3, .int (x3 + (nI 1))), (0, .ref (gz G + b1)), (1, .int x1), (2, .int x2)]) B dX11_sumOf_24 hl rfl (by decide) (by decide) rfl (fun ls hl => ?_)
  refine x_goto (tgt := 4) B dX11_sumOf_27 (by decide) ?_
  exact hk4 _ _ _ _ _ (lv_sub hl [1, 2, 3, 0] rfl) hf
def fX11_sumOf_4 (n : Nat) (b1 : Nat) (nb1 : Nat)  (k4 : Int32 → Int32 → Int32 → Mm → Option (Int32)) (x1 : Int32) (x2 : Int32) (x3 : Int32) (f : Mm) : Option (Int32) :=
  if (Int32.ofNat nb1) ≤ x3 then (
  some x2) else (
  if ((shrI x1 x3) &&& (nI 1)) = 0 then (
  fX11_sumOf_24 n b1 nb1 k4 x1 x2 x3 f) else (
  gd (ib x3 nb1) <|
  lt (x2 + (f b1 x3.toNatClampNeg)) fun v4 =>
  fX11_sumOf_24 n b1 nb1 k4 x1 v4 x3 f))
def fX11_sumOf_4L (n : Nat) (b1 : Nat) (nb1 : Nat)  : Nat → Int32 → Int32 → Int32 → Mm → Option (Int32)
  | 0 => fun _ _ _ _ => none
  | q + 1 => fX11_sumOf_4 n b1 nb1  (fX11_sumOf_4L n b1 nb1  q)
set_option maxHeartbeats 4000000 in
set_option maxRecDepth 100000 in
theorem fX11_sumOf_4_ok {V : VE} {G : GE} {N : Nat} {f m : Mm} {n : Nat} {ls : Array Slot} {b1 : Nat} {nb1 : Nat} {r : Int32} (B : CX V G cX11_sumOf 4 "FluxWatch" (some .int)) (hR : V.2.2.2.1 = rmX11_sumOf) (hb1 : AF N b1 (20, nb1))  {k4 : Int32 → Int32 → Int32 → Mm → Option (Int32)} (hk4 : ∀ (x1 : Int32) (x2 : Int32) (x3 : Int32) (mm : Mm) (ls : Array Slot),  lv_has ls 4 [(0, .ref (gz G + b1)), (1, .int x1), (2, .int x2), (3, .int x3)] → k4 x1 x2 x3 mm = some r → WX V G N mm m 0 0 (QQ V G (some (.int r)) N mm m 0 0) 4 ls []) {x1 : Int32} {x2 : Int32} {x3 : Int32}  (hl : lv_has ls 4 [(0, .ref (gz G + b1)), (1, .int x1), (2, .int x2), (3, .int x3)]) (hf : fX11_sumOf_4 n b1 nb1 k4 x1 x2 x3 f = some r) : WX V G N f m 0 0 (QQ V G (some (.int r)) N f m 0 0) 4 ls [] := by
  unfold fX11_sumOf_4 at hf
  refine x_iload_n B dX11_sumOf_4 rfl (lv_at hl 3 rfl) ?_
  refine x_aload_n B dX11_sumOf_5 rfl (lv_at hl 0 rfl) ?_
  refine x_alenF (v := Int32.ofNat nb1) B hb1 rfl dX11_sumOf_6 ?_
  refine x_icmp_ge (tgt := 30) B dX11_sumOf_7 (by decide) (fun h1 => ?_) (fun h1 => ?_)
  · have hf := ip h1 hf
    refine x_iload_n B dX11_sumOf_30 rfl (lv_at hl 2 rfl) ?_
    obtain rfl := rt1 hf
    exact x_iret B dX11_sumOf_31
  · have hf := iq h1 hf
    refine x_iload_n B dX11_sumOf_10 rfl (lv_at hl 1 rfl) ?_
    refine x_iload_n B dX11_sumOf_11 rfl (lv_at hl 3 rfl) ?_
    refine y_ishr B dX11_sumOf_12 ?_
    refine x_iconst (v := (nI 1)) B dX11_sumOf_13 (by decide) ?_
    refine x_iand B dX11_sumOf_14 ?_
    refine x_if_eq (tgt := 24) B dX11_sumOf_15 (by decide) (fun h2 => ?_) (fun h2 => ?_)
    · have hf := ip h2 hf
      exact fX11_sumOf_24_ok B hR hb1 hk4 hl hf
    · have hf := iq h2 hf
      refine x_iload_n B dX11_sumOf_18 rfl (lv_at hl 2 rfl) ?_
      refine x_aload_n B dX11_sumOf_19 rfl (lv_at hl 0 rfl) ?_
      refine x_iload_n B dX11_sumOf_20 rfl (lv_at hl 3 rfl) ?_
      obtain ⟨h3, hf⟩ := gd_some hf
      refine x_ialdF B hb1 h3 dX11_sumOf_21 ?_
      refine x_iadd B dX11_sumOf_22 ?_
      refine x_nm (fun v4 e5 => ?_)
      have hf := lt_some hf e5
      refine x_istore_n (lv' := [(2, .int v4), (0, .ref (gz G + b1)), (1, .int x1), (3, .int x3)]) B dX11_sumOf_23 rfl hl (by decide) rfl (fun ls hl => ?_)
      exact fX11_sumOf_24_ok B hR hb1 hk4 (lv_sub hl [1, 2, 0, 3] rfl) hf
set_option maxHeartbeats 4000000 in
set_option maxRecDepth 100000 in
theorem fX11_sumOf_4L_ok {V : VE} {G : GE} {N : Nat} {m : Mm} {n : Nat}  {b1 : Nat} {nb1 : Nat} {r : Int32} (B : CX V G cX11_sumOf 4 "FluxWatch" (some .int)) (hR : V.2.2.2.1 = rmX11_sumOf) (hb1 : AF N b1 (20, nb1))  : ∀ (q : Nat) (x1 : Int32) (x2 : Int32) (x3 : Int32) (mm : Mm) (ls : Array Slot),  lv_has ls 4 [(0, .ref (gz G + b1)), (1, .int x1), (2, .int x2), (3, .int x3)] → fX11_sumOf_4L n b1 nb1 q x1 x2 x3 mm = some r → WX V G N mm m 0 0 (QQ V G (some (.int r)) N mm m 0 0) 4 ls [] := by
  intro q
  induction q with
  | zero =>
    intro x1 x2 x3 mm ls hl hf
    cases hf
  | succ q ih =>
    intro x1 x2 x3 mm ls hl hf
    exact fX11_sumOf_4_ok B hR hb1  ih  hl hf
def fX11_sumOf (n : Nat) (b1 : Nat) (nb1 : Nat) (a2 : Int32) (f : Mm) : Option (Int32) :=
  fX11_sumOf_4L n b1 nb1 n a2 (nI 0) (nI 0) f
set_option maxHeartbeats 4000000 in
set_option maxRecDepth 100000 in
theorem kX11_sumOf {l : Launch} {G : GE} {N : Nat} {f m : Mm} {n : Nat} {b1 : Nat} {nb1 : Nat} {a2 : Int32} {r : Int32} (hb1 : AF N b1 (20, nb1)) (hf : fX11_sumOf n b1 nb1 a2 f = some r) : MT l G yX11_sumOf cX11_sumOf 4 (some .int) rmX11_sumOf [.ref (gz G + b1), .int a2] N f m (some (.int r)) N f m := by
  unfold fX11_sumOf at hf
  refine MT.of (by decide) (Nat.le_of_ble_eq_true rfl) (fun V ls hV hR B hl => ?_)
  have B : CX V G cX11_sumOf 4 "FluxWatch" (some .int) := B
  have hl : lv_has ls 4 [(0, .ref (gz G + b1)), (1, .int a2)] := hl
  show WX V G N f m 0 0 (QQ V G (some (.int r)) N f m 0 0) 0 ls []
  refine x_iconst (v := (nI 0)) B dX11_sumOf_0 (by decide) ?_
  refine x_istore_n (lv' := [(2, .int (nI 0)), (0, .ref (gz G + b1)), (1, .int a2)]) B dX11_sumOf_1 rfl hl (by decide) rfl (fun ls hl => ?_)
  refine x_iconst (v := (nI 0)) B dX11_sumOf_2 (by decide) ?_
  refine x_istore_n (lv' := [(3, .int (nI 0)), (2, .int (nI 0)), (0, .ref (gz G + b1)), (1, .int a2)]) B dX11_sumOf_3 rfl hl (by decide) rfl (fun ls hl => ?_)
  exact fX11_sumOf_4L_ok B hR hb1  n _ _ _ _ _ (lv_sub hl [2, 3, 1, 0] rfl) hf
def rmX7_coilsOn : Room := { frames := 0, cells := 0, slots := 0, locals := 0 }
def fX7_coilsOn_43 (n : Nat) (o : Nat) (k4 : Int32 → Int32 → Int32 → Mm → Option (Int32)) (x1 : Int32) (x2 : Int32) (x3 : Int32) (f : Mm) : Option (Int32) :=
  k4 x1 x2 (x3 + (nI 1)) f
set_option maxHeartbeats 4000000 in
set_option maxRecDepth 100000 in
theorem fX7_coilsOn_43_ok {V : VE} {G : GE} {N : Nat} {f m : Mm} {n : Nat} {ls : Array Slot} {o : Nat} {r : Int32} (B : CX V G cX7_coilsOn 4 "FluxWatch$Spans" (some .int)) (hR : V.2.2.2.1 = rmX7_coilsOn) (ho : rg 7 o) {k4 : Int32 → Int32 → Int32 → Mm → Option (Int32)} (hk4 : ∀ (x1 : Int32) (x2 : Int32) (x3 : Int32) (mm : Mm) (ls : Array Slot),  lv_has ls 4 [(0, .ref (gz G + o)), (1, .int x1), (2, .int x2), (3, .int x3)] → k4 x1 x2 x3 mm = some r → WX V G N mm m 0 0 (QQ V G (some (.int r)) N mm m 0 0) 4 ls []) {x1 : Int32} {x2 : Int32} {x3 : Int32}  (hl : lv_has ls 4 [(0, .ref (gz G + o)), (1, .int x1), (2, .int x2), (3, .int x3)]) (hf : fX7_coilsOn_43 n o k4 x1 x2 x3 f = some r) : WX V G N f m 0 0 (QQ V G (some (.int r)) N f m 0 0) 43 ls [] := by
  unfold fX7_coilsOn_43 at hf
  refine x_iinc (k := 3) (v := (nI 1)) (lv' := [(3, .int (x3 + (nI 1))), (0, .ref (gz G + o)), (1, .int x1), (2, .int x2)]) B dX7_coilsOn_43 hl rfl (by decide) (by decide) rfl (fun ls hl => ?_)
  refine x_goto (tgt := 4) B dX7_coilsOn_46 (by decide) ?_
  exact hk4 _ _ _ _ _ (lv_sub hl [1, 2, 3, 0] rfl) hf
def fX7_coilsOn_4 (n : Nat) (o : Nat)  (k4 : Int32 → Int32 → Int32 → Mm → Option (Int32)) (x1 : Int32) (x2 : Int32) (x3 : Int32) (f : Mm) : Option (Int32) :=
  if (f o 4) ≤ x3 then (
  some x2) else (
  gd (ib x3 20) <|
  if x1 < (f (o + 2) x3.toNatClampNeg) then (
  fX7_coilsOn_43 n o k4 x1 x2 x3 f) else (
  gd (ib x3 20) <|
  if (f (o + 3) x3.toNatClampNeg) < x1 then (
  fX7_coilsOn_43 n o k4 x1 x2 x3 f) else (
  gd (ib x3 20) <|
  lt (x2 ||| (shlI (nI 1) (f (o + 1) x3.toNatClampNeg))) fun v7 =>
  fX7_coilsOn_43 n o k4 x1 v7 x3 f)))
def fX7_coilsOn_4L (n : Nat) (o : Nat)  : Nat → Int32 → Int32 → Int32 → Mm → Option (Int32)
  | 0 => fun _ _ _ _ => none
  | q + 1 => fX7_coilsOn_4 n o  (fX7_coilsOn_4L n o  q)
set_option maxHeartbeats 4000000 in
set_option maxRecDepth 100000 in
theorem fX7_coilsOn_4_ok {V : VE} {G : GE} {N : Nat} {f m : Mm} {n : Nat} {ls : Array Slot} {o : Nat} {r : Int32} (B : CX V G cX7_coilsOn 4 "FluxWatch$Spans" (some .int)) (hR : V.2.2.2.1 = rmX7_coilsOn) (ho : rg 7 o)  {k4 : Int32 → Int32 → Int32 → Mm → Option (Int32)} (hk4 : ∀ (x1 : Int32) (x2 : Int32) (x3 : Int32) (mm : Mm) (ls : Array Slot),  lv_has ls 4 [(0, .ref (gz G + o)), (1, .int x1), (2, .int x2), (3, .int x3)] → k4 x1 x2 x3 mm = some r → WX V G N mm m 0 0 (QQ V G (some (.int r)) N mm m 0 0) 4 ls []) {x1 : Int32} {x2 : Int32} {x3 : Int32}  (hl : lv_has ls 4 [(0, .ref (gz G + o)), (1, .int x1), (2, .int x2), (3, .int x3)]) (hf : fX7_coilsOn_4 n o k4 x1 x2 x3 f = some r) : WX V G N f m 0 0 (QQ V G (some (.int r)) N f m 0 0) 4 ls [] := by
  unfold fX7_coilsOn_4 at hf
  refine x_iload_n B dX7_coilsOn_4 rfl (lv_at hl 3 rfl) ?_
  refine x_aload_n B dX7_coilsOn_5 rfl (lv_at hl 0 rfl) ?_
  refine y_getFi (C := RX7) (T := TX7) (NN := 5) B (ho.at0 rfl) inX7 rfl (j := 4) (by decide) q_120 rfl rfl dX7_coilsOn_6 ?_
  refine x_icmp_ge (tgt := 49) B dX7_coilsOn_9 (by decide) (fun h1 => ?_) (fun h1 => ?_)
  · have hf := ip h1 hf
    refine x_iload_n B dX7_coilsOn_49 rfl (lv_at hl 2 rfl) ?_
    obtain rfl := rt1 hf
    exact x_iret B dX7_coilsOn_50
  · have hf := iq h1 hf
    refine x_iload_n B dX7_coilsOn_12 rfl (lv_at hl 1 rfl) ?_
    refine x_aload_n B dX7_coilsOn_13 rfl (lv_at hl 0 rfl) ?_
    refine y_getFs (C := RX7) (T := TX7) (NN := 5) (d := 2) B (ho.at0 rfl) inX7 rfl (j := 1) (by decide) q_117 rfl rfl (by decide) dX7_coilsOn_14 ?_
    refine x_iload_n B dX7_coilsOn_17 rfl (lv_at hl 3 rfl) ?_
    obtain ⟨h2, hf⟩ := gd_some hf
    refine x_ialdF B (ho.at 2 rfl) h2 dX7_coilsOn_18 ?_
    refine x_icmp_lt (tgt := 43) B dX7_coilsOn_19 (by decide) (fun h3 => ?_) (fun h3 => ?_)
    · have hf := ip h3 hf
      exact fX7_coilsOn_43_ok B hR ho hk4 hl hf
    · have hf := iq h3 hf
      refine x_iload_n B dX7_coilsOn_22 rfl (lv_at hl 1 rfl) ?_
      refine x_aload_n B dX7_coilsOn_23 rfl (lv_at hl 0 rfl) ?_
      refine y_getFs (C := RX7) (T := TX7) (NN := 5) (d := 3) B (ho.at0 rfl) inX7 rfl (j := 2) (by decide) q_118 rfl rfl (by decide) dX7_coilsOn_24 ?_
      refine x_iload_n B dX7_coilsOn_27 rfl (lv_at hl 3 rfl) ?_
      obtain ⟨h4, hf⟩ := gd_some hf
      refine x_ialdF B (ho.at 3 rfl) h4 dX7_coilsOn_28 ?_
      refine x_icmp_gt (tgt := 43) B dX7_coilsOn_29 (by decide) (fun h5 => ?_) (fun h5 => ?_)
      · have hf := ip h5 hf
        exact fX7_coilsOn_43_ok B hR ho hk4 hl hf
      · have hf := iq h5 hf
        refine x_iload_n B dX7_coilsOn_32 rfl (lv_at hl 2 rfl) ?_
        refine x_iconst (v := (nI 1)) B dX7_coilsOn_33 (by decide) ?_
        refine x_aload_n B dX7_coilsOn_34 rfl (lv_at hl 0 rfl) ?_
        refine y_getFs (C := RX7) (T := TX7) (NN := 5) (d := 1) B (ho.at0 rfl) inX7 rfl (j := 0) (by decide) q_116 rfl rfl (by decide) dX7_coilsOn_35 ?_
        refine x_iload_n B dX7_coilsOn_38 rfl (lv_at hl 3 rfl) ?_
        obtain ⟨h6, hf⟩ := gd_some hf
        refine x_ialdF B (ho.at 1 rfl) h6 dX7_coilsOn_39 ?_
        refine y_ishl B dX7_coilsOn_40 ?_
        refine x_ior B dX7_coilsOn_41 ?_
        refine x_nm (fun v7 e8 => ?_)
        have hf := lt_some hf e8
        refine x_istore_n (lv' := [(2, .int v7), (0, .ref (gz G + o)), (1, .int x1), (3, .int x3)]) B dX7_coilsOn_42 rfl hl (by decide) rfl (fun ls hl => ?_)
        exact fX7_coilsOn_43_ok B hR ho hk4 (lv_sub hl [1, 2, 0, 3] rfl) hf
set_option maxHeartbeats 4000000 in
set_option maxRecDepth 100000 in
theorem fX7_coilsOn_4L_ok {V : VE} {G : GE} {N : Nat} {m : Mm} {n : Nat}  {o : Nat} {r : Int32} (B : CX V G cX7_coilsOn 4 "FluxWatch$Spans" (some .int)) (hR : V.2.2.2.1 = rmX7_coilsOn) (ho : rg 7 o)  : ∀ (q : Nat) (x1 : Int32) (x2 : Int32) (x3 : Int32) (mm : Mm) (ls : Array Slot),  lv_has ls 4 [(0, .ref (gz G + o)), (1, .int x1), (2, .int x2), (3, .int x3)] → fX7_coilsOn_4L n o q x1 x2 x3 mm = some r → WX V G N mm m 0 0 (QQ V G (some (.int r)) N mm m 0 0) 4 ls [] := by
  intro q
  induction q with
  | zero =>
    intro x1 x2 x3 mm ls hl hf
    cases hf
  | succ q ih =>
    intro x1 x2 x3 mm ls hl hf
    exact fX7_coilsOn_4_ok B hR ho  ih  hl hf
def fX7_coilsOn (n : Nat) (o : Nat) (a1 : Int32) (f : Mm) : Option (Int32) :=
  fX7_coilsOn_4L n o n a1 (nI 0) (nI 0) f
set_option maxHeartbeats 4000000 in
set_option maxRecDepth 100000 in
theorem kX7_coilsOn {l : Launch} {G : GE} {N : Nat} {f m : Mm} {n : Nat} {o : Nat} {a1 : Int32} {r : Int32} (ho : rg 7 o) (hf : fX7_coilsOn n o a1 f = some r) : MT l G yX7_coilsOn cX7_coilsOn 4 (some .int) rmX7_coilsOn [.ref (gz G + o), .int a1] N f m (some (.int r)) N f m := by
  unfold fX7_coilsOn at hf
  refine MT.of (by decide) (Nat.le_of_ble_eq_true rfl) (fun V ls hV hR B hl => ?_)
  have B : CX V G cX7_coilsOn 4 "FluxWatch$Spans" (some .int) := B
  have hl : lv_has ls 4 [(0, .ref (gz G + o)), (1, .int a1)] := hl
  show WX V G N f m 0 0 (QQ V G (some (.int r)) N f m 0 0) 0 ls []
  refine x_iconst (v := (nI 0)) B dX7_coilsOn_0 (by decide) ?_
  refine x_istore_n (lv' := [(2, .int (nI 0)), (0, .ref (gz G + o)), (1, .int a1)]) B dX7_coilsOn_1 rfl hl (by decide) rfl (fun ls hl => ?_)
  refine x_iconst (v := (nI 0)) B dX7_coilsOn_2 (by decide) ?_
  refine x_istore_n (lv' := [(3, .int (nI 0)), (2, .int (nI 0)), (0, .ref (gz G + o)), (1, .int a1)]) B dX7_coilsOn_3 rfl hl (by decide) rfl (fun ls hl => ?_)
  exact fX7_coilsOn_4L_ok B hR ho  n _ _ _ _ _ (lv_sub hl [2, 3, 1, 0] rfl) hf
def rmX10_seenOn : Room := { frames := 1, cells := 0, slots := 0, locals := 23 }
set_option maxHeartbeats 4000000 in
set_option maxRecDepth 100000 in
theorem cw_X10_seenOn_X11_sumOf : cwB rmX10_seenOn rmX11_sumOf yX11_sumOf cX11_sumOf 4 (some .int) 2 := ⟨q_492, q_45, by decide, by decide⟩
set_option maxHeartbeats 4000000 in
set_option maxRecDepth 100000 in
theorem cw_X10_seenOn_X7_coilsOn : cwB rmX10_seenOn rmX7_coilsOn yX7_coilsOn cX7_coilsOn 4 (some .int) 1 := ⟨q_448, q_48, by decide, by decide⟩
def fX10_seenOn (n : Nat) (o : Nat) (a1 : Int32) (f : Mm) : Option (Int32) :=
  bn (fX7_coilsOn n (o + 5) a1 f) fun r2 =>
  bn (fX11_sumOf n (o + 1 + 1) 6 r2 f) fun r4 =>
  some r4
set_option maxHeartbeats 4000000 in
set_option maxRecDepth 100000 in
theorem kX10_seenOn {l : Launch} {G : GE} {N : Nat} {f m : Mm} {n : Nat} {o : Nat} {a1 : Int32} {r : Int32} (ho : rg 10 o) (hf : fX10_seenOn n o a1 f = some r) : MT l G yX10_seenOn cX10_seenOn 2 (some .int) rmX10_seenOn [.ref (gz G + o), .int a1] N f m (some (.int r)) N f m := by
  unfold fX10_seenOn at hf
  refine MT.of (by decide) (Nat.le_of_ble_eq_true rfl) (fun V ls hV hR B hl => ?_)
  have B : CX V G cX10_seenOn 2 "FluxWatch$World" (some .int) := B
  have hl : lv_has ls 2 [(0, .ref (gz G + o)), (1, .int a1)] := hl
  show WX V G N f m 0 0 (QQ V G (some (.int r)) N f m 0 0) 0 ls []
  refine x_aload_n B dX10_seenOn_0 rfl (lv_at hl 0 rfl) ?_
  refine y_getFs (C := RX10) (T := TX10) (NN := 16) (d := 1) B (ho.at0 rfl) inX10 rfl (j := 6) (by decide) q_203 rfl rfl (by decide) dX10_seenOn_1 ?_
  refine y_getFs (C := RX1) (T := TX1) (NN := 4) (d := 1) B ((rs_10_1_1 ho).at0 rfl) inX1 rfl (j := 0) (by decide) q_88 rfl rfl (by decide) dX10_seenOn_4 ?_
  refine x_aload_n B dX10_seenOn_7 rfl (lv_at hl 0 rfl) ?_
  refine y_getFs (C := RX10) (T := TX10) (NN := 16) (d := 5) B (ho.at0 rfl) inX10 rfl (j := 7) (by decide) q_205 rfl rfl (by decide) dX10_seenOn_8 ?_
  refine x_iload_n B dX10_seenOn_11 rfl (lv_at hl 1 rfl) ?_
  obtain ⟨r2, c1, hf⟩ := bn_some hf
  refine x_callV0 (rest := [.ref (gz G + (o + 1 + 1))]) B (kX7_coilsOn (rs_10_5_7 ho) c1) ⟨rfl, rfl⟩ ((rs_10_5_7 ho).at0 (N := N) rfl).lt ((rs_10_5_7 ho).at0 (N := N) rfl).2 rfl (by decide) q_445 q_446 q_447 (by rw [hR]; exact cw_X10_seenOn_X7_coilsOn) rfl rfl hl.1 (Nat.le_of_ble_eq_true rfl) dX10_seenOn_12 ⟨Nat.zero_le _, Nat.zero_le _⟩ ?_
  obtain ⟨r4, c3, hf⟩ := bn_some hf
  refine x_callSN0 (rest := []) B (kX11_sumOf ((rs_10_1_1 ho).at 1 rfl) c3) ⟨rfl, rfl⟩ nq_490 q_491 (by rw [hR]; exact cw_X10_seenOn_X11_sumOf) rfl rfl hl.1 (Nat.le_of_ble_eq_true rfl) dX10_seenOn_15 ⟨Nat.zero_le _, Nat.zero_le _⟩ ?_
  obtain rfl := rt1 hf
  exact x_iret B dX10_seenOn_18
def rmX11_await : Room := { frames := 3, cells := 0, slots := 0, locals := 111 }
set_option maxHeartbeats 4000000 in
set_option maxRecDepth 100000 in
theorem cw_X11_await_X10_rateOn : cwB rmX11_await rmX10_rateOn yX10_rateOn cX10_rateOn 4 (some .int) 2 := ⟨q_609, q_46, by decide, by decide⟩
set_option maxHeartbeats 4000000 in
set_option maxRecDepth 100000 in
theorem cw_X11_await_X10_seenOn : cwB rmX11_await rmX10_seenOn yX10_seenOn cX10_seenOn 2 (some .int) 1 := ⟨q_489, q_46, by decide, by decide⟩
def fX11_await_5 (n : Nat) (N : Nat)  (k5 : Int32 → Int32 → Mm → Option (Int32 × Mm)) (x1 : Int32) (x2 : Int32) (f : Mm) : Option (Int32 × Mm) :=
  if (nI 200) ≤ x2 then (
  some ((-1000000005 : Int32), f)) else (
  bn (fX10_seenOn n 1 ((f 1 0) + x2) f) fun r3 =>
  bn2 (fX10_rateOn n N 1 ((f 1 0) + x2) r3 f) fun r6 f5 =>
  lt ((x1 * ((nI 1000) - r6)) / (nI 1000)) fun v7 =>
  if (nI 500000) < v7 then (
  k5 v7 (x2 + (nI 1)) f5) else (
  some ((f 1 0) + x2, f5)))
def fX11_await_5L (n : Nat) (N : Nat)  : Nat → Int32 → Int32 → Mm → Option (Int32 × Mm)
  | 0 => fun _ _ _ => none
  | q + 1 => fX11_await_5 n N  (fX11_await_5L n N  q)
set_option maxHeartbeats 4000000 in
set_option maxRecDepth 100000 in
theorem fX11_await_5_ok {V : VE} {G : GE} {N : Nat} {f m : Mm} {n : Nat} {ls : Array Slot} {r : Int32} {g : Mm} (B : CX V G cX11_await 4 "FluxWatch" (some .int)) (hR : V.2.2.2.1 = rmX11_await)   {k5 : Int32 → Int32 → Mm → Option (Int32 × Mm)} (hk5 : ∀ (x1 : Int32) (x2 : Int32) (mm : Mm) (ls : Array Slot),  lv_has ls 4 [(0, .ref (gz G + 0)), (1, .int x1), (2, .int x2)] → k5 x1 x2 mm = some (r, g) → WX V G N mm m 0 0 (QQ V G (some (.int r)) N g m 0 0) 5 ls []) {x1 : Int32} {x2 : Int32}  (hl : lv_has ls 4 [(0, .ref (gz G + 0)), (1, .int x1), (2, .int x2)]) (hf : fX11_await_5 n N k5 x1 x2 f = some (r, g)) : WX V G N f m 0 0 (QQ V G (some (.int r)) N g m 0 0) 5 ls [] := by
  unfold fX11_await_5 at hf
  refine x_iload_n B dX11_await_5 rfl (lv_at hl 2 rfl) ?_
  refine x_sipush (v := (nI 200)) B dX11_await_6 (by decide) ?_
  refine x_icmp_ge (tgt := 63) B dX11_await_9 (by decide) (fun h1 => ?_) (fun h1 => ?_)
  · have hf := ip h1 hf
    refine x_ldc (v := (-1000000005 : Int32)) B q_461 dX11_await_63 ?_
    obtain ⟨rfl, rfl⟩ := rt2 hf
    exact x_iret B dX11_await_65
  · have hf := iq h1 hf
    refine x_aload_n B dX11_await_12 rfl (lv_at hl 0 rfl) ?_
    refine y_getFs (C := RX11) (T := TX11) (NN := 10) (d := 1) B (rg_11_0.at0 rfl) inX11 rfl (j := 0) (by decide) q_388 rfl rfl (by decide) dX11_await_13 ?_
    refine y_getFi (C := RX10) (T := TX10) (NN := 16) B (rg_10_1.at0 rfl) inX10 rfl (j := 0) (by decide) q_189 rfl rfl dX11_await_16 ?_
    refine x_iload_n B dX11_await_19 rfl (lv_at hl 2 rfl) ?_
    refine x_iadd B dX11_await_20 ?_
    refine x_istore_n (lv' := [(3, .int ((f 1 0) + x2)), (0, .ref (gz G + 0)), (1, .int x1), (2, .int x2)]) B dX11_await_21 rfl hl (by decide) rfl (fun ls hl => ?_)
    refine x_iload_n B dX11_await_22 rfl (lv_at hl 2 rfl) ?_
    refine x_sipush (v := (nI 1000)) B dX11_await_23 (by decide) ?_
    refine x_aload_n B dX11_await_26 rfl (lv_at hl 1 rfl) ?_
    refine y_getFs (C := RX11) (T := TX11) (NN := 10) (d := 1) B (rg_11_0.at0 rfl) inX11 rfl (j := 0) (by decide) q_388 rfl rfl (by decide) dX11_await_27 ?_
    refine x_iload_n B dX11_await_30 rfl (lv_at hl 0 rfl) ?_
    refine x_aload_n B dX11_await_31 rfl (lv_at hl 1 rfl) ?_
    refine y_getFs (C := RX11) (T := TX11) (NN := 10) (d := 1) B (rg_11_0.at0 rfl) inX11 rfl (j := 0) (by decide) q_388 rfl rfl (by decide) dX11_await_32 ?_
    refine x_iload_n B dX11_await_35 rfl (lv_at hl 0 rfl) ?_
    obtain ⟨r3, c2, hf⟩ := bn_some hf
    refine x_callV0 (rest := [.int ((f 1 0) + x2), .ref (gz G + 1), .int (nI 1000), .int x1]) B (kX10_seenOn rg_10_1 c2) ⟨rfl, rfl⟩ (rg_10_1.at0 (N := N) rfl).lt (rg_10_1.at0 (N := N) rfl).2 rfl (by decide) q_486 q_487 q_488 (by rw [hR]; exact cw_X11_await_X10_seenOn) rfl rfl hl.1 (Nat.le_of_ble_eq_true rfl) dX11_await_36 ⟨Nat.zero_le _, Nat.zero_le _⟩ ?_
    obtain ⟨r6, f5, c4, hf⟩ := bn2_some hf
    refine x_callV0 (rest := [.int (nI 1000), .int x1]) B (kX10_rateOn rg_10_1 c4) ⟨rfl, rfl⟩ (rg_10_1.at0 (N := N) rfl).lt (rg_10_1.at0 (N := N) rfl).2 rfl (by decide) q_675 q_607 q_608 (by rw [hR]; exact cw_X11_await_X10_rateOn) rfl rfl hl.1 (Nat.le_of_ble_eq_true rfl) dX11_await_39 ⟨Nat.zero_le _, Nat.zero_le _⟩ ?_
    refine x_isub B dX11_await_42 ?_
    refine x_imul B dX11_await_43 ?_
    refine x_sipush (v := (nI 1000)) B dX11_await_44 (by decide) ?_
    refine x_idiv B dX11_await_47 (by decide) ?_
    refine x_nm (fun v7 e8 => ?_)
    have hf := lt_some hf e8
    refine x_istore_n (lv' := [(1, .int v7), (3, .int ((f 1 0) + x2)), (0, .ref (gz G + 0)), (2, .int x2)]) B dX11_await_48 rfl hl (by decide) rfl (fun ls hl => ?_)
    refine x_iload_n B dX11_await_49 rfl (lv_at hl 0 rfl) ?_
    refine x_ldc (v := (nI 500000)) B q_696 dX11_await_50 ?_
    refine x_icmp_gt (tgt := 57) B dX11_await_52 (by decide) (fun h9 => ?_) (fun h9 => ?_)
    · have hf := ip h9 hf
      refine x_iinc (k := 3) (v := (nI 1)) (lv' := [(2, .int (x2 + (nI 1))), (1, .int v7), (3, .int ((f 1 0) + x2)), (0, .ref (gz G + 0))]) B dX11_await_57 hl rfl (by decide) (by decide) rfl (fun ls hl => ?_)
      refine x_goto (tgt := 5) B dX11_await_60 (by decide) ?_
      exact hk5 _ _ _ _ (lv_sub hl [3, 1, 0] rfl) hf
    · have hf := iq h9 hf
      refine x_iload_n B dX11_await_55 rfl (lv_at hl 1 rfl) ?_
      obtain ⟨rfl, rfl⟩ := rt2 hf
      exact x_iret B dX11_await_56
set_option maxHeartbeats 4000000 in
set_option maxRecDepth 100000 in
theorem fX11_await_5L_ok {V : VE} {G : GE} {N : Nat} {m : Mm} {n : Nat}  {r : Int32} {g : Mm} (B : CX V G cX11_await 4 "FluxWatch" (some .int)) (hR : V.2.2.2.1 = rmX11_await)   : ∀ (q : Nat) (x1 : Int32) (x2 : Int32) (mm : Mm) (ls : Array Slot),  lv_has ls 4 [(0, .ref (gz G + 0)), (1, .int x1), (2, .int x2)] → fX11_await_5L n N q x1 x2 mm = some (r, g) → WX V G N mm m 0 0 (QQ V G (some (.int r)) N g m 0 0) 5 ls [] := by
  intro q
  induction q with
  | zero =>
    intro x1 x2 mm ls hl hf
    cases hf
  | succ q ih =>
    intro x1 x2 mm ls hl hf
    exact fX11_await_5_ok B hR   ih  hl hf
def fX11_await (n : Nat) (N : Nat) (f : Mm) : Option (Int32 × Mm) :=
  fX11_await_5L n N n (nI 1000000) (nI 0) f
set_option maxHeartbeats 4000000 in
set_option maxRecDepth 100000 in
theorem kX11_await {l : Launch} {G : GE} {N : Nat} {f m : Mm} {n : Nat}  {r : Int32} {g : Mm}  (hf : fX11_await n N f = some (r, g)) : MT l G yX11_await cX11_await 4 (some .int) rmX11_await [.ref (gz G + 0)] N f m (some (.int r)) N g m := by
  unfold fX11_await at hf
  refine MT.of (by decide) (Nat.le_of_ble_eq_true rfl) (fun V ls hV hR B hl => ?_)
  have B : CX V G cX11_await 4 "FluxWatch" (some .int) := B
  have hl : lv_has ls 4 [(0, .ref (gz G + 0))] := hl
  show WX V G N f m 0 0 (QQ V G (some (.int r)) N g m 0 0) 0 ls []
  refine x_ldc (v := (nI 1000000)) B q_695 dX11_await_0 ?_
  refine x_istore_n (lv' := [(1, .int (nI 1000000)), (0, .ref (gz G + 0))]) B dX11_await_2 rfl hl (by decide) rfl (fun ls hl => ?_)
  refine x_iconst (v := (nI 0)) B dX11_await_3 (by decide) ?_
  refine x_istore_n (lv' := [(2, .int (nI 0)), (1, .int (nI 1000000)), (0, .ref (gz G + 0))]) B dX11_await_4 rfl hl (by decide) rfl (fun ls hl => ?_)
  exact fX11_await_5L_ok B hR  n _ _ _ _ (lv_sub hl [2, 1, 0] rfl) hf
def rmX1_takeOver : Room := { frames := 1, cells := 0, slots := 0, locals := 68 }
def fX1_takeOver (n : Nat) (o : Nat) (b1 : Nat) (f : Mm) : Option (Mm) :=
  lt (cpR f (b1 + 1) (o + 1) (nI 0) (nI 0) (nI 6)) fun f1 =>
  lt (cpR f1 (b1 + 2) (o + 2) (nI 0) (nI 0) (nI 6)) fun f3 =>
  lt (cpR f3 (b1 + 3) (o + 3) (nI 0) (nI 0) (nI 6)) fun f5 =>
  lt (up f5 o 3 (f5 b1 3)) fun f7 =>
  some f7
set_option maxHeartbeats 4000000 in
set_option maxRecDepth 100000 in
theorem kX1_takeOver {l : Launch} {G : GE} {N : Nat} {f m : Mm} {n : Nat} {o : Nat} {b1 : Nat} {g : Mm} (ho : rg 1 o) (hb1 : rg 1 b1) (hf : fX1_takeOver n o b1 f = some g) : MT l G yX1_takeOver cX1_takeOver 2 none rmX1_takeOver [.ref (gz G + o), .ref (gz G + b1)] N f m none N g m := by
  unfold fX1_takeOver at hf
  refine MT.of (by decide) (Nat.le_of_ble_eq_true rfl) (fun V ls hV hR B hl => ?_)
  have B : CX V G cX1_takeOver 2 "FluxWatch$Coils" none := B
  have hl : lv_has ls 2 [(0, .ref (gz G + o)), (1, .ref (gz G + b1))] := hl
  show WX V G N f m 0 0 (QQ V G none N g m 0 0) 0 ls []
  refine x_aload_n B dX1_takeOver_0 rfl (lv_at hl 1 rfl) ?_
  refine y_getFs (C := RX1) (T := TX1) (NN := 4) (d := 1) B (hb1.at0 rfl) inX1 rfl (j := 0) (by decide) q_86 rfl rfl (by decide) dX1_takeOver_1 ?_
  refine x_iconst (v := (nI 0)) B dX1_takeOver_4 (by decide) ?_
  refine x_aload_n B dX1_takeOver_5 rfl (lv_at hl 0 rfl) ?_
  refine y_getFs (C := RX1) (T := TX1) (NN := 4) (d := 1) B (ho.at0 rfl) inX1 rfl (j := 0) (by decide) q_86 rfl rfl (by decide) dX1_takeOver_6 ?_
  refine x_iconst (v := (nI 0)) B dX1_takeOver_9 (by decide) ?_
  refine x_bipush (v := (nI 6)) B dX1_takeOver_10 (by decide) ?_
  refine x_copyF B (hb1.at 1 rfl) (ho.at 1 rfl) (by decide) q_1074 q_580 q_579 q_58 hl.1 (by rw [hR]; decide) (by rw [hR]; decide) (Nat.le_of_ble_eq_true rfl) dX1_takeOver_12 (fun f1 e2 => ?_)
  have hf := lt_some hf e2
  refine x_aload_n B dX1_takeOver_15 rfl (lv_at hl 1 rfl) ?_
  refine y_getFs (C := RX1) (T := TX1) (NN := 4) (d := 2) B (hb1.at0 rfl) inX1 rfl (j := 1) (by decide) q_89 rfl rfl (by decide) dX1_takeOver_16 ?_
  refine x_iconst (v := (nI 0)) B dX1_takeOver_19 (by decide) ?_
  refine x_aload_n B dX1_takeOver_20 rfl (lv_at hl 0 rfl) ?_
  refine y_getFs (C := RX1) (T := TX1) (NN := 4) (d := 2) B (ho.at0 rfl) inX1 rfl (j := 1) (by decide) q_89 rfl rfl (by decide) dX1_takeOver_21 ?_
  refine x_iconst (v := (nI 0)) B dX1_takeOver_24 (by decide) ?_
  refine x_bipush (v := (nI 6)) B dX1_takeOver_25 (by decide) ?_
  refine x_copyF B (hb1.at 2 rfl) (ho.at 2 rfl) (by decide) q_1074 q_580 q_579 q_58 hl.1 (by rw [hR]; decide) (by rw [hR]; decide) (Nat.le_of_ble_eq_true rfl) dX1_takeOver_27 (fun f3 e4 => ?_)
  have hf := lt_some hf e4
  refine x_aload_n B dX1_takeOver_30 rfl (lv_at hl 1 rfl) ?_
  refine y_getFs (C := RX1) (T := TX1) (NN := 4) (d := 3) B (hb1.at0 rfl) inX1 rfl (j := 2) (by decide) q_92 rfl rfl (by decide) dX1_takeOver_31 ?_
  refine x_iconst (v := (nI 0)) B dX1_takeOver_34 (by decide) ?_
  refine x_aload_n B dX1_takeOver_35 rfl (lv_at hl 0 rfl) ?_
  refine y_getFs (C := RX1) (T := TX1) (NN := 4) (d := 3) B (ho.at0 rfl) inX1 rfl (j := 2) (by decide) q_92 rfl rfl (by decide) dX1_takeOver_36 ?_
  refine x_iconst (v := (nI 0)) B dX1_takeOver_39 (by decide) ?_
  refine x_bipush (v := (nI 6)) B dX1_takeOver_40 (by decide) ?_
  refine x_copyF B (hb1.at 3 rfl) (ho.at 3 rfl) (by decide) q_1074 q_580 q_579 q_58 hl.1 (by rw [hR]; decide) (by rw [hR]; decide) (Nat.le_of_ble_eq_true rfl) dX1_takeOver_42 (fun f5 e6 => ?_)
  have hf := lt_some hf e6
  refine x_aload_n B dX1_takeOver_45 rfl (lv_at hl 0 rfl) ?_
  refine x_aload_n B dX1_takeOver_46 rfl (lv_at hl 1 rfl) ?_
  refine y_getFi (C := RX1) (T := TX1) (NN := 4) B (hb1.at0 rfl) inX1 rfl (j := 3) (by decide) q_95 rfl rfl dX1_takeOver_47 ?_
  refine x_putF (C := RX1) (T := TX1) (NN := 4) (ty0 := tyX1) (ty := .int) B (ho.at0 rfl) inX1 tyX1_ok nmX1 rfl (j := 3) (by decide) q_95 rfl rfl rfl rfl rfl rfl dX1_takeOver_50 (fun f7 e8 => ?_)
  have hf := lt_some hf e8
  obtain rfl := rt1 hf
  exact x_vret B dX1_takeOver_53
def rmX4_takeOver : Room := { frames := 1, cells := 0, slots := 0, locals := 68 }
def fX4_takeOver (n : Nat) (o : Nat) (b1 : Nat) (f : Mm) : Option (Mm) :=
  lt (cpR f (b1 + 1) (o + 1) (nI 0) (nI 0) (nI 8)) fun f1 =>
  lt (cpR f1 (b1 + 2) (o + 2) (nI 0) (nI 0) (nI 8)) fun f3 =>
  lt (up f3 o 2 (f3 b1 2)) fun f5 =>
  some f5
set_option maxHeartbeats 4000000 in
set_option maxRecDepth 100000 in
theorem kX4_takeOver {l : Launch} {G : GE} {N : Nat} {f m : Mm} {n : Nat} {o : Nat} {b1 : Nat} {g : Mm} (ho : rg 4 o) (hb1 : rg 4 b1) (hf : fX4_takeOver n o b1 f = some g) : MT l G yX4_takeOver cX4_takeOver 2 none rmX4_takeOver [.ref (gz G + o), .ref (gz G + b1)] N f m none N g m := by
  unfold fX4_takeOver at hf
  refine MT.of (by decide) (Nat.le_of_ble_eq_true rfl) (fun V ls hV hR B hl => ?_)
  have B : CX V G cX4_takeOver 2 "FluxWatch$Offers" none := B
  have hl : lv_has ls 2 [(0, .ref (gz G + o)), (1, .ref (gz G + b1))] := hl
  show WX V G N f m 0 0 (QQ V G none N g m 0 0) 0 ls []
  refine x_aload_n B dX4_takeOver_0 rfl (lv_at hl 1 rfl) ?_
  refine y_getFs (C := RX4) (T := TX4) (NN := 3) (d := 1) B (hb1.at0 rfl) inX4 rfl (j := 0) (by decide) q_174 rfl rfl (by decide) dX4_takeOver_1 ?_
  refine x_iconst (v := (nI 0)) B dX4_takeOver_4 (by decide) ?_
  refine x_aload_n B dX4_takeOver_5 rfl (lv_at hl 0 rfl) ?_
  refine y_getFs (C := RX4) (T := TX4) (NN := 3) (d := 1) B (ho.at0 rfl) inX4 rfl (j := 0) (by decide) q_174 rfl rfl (by decide) dX4_takeOver_6 ?_
  refine x_iconst (v := (nI 0)) B dX4_takeOver_9 (by decide) ?_
  refine x_bipush (v := (nI 8)) B dX4_takeOver_10 (by decide) ?_
  refine x_copyF B (hb1.at 1 rfl) (ho.at 1 rfl) (by decide) q_1089 q_580 q_579 q_58 hl.1 (by rw [hR]; decide) (by rw [hR]; decide) (Nat.le_of_ble_eq_true rfl) dX4_takeOver_12 (fun f1 e2 => ?_)
  have hf := lt_some hf e2
  refine x_aload_n B dX4_takeOver_15 rfl (lv_at hl 1 rfl) ?_
  refine y_getFs (C := RX4) (T := TX4) (NN := 3) (d := 2) B (hb1.at0 rfl) inX4 rfl (j := 1) (by decide) q_176 rfl rfl (by decide) dX4_takeOver_16 ?_
  refine x_iconst (v := (nI 0)) B dX4_takeOver_19 (by decide) ?_
  refine x_aload_n B dX4_takeOver_20 rfl (lv_at hl 0 rfl) ?_
  refine y_getFs (C := RX4) (T := TX4) (NN := 3) (d := 2) B (ho.at0 rfl) inX4 rfl (j := 1) (by decide) q_176 rfl rfl (by decide) dX4_takeOver_21 ?_
  refine x_iconst (v := (nI 0)) B dX4_takeOver_24 (by decide) ?_
  refine x_bipush (v := (nI 8)) B dX4_takeOver_25 (by decide) ?_
  refine x_copyF B (hb1.at 2 rfl) (ho.at 2 rfl) (by decide) q_1089 q_580 q_579 q_58 hl.1 (by rw [hR]; decide) (by rw [hR]; decide) (Nat.le_of_ble_eq_true rfl) dX4_takeOver_27 (fun f3 e4 => ?_)
  have hf := lt_some hf e4
  refine x_aload_n B dX4_takeOver_30 rfl (lv_at hl 0 rfl) ?_
  refine x_aload_n B dX4_takeOver_31 rfl (lv_at hl 1 rfl) ?_
  refine y_getFi (C := RX4) (T := TX4) (NN := 3) B (hb1.at0 rfl) inX4 rfl (j := 2) (by decide) q_178 rfl rfl dX4_takeOver_32 ?_
  refine x_putF (C := RX4) (T := TX4) (NN := 3) (ty0 := tyX4) (ty := .int) B (ho.at0 rfl) inX4 tyX4_ok nmX4 rfl (j := 2) (by decide) q_178 rfl rfl rfl rfl rfl rfl dX4_takeOver_35 (fun f5 e6 => ?_)
  have hf := lt_some hf e6
  obtain rfl := rt1 hf
  exact x_vret B dX4_takeOver_38
def rmX7_takeOver : Room := { frames := 1, cells := 0, slots := 0, locals := 68 }
def fX7_takeOver (n : Nat) (o : Nat) (b1 : Nat) (f : Mm) : Option (Mm) :=
  lt (cpR f (b1 + 1) (o + 1) (nI 0) (nI 0) (nI 20)) fun f1 =>
  lt (cpR f1 (b1 + 2) (o + 2) (nI 0) (nI 0) (nI 20)) fun f3 =>
  lt (cpR f3 (b1 + 3) (o + 3) (nI 0) (nI 0) (nI 20)) fun f5 =>
  lt (up f5 o 4 (f5 b1 4)) fun f7 =>
  some f7
set_option maxHeartbeats 4000000 in
set_option maxRecDepth 100000 in
theorem kX7_takeOver {l : Launch} {G : GE} {N : Nat} {f m : Mm} {n : Nat} {o : Nat} {b1 : Nat} {g : Mm} (ho : rg 7 o) (hb1 : rg 7 b1) (hf : fX7_takeOver n o b1 f = some g) : MT l G yX7_takeOver cX7_takeOver 2 none rmX7_takeOver [.ref (gz G + o), .ref (gz G + b1)] N f m none N g m := by
  unfold fX7_takeOver at hf
  refine MT.of (by decide) (Nat.le_of_ble_eq_true rfl) (fun V ls hV hR B hl => ?_)
  have B : CX V G cX7_takeOver 2 "FluxWatch$Spans" none := B
  have hl : lv_has ls 2 [(0, .ref (gz G + o)), (1, .ref (gz G + b1))] := hl
  show WX V G N f m 0 0 (QQ V G none N g m 0 0) 0 ls []
  refine x_aload_n B dX7_takeOver_0 rfl (lv_at hl 1 rfl) ?_
  refine y_getFs (C := RX7) (T := TX7) (NN := 5) (d := 1) B (hb1.at0 rfl) inX7 rfl (j := 0) (by decide) q_116 rfl rfl (by decide) dX7_takeOver_1 ?_
  refine x_iconst (v := (nI 0)) B dX7_takeOver_4 (by decide) ?_
  refine x_aload_n B dX7_takeOver_5 rfl (lv_at hl 0 rfl) ?_
  refine y_getFs (C := RX7) (T := TX7) (NN := 5) (d := 1) B (ho.at0 rfl) inX7 rfl (j := 0) (by decide) q_116 rfl rfl (by decide) dX7_takeOver_6 ?_
  refine x_iconst (v := (nI 0)) B dX7_takeOver_9 (by decide) ?_
  refine x_bipush (v := (nI 20)) B dX7_takeOver_10 (by decide) ?_
  refine x_copyF B (hb1.at 1 rfl) (ho.at 1 rfl) (by decide) q_1079 q_580 q_579 q_58 hl.1 (by rw [hR]; decide) (by rw [hR]; decide) (Nat.le_of_ble_eq_true rfl) dX7_takeOver_12 (fun f1 e2 => ?_)
  have hf := lt_some hf e2
  refine x_aload_n B dX7_takeOver_15 rfl (lv_at hl 1 rfl) ?_
  refine y_getFs (C := RX7) (T := TX7) (NN := 5) (d := 2) B (hb1.at0 rfl) inX7 rfl (j := 1) (by decide) q_117 rfl rfl (by decide) dX7_takeOver_16 ?_
  refine x_iconst (v := (nI 0)) B dX7_takeOver_19 (by decide) ?_
  refine x_aload_n B dX7_takeOver_20 rfl (lv_at hl 0 rfl) ?_
  refine y_getFs (C := RX7) (T := TX7) (NN := 5) (d := 2) B (ho.at0 rfl) inX7 rfl (j := 1) (by decide) q_117 rfl rfl (by decide) dX7_takeOver_21 ?_
  refine x_iconst (v := (nI 0)) B dX7_takeOver_24 (by decide) ?_
  refine x_bipush (v := (nI 20)) B dX7_takeOver_25 (by decide) ?_
  refine x_copyF B (hb1.at 2 rfl) (ho.at 2 rfl) (by decide) q_1079 q_580 q_579 q_58 hl.1 (by rw [hR]; decide) (by rw [hR]; decide) (Nat.le_of_ble_eq_true rfl) dX7_takeOver_27 (fun f3 e4 => ?_)
  have hf := lt_some hf e4
  refine x_aload_n B dX7_takeOver_30 rfl (lv_at hl 1 rfl) ?_
  refine y_getFs (C := RX7) (T := TX7) (NN := 5) (d := 3) B (hb1.at0 rfl) inX7 rfl (j := 2) (by decide) q_118 rfl rfl (by decide) dX7_takeOver_31 ?_
  refine x_iconst (v := (nI 0)) B dX7_takeOver_34 (by decide) ?_
  refine x_aload_n B dX7_takeOver_35 rfl (lv_at hl 0 rfl) ?_
  refine y_getFs (C := RX7) (T := TX7) (NN := 5) (d := 3) B (ho.at0 rfl) inX7 rfl (j := 2) (by decide) q_118 rfl rfl (by decide) dX7_takeOver_36 ?_
  refine x_iconst (v := (nI 0)) B dX7_takeOver_39 (by decide) ?_
  refine x_bipush (v := (nI 20)) B dX7_takeOver_40 (by decide) ?_
  refine x_copyF B (hb1.at 3 rfl) (ho.at 3 rfl) (by decide) q_1079 q_580 q_579 q_58 hl.1 (by rw [hR]; decide) (by rw [hR]; decide) (Nat.le_of_ble_eq_true rfl) dX7_takeOver_42 (fun f5 e6 => ?_)
  have hf := lt_some hf e6
  refine x_aload_n B dX7_takeOver_45 rfl (lv_at hl 0 rfl) ?_
  refine x_aload_n B dX7_takeOver_46 rfl (lv_at hl 1 rfl) ?_
  refine y_getFi (C := RX7) (T := TX7) (NN := 5) B (hb1.at0 rfl) inX7 rfl (j := 4) (by decide) q_120 rfl rfl dX7_takeOver_47 ?_
  refine x_putF (C := RX7) (T := TX7) (NN := 5) (ty0 := tyX7) (ty := .int) B (ho.at0 rfl) inX7 tyX7_ok nmX7 rfl (j := 4) (by decide) q_120 rfl rfl rfl rfl rfl rfl dX7_takeOver_50 (fun f7 e8 => ?_)
  have hf := lt_some hf e8
  obtain rfl := rt1 hf
  exact x_vret B dX7_takeOver_53
def rmX8_takeOver : Room := { frames := 1, cells := 0, slots := 0, locals := 68 }
def fX8_takeOver (n : Nat) (o : Nat) (b1 : Nat) (f : Mm) : Option (Mm) :=
  lt (cpR f (b1 + 1) (o + 1) (nI 0) (nI 0) (nI 40)) fun f1 =>
  lt (cpR f1 (b1 + 2) (o + 2) (nI 0) (nI 0) (nI 40)) fun f3 =>
  lt (cpR f3 (b1 + 3) (o + 3) (nI 0) (nI 0) (nI 40)) fun f5 =>
  lt (cpR f5 (b1 + 4) (o + 4) (nI 0) (nI 0) (nI 40)) fun f7 =>
  lt (up f7 o 4 (f7 b1 4)) fun f9 =>
  some f9
set_option maxHeartbeats 4000000 in
set_option maxRecDepth 100000 in
theorem kX8_takeOver {l : Launch} {G : GE} {N : Nat} {f m : Mm} {n : Nat} {o : Nat} {b1 : Nat} {g : Mm} (ho : rg 8 o) (hb1 : rg 8 b1) (hf : fX8_takeOver n o b1 f = some g) : MT l G yX8_takeOver cX8_takeOver 2 none rmX8_takeOver [.ref (gz G + o), .ref (gz G + b1)] N f m none N g m := by
  unfold fX8_takeOver at hf
  refine MT.of (by decide) (Nat.le_of_ble_eq_true rfl) (fun V ls hV hR B hl => ?_)
  have B : CX V G cX8_takeOver 2 "FluxWatch$Steps" none := B
  have hl : lv_has ls 2 [(0, .ref (gz G + o)), (1, .ref (gz G + b1))] := hl
  show WX V G N f m 0 0 (QQ V G none N g m 0 0) 0 ls []
  refine x_aload_n B dX8_takeOver_0 rfl (lv_at hl 1 rfl) ?_
  refine y_getFs (C := RX8) (T := TX8) (NN := 5) (d := 1) B (hb1.at0 rfl) inX8 rfl (j := 0) (by decide) q_139 rfl rfl (by decide) dX8_takeOver_1 ?_
  refine x_iconst (v := (nI 0)) B dX8_takeOver_4 (by decide) ?_
  refine x_aload_n B dX8_takeOver_5 rfl (lv_at hl 0 rfl) ?_
  refine y_getFs (C := RX8) (T := TX8) (NN := 5) (d := 1) B (ho.at0 rfl) inX8 rfl (j := 0) (by decide) q_139 rfl rfl (by decide) dX8_takeOver_6 ?_
  refine x_iconst (v := (nI 0)) B dX8_takeOver_9 (by decide) ?_
  refine x_bipush (v := (nI 40)) B dX8_takeOver_10 (by decide) ?_
  refine x_copyF B (hb1.at 1 rfl) (ho.at 1 rfl) (by decide) q_578 q_580 q_579 q_58 hl.1 (by rw [hR]; decide) (by rw [hR]; decide) (Nat.le_of_ble_eq_true rfl) dX8_takeOver_12 (fun f1 e2 => ?_)
  have hf := lt_some hf e2
  refine x_aload_n B dX8_takeOver_15 rfl (lv_at hl 1 rfl) ?_
  refine y_getFs (C := RX8) (T := TX8) (NN := 5) (d := 2) B (hb1.at0 rfl) inX8 rfl (j := 1) (by decide) q_142 rfl rfl (by decide) dX8_takeOver_16 ?_
  refine x_iconst (v := (nI 0)) B dX8_takeOver_19 (by decide) ?_
  refine x_aload_n B dX8_takeOver_20 rfl (lv_at hl 0 rfl) ?_
  refine y_getFs (C := RX8) (T := TX8) (NN := 5) (d := 2) B (ho.at0 rfl) inX8 rfl (j := 1) (by decide) q_142 rfl rfl (by decide) dX8_takeOver_21 ?_
  refine x_iconst (v := (nI 0)) B dX8_takeOver_24 (by decide) ?_
  refine x_bipush (v := (nI 40)) B dX8_takeOver_25 (by decide) ?_
  refine x_copyF B (hb1.at 2 rfl) (ho.at 2 rfl) (by decide) q_578 q_580 q_579 q_58 hl.1 (by rw [hR]; decide) (by rw [hR]; decide) (Nat.le_of_ble_eq_true rfl) dX8_takeOver_27 (fun f3 e4 => ?_)
  have hf := lt_some hf e4
  refine x_aload_n B dX8_takeOver_30 rfl (lv_at hl 1 rfl) ?_
  refine y_getFs (C := RX8) (T := TX8) (NN := 5) (d := 3) B (hb1.at0 rfl) inX8 rfl (j := 2) (by decide) q_145 rfl rfl (by decide) dX8_takeOver_31 ?_
  refine x_iconst (v := (nI 0)) B dX8_takeOver_34 (by decide) ?_
  refine x_aload_n B dX8_takeOver_35 rfl (lv_at hl 0 rfl) ?_
  refine y_getFs (C := RX8) (T := TX8) (NN := 5) (d := 3) B (ho.at0 rfl) inX8 rfl (j := 2) (by decide) q_145 rfl rfl (by decide) dX8_takeOver_36 ?_
  refine x_iconst (v := (nI 0)) B dX8_takeOver_39 (by decide) ?_
  refine x_bipush (v := (nI 40)) B dX8_takeOver_40 (by decide) ?_
  refine x_copyF B (hb1.at 3 rfl) (ho.at 3 rfl) (by decide) q_578 q_580 q_579 q_58 hl.1 (by rw [hR]; decide) (by rw [hR]; decide) (Nat.le_of_ble_eq_true rfl) dX8_takeOver_42 (fun f5 e6 => ?_)
  have hf := lt_some hf e6
  refine x_aload_n B dX8_takeOver_45 rfl (lv_at hl 1 rfl) ?_
  refine y_getFs (C := RX8) (T := TX8) (NN := 5) (d := 4) B (hb1.at0 rfl) inX8 rfl (j := 3) (by decide) q_148 rfl rfl (by decide) dX8_takeOver_46 ?_
  refine x_iconst (v := (nI 0)) B dX8_takeOver_49 (by decide) ?_
  refine x_aload_n B dX8_takeOver_50 rfl (lv_at hl 0 rfl) ?_
  refine y_getFs (C := RX8) (T := TX8) (NN := 5) (d := 4) B (ho.at0 rfl) inX8 rfl (j := 3) (by decide) q_148 rfl rfl (by decide) dX8_takeOver_51 ?_
  refine x_iconst (v := (nI 0)) B dX8_takeOver_54 (by decide) ?_
  refine x_bipush (v := (nI 40)) B dX8_takeOver_55 (by decide) ?_
  refine x_copyF B (hb1.at 4 rfl) (ho.at 4 rfl) (by decide) q_578 q_580 q_579 q_58 hl.1 (by rw [hR]; decide) (by rw [hR]; decide) (Nat.le_of_ble_eq_true rfl) dX8_takeOver_57 (fun f7 e8 => ?_)
  have hf := lt_some hf e8
  refine x_aload_n B dX8_takeOver_60 rfl (lv_at hl 0 rfl) ?_
  refine x_aload_n B dX8_takeOver_61 rfl (lv_at hl 1 rfl) ?_
  refine y_getFi (C := RX8) (T := TX8) (NN := 5) B (hb1.at0 rfl) inX8 rfl (j := 4) (by decide) q_151 rfl rfl dX8_takeOver_62 ?_
  refine x_putF (C := RX8) (T := TX8) (NN := 5) (ty0 := tyX8) (ty := .int) B (ho.at0 rfl) inX8 tyX8_ok nmX8 rfl (j := 4) (by decide) q_151 rfl rfl rfl rfl rfl rfl dX8_takeOver_65 (fun f9 e10 => ?_)
  have hf := lt_some hf e10
  obtain rfl := rt1 hf
  exact x_vret B dX8_takeOver_68
def rmX10_takeOver : Room := { frames := 2, cells := 0, slots := 0, locals := 89 }
set_option maxHeartbeats 4000000 in
set_option maxRecDepth 100000 in
theorem cw_X10_takeOver_X1_takeOver : cwB rmX10_takeOver rmX1_takeOver yX1_takeOver cX1_takeOver 2 none 1 := ⟨q_1073, q_47, by decide, by decide⟩
set_option maxHeartbeats 4000000 in
set_option maxRecDepth 100000 in
theorem cw_X10_takeOver_X4_takeOver : cwB rmX10_takeOver rmX4_takeOver yX4_takeOver cX4_takeOver 2 none 1 := ⟨q_1088, q_51, by decide, by decide⟩
set_option maxHeartbeats 4000000 in
set_option maxRecDepth 100000 in
theorem cw_X10_takeOver_X7_takeOver : cwB rmX10_takeOver rmX7_takeOver yX7_takeOver cX7_takeOver 2 none 1 := ⟨q_1078, q_48, by decide, by decide⟩
set_option maxHeartbeats 4000000 in
set_option maxRecDepth 100000 in
theorem cw_X10_takeOver_X8_takeOver : cwB rmX10_takeOver rmX8_takeOver yX8_takeOver cX8_takeOver 2 none 1 := ⟨q_1083, q_50, by decide, by decide⟩
def fX10_takeOver (n : Nat) (N : Nat) (o : Nat) (b1 : Nat) (f : Mm) : Option (Mm) :=
  lt (up f o 0 (f b1 0)) fun f1 =>
  lt (up f1 o 1 (f1 b1 1)) fun f3 =>
  lt (up f3 o 2 (f3 b1 2)) fun f5 =>
  lt (up f5 o 3 (f5 b1 3)) fun f7 =>
  lt (up f7 o 4 (f7 b1 4)) fun f9 =>
  lt (up f9 o 5 (f9 b1 5)) fun f11 =>
  bn (fX1_takeOver n (o + 1) (b1 + 1) f11) fun f14 =>
  bn (fX7_takeOver n (o + 5) (b1 + 5) f14) fun f16 =>
  bn (fX8_takeOver n (o + 9) (b1 + 9) f16) fun f18 =>
  gd (lwsB N (f18 (b1 + 14)) 14) <|
  lt (cpR f18 (b1 + 14) (o + 14) (nI 0) (nI 0) (nI 14)) fun f20 =>
  lt (up f20 o 10 (f20 b1 10)) fun f22 =>
  lt (cpR f22 (b1 + 15) (o + 15) (nI 0) (nI 0) (nI 3)) fun f24 =>
  lt (cpR f24 (b1 + 16) (o + 16) (nI 0) (nI 0) (nI 60)) fun f26 =>
  lt (up f26 o 13 (f26 b1 13)) fun f28 =>
  bn (fX7_takeOver n (o + 17) (b1 + 17) f28) fun f31 =>
  bn (fX4_takeOver n (o + 21) (b1 + 21) f31) fun f33 =>
  some f33
set_option maxHeartbeats 4000000 in
set_option maxRecDepth 100000 in
theorem kX10_takeOver {l : Launch} {G : GE} {N : Nat} {f m : Mm} {n : Nat} {o : Nat} {b1 : Nat} {g : Mm} (ho : rg 10 o) (hb1 : rg 10 b1) (hf : fX10_takeOver n N o b1 f = some g) : MT l G yX10_takeOver cX10_takeOver 2 none rmX10_takeOver [.ref (gz G + o), .ref (gz G + b1)] N f m none N g m := by
  unfold fX10_takeOver at hf
  refine MT.of (by decide) (Nat.le_of_ble_eq_true rfl) (fun V ls hV hR B hl => ?_)
  have B : CX V G cX10_takeOver 2 "FluxWatch$World" none := B
  have hl : lv_has ls 2 [(0, .ref (gz G + o)), (1, .ref (gz G + b1))] := hl
  show WX V G N f m 0 0 (QQ V G none N g m 0 0) 0 ls []
  refine x_aload_n B dX10_takeOver_0 rfl (lv_at hl 0 rfl) ?_
  refine x_aload_n B dX10_takeOver_1 rfl (lv_at hl 1 rfl) ?_
  refine y_getFi (C := RX10) (T := TX10) (NN := 16) B (hb1.at0 rfl) inX10 rfl (j := 0) (by decide) q_188 rfl rfl dX10_takeOver_2 ?_
  refine x_putF (C := RX10) (T := TX10) (NN := 16) (ty0 := tyX10) (ty := .int) B (ho.at0 rfl) inX10 tyX10_ok nmX10 rfl (j := 0) (by decide) q_188 rfl rfl rfl rfl rfl rfl dX10_takeOver_5 (fun f1 e2 => ?_)
  have hf := lt_some hf e2
  refine x_aload_n B dX10_takeOver_8 rfl (lv_at hl 0 rfl) ?_
  refine x_aload_n B dX10_takeOver_9 rfl (lv_at hl 1 rfl) ?_
  refine y_getFi (C := RX10) (T := TX10) (NN := 16) B (hb1.at0 rfl) inX10 rfl (j := 1) (by decide) q_191 rfl rfl dX10_takeOver_10 ?_
  refine x_putF (C := RX10) (T := TX10) (NN := 16) (ty0 := tyX10) (ty := .int) B (ho.at0 rfl) inX10 tyX10_ok nmX10 rfl (j := 1) (by decide) q_191 rfl rfl rfl rfl rfl rfl dX10_takeOver_13 (fun f3 e4 => ?_)
  have hf := lt_some hf e4
  refine x_aload_n B dX10_takeOver_16 rfl (lv_at hl 0 rfl) ?_
  refine x_aload_n B dX10_takeOver_17 rfl (lv_at hl 1 rfl) ?_
  refine y_getFi (C := RX10) (T := TX10) (NN := 16) B (hb1.at0 rfl) inX10 rfl (j := 2) (by decide) q_194 rfl rfl dX10_takeOver_18 ?_
  refine x_putF (C := RX10) (T := TX10) (NN := 16) (ty0 := tyX10) (ty := .int) B (ho.at0 rfl) inX10 tyX10_ok nmX10 rfl (j := 2) (by decide) q_194 rfl rfl rfl rfl rfl rfl dX10_takeOver_21 (fun f5 e6 => ?_)
  have hf := lt_some hf e6
  refine x_aload_n B dX10_takeOver_24 rfl (lv_at hl 0 rfl) ?_
  refine x_aload_n B dX10_takeOver_25 rfl (lv_at hl 1 rfl) ?_
  refine y_getFi (C := RX10) (T := TX10) (NN := 16) B (hb1.at0 rfl) inX10 rfl (j := 3) (by decide) q_197 rfl rfl dX10_takeOver_26 ?_
  refine x_putF (C := RX10) (T := TX10) (NN := 16) (ty0 := tyX10) (ty := .int) B (ho.at0 rfl) inX10 tyX10_ok nmX10 rfl (j := 3) (by decide) q_197 rfl rfl rfl rfl rfl rfl dX10_takeOver_29 (fun f7 e8 => ?_)
  have hf := lt_some hf e8
  refine x_aload_n B dX10_takeOver_32 rfl (lv_at hl 0 rfl) ?_
  refine x_aload_n B dX10_takeOver_33 rfl (lv_at hl 1 rfl) ?_
  refine y_getFi (C := RX10) (T := TX10) (NN := 16) B (hb1.at0 rfl) inX10 rfl (j := 4) (by decide) q_200 rfl rfl dX10_takeOver_34 ?_
  refine x_putF (C := RX10) (T := TX10) (NN := 16) (ty0 := tyX10) (ty := .int) B (ho.at0 rfl) inX10 tyX10_ok nmX10 rfl (j := 4) (by decide) q_200 rfl rfl rfl rfl rfl rfl dX10_takeOver_37 (fun f9 e10 => ?_)
  have hf := lt_some hf e10
  refine x_aload_n B dX10_takeOver_40 rfl (lv_at hl 0 rfl) ?_
  refine x_aload_n B dX10_takeOver_41 rfl (lv_at hl 1 rfl) ?_
  refine y_getFi (C := RX10) (T := TX10) (NN := 16) B (hb1.at0 rfl) inX10 rfl (j := 5) (by decide) q_201 rfl rfl dX10_takeOver_42 ?_
  refine x_putF (C := RX10) (T := TX10) (NN := 16) (ty0 := tyX10) (ty := .int) B (ho.at0 rfl) inX10 tyX10_ok nmX10 rfl (j := 5) (by decide) q_201 rfl rfl rfl rfl rfl rfl dX10_takeOver_45 (fun f11 e12 => ?_)
  have hf := lt_some hf e12
  refine x_aload_n B dX10_takeOver_48 rfl (lv_at hl 0 rfl) ?_
  refine y_getFs (C := RX10) (T := TX10) (NN := 16) (d := 1) B (ho.at0 rfl) inX10 rfl (j := 6) (by decide) q_203 rfl rfl (by decide) dX10_takeOver_49 ?_
  refine x_aload_n B dX10_takeOver_52 rfl (lv_at hl 1 rfl) ?_
  refine y_getFs (C := RX10) (T := TX10) (NN := 16) (d := 1) B (hb1.at0 rfl) inX10 rfl (j := 6) (by decide) q_203 rfl rfl (by decide) dX10_takeOver_53 ?_
  obtain ⟨f14, c13, hf⟩ := bn_some hf
  refine x_callV0 (rest := []) B (kX1_takeOver (rs_10_1_1 ho) (rs_10_1_1 hb1) c13) ⟨rfl, rfl⟩ ((rs_10_1_1 ho).at0 (N := N) rfl).lt ((rs_10_1_1 ho).at0 (N := N) rfl).2 rfl (by decide) q_1070 q_1071 q_1072 (by rw [hR]; exact cw_X10_takeOver_X1_takeOver) rfl rfl hl.1 (Nat.le_of_ble_eq_true rfl) dX10_takeOver_56 ⟨Nat.zero_le _, Nat.zero_le _⟩ ?_
  refine x_aload_n B dX10_takeOver_59 rfl (lv_at hl 0 rfl) ?_
  refine y_getFs (C := RX10) (T := TX10) (NN := 16) (d := 5) B (ho.at0 rfl) inX10 rfl (j := 7) (by decide) q_205 rfl rfl (by decide) dX10_takeOver_60 ?_
  refine x_aload_n B dX10_takeOver_63 rfl (lv_at hl 1 rfl) ?_
  refine y_getFs (C := RX10) (T := TX10) (NN := 16) (d := 5) B (hb1.at0 rfl) inX10 rfl (j := 7) (by decide) q_205 rfl rfl (by decide) dX10_takeOver_64 ?_
  obtain ⟨f16, c15, hf⟩ := bn_some hf
  refine x_callV0 (rest := []) B (kX7_takeOver (rs_10_5_7 ho) (rs_10_5_7 hb1) c15) ⟨rfl, rfl⟩ ((rs_10_5_7 ho).at0 (N := N) rfl).lt ((rs_10_5_7 ho).at0 (N := N) rfl).2 rfl (by decide) q_1075 q_1076 q_1077 (by rw [hR]; exact cw_X10_takeOver_X7_takeOver) rfl rfl hl.1 (Nat.le_of_ble_eq_true rfl) dX10_takeOver_67 ⟨Nat.zero_le _, Nat.zero_le _⟩ ?_
  refine x_aload_n B dX10_takeOver_70 rfl (lv_at hl 0 rfl) ?_
  refine y_getFs (C := RX10) (T := TX10) (NN := 16) (d := 9) B (ho.at0 rfl) inX10 rfl (j := 8) (by decide) q_207 rfl rfl (by decide) dX10_takeOver_71 ?_
  refine x_aload_n B dX10_takeOver_74 rfl (lv_at hl 1 rfl) ?_
  refine y_getFs (C := RX10) (T := TX10) (NN := 16) (d := 9) B (hb1.at0 rfl) inX10 rfl (j := 8) (by decide) q_207 rfl rfl (by decide) dX10_takeOver_75 ?_
  obtain ⟨f18, c17, hf⟩ := bn_some hf
  refine x_callV0 (rest := []) B (kX8_takeOver (rs_10_9_8 ho) (rs_10_9_8 hb1) c17) ⟨rfl, rfl⟩ ((rs_10_9_8 ho).at0 (N := N) rfl).lt ((rs_10_9_8 ho).at0 (N := N) rfl).2 rfl (by decide) q_1080 q_1081 q_1082 (by rw [hR]; exact cw_X10_takeOver_X8_takeOver) rfl rfl hl.1 (Nat.le_of_ble_eq_true rfl) dX10_takeOver_78 ⟨Nat.zero_le _, Nat.zero_le _⟩ ?_
  refine x_aload_n B dX10_takeOver_81 rfl (lv_at hl 1 rfl) ?_
  refine y_getFs (C := RX10) (T := TX10) (NN := 16) (d := 14) B (hb1.at0 rfl) inX10 rfl (j := 9) (by decide) q_209 rfl rfl (by decide) dX10_takeOver_82 ?_
  refine x_iconst (v := (nI 0)) B dX10_takeOver_85 (by decide) ?_
  refine x_aload_n B dX10_takeOver_86 rfl (lv_at hl 0 rfl) ?_
  refine y_getFs (C := RX10) (T := TX10) (NN := 16) (d := 14) B (ho.at0 rfl) inX10 rfl (j := 9) (by decide) q_209 rfl rfl (by decide) dX10_takeOver_87 ?_
  refine x_iconst (v := (nI 0)) B dX10_takeOver_90 (by decide) ?_
  refine x_bipush (v := (nI 14)) B dX10_takeOver_91 (by decide) ?_
  obtain ⟨h19, hf⟩ := gd_some hf
  refine x_copyL B (hb1.at 14 rfl) (ho.at 14 rfl) (by decide) h19 q_1084 q_580 q_579 q_58 hl.1 (by rw [hR]; decide) (by rw [hR]; decide) (Nat.le_of_ble_eq_true rfl) dX10_takeOver_93 (fun f20 e21 => ?_)
  have hf := lt_some hf e21
  refine x_aload_n B dX10_takeOver_96 rfl (lv_at hl 0 rfl) ?_
  refine x_aload_n B dX10_takeOver_97 rfl (lv_at hl 1 rfl) ?_
  refine y_getFi (C := RX10) (T := TX10) (NN := 16) B (hb1.at0 rfl) inX10 rfl (j := 10) (by decide) q_211 rfl rfl dX10_takeOver_98 ?_
  refine x_putF (C := RX10) (T := TX10) (NN := 16) (ty0 := tyX10) (ty := .int) B (ho.at0 rfl) inX10 tyX10_ok nmX10 rfl (j := 10) (by decide) q_211 rfl rfl rfl rfl rfl rfl dX10_takeOver_101 (fun f22 e23 => ?_)
  have hf := lt_some hf e23
  refine x_aload_n B dX10_takeOver_104 rfl (lv_at hl 1 rfl) ?_
  refine y_getFs (C := RX10) (T := TX10) (NN := 16) (d := 15) B (hb1.at0 rfl) inX10 rfl (j := 11) (by decide) q_213 rfl rfl (by decide) dX10_takeOver_105 ?_
  refine x_iconst (v := (nI 0)) B dX10_takeOver_108 (by decide) ?_
  refine x_aload_n B dX10_takeOver_109 rfl (lv_at hl 0 rfl) ?_
  refine y_getFs (C := RX10) (T := TX10) (NN := 16) (d := 15) B (ho.at0 rfl) inX10 rfl (j := 11) (by decide) q_213 rfl rfl (by decide) dX10_takeOver_110 ?_
  refine x_iconst (v := (nI 0)) B dX10_takeOver_113 (by decide) ?_
  refine x_aload_n B dX10_takeOver_114 rfl (lv_at hl 0 rfl) ?_
  refine y_getFs (C := RX10) (T := TX10) (NN := 16) (d := 15) B (ho.at0 rfl) inX10 rfl (j := 11) (by decide) q_213 rfl rfl (by decide) dX10_takeOver_115 ?_
  refine x_alenF (v := (nI 3)) B (ho.at 15 rfl) (by decide) dX10_takeOver_118 ?_
  refine x_copyF B (hb1.at 15 rfl) (ho.at 15 rfl) (by decide) q_1084 q_580 q_579 q_58 hl.1 (by rw [hR]; decide) (by rw [hR]; decide) (Nat.le_of_ble_eq_true rfl) dX10_takeOver_119 (fun f24 e25 => ?_)
  have hf := lt_some hf e25
  refine x_aload_n B dX10_takeOver_122 rfl (lv_at hl 1 rfl) ?_
  refine y_getFs (C := RX10) (T := TX10) (NN := 16) (d := 16) B (hb1.at0 rfl) inX10 rfl (j := 12) (by decide) q_215 rfl rfl (by decide) dX10_takeOver_123 ?_
  refine x_iconst (v := (nI 0)) B dX10_takeOver_126 (by decide) ?_
  refine x_aload_n B dX10_takeOver_127 rfl (lv_at hl 0 rfl) ?_
  refine y_getFs (C := RX10) (T := TX10) (NN := 16) (d := 16) B (ho.at0 rfl) inX10 rfl (j := 12) (by decide) q_215 rfl rfl (by decide) dX10_takeOver_128 ?_
  refine x_iconst (v := (nI 0)) B dX10_takeOver_131 (by decide) ?_
  refine x_bipush (v := (nI 60)) B dX10_takeOver_132 (by decide) ?_
  refine x_copyF B (hb1.at 16 rfl) (ho.at 16 rfl) (by decide) q_1084 q_580 q_579 q_58 hl.1 (by rw [hR]; decide) (by rw [hR]; decide) (Nat.le_of_ble_eq_true rfl) dX10_takeOver_134 (fun f26 e27 => ?_)
  have hf := lt_some hf e27
  refine x_aload_n B dX10_takeOver_137 rfl (lv_at hl 0 rfl) ?_
  refine x_aload_n B dX10_takeOver_138 rfl (lv_at hl 1 rfl) ?_
  refine y_getFi (C := RX10) (T := TX10) (NN := 16) B (hb1.at0 rfl) inX10 rfl (j := 13) (by decide) q_216 rfl rfl dX10_takeOver_139 ?_
  refine x_putF (C := RX10) (T := TX10) (NN := 16) (ty0 := tyX10) (ty := .int) B (ho.at0 rfl) inX10 tyX10_ok nmX10 rfl (j := 13) (by decide) q_216 rfl rfl rfl rfl rfl rfl dX10_takeOver_142 (fun f28 e29 => ?_)
  have hf := lt_some hf e29
  refine x_aload_n B dX10_takeOver_145 rfl (lv_at hl 0 rfl) ?_
  refine y_getFs (C := RX10) (T := TX10) (NN := 16) (d := 17) B (ho.at0 rfl) inX10 rfl (j := 14) (by decide) q_218 rfl rfl (by decide) dX10_takeOver_146 ?_
  refine x_aload_n B dX10_takeOver_149 rfl (lv_at hl 1 rfl) ?_
  refine y_getFs (C := RX10) (T := TX10) (NN := 16) (d := 17) B (hb1.at0 rfl) inX10 rfl (j := 14) (by decide) q_218 rfl rfl (by decide) dX10_takeOver_150 ?_
  obtain ⟨f31, c30, hf⟩ := bn_some hf
  refine x_callV0 (rest := []) B (kX7_takeOver (rs_10_17_7 ho) (rs_10_17_7 hb1) c30) ⟨rfl, rfl⟩ ((rs_10_17_7 ho).at0 (N := N) rfl).lt ((rs_10_17_7 ho).at0 (N := N) rfl).2 rfl (by decide) q_1075 q_1076 q_1077 (by rw [hR]; exact cw_X10_takeOver_X7_takeOver) rfl rfl hl.1 (Nat.le_of_ble_eq_true rfl) dX10_takeOver_153 ⟨Nat.zero_le _, Nat.zero_le _⟩ ?_
  refine x_aload_n B dX10_takeOver_156 rfl (lv_at hl 0 rfl) ?_
  refine y_getFs (C := RX10) (T := TX10) (NN := 16) (d := 21) B (ho.at0 rfl) inX10 rfl (j := 15) (by decide) q_220 rfl rfl (by decide) dX10_takeOver_157 ?_
  refine x_aload_n B dX10_takeOver_160 rfl (lv_at hl 1 rfl) ?_
  refine y_getFs (C := RX10) (T := TX10) (NN := 16) (d := 21) B (hb1.at0 rfl) inX10 rfl (j := 15) (by decide) q_220 rfl rfl (by decide) dX10_takeOver_161 ?_
  obtain ⟨f33, c32, hf⟩ := bn_some hf
  refine x_callV0 (rest := []) B (kX4_takeOver (rs_10_21_4 ho) (rs_10_21_4 hb1) c32) ⟨rfl, rfl⟩ ((rs_10_21_4 ho).at0 (N := N) rfl).lt ((rs_10_21_4 ho).at0 (N := N) rfl).2 rfl (by decide) q_1085 q_1086 q_1087 (by rw [hR]; exact cw_X10_takeOver_X4_takeOver) rfl rfl hl.1 (Nat.le_of_ble_eq_true rfl) dX10_takeOver_164 ⟨Nat.zero_le _, Nat.zero_le _⟩ ?_
  obtain rfl := rt1 hf
  exact x_vret B dX10_takeOver_167
def rmX11_back : Room := { frames := 3, cells := 0, slots := 0, locals := 110 }
set_option maxHeartbeats 4000000 in
set_option maxRecDepth 100000 in
theorem cw_X11_back_X10_takeOver : cwB rmX11_back rmX10_takeOver yX10_takeOver cX10_takeOver 2 none 1 := ⟨q_1069, q_46, by decide, by decide⟩
def fX11_back (n : Nat) (N : Nat) (f : Mm) : Option (Int32 × Mm) :=
  if (f 0 3) = 0 then (
  some ((-1000000002 : Int32), f)) else (
  bn (fX10_takeOver n N 1 25 f) fun f3 =>
  some (f3 1 0, f3))
set_option maxHeartbeats 4000000 in
set_option maxRecDepth 100000 in
theorem kX11_back {l : Launch} {G : GE} {N : Nat} {f m : Mm} {n : Nat}  {r : Int32} {g : Mm}  (hf : fX11_back n N f = some (r, g)) : MT l G yX11_back cX11_back 1 (some .int) rmX11_back [.ref (gz G + 0)] N f m (some (.int r)) N g m := by
  unfold fX11_back at hf
  refine MT.of (by decide) (Nat.le_of_ble_eq_true rfl) (fun V ls hV hR B hl => ?_)
  have B : CX V G cX11_back 1 "FluxWatch" (some .int) := B
  have hl : lv_has ls 1 [(0, .ref (gz G + 0))] := hl
  show WX V G N f m 0 0 (QQ V G (some (.int r)) N g m 0 0) 0 ls []
  refine x_aload_n B dX11_back_0 rfl (lv_at hl 0 rfl) ?_
  refine y_getFi (C := RX11) (T := TX11) (NN := 10) B (rg_11_0.at0 rfl) inX11 rfl (j := 3) (by decide) q_391 rfl rfl dX11_back_1 ?_
  refine x_if_ne (tgt := 10) B dX11_back_4 (by decide) (fun h1 => ?_) (fun h1 => ?_)
  · have hf := ip h1 hf
    refine x_ldc (v := (-1000000002 : Int32)) B q_462 dX11_back_7 ?_
    obtain ⟨rfl, rfl⟩ := rt2 hf
    exact x_iret B dX11_back_9
  · have hf := iq h1 hf
    refine x_aload_n B dX11_back_10 rfl (lv_at hl 0 rfl) ?_
    refine y_getFs (C := RX11) (T := TX11) (NN := 10) (d := 1) B (rg_11_0.at0 rfl) inX11 rfl (j := 0) (by decide) q_388 rfl rfl (by decide) dX11_back_11 ?_
    refine x_aload_n B dX11_back_14 rfl (lv_at hl 0 rfl) ?_
    refine y_getFs (C := RX11) (T := TX11) (NN := 10) (d := 25) B (rg_11_0.at0 rfl) inX11 rfl (j := 1) (by decide) q_389 rfl rfl (by decide) dX11_back_15 ?_
    obtain ⟨f3, c2, hf⟩ := bn_some hf
    refine x_callV0 (rest := []) B (kX10_takeOver rg_10_1 rg_10_25 c2) ⟨rfl, rfl⟩ (rg_10_1.at0 (N := N) rfl).lt (rg_10_1.at0 (N := N) rfl).2 rfl (by decide) q_1066 q_1067 q_1068 (by rw [hR]; exact cw_X11_back_X10_takeOver) rfl rfl hl.1 (Nat.le_of_ble_eq_true rfl) dX11_back_18 ⟨Nat.zero_le _, Nat.zero_le _⟩ ?_
    refine x_aload_n B dX11_back_21 rfl (lv_at hl 0 rfl) ?_
    refine y_getFs (C := RX11) (T := TX11) (NN := 10) (d := 1) B (rg_11_0.at0 rfl) inX11 rfl (j := 0) (by decide) q_388 rfl rfl (by decide) dX11_back_22 ?_
    refine y_getFi (C := RX10) (T := TX10) (NN := 16) B (rg_10_1.at0 rfl) inX10 rfl (j := 0) (by decide) q_189 rfl rfl dX11_back_25 ?_
    obtain ⟨rfl, rfl⟩ := rt2 hf
    exact x_iret B dX11_back_28
def rmX11_believed : Room := { frames := 0, cells := 0, slots := 0, locals := 0 }
def fX11_believed_53 (n : Nat)   (x0 : Int32) (x5 : Int64) (s0 : Int64)  : Option (Int32) :=
  if 0 < (lg_cmp (x5 + s0) (0 : Int64)) then (
  gd (nzl (x5 + s0)) <|
  some ((((10000 : Int64) * x5) / (x5 + s0)).toInt32)) else (
  some x0)
set_option maxHeartbeats 4000000 in
set_option maxRecDepth 100000 in
theorem fX11_believed_53_ok {V : VE} {G : GE} {N : Nat} {f m : Mm} {n : Nat} {ls : Array Slot} {r : Int32} (B : CX V G cX11_believed 11 "FluxWatch" (some .int)) (hR : V.2.2.2.1 = rmX11_believed)   {x0 : Int32} {x5 : Int64} {s0 : Int64}  (hl : lv_has ls 11 [(0, .int x0), (5, .long x5)]) (hf : fX11_believed_53 n  x0 x5 s0 = some r) : WX V G N f m 0 0 (QQ V G (some (.int r)) N f m 0 0) 53 ls [.long s0] := by
  unfold fX11_believed_53 at hf
  refine x_lstore (lv' := [(7, .long s0), (0, .int x0), (5, .long x5)]) B dX11_believed_53 hl (by decide) rfl (fun ls hl => ?_)
  refine x_lload B dX11_believed_55 (lv_at hl 2 rfl) ?_
  refine x_lload B dX11_believed_57 (lv_at hl 0 rfl) ?_
  refine x_ladd B dX11_believed_59 ?_
  refine x_lstore (lv' := [(9, .long (x5 + s0)), (7, .long s0), (0, .int x0), (5, .long x5)]) B dX11_believed_60 hl (by decide) rfl (fun ls hl => ?_)
  refine x_lload B dX11_believed_62 (lv_at hl 0 rfl) ?_
  refine x_lconst (v := (0 : Int64)) B dX11_believed_64 (by decide) ?_
  refine x_lcmp B dX11_believed_65 ?_
  refine x_if_gt (tgt := 73) B dX11_believed_66 (by decide) (fun h3 => ?_) (fun h3 => ?_)
  · have hf := ip h3 hf
    refine x_ldc2_w (v := (10000 : Int64)) B q_670 dX11_believed_73 ?_
    refine x_lload B dX11_believed_76 (lv_at hl 3 rfl) ?_
    refine x_lmul B dX11_believed_78 ?_
    refine x_lload B dX11_believed_79 (lv_at hl 0 rfl) ?_
    obtain ⟨h4, hf⟩ := gd_some hf
    refine x_ldiv B dX11_believed_81 (nzl_ne h4) ?_
    refine x_l2i B dX11_believed_82 ?_
    obtain rfl := rt1 hf
    exact x_iret B dX11_believed_83
  · have hf := iq h3 hf
    refine x_iload_n B dX11_believed_69 rfl (lv_at hl 2 rfl) ?_
    refine x_goto (tgt := 83) B dX11_believed_70 (by decide) ?_
    obtain rfl := rt1 hf
    exact x_iret B dX11_believed_83
def fX11_believed_28 (n : Nat)   (x0 : Int32) (x2 : Int32) (x3 : Int32) (x4 : Int32) (s0 : Int64)  : Option (Int32) :=
  if x3 = 0 then (
  fX11_believed_53 n x0 s0 (x4.toInt64 * (((nI 1000) - x2).toInt64))) else (
  fX11_believed_53 n x0 s0 (x4.toInt64 * x2.toInt64))
set_option maxHeartbeats 4000000 in
set_option maxRecDepth 100000 in
theorem fX11_believed_28_ok {V : VE} {G : GE} {N : Nat} {f m : Mm} {n : Nat} {ls : Array Slot} {r : Int32} (B : CX V G cX11_believed 11 "FluxWatch" (some .int)) (hR : V.2.2.2.1 = rmX11_believed)   {x0 : Int32} {x2 : Int32} {x3 : Int32} {x4 : Int32} {s0 : Int64}  (hl : lv_has ls 11 [(0, .int x0), (2, .int x2), (3, .int x3), (4, .int x4)]) (hf : fX11_believed_28 n  x0 x2 x3 x4 s0 = some r) : WX V G N f m 0 0 (QQ V G (some (.int r)) N f m 0 0) 28 ls [.long s0] := by
  unfold fX11_believed_28 at hf
  refine x_lstore (lv' := [(5, .long s0), (0, .int x0), (2, .int x2), (3, .int x3), (4, .int x4)]) B dX11_believed_28 hl (by decide) rfl (fun ls hl => ?_)
  refine x_iload_n B dX11_believed_30 rfl (lv_at hl 3 rfl) ?_
  refine x_if_eq (tgt := 43) B dX11_believed_31 (by decide) (fun h2 => ?_) (fun h2 => ?_)
  · have hf := ip h2 hf
    refine x_iload B dX11_believed_43 (lv_at hl 4 rfl) ?_
    refine x_i2l B dX11_believed_45 ?_
    refine x_sipush (v := (nI 1000)) B dX11_believed_46 (by decide) ?_
    refine x_iload_n B dX11_believed_49 rfl (lv_at hl 2 rfl) ?_
    refine x_isub B dX11_believed_50 ?_
    refine x_i2l B dX11_believed_51 ?_
    refine x_lmul B dX11_believed_52 ?_
    exact fX11_believed_53_ok B hR  (lv_sub hl [1, 0] rfl) hf
  · have hf := iq h2 hf
    refine x_iload B dX11_believed_34 (lv_at hl 4 rfl) ?_
    refine x_i2l B dX11_believed_36 ?_
    refine x_iload_n B dX11_believed_37 rfl (lv_at hl 2 rfl) ?_
    refine x_i2l B dX11_believed_38 ?_
    refine x_lmul B dX11_believed_39 ?_
    refine x_goto (tgt := 53) B dX11_believed_40 (by decide) ?_
    exact fX11_believed_53_ok B hR  (lv_sub hl [1, 0] rfl) hf
def fX11_believed (n : Nat) (a1 : Int32) (a2 : Int32) (a3 : Int32) (a4 : Int32)  : Option (Int32) :=
  if a4 = 0 then (
  fX11_believed_28 n a1 a3 a4 ((nI 10000) - a1) (a1.toInt64 * (((nI 1000) - a2).toInt64))) else (
  fX11_believed_28 n a1 a3 a4 ((nI 10000) - a1) (a1.toInt64 * a2.toInt64))
set_option maxHeartbeats 4000000 in
set_option maxRecDepth 100000 in
theorem kX11_believed {l : Launch} {G : GE} {N : Nat} {f m : Mm} {n : Nat} {a1 : Int32} {a2 : Int32} {a3 : Int32} {a4 : Int32} {r : Int32}  (hf : fX11_believed n a1 a2 a3 a4 = some r) : MT l G yX11_believed cX11_believed 11 (some .int) rmX11_believed [.int a1, .int a2, .int a3, .int a4] N f m (some (.int r)) N f m := by
  unfold fX11_believed at hf
  refine MT.of (by decide) (Nat.le_of_ble_eq_true rfl) (fun V ls hV hR B hl => ?_)
  have B : CX V G cX11_believed 11 "FluxWatch" (some .int) := B
  have hl : lv_has ls 11 [(0, .int a1), (1, .int a2), (2, .int a3), (3, .int a4)] := hl
  show WX V G N f m 0 0 (QQ V G (some (.int r)) N f m 0 0) 0 ls []
  refine x_sipush (v := (nI 10000)) B dX11_believed_0 (by decide) ?_
  refine x_iload_n B dX11_believed_3 rfl (lv_at hl 0 rfl) ?_
  refine x_isub B dX11_believed_4 ?_
  refine x_istore (lv' := [(4, .int ((nI 10000) - a1)), (0, .int a1), (1, .int a2), (2, .int a3), (3, .int a4)]) B dX11_believed_5 hl (by decide) rfl (fun ls hl => ?_)
  refine x_iload_n B dX11_believed_7 rfl (lv_at hl 4 rfl) ?_
  refine x_if_eq (tgt := 19) B dX11_believed_8 (by decide) (fun h1 => ?_) (fun h1 => ?_)
  · have hf := ip h1 hf
    refine x_iload_n B dX11_believed_19 rfl (lv_at hl 1 rfl) ?_
    refine x_i2l B dX11_believed_20 ?_
    refine x_sipush (v := (nI 1000)) B dX11_believed_21 (by decide) ?_
    refine x_iload_n B dX11_believed_24 rfl (lv_at hl 2 rfl) ?_
    refine x_isub B dX11_believed_25 ?_
    refine x_i2l B dX11_believed_26 ?_
    refine x_lmul B dX11_believed_27 ?_
    exact fX11_believed_28_ok B hR  (lv_sub hl [1, 3, 4, 0] rfl) hf
  · have hf := iq h1 hf
    refine x_iload_n B dX11_believed_11 rfl (lv_at hl 1 rfl) ?_
    refine x_i2l B dX11_believed_12 ?_
    refine x_iload_n B dX11_believed_13 rfl (lv_at hl 2 rfl) ?_
    refine x_i2l B dX11_believed_14 ?_
    refine x_lmul B dX11_believed_15 ?_
    refine x_goto (tgt := 28) B dX11_believed_16 (by decide) ?_
    exact fX11_believed_28_ok B hR  (lv_sub hl [1, 3, 4, 0] rfl) hf
def rmX11_isSum : Room := { frames := 0, cells := 0, slots := 0, locals := 0 }
def fX11_isSum (n : Nat) (a1 : Int32)  : Option (Int32) :=
  if a1 < 0 then (
  some (nI 0)) else (
  if (nI 9999) < a1 then (
  some (nI 0)) else (
  some (nI 1)))
set_option maxHeartbeats 4000000 in
set_option maxRecDepth 100000 in
theorem kX11_isSum {l : Launch} {G : GE} {N : Nat} {f m : Mm} {n : Nat} {a1 : Int32} {r : Int32}  (hf : fX11_isSum n a1 = some r) : MT l G yX11_isSum cX11_isSum 1 (some .boolean) rmX11_isSum [.int a1] N f m (some (.int r)) N f m := by
  unfold fX11_isSum at hf
  refine MT.of (by decide) (Nat.le_of_ble_eq_true rfl) (fun V ls hV hR B hl => ?_)
  have B : CX V G cX11_isSum 1 "FluxWatch" (some .boolean) := B
  have hl : lv_has ls 1 [(0, .int a1)] := hl
  show WX V G N f m 0 0 (QQ V G (some (.int r)) N f m 0 0) 0 ls []
  refine x_iload_n B dX11_isSum_0 rfl (lv_at hl 0 rfl) ?_
  refine x_if_lt (tgt := 15) B dX11_isSum_1 (by decide) (fun h1 => ?_) (fun h1 => ?_)
  · have hf := ip h1 hf
    refine x_iconst (v := (nI 0)) B dX11_isSum_15 (by decide) ?_
    obtain rfl := rt1 hf
    exact x_zret B (by decide) dX11_isSum_16
  · have hf := iq h1 hf
    refine x_iload_n B dX11_isSum_4 rfl (lv_at hl 0 rfl) ?_
    refine x_sipush (v := (nI 9999)) B dX11_isSum_5 (by decide) ?_
    refine x_icmp_gt (tgt := 15) B dX11_isSum_8 (by decide) (fun h2 => ?_) (fun h2 => ?_)
    · have hf := ip h2 hf
      refine x_iconst (v := (nI 0)) B dX11_isSum_15 (by decide) ?_
      obtain rfl := rt1 hf
      exact x_zret B (by decide) dX11_isSum_16
    · have hf := iq h2 hf
      refine x_iconst (v := (nI 1)) B dX11_isSum_11 (by decide) ?_
      refine x_goto (tgt := 16) B dX11_isSum_12 (by decide) ?_
      obtain rfl := rt1 hf
      exact x_zret B (by decide) dX11_isSum_16
def rmX0_choose : Room := { frames := 0, cells := 0, slots := 0, locals := 0 }
def fX0_choose (n : Nat) (o : Nat) (a1 : Int32) (a2 : Int32) (a3 : Int32) (a4 : Int32) (f : Mm) : Option (Mm) :=
  lt (up f o 0 a1) fun f1 =>
  lt (up f1 o 1 a2) fun f3 =>
  lt (up f3 o 2 a3) fun f5 =>
  lt (up f5 o 3 a4) fun f7 =>
  some f7
set_option maxHeartbeats 4000000 in
set_option maxRecDepth 100000 in
theorem kX0_choose {l : Launch} {G : GE} {N : Nat} {f m : Mm} {n : Nat} {o : Nat} {a1 : Int32} {a2 : Int32} {a3 : Int32} {a4 : Int32} {g : Mm} (ho : rg 0 o) (hf : fX0_choose n o a1 a2 a3 a4 f = some g) : MT l G yX0_choose cX0_choose 5 none rmX0_choose [.ref (gz G + o), .int a1, .int a2, .int a3, .int a4] N f m none N g m := by
  unfold fX0_choose at hf
  refine MT.of (by decide) (Nat.le_of_ble_eq_true rfl) (fun V ls hV hR B hl => ?_)
  have B : CX V G cX0_choose 5 "FluxWatch$Buyer" none := B
  have hl : lv_has ls 5 [(0, .ref (gz G + o)), (1, .int a1), (2, .int a2), (3, .int a3), (4, .int a4)] := hl
  show WX V G N f m 0 0 (QQ V G none N g m 0 0) 0 ls []
  refine x_aload_n B dX0_choose_0 rfl (lv_at hl 0 rfl) ?_
  refine x_iload_n B dX0_choose_1 rfl (lv_at hl 1 rfl) ?_
  refine x_putF (C := RX0) (T := TX0) (NN := 7) (ty0 := tyX0) (ty := .int) B (ho.at0 rfl) inX0 tyX0_ok nmX0 rfl (j := 0) (by decide) q_361 rfl rfl rfl rfl rfl rfl dX0_choose_2 (fun f1 e2 => ?_)
  have hf := lt_some hf e2
  refine x_aload_n B dX0_choose_5 rfl (lv_at hl 0 rfl) ?_
  refine x_iload_n B dX0_choose_6 rfl (lv_at hl 2 rfl) ?_
  refine x_putF (C := RX0) (T := TX0) (NN := 7) (ty0 := tyX0) (ty := .int) B (ho.at0 rfl) inX0 tyX0_ok nmX0 rfl (j := 1) (by decide) q_363 rfl rfl rfl rfl rfl rfl dX0_choose_7 (fun f3 e4 => ?_)
  have hf := lt_some hf e4
  refine x_aload_n B dX0_choose_10 rfl (lv_at hl 0 rfl) ?_
  refine x_iload_n B dX0_choose_11 rfl (lv_at hl 3 rfl) ?_
  refine x_putF (C := RX0) (T := TX0) (NN := 7) (ty0 := tyX0) (ty := .int) B (ho.at0 rfl) inX0 tyX0_ok nmX0 rfl (j := 2) (by decide) q_365 rfl rfl rfl rfl rfl rfl dX0_choose_12 (fun f5 e6 => ?_)
  have hf := lt_some hf e6
  refine x_aload_n B dX0_choose_15 rfl (lv_at hl 0 rfl) ?_
  refine x_iload B dX0_choose_16 (lv_at hl 4 rfl) ?_
  refine x_putF (C := RX0) (T := TX0) (NN := 7) (ty0 := tyX0) (ty := .int) B (ho.at0 rfl) inX0 tyX0_ok nmX0 rfl (j := 3) (by decide) q_367 rfl rfl rfl rfl rfl rfl dX0_choose_18 (fun f7 e8 => ?_)
  have hf := lt_some hf e8
  obtain rfl := rt1 hf
  exact x_vret B dX0_choose_21
def rmX0_chooseLargest : Room := { frames := 1, cells := 0, slots := 0, locals := 24 }
set_option maxHeartbeats 4000000 in
set_option maxRecDepth 100000 in
theorem cw_X0_chooseLargest_X0_choose : cwB rmX0_chooseLargest rmX0_choose yX0_choose cX0_choose 5 none 4 := ⟨q_969, q_56, by decide, by decide⟩
set_option maxHeartbeats 4000000 in
set_option maxRecDepth 100000 in
theorem cw_X0_chooseLargest_X11_sumOf : cwB rmX0_chooseLargest rmX11_sumOf yX11_sumOf cX11_sumOf 4 (some .int) 2 := ⟨q_492, q_45, by decide, by decide⟩
def fX0_chooseLargest_102 (n : Nat) (o : Nat) (b1 : Nat) (k18 : Int32 → Int32 → Int32 → Mm → Option (Mm)) (x2 : Int32) (x3 : Int32) (x4 : Int32) (f : Mm) : Option (Mm) :=
  k18 x2 x3 (x4 + (nI 1)) f
set_option maxHeartbeats 4000000 in
set_option maxRecDepth 100000 in
theorem fX0_chooseLargest_102_ok {V : VE} {G : GE} {N : Nat} {f m : Mm} {n : Nat} {ls : Array Slot} {o : Nat} {b1 : Nat} {g : Mm} (B : CX V G cX0_chooseLargest 8 "FluxWatch$Buyer" none) (hR : V.2.2.2.1 = rmX0_chooseLargest) (ho : rg 0 o) (hb1 : rg 4 b1) {k18 : Int32 → Int32 → Int32 → Mm → Option (Mm)} (hk18 : ∀ (x2 : Int32) (x3 : Int32) (x4 : Int32) (mm : Mm) (ls : Array Slot),  lv_has ls 8 [(0, .ref (gz G + o)), (1, .ref (gz G + b1)), (2, .int x2), (3, .int x3), (4, .int x4)] → k18 x2 x3 x4 mm = some g → WX V G N mm m 0 0 (QQ V G none N g m 0 0) 18 ls []) {x2 : Int32} {x3 : Int32} {x4 : Int32}  (hl : lv_has ls 8 [(0, .ref (gz G + o)), (1, .ref (gz G + b1)), (2, .int x2), (3, .int x3), (4, .int x4)]) (hf : fX0_chooseLargest_102 n o b1 k18 x2 x3 x4 f = some g) : WX V G N f m 0 0 (QQ V G none N g m 0 0) 102 ls [] := by
  unfold fX0_chooseLargest_102 at hf
  refine x_iinc (k := 4) (v := (nI 1)) (lv' := [(4, .int (x4 + (nI 1))), (0, .ref (gz G + o)), (1, .ref (gz G + b1)), (2, .int x2), (3, .int x3)]) B dX0_chooseLargest_102 hl rfl (by decide) (by decide) rfl (fun ls hl => ?_)
  refine x_goto (tgt := 18) B dX0_chooseLargest_105 (by decide) ?_
  exact hk18 _ _ _ _ _ (lv_sub hl [1, 2, 3, 4, 0] rfl) hf
def fX0_chooseLargest_78 (n : Nat) (o : Nat) (b1 : Nat) (k18 : Int32 → Int32 → Int32 → Mm → Option (Mm)) (x2 : Int32) (x3 : Int32) (x4 : Int32) (x5 : Int32) (x6 : Int32) (s0 : Int32) (f : Mm) : Option (Mm) :=
  if x2 < x5 then (
  fX0_chooseLargest_102 n o b1 k18 x2 x3 x4 f) else (
  if s0 = 0 then (
  fX0_chooseLargest_102 n o b1 k18 x2 x3 x4 f) else (
  bn (fX0_choose n o x4 x6 x5 (nI 0) f) fun f12 =>
  fX0_chooseLargest_102 n o b1 k18 x2 x3 x4 f12))
set_option maxHeartbeats 4000000 in
set_option maxRecDepth 100000 in
theorem fX0_chooseLargest_78_ok {V : VE} {G : GE} {N : Nat} {f m : Mm} {n : Nat} {ls : Array Slot} {o : Nat} {b1 : Nat} {g : Mm} (B : CX V G cX0_chooseLargest 8 "FluxWatch$Buyer" none) (hR : V.2.2.2.1 = rmX0_chooseLargest) (ho : rg 0 o) (hb1 : rg 4 b1) {k18 : Int32 → Int32 → Int32 → Mm → Option (Mm)} (hk18 : ∀ (x2 : Int32) (x3 : Int32) (x4 : Int32) (mm : Mm) (ls : Array Slot),  lv_has ls 8 [(0, .ref (gz G + o)), (1, .ref (gz G + b1)), (2, .int x2), (3, .int x3), (4, .int x4)] → k18 x2 x3 x4 mm = some g → WX V G N mm m 0 0 (QQ V G none N g m 0 0) 18 ls []) {x2 : Int32} {x3 : Int32} {x4 : Int32} {x5 : Int32} {x6 : Int32} {s0 : Int32}  (hl : lv_has ls 8 [(0, .ref (gz G + o)), (1, .ref (gz G + b1)), (2, .int x2), (3, .int x3), (4, .int x4), (5, .int x5), (6, .int x6)]) (hf : fX0_chooseLargest_78 n o b1 k18 x2 x3 x4 x5 x6 s0 f = some g) : WX V G N f m 0 0 (QQ V G none N g m 0 0) 78 ls [.int s0] := by
  unfold fX0_chooseLargest_78 at hf
  refine x_istore (lv' := [(7, .int s0), (0, .ref (gz G + o)), (1, .ref (gz G + b1)), (2, .int x2), (3, .int x3), (4, .int x4), (5, .int x5), (6, .int x6)]) B dX0_chooseLargest_78 hl (by decide) rfl (fun ls hl => ?_)
  refine x_iload B dX0_chooseLargest_80 (lv_at hl 6 rfl) ?_
  refine x_iload_n B dX0_chooseLargest_82 rfl (lv_at hl 3 rfl) ?_
  refine x_icmp_gt (tgt := 102) B dX0_chooseLargest_83 (by decide) (fun h9 => ?_) (fun h9 => ?_)
  · have hf := ip h9 hf
    exact fX0_chooseLargest_102_ok B hR ho hb1 hk18 (lv_sub hl [1, 2, 3, 4, 5] rfl) hf
  · have hf := iq h9 hf
    refine x_iload B dX0_chooseLargest_86 (lv_at hl 0 rfl) ?_
    refine x_if_eq (tgt := 102) B dX0_chooseLargest_88 (by decide) (fun h10 => ?_) (fun h10 => ?_)
    · have hf := ip h10 hf
      exact fX0_chooseLargest_102_ok B hR ho hb1 hk18 (lv_sub hl [1, 2, 3, 4, 5] rfl) hf
    · have hf := iq h10 hf
      refine x_aload_n B dX0_chooseLargest_91 rfl (lv_at hl 1 rfl) ?_
      refine x_iload B dX0_chooseLargest_92 (lv_at hl 5 rfl) ?_
      refine x_iload B dX0_chooseLargest_94 (lv_at hl 7 rfl) ?_
      refine x_iload B dX0_chooseLargest_96 (lv_at hl 6 rfl) ?_
      refine x_iconst (v := (nI 0)) B dX0_chooseLargest_98 (by decide) ?_
      obtain ⟨f12, c11, hf⟩ := bn_some hf
      refine x_callV0 (rest := []) B (kX0_choose ho c11) ⟨rfl, rfl⟩ (ho.at0 (N := N) rfl).lt (ho.at0 (N := N) rfl).2 rfl (by decide) q_966 q_967 q_968 (by rw [hR]; exact cw_X0_chooseLargest_X0_choose) rfl rfl hl.1 (Nat.le_of_ble_eq_true rfl) dX0_chooseLargest_99 ⟨Nat.zero_le _, Nat.zero_le _⟩ ?_
      exact fX0_chooseLargest_102_ok B hR ho hb1 hk18 (lv_sub hl [1, 2, 3, 4, 5] rfl) hf
def fX0_chooseLargest_73 (n : Nat) (o : Nat) (b1 : Nat) (k18 : Int32 → Int32 → Int32 → Mm → Option (Mm)) (x2 : Int32) (x3 : Int32) (x4 : Int32) (x5 : Int32) (x6 : Int32) (f : Mm) : Option (Mm) :=
  fX0_chooseLargest_78 n o b1 k18 x2 x3 x4 x5 x6 (nI 1) f
set_option maxHeartbeats 4000000 in
set_option maxRecDepth 100000 in
theorem fX0_chooseLargest_73_ok {V : VE} {G : GE} {N : Nat} {f m : Mm} {n : Nat} {ls : Array Slot} {o : Nat} {b1 : Nat} {g : Mm} (B : CX V G cX0_chooseLargest 8 "FluxWatch$Buyer" none) (hR : V.2.2.2.1 = rmX0_chooseLargest) (ho : rg 0 o) (hb1 : rg 4 b1) {k18 : Int32 → Int32 → Int32 → Mm → Option (Mm)} (hk18 : ∀ (x2 : Int32) (x3 : Int32) (x4 : Int32) (mm : Mm) (ls : Array Slot),  lv_has ls 8 [(0, .ref (gz G + o)), (1, .ref (gz G + b1)), (2, .int x2), (3, .int x3), (4, .int x4)] → k18 x2 x3 x4 mm = some g → WX V G N mm m 0 0 (QQ V G none N g m 0 0) 18 ls []) {x2 : Int32} {x3 : Int32} {x4 : Int32} {x5 : Int32} {x6 : Int32}  (hl : lv_has ls 8 [(0, .ref (gz G + o)), (1, .ref (gz G + b1)), (2, .int x2), (3, .int x3), (4, .int x4), (5, .int x5), (6, .int x6)]) (hf : fX0_chooseLargest_73 n o b1 k18 x2 x3 x4 x5 x6 f = some g) : WX V G N f m 0 0 (QQ V G none N g m 0 0) 73 ls [] := by
  unfold fX0_chooseLargest_73 at hf
  refine x_iconst (v := (nI 1)) B dX0_chooseLargest_73 (by decide) ?_
  refine x_goto (tgt := 78) B dX0_chooseLargest_74 (by decide) ?_
  exact fX0_chooseLargest_78_ok B hR ho hb1 hk18 hl hf
def fX0_chooseLargest_77 (n : Nat) (o : Nat) (b1 : Nat) (k18 : Int32 → Int32 → Int32 → Mm → Option (Mm)) (x2 : Int32) (x3 : Int32) (x4 : Int32) (x5 : Int32) (x6 : Int32) (f : Mm) : Option (Mm) :=
  fX0_chooseLargest_78 n o b1 k18 x2 x3 x4 x5 x6 (nI 0) f
set_option maxHeartbeats 4000000 in
set_option maxRecDepth 100000 in
theorem fX0_chooseLargest_77_ok {V : VE} {G : GE} {N : Nat} {f m : Mm} {n : Nat} {ls : Array Slot} {o : Nat} {b1 : Nat} {g : Mm} (B : CX V G cX0_chooseLargest 8 "FluxWatch$Buyer" none) (hR : V.2.2.2.1 = rmX0_chooseLargest) (ho : rg 0 o) (hb1 : rg 4 b1) {k18 : Int32 → Int32 → Int32 → Mm → Option (Mm)} (hk18 : ∀ (x2 : Int32) (x3 : Int32) (x4 : Int32) (mm : Mm) (ls : Array Slot),  lv_has ls 8 [(0, .ref (gz G + o)), (1, .ref (gz G + b1)), (2, .int x2), (3, .int x3), (4, .int x4)] → k18 x2 x3 x4 mm = some g → WX V G N mm m 0 0 (QQ V G none N g m 0 0) 18 ls []) {x2 : Int32} {x3 : Int32} {x4 : Int32} {x5 : Int32} {x6 : Int32}  (hl : lv_has ls 8 [(0, .ref (gz G + o)), (1, .ref (gz G + b1)), (2, .int x2), (3, .int x3), (4, .int x4), (5, .int x5), (6, .int x6)]) (hf : fX0_chooseLargest_77 n o b1 k18 x2 x3 x4 x5 x6 f = some g) : WX V G N f m 0 0 (QQ V G none N g m 0 0) 77 ls [] := by
  unfold fX0_chooseLargest_77 at hf
  refine x_iconst (v := (nI 0)) B dX0_chooseLargest_77 (by decide) ?_
  exact fX0_chooseLargest_78_ok B hR ho hb1 hk18 hl hf
def fX0_chooseLargest_18 (n : Nat) (o : Nat) (b1 : Nat)  (k18 : Int32 → Int32 → Int32 → Mm → Option (Mm)) (x2 : Int32) (x3 : Int32) (x4 : Int32) (f : Mm) : Option (Mm) :=
  if x3 ≤ x4 then (
  some f) else (
  bn (fX11_sumOf n (b1 + 2) 8 x4 f) fun r5 =>
  bn (fX11_sumOf n (b1 + 1) 8 x4 f) fun r7 =>
  if (f o 1) < r7 then (
  fX0_chooseLargest_73 n o b1 k18 x2 x3 x4 r5 r7 f) else (
  if r7 = (f o 1) then (
  if (f o 2) ≤ r5 then (
  fX0_chooseLargest_77 n o b1 k18 x2 x3 x4 r5 r7 f) else (
  fX0_chooseLargest_73 n o b1 k18 x2 x3 x4 r5 r7 f)) else (
  fX0_chooseLargest_77 n o b1 k18 x2 x3 x4 r5 r7 f)))
def fX0_chooseLargest_18L (n : Nat) (o : Nat) (b1 : Nat)  : Nat → Int32 → Int32 → Int32 → Mm → Option (Mm)
  | 0 => fun _ _ _ _ => none
  | q + 1 => fX0_chooseLargest_18 n o b1  (fX0_chooseLargest_18L n o b1  q)
set_option maxHeartbeats 4000000 in
set_option maxRecDepth 100000 in
theorem fX0_chooseLargest_18_ok {V : VE} {G : GE} {N : Nat} {f m : Mm} {n : Nat} {ls : Array Slot} {o : Nat} {b1 : Nat} {g : Mm} (B : CX V G cX0_chooseLargest 8 "FluxWatch$Buyer" none) (hR : V.2.2.2.1 = rmX0_chooseLargest) (ho : rg 0 o) (hb1 : rg 4 b1)  {k18 : Int32 → Int32 → Int32 → Mm → Option (Mm)} (hk18 : ∀ (x2 : Int32) (x3 : Int32) (x4 : Int32) (mm : Mm) (ls : Array Slot),  lv_has ls 8 [(0, .ref (gz G + o)), (1, .ref (gz G + b1)), (2, .int x2), (3, .int x3), (4, .int x4)] → k18 x2 x3 x4 mm = some g → WX V G N mm m 0 0 (QQ V G none N g m 0 0) 18 ls []) {x2 : Int32} {x3 : Int32} {x4 : Int32}  (hl : lv_has ls 8 [(0, .ref (gz G + o)), (1, .ref (gz G + b1)), (2, .int x2), (3, .int x3), (4, .int x4)]) (hf : fX0_chooseLargest_18 n o b1 k18 x2 x3 x4 f = some g) : WX V G N f m 0 0 (QQ V G none N g m 0 0) 18 ls [] := by
  unfold fX0_chooseLargest_18 at hf
  refine x_iload B dX0_chooseLargest_18 (lv_at hl 4 rfl) ?_
  refine x_iload_n B dX0_chooseLargest_20 rfl (lv_at hl 3 rfl) ?_
  refine x_icmp_ge (tgt := 108) B dX0_chooseLargest_21 (by decide) (fun h3 => ?_) (fun h3 => ?_)
  · have hf := ip h3 hf
    obtain rfl := rt1 hf
    exact x_vret B dX0_chooseLargest_108
  · have hf := iq h3 hf
    refine x_aload_n B dX0_chooseLargest_24 rfl (lv_at hl 1 rfl) ?_
    refine y_getFs (C := RX4) (T := TX4) (NN := 3) (d := 2) B (hb1.at0 rfl) inX4 rfl (j := 1) (by decide) q_177 rfl rfl (by decide) dX0_chooseLargest_25 ?_
    refine x_iload B dX0_chooseLargest_28 (lv_at hl 4 rfl) ?_
    obtain ⟨r5, c4, hf⟩ := bn_some hf
    refine x_callSN0 (rest := []) B (kX11_sumOf (hb1.at 2 rfl) c4) ⟨rfl, rfl⟩ nq_970 q_491 (by rw [hR]; exact cw_X0_chooseLargest_X11_sumOf) rfl rfl hl.1 (Nat.le_of_ble_eq_true rfl) dX0_chooseLargest_30 ⟨Nat.zero_le _, Nat.zero_le _⟩ ?_
    refine x_istore (lv' := [(5, .int r5), (0, .ref (gz G + o)), (1, .ref (gz G + b1)), (2, .int x2), (3, .int x3), (4, .int x4)]) B dX0_chooseLargest_33 hl (by decide) rfl (fun ls hl => ?_)
    refine x_aload_n B dX0_chooseLargest_35 rfl (lv_at hl 2 rfl) ?_
    refine y_getFs (C := RX4) (T := TX4) (NN := 3) (d := 1) B (hb1.at0 rfl) inX4 rfl (j := 0) (by decide) q_175 rfl rfl (by decide) dX0_chooseLargest_36 ?_
    refine x_iload B dX0_chooseLargest_39 (lv_at hl 5 rfl) ?_
    obtain ⟨r7, c6, hf⟩ := bn_some hf
    refine x_callSN0 (rest := []) B (kX11_sumOf (hb1.at 1 rfl) c6) ⟨rfl, rfl⟩ nq_970 q_491 (by rw [hR]; exact cw_X0_chooseLargest_X11_sumOf) rfl rfl hl.1 (Nat.le_of_ble_eq_true rfl) dX0_chooseLargest_41 ⟨Nat.zero_le _, Nat.zero_le _⟩ ?_
    refine x_istore (lv' := [(6, .int r7), (5, .int r5), (0, .ref (gz G + o)), (1, .ref (gz G + b1)), (2, .int x2), (3, .int x3), (4, .int x4)]) B dX0_chooseLargest_44 hl (by decide) rfl (fun ls hl => ?_)
    refine x_iload B dX0_chooseLargest_46 (lv_at hl 0 rfl) ?_
    refine x_aload_n B dX0_chooseLargest_48 rfl (lv_at hl 2 rfl) ?_
    refine y_getFi (C := RX0) (T := TX0) (NN := 7) B (ho.at0 rfl) inX0 rfl (j := 1) (by decide) q_363 rfl rfl dX0_chooseLargest_49 ?_
    refine x_icmp_gt (tgt := 73) B dX0_chooseLargest_52 (by decide) (fun h8 => ?_) (fun h8 => ?_)
    · have hf := ip h8 hf
      exact fX0_chooseLargest_73_ok B hR ho hb1 hk18 (lv_sub hl [2, 3, 4, 5, 6, 1, 0] rfl) hf
    · have hf := iq h8 hf
      refine x_iload B dX0_chooseLargest_55 (lv_at hl 0 rfl) ?_
      refine x_aload_n B dX0_chooseLargest_57 rfl (lv_at hl 2 rfl) ?_
      refine y_getFi (C := RX0) (T := TX0) (NN := 7) B (ho.at0 rfl) inX0 rfl (j := 1) (by decide) q_363 rfl rfl dX0_chooseLargest_58 ?_
      refine x_icmp_ne (tgt := 77) B dX0_chooseLargest_61 (by decide) (fun h13 => ?_) (fun h13 => ?_)
      · have hf := ip h13 hf
        refine x_iload B dX0_chooseLargest_64 (lv_at hl 1 rfl) ?_
        refine x_aload_n B dX0_chooseLargest_66 rfl (lv_at hl 2 rfl) ?_
        refine y_getFi (C := RX0) (T := TX0) (NN := 7) B (ho.at0 rfl) inX0 rfl (j := 2) (by decide) q_365 rfl rfl dX0_chooseLargest_67 ?_
        refine x_icmp_ge (tgt := 77) B dX0_chooseLargest_70 (by decide) (fun h14 => ?_) (fun h14 => ?_)
        · have hf := ip h14 hf
          exact fX0_chooseLargest_77_ok B hR ho hb1 hk18 (lv_sub hl [2, 3, 4, 5, 6, 1, 0] rfl) hf
        · have hf := iq h14 hf
          exact fX0_chooseLargest_73_ok B hR ho hb1 hk18 (lv_sub hl [2, 3, 4, 5, 6, 1, 0] rfl) hf
      · have hf := iq h13 hf
        exact fX0_chooseLargest_77_ok B hR ho hb1 hk18 (lv_sub hl [2, 3, 4, 5, 6, 1, 0] rfl) hf
set_option maxHeartbeats 4000000 in
set_option maxRecDepth 100000 in
theorem fX0_chooseLargest_18L_ok {V : VE} {G : GE} {N : Nat} {m : Mm} {n : Nat}  {o : Nat} {b1 : Nat} {g : Mm} (B : CX V G cX0_chooseLargest 8 "FluxWatch$Buyer" none) (hR : V.2.2.2.1 = rmX0_chooseLargest) (ho : rg 0 o) (hb1 : rg 4 b1)  : ∀ (q : Nat) (x2 : Int32) (x3 : Int32) (x4 : Int32) (mm : Mm) (ls : Array Slot),  lv_has ls 8 [(0, .ref (gz G + o)), (1, .ref (gz G + b1)), (2, .int x2), (3, .int x3), (4, .int x4)] → fX0_chooseLargest_18L n o b1 q x2 x3 x4 mm = some g → WX V G N mm m 0 0 (QQ V G none N g m 0 0) 18 ls [] := by
  intro q
  induction q with
  | zero =>
    intro x2 x3 x4 mm ls hl hf
    cases hf
  | succ q ih =>
    intro x2 x3 x4 mm ls hl hf
    exact fX0_chooseLargest_18_ok B hR ho hb1  ih  hl hf
def fX0_chooseLargest (n : Nat) (o : Nat) (b1 : Nat) (a2 : Int32) (f : Mm) : Option (Mm) :=
  bn (fX0_choose n o (nI 0) (nI 0) (nI 0) (nI 0) f) fun f2 =>
  fX0_chooseLargest_18L n o b1 n a2 (shlI (nI 1) (f2 b1 2)) (nI 1) f2
set_option maxHeartbeats 4000000 in
set_option maxRecDepth 100000 in
theorem kX0_chooseLargest {l : Launch} {G : GE} {N : Nat} {f m : Mm} {n : Nat} {o : Nat} {b1 : Nat} {a2 : Int32} {g : Mm} (ho : rg 0 o) (hb1 : rg 4 b1) (hf : fX0_chooseLargest n o b1 a2 f = some g) : MT l G yX0_chooseLargest cX0_chooseLargest 8 none rmX0_chooseLargest [.ref (gz G + o), .ref (gz G + b1), .int a2] N f m none N g m := by
  unfold fX0_chooseLargest at hf
  refine MT.of (by decide) (Nat.le_of_ble_eq_true rfl) (fun V ls hV hR B hl => ?_)
  have B : CX V G cX0_chooseLargest 8 "FluxWatch$Buyer" none := B
  have hl : lv_has ls 8 [(0, .ref (gz G + o)), (1, .ref (gz G + b1)), (2, .int a2)] := hl
  show WX V G N f m 0 0 (QQ V G none N g m 0 0) 0 ls []
  refine x_aload_n B dX0_chooseLargest_0 rfl (lv_at hl 0 rfl) ?_
  refine x_iconst (v := (nI 0)) B dX0_chooseLargest_1 (by decide) ?_
  refine x_iconst (v := (nI 0)) B dX0_chooseLargest_2 (by decide) ?_
  refine x_iconst (v := (nI 0)) B dX0_chooseLargest_3 (by decide) ?_
  refine x_iconst (v := (nI 0)) B dX0_chooseLargest_4 (by decide) ?_
  obtain ⟨f2, c1, hf⟩ := bn_some hf
  refine x_callV0 (rest := []) B (kX0_choose ho c1) ⟨rfl, rfl⟩ (ho.at0 (N := N) rfl).lt (ho.at0 (N := N) rfl).2 rfl (by decide) q_966 q_967 q_968 (by rw [hR]; exact cw_X0_chooseLargest_X0_choose) rfl rfl hl.1 (Nat.le_of_ble_eq_true rfl) dX0_chooseLargest_5 ⟨Nat.zero_le _, Nat.zero_le _⟩ ?_
  refine x_iconst (v := (nI 1)) B dX0_chooseLargest_8 (by decide) ?_
  refine x_aload_n B dX0_chooseLargest_9 rfl (lv_at hl 1 rfl) ?_
  refine y_getFi (C := RX4) (T := TX4) (NN := 3) B (hb1.at0 rfl) inX4 rfl (j := 2) (by decide) q_179 rfl rfl dX0_chooseLargest_10 ?_
  refine y_ishl B dX0_chooseLargest_13 ?_
  refine x_istore_n (lv' := [(3, .int (shlI (nI 1) (f2 b1 2))), (0, .ref (gz G + o)), (1, .ref (gz G + b1)), (2, .int a2)]) B dX0_chooseLargest_14 rfl hl (by decide) rfl (fun ls hl => ?_)
  refine x_iconst (v := (nI 1)) B dX0_chooseLargest_15 (by decide) ?_
  refine x_istore (lv' := [(4, .int (nI 1)), (3, .int (shlI (nI 1) (f2 b1 2))), (0, .ref (gz G + o)), (1, .ref (gz G + b1)), (2, .int a2)]) B dX0_chooseLargest_16 hl (by decide) rfl (fun ls hl => ?_)
  exact fX0_chooseLargest_18L_ok B hR ho hb1  n _ _ _ _ _ (lv_sub hl [2, 3, 4, 1, 0] rfl) hf
def rmX11_best : Room := { frames := 2, cells := 0, slots := 0, locals := 51 }
set_option maxHeartbeats 4000000 in
set_option maxRecDepth 100000 in
theorem cw_X11_best_X0_chooseLargest : cwB rmX11_best rmX0_chooseLargest yX0_chooseLargest cX0_chooseLargest 8 none 2 := ⟨q_965, q_56, by decide, by decide⟩
set_option maxHeartbeats 4000000 in
set_option maxRecDepth 100000 in
theorem cw_X11_best_X11_isSum : cwB rmX11_best rmX11_isSum yX11_isSum cX11_isSum 1 (some .boolean) 1 := ⟨q_961, q_45, by decide, by decide⟩
def fX11_best (n : Nat) (a1 : Int32) (a2 : Int32) (f : Mm) : Option (Int32 × Mm) :=
  bn (fX11_isSum n a1) fun r2 =>
  if r2 = 0 then (
  some ((-1000000001 : Int32), f)) else (
  if a2 < 0 then (
  some ((-1000000001 : Int32), f)) else (
  if a2 ≤ (nI 2) then (
  bn (fX0_chooseLargest n 103 22 a1 f) fun f7 =>
  if a2 = (nI 0) then (
  some (f7 103 0, f7)) else (
  if a2 = (nI 1) then (
  some (f7 103 1, f7)) else (
  some (f7 103 2, f7)))) else (
  some ((-1000000001 : Int32), f))))
set_option maxHeartbeats 4000000 in
set_option maxRecDepth 100000 in
theorem kX11_best {l : Launch} {G : GE} {N : Nat} {f m : Mm} {n : Nat} {a1 : Int32} {a2 : Int32} {r : Int32} {g : Mm}  (hf : fX11_best n a1 a2 f = some (r, g)) : MT l G yX11_best cX11_best 3 (some .int) rmX11_best [.ref (gz G + 0), .int a1, .int a2] N f m (some (.int r)) N g m := by
  unfold fX11_best at hf
  refine MT.of (by decide) (Nat.le_of_ble_eq_true rfl) (fun V ls hV hR B hl => ?_)
  have B : CX V G cX11_best 3 "FluxWatch" (some .int) := B
  have hl : lv_has ls 3 [(0, .ref (gz G + 0)), (1, .int a1), (2, .int a2)] := hl
  show WX V G N f m 0 0 (QQ V G (some (.int r)) N g m 0 0) 0 ls []
  refine x_iload_n B dX11_best_0 rfl (lv_at hl 1 rfl) ?_
  obtain ⟨r2, c1, hf⟩ := bn_some hf
  refine x_callS0 (rest := []) B (kX11_isSum c1) ⟨rfl, rfl⟩ q_959 q_960 (by rw [hR]; exact cw_X11_best_X11_isSum) rfl rfl hl.1 (Nat.le_of_ble_eq_true rfl) dX11_best_1 ⟨Nat.zero_le _, Nat.zero_le _⟩ ?_
  refine x_if_eq (tgt := 16) B dX11_best_4 (by decide) (fun h3 => ?_) (fun h3 => ?_)
  · have hf := ip h3 hf
    refine x_ldc (v := (-1000000001 : Int32)) B q_432 dX11_best_16 ?_
    obtain ⟨rfl, rfl⟩ := rt2 hf
    exact x_iret B dX11_best_18
  · have hf := iq h3 hf
    refine x_iload_n B dX11_best_7 rfl (lv_at hl 2 rfl) ?_
    refine x_if_lt (tgt := 16) B dX11_best_8 (by decide) (fun h4 => ?_) (fun h4 => ?_)
    · have hf := ip h4 hf
      refine x_ldc (v := (-1000000001 : Int32)) B q_432 dX11_best_16 ?_
      obtain ⟨rfl, rfl⟩ := rt2 hf
      exact x_iret B dX11_best_18
    · have hf := iq h4 hf
      refine x_iload_n B dX11_best_11 rfl (lv_at hl 2 rfl) ?_
      refine x_iconst (v := (nI 2)) B dX11_best_12 (by decide) ?_
      refine x_icmp_le (tgt := 19) B dX11_best_13 (by decide) (fun h5 => ?_) (fun h5 => ?_)
      · have hf := ip h5 hf
        refine x_aload_n B dX11_best_19 rfl (lv_at hl 0 rfl) ?_
        refine y_getFs (C := RX11) (T := TX11) (NN := 10) (d := 103) B (rg_11_0.at0 rfl) inX11 rfl (j := 9) (by decide) q_397 rfl rfl (by decide) dX11_best_20 ?_
        refine x_aload_n B dX11_best_23 rfl (lv_at hl 0 rfl) ?_
        refine y_getFs (C := RX11) (T := TX11) (NN := 10) (d := 1) B (rg_11_0.at0 rfl) inX11 rfl (j := 0) (by decide) q_388 rfl rfl (by decide) dX11_best_24 ?_
        refine y_getFs (C := RX10) (T := TX10) (NN := 16) (d := 21) B (rg_10_1.at0 rfl) inX10 rfl (j := 15) (by decide) q_222 rfl rfl (by decide) dX11_best_27 ?_
        refine x_iload_n B dX11_best_30 rfl (lv_at hl 1 rfl) ?_
        obtain ⟨f7, c6, hf⟩ := bn_some hf
        refine x_callV0 (rest := []) B (kX0_chooseLargest rg_0_103 rg_4_22 c6) ⟨rfl, rfl⟩ (rg_0_103.at0 (N := N) rfl).lt (rg_0_103.at0 (N := N) rfl).2 rfl (by decide) q_962 q_963 q_964 (by rw [hR]; exact cw_X11_best_X0_chooseLargest) rfl rfl hl.1 (Nat.le_of_ble_eq_true rfl) dX11_best_31 ⟨Nat.zero_le _, Nat.zero_le _⟩ ?_
        refine x_iload_n B dX11_best_34 rfl (lv_at hl 2 rfl) ?_
        by_cases h8 : a2 = (nI 0)
        · have hf := ip h8 hf
          refine x_look (tgt := 60) (off := 25) B dX11_best_35 (by decide) (by rw [h8]; first | done | rfl) (by decide) ?_
          refine x_aload_n B dX11_best_60 rfl (lv_at hl 0 rfl) ?_
          refine y_getFs (C := RX11) (T := TX11) (NN := 10) (d := 103) B (rg_11_0.at0 rfl) inX11 rfl (j := 9) (by decide) q_397 rfl rfl (by decide) dX11_best_61 ?_
          refine y_getFi (C := RX0) (T := TX0) (NN := 7) B (rg_0_103.at0 rfl) inX0 rfl (j := 0) (by decide) q_362 rfl rfl dX11_best_64 ?_
          obtain ⟨rfl, rfl⟩ := rt2 hf
          exact x_iret B dX11_best_67
        · have hf := iq h8 hf
          by_cases h9 : a2 = (nI 1)
          · have hf := ip h9 hf
            refine x_look (tgt := 68) (off := 33) B dX11_best_35 (by decide) (by rw [h9]; first | done | rfl) (by decide) ?_
            refine x_aload_n B dX11_best_68 rfl (lv_at hl 0 rfl) ?_
            refine y_getFs (C := RX11) (T := TX11) (NN := 10) (d := 103) B (rg_11_0.at0 rfl) inX11 rfl (j := 9) (by decide) q_397 rfl rfl (by decide) dX11_best_69 ?_
            refine y_getFi (C := RX0) (T := TX0) (NN := 7) B (rg_0_103.at0 rfl) inX0 rfl (j := 1) (by decide) q_364 rfl rfl dX11_best_72 ?_
            obtain ⟨rfl, rfl⟩ := rt2 hf
            exact x_iret B dX11_best_75
          · have hf := iq h9 hf
            refine x_look (tgt := 76) (off := 41) B dX11_best_35 (by decide) ((lv_osw h8 rfl).trans ((lv_osw h9 rfl).trans rfl)) (by decide) ?_
            refine x_aload_n B dX11_best_76 rfl (lv_at hl 0 rfl) ?_
            refine y_getFs (C := RX11) (T := TX11) (NN := 10) (d := 103) B (rg_11_0.at0 rfl) inX11 rfl (j := 9) (by decide) q_397 rfl rfl (by decide) dX11_best_77 ?_
            refine y_getFi (C := RX0) (T := TX0) (NN := 7) B (rg_0_103.at0 rfl) inX0 rfl (j := 2) (by decide) q_366 rfl rfl dX11_best_80 ?_
            obtain ⟨rfl, rfl⟩ := rt2 hf
            exact x_iret B dX11_best_83
      · have hf := iq h5 hf
        refine x_ldc (v := (-1000000001 : Int32)) B q_432 dX11_best_16 ?_
        obtain ⟨rfl, rfl⟩ := rt2 hf
        exact x_iret B dX11_best_18
def rmX11_beyond : Room := { frames := 3, cells := 0, slots := 0, locals := 111 }
set_option maxHeartbeats 4000000 in
set_option maxRecDepth 100000 in
theorem cw_X11_beyond_X10_lawFor : cwB rmX11_beyond rmX10_lawFor yX10_lawFor cX10_lawFor 3 (some (.object "FluxWatch$Law")) 1 := ⟨q_613, q_46, by decide, by decide⟩
set_option maxHeartbeats 4000000 in
set_option maxRecDepth 100000 in
theorem cw_X11_beyond_X10_rateOn : cwB rmX11_beyond rmX10_rateOn yX10_rateOn cX10_rateOn 4 (some .int) 2 := ⟨q_609, q_46, by decide, by decide⟩
set_option maxHeartbeats 4000000 in
set_option maxRecDepth 100000 in
theorem cw_X11_beyond_X10_seenOn : cwB rmX11_beyond rmX10_seenOn yX10_seenOn cX10_seenOn 2 (some .int) 1 := ⟨q_489, q_46, by decide, by decide⟩
set_option maxHeartbeats 4000000 in
set_option maxRecDepth 100000 in
theorem cw_X11_beyond_X2_valueOn : cwB rmX11_beyond rmX2_valueOn yX2_valueOn cX2_valueOn 7 (some .int) 3 := ⟨q_617, q_59, by decide, by decide⟩
def fX11_beyond_18 (n : Nat) (N : Nat)  (k18 : Nat → Int32 → Mm → Option (Int32 × Mm)) (x1 : Nat) (x2 : Int32) (f : Mm) : Option (Int32 × Mm) :=
  if (nI 200) ≤ x2 then (
  some ((-1000000005 : Int32), f)) else (
  bn (fX10_seenOn n 1 ((f 1 0) + x2) f) fun r7 =>
  bn2 (fX10_rateOn n N 1 ((f 1 0) + x2) r7 f) fun r10 f9 =>
  bn2 (fX2_valueOn n x1 ((f 1 0) + x2) r7 1 f9) fun r13 f12 =>
  if r10 ≤ r13 then (
  k18 x1 (x2 + (nI 1)) f12) else (
  some ((f 1 0) + x2, f12)))
def fX11_beyond_18L (n : Nat) (N : Nat)  : Nat → Nat → Int32 → Mm → Option (Int32 × Mm)
  | 0 => fun _ _ _ => none
  | q + 1 => fX11_beyond_18 n N  (fX11_beyond_18L n N  q)
set_option maxHeartbeats 4000000 in
set_option maxRecDepth 100000 in
theorem fX11_beyond_18_ok {V : VE} {G : GE} {N : Nat} {f m : Mm} {n : Nat} {ls : Array Slot} {r : Int32} {g : Mm} (B : CX V G cX11_beyond 5 "FluxWatch" (some .int)) (hR : V.2.2.2.1 = rmX11_beyond)   {k18 : Nat → Int32 → Mm → Option (Int32 × Mm)} (hk18 : ∀ (x1 : Nat) (x2 : Int32) (mm : Mm) (ls : Array Slot), lk N x1 → lv_has ls 5 [(0, .ref (gz G + 0)), (1, .ref (gz G + x1)), (2, .int x2)] → k18 x1 x2 mm = some (r, g) → WX V G N mm m 0 0 (QQ V G (some (.int r)) N g m 0 0) 18 ls []) {x1 : Nat} {x2 : Int32} (hx1 : lk N x1) (hl : lv_has ls 5 [(0, .ref (gz G + 0)), (1, .ref (gz G + x1)), (2, .int x2)]) (hf : fX11_beyond_18 n N k18 x1 x2 f = some (r, g)) : WX V G N f m 0 0 (QQ V G (some (.int r)) N g m 0 0) 18 ls [] := by
  unfold fX11_beyond_18 at hf
  refine x_iload_n B dX11_beyond_18 rfl (lv_at hl 2 rfl) ?_
  refine x_sipush (v := (nI 200)) B dX11_beyond_19 (by decide) ?_
  refine x_icmp_ge (tgt := 77) B dX11_beyond_22 (by decide) (fun h5 => ?_) (fun h5 => ?_)
  · have hf := ip h5 hf
    refine x_ldc (v := (-1000000005 : Int32)) B q_461 dX11_beyond_77 ?_
    obtain ⟨rfl, rfl⟩ := rt2 hf
    exact x_iret B dX11_beyond_79
  · have hf := iq h5 hf
    refine x_aload_n B dX11_beyond_25 rfl (lv_at hl 0 rfl) ?_
    refine y_getFs (C := RX11) (T := TX11) (NN := 10) (d := 1) B (rg_11_0.at0 rfl) inX11 rfl (j := 0) (by decide) q_388 rfl rfl (by decide) dX11_beyond_26 ?_
    refine y_getFi (C := RX10) (T := TX10) (NN := 16) B (rg_10_1.at0 rfl) inX10 rfl (j := 0) (by decide) q_189 rfl rfl dX11_beyond_29 ?_
    refine x_iload_n B dX11_beyond_32 rfl (lv_at hl 2 rfl) ?_
    refine x_iadd B dX11_beyond_33 ?_
    refine x_istore_n (lv' := [(3, .int ((f 1 0) + x2)), (0, .ref (gz G + 0)), (1, .ref (gz G + x1)), (2, .int x2)]) B dX11_beyond_34 rfl hl (by decide) rfl (fun ls hl => ?_)
    refine x_aload_n B dX11_beyond_35 rfl (lv_at hl 1 rfl) ?_
    refine y_getFs (C := RX11) (T := TX11) (NN := 10) (d := 1) B (rg_11_0.at0 rfl) inX11 rfl (j := 0) (by decide) q_388 rfl rfl (by decide) dX11_beyond_36 ?_
    refine x_iload_n B dX11_beyond_39 rfl (lv_at hl 0 rfl) ?_
    obtain ⟨r7, c6, hf⟩ := bn_some hf
    refine x_callV0 (rest := []) B (kX10_seenOn rg_10_1 c6) ⟨rfl, rfl⟩ (rg_10_1.at0 (N := N) rfl).lt (rg_10_1.at0 (N := N) rfl).2 rfl (by decide) q_486 q_487 q_488 (by rw [hR]; exact cw_X11_beyond_X10_seenOn) rfl rfl hl.1 (Nat.le_of_ble_eq_true rfl) dX11_beyond_40 ⟨Nat.zero_le _, Nat.zero_le _⟩ ?_
    refine x_istore (lv' := [(4, .int r7), (3, .int ((f 1 0) + x2)), (0, .ref (gz G + 0)), (1, .ref (gz G + x1)), (2, .int x2)]) B dX11_beyond_43 hl (by decide) rfl (fun ls hl => ?_)
    refine x_aload_n B dX11_beyond_45 rfl (lv_at hl 2 rfl) ?_
    refine y_getFs (C := RX11) (T := TX11) (NN := 10) (d := 1) B (rg_11_0.at0 rfl) inX11 rfl (j := 0) (by decide) q_388 rfl rfl (by decide) dX11_beyond_46 ?_
    refine x_iload_n B dX11_beyond_49 rfl (lv_at hl 1 rfl) ?_
    refine x_iload B dX11_beyond_50 (lv_at hl 0 rfl) ?_
    obtain ⟨r10, f9, c8, hf⟩ := bn2_some hf
    refine x_callV0 (rest := []) B (kX10_rateOn rg_10_1 c8) ⟨rfl, rfl⟩ (rg_10_1.at0 (N := N) rfl).lt (rg_10_1.at0 (N := N) rfl).2 rfl (by decide) q_675 q_607 q_608 (by rw [hR]; exact cw_X11_beyond_X10_rateOn) rfl rfl hl.1 (Nat.le_of_ble_eq_true rfl) dX11_beyond_52 ⟨Nat.zero_le _, Nat.zero_le _⟩ ?_
    refine x_aload_n B dX11_beyond_55 rfl (lv_at hl 3 rfl) ?_
    refine x_iload_n B dX11_beyond_56 rfl (lv_at hl 1 rfl) ?_
    refine x_iload B dX11_beyond_57 (lv_at hl 0 rfl) ?_
    refine x_aload_n B dX11_beyond_59 rfl (lv_at hl 2 rfl) ?_
    refine y_getFs (C := RX11) (T := TX11) (NN := 10) (d := 1) B (rg_11_0.at0 rfl) inX11 rfl (j := 0) (by decide) q_388 rfl rfl (by decide) dX11_beyond_60 ?_
    obtain ⟨r13, f12, c11, hf⟩ := bn2_some hf
    refine x_callV0 (rest := [.int r10]) B (kX2_valueOn hx1 rg_10_1 c11) ⟨rfl, rfl⟩ hx1.a0.lt hx1.a0.2 rfl (by decide) q_702 q_615 q_616 (by rw [hR]; exact cw_X11_beyond_X2_valueOn) rfl rfl hl.1 (Nat.le_of_ble_eq_true rfl) dX11_beyond_63 ⟨Nat.zero_le _, Nat.zero_le _⟩ ?_
    refine x_icmp_le (tgt := 71) B dX11_beyond_66 (by decide) (fun h14 => ?_) (fun h14 => ?_)
    · have hf := ip h14 hf
      refine x_iinc (k := 4) (v := (nI 1)) (lv' := [(2, .int (x2 + (nI 1))), (4, .int r7), (3, .int ((f 1 0) + x2)), (0, .ref (gz G + 0)), (1, .ref (gz G + x1))]) B dX11_beyond_71 hl rfl (by decide) (by decide) rfl (fun ls hl => ?_)
      refine x_goto (tgt := 18) B dX11_beyond_74 (by decide) ?_
      exact hk18 _ _ _ _ hx1 (lv_sub hl [3, 4, 0] rfl) hf
    · have hf := iq h14 hf
      refine x_iload_n B dX11_beyond_69 rfl (lv_at hl 1 rfl) ?_
      obtain ⟨rfl, rfl⟩ := rt2 hf
      exact x_iret B dX11_beyond_70
set_option maxHeartbeats 4000000 in
set_option maxRecDepth 100000 in
theorem fX11_beyond_18L_ok {V : VE} {G : GE} {N : Nat} {m : Mm} {n : Nat}  {r : Int32} {g : Mm} (B : CX V G cX11_beyond 5 "FluxWatch" (some .int)) (hR : V.2.2.2.1 = rmX11_beyond)   : ∀ (q : Nat) (x1 : Nat) (x2 : Int32) (mm : Mm) (ls : Array Slot), lk N x1 → lv_has ls 5 [(0, .ref (gz G + 0)), (1, .ref (gz G + x1)), (2, .int x2)] → fX11_beyond_18L n N q x1 x2 mm = some (r, g) → WX V G N mm m 0 0 (QQ V G (some (.int r)) N g m 0 0) 18 ls [] := by
  intro q
  induction q with
  | zero =>
    intro x1 x2 mm ls hx1 hl hf
    cases hf
  | succ q ih =>
    intro x1 x2 mm ls hx1 hl hf
    exact fX11_beyond_18_ok B hR   ih hx1 hl hf
def fX11_beyond (n : Nat) (N : Nat) (f : Mm) : Option (Int32 × Mm) :=
  bn (fX10_lawFor n 1 (nI 2) f) fun r2 =>
  if r2 = 0 then (
  some ((-1000000005 : Int32), f)) else (gd (lkb N r2) <|
  fX11_beyond_18L n N n (130 + 3 * (r2.toNatClampNeg - 1)) (nI 0) f)
set_option maxHeartbeats 4000000 in
set_option maxRecDepth 100000 in
theorem kX11_beyond {l : Launch} {G : GE} {N : Nat} {f m : Mm} {n : Nat}  {r : Int32} {g : Mm}  (hf : fX11_beyond n N f = some (r, g)) : MT l G yX11_beyond cX11_beyond 5 (some .int) rmX11_beyond [.ref (gz G + 0)] N f m (some (.int r)) N g m := by
  unfold fX11_beyond at hf
  refine MT.of (by decide) (Nat.le_of_ble_eq_true rfl) (fun V ls hV hR B hl => ?_)
  have B : CX V G cX11_beyond 5 "FluxWatch" (some .int) := B
  have hl : lv_has ls 5 [(0, .ref (gz G + 0))] := hl
  show WX V G N f m 0 0 (QQ V G (some (.int r)) N g m 0 0) 0 ls []
  refine x_aload_n B dX11_beyond_0 rfl (lv_at hl 0 rfl) ?_
  refine y_getFs (C := RX11) (T := TX11) (NN := 10) (d := 1) B (rg_11_0.at0 rfl) inX11 rfl (j := 0) (by decide) q_388 rfl rfl (by decide) dX11_beyond_1 ?_
  refine x_iconst (v := (nI 2)) B dX11_beyond_4 (by decide) ?_
  obtain ⟨r2, c1, hf⟩ := bn_some hf
  refine x_callV0 (rest := []) B (kX10_lawFor rg_10_1 c1) ⟨rfl, rfl⟩ (rg_10_1.at0 (N := N) rfl).lt (rg_10_1.at0 (N := N) rfl).2 rfl (by decide) q_701 q_611 q_612 (by rw [hR]; exact cw_X11_beyond_X10_lawFor) rfl rfl hl.1 (Nat.le_of_ble_eq_true rfl) dX11_beyond_5 ⟨Nat.zero_le _, Nat.zero_le _⟩ ?_
  by_cases h3 : r2 = 0
  · have hf := ip h3 hf
    refine x_val (lvv_z h3) ?_
    refine y_astore_nN (lv' := [(1, .null), (0, .ref (gz G + 0))]) B dX11_beyond_8 rfl hl (by decide) rfl (fun ls hl => ?_)
    refine y_aload_nN B dX11_beyond_9 rfl (lv_at hl 0 rfl) ?_
    refine x_ifnonnullN B dX11_beyond_10 ?_
    refine x_ldc (v := (-1000000005 : Int32)) B q_461 dX11_beyond_13 ?_
    obtain ⟨rfl, rfl⟩ := rt2 hf
    exact x_iret B dX11_beyond_15
  · obtain ⟨h4, hf⟩ := gd_some (iq h3 hf)
    refine x_val (lvv_1 h3) ?_
    refine x_astore_n (lv' := [(1, .ref (gz G + (130 + 3 * (r2.toNatClampNeg - 1)))), (0, .ref (gz G + 0))]) B dX11_beyond_8 rfl hl (by decide) rfl (fun ls hl => ?_)
    refine x_aload_n B dX11_beyond_9 rfl (lv_at hl 0 rfl) ?_
    refine x_ifnonnull (tgt := 16) B dX11_beyond_10 (by decide) ?_
    refine x_iconst (v := (nI 0)) B dX11_beyond_16 (by decide) ?_
    refine x_istore_n (lv' := [(2, .int (nI 0)), (1, .ref (gz G + (130 + 3 * (r2.toNatClampNeg - 1)))), (0, .ref (gz G + 0))]) B dX11_beyond_17 rfl hl (by decide) rfl (fun ls hl => ?_)
    exact fX11_beyond_18L_ok B hR  n _ _ _ _ (lk_of h4) (lv_sub hl [2, 1, 0] rfl) hf
def rmX10_isWithin : Room := { frames := 1, cells := 0, slots := 0, locals := 68 }
def fX10_isWithin (n : Nat) (o : Nat) (a1 : Int32) (a2 : Int32) (f : Mm) : Option (Int32) :=
  if a2 < (absI ((absI a1) - (f o 2))) then (
  some (nI 0)) else (
  some (nI 1))
set_option maxHeartbeats 4000000 in
set_option maxRecDepth 100000 in
theorem kX10_isWithin {l : Launch} {G : GE} {N : Nat} {f m : Mm} {n : Nat} {o : Nat} {a1 : Int32} {a2 : Int32} {r : Int32} (ho : rg 10 o) (hf : fX10_isWithin n o a1 a2 f = some r) : MT l G yX10_isWithin cX10_isWithin 3 (some .boolean) rmX10_isWithin [.ref (gz G + o), .int a1, .int a2] N f m (some (.int r)) N f m := by
  unfold fX10_isWithin at hf
  refine MT.of (by decide) (Nat.le_of_ble_eq_true rfl) (fun V ls hV hR B hl => ?_)
  have B : CX V G cX10_isWithin 3 "FluxWatch$World" (some .boolean) := B
  have hl : lv_has ls 3 [(0, .ref (gz G + o)), (1, .int a1), (2, .int a2)] := hl
  show WX V G N f m 0 0 (QQ V G (some (.int r)) N f m 0 0) 0 ls []
  refine x_iload_n B dX10_isWithin_0 rfl (lv_at hl 1 rfl) ?_
  refine y_abs B q_540 q_541 q_49 q_542 hl.1 (by rw [hR]; decide) (by rw [hR]; decide) (Nat.le_of_ble_eq_true rfl) ⟨Nat.zero_le _, Nat.zero_le _⟩ dX10_isWithin_1 ?_
  refine x_aload_n B dX10_isWithin_4 rfl (lv_at hl 0 rfl) ?_
  refine y_getFi (C := RX10) (T := TX10) (NN := 16) B (ho.at0 rfl) inX10 rfl (j := 2) (by decide) q_194 rfl rfl dX10_isWithin_5 ?_
  refine x_isub B dX10_isWithin_8 ?_
  refine y_abs B q_540 q_541 q_49 q_542 hl.1 (by rw [hR]; decide) (by rw [hR]; decide) (Nat.le_of_ble_eq_true rfl) ⟨Nat.zero_le _, Nat.zero_le _⟩ dX10_isWithin_9 ?_
  refine x_iload_n B dX10_isWithin_12 rfl (lv_at hl 2 rfl) ?_
  refine x_icmp_gt (tgt := 20) B dX10_isWithin_13 (by decide) (fun h1 => ?_) (fun h1 => ?_)
  · have hf := ip h1 hf
    refine x_iconst (v := (nI 0)) B dX10_isWithin_20 (by decide) ?_
    obtain rfl := rt1 hf
    exact x_zret B (by decide) dX10_isWithin_21
  · have hf := iq h1 hf
    refine x_iconst (v := (nI 1)) B dX10_isWithin_16 (by decide) ?_
    refine x_goto (tgt := 21) B dX10_isWithin_17 (by decide) ?_
    obtain rfl := rt1 hf
    exact x_zret B (by decide) dX10_isWithin_21
def rmX10_knocksWithin : Room := { frames := 2, cells := 0, slots := 0, locals := 90 }
set_option maxHeartbeats 4000000 in
set_option maxRecDepth 100000 in
theorem cw_X10_knocksWithin_X10_isWithin : cwB rmX10_knocksWithin rmX10_isWithin yX10_isWithin cX10_isWithin 3 (some .boolean) 2 := ⟨q_539, q_46, by decide, by decide⟩
def fX10_knocksWithin_29 (n : Nat) (o : Nat) (k4 : Int32 → Int32 → Int32 → Mm → Option (Int32)) (x1 : Int32) (x2 : Int32) (x3 : Int32) (f : Mm) : Option (Int32) :=
  k4 x1 x2 (x3 + (nI 1)) f
set_option maxHeartbeats 4000000 in
set_option maxRecDepth 100000 in
theorem fX10_knocksWithin_29_ok {V : VE} {G : GE} {N : Nat} {f m : Mm} {n : Nat} {ls : Array Slot} {o : Nat} {r : Int32} (B : CX V G cX10_knocksWithin 4 "FluxWatch$World" (some .int)) (hR : V.2.2.2.1 = rmX10_knocksWithin) (ho : rg 10 o) {k4 : Int32 → Int32 → Int32 → Mm → Option (Int32)} (hk4 : ∀ (x1 : Int32) (x2 : Int32) (x3 : Int32) (mm : Mm) (ls : Array Slot),  lv_has ls 4 [(0, .ref (gz G + o)), (1, .int x1), (2, .int x2), (3, .int x3)] → k4 x1 x2 x3 mm = some r → WX V G N mm m 0 0 (QQ V G (some (.int r)) N mm m 0 0) 4 ls []) {x1 : Int32} {x2 : Int32} {x3 : Int32}  (hl : lv_has ls 4 [(0, .ref (gz G + o)), (1, .int x1), (2, .int x2), (3, .int x3)]) (hf : fX10_knocksWithin_29 n o k4 x1 x2 x3 f = some r) : WX V G N f m 0 0 (QQ V G (some (.int r)) N f m 0 0) 29 ls [] := by
  unfold fX10_knocksWithin_29 at hf
  refine x_iinc (k := 3) (v := (nI 1)) (lv' := [(3, .int (x3 + (nI 1))), (0, .ref (gz G + o)), (1, .int x1), (2, .int x2)]) B dX10_knocksWithin_29 hl rfl (by decide) (by decide) rfl (fun ls hl => ?_)
  refine x_goto (tgt := 4) B dX10_knocksWithin_32 (by decide) ?_
  exact hk4 _ _ _ _ _ (lv_sub hl [1, 2, 3, 0] rfl) hf
def fX10_knocksWithin_4 (n : Nat) (o : Nat)  (k4 : Int32 → Int32 → Int32 → Mm → Option (Int32)) (x1 : Int32) (x2 : Int32) (x3 : Int32) (f : Mm) : Option (Int32) :=
  if (f o 13) ≤ x3 then (
  some x2) else (
  gd (ib x3 60) <|
  bn (fX10_isWithin n o (f (o + 16) x3.toNatClampNeg) x1 f) fun r4 =>
  if r4 = 0 then (
  fX10_knocksWithin_29 n o k4 x1 x2 x3 f) else (
  fX10_knocksWithin_29 n o k4 x1 (x2 + (nI 1)) x3 f))
def fX10_knocksWithin_4L (n : Nat) (o : Nat)  : Nat → Int32 → Int32 → Int32 → Mm → Option (Int32)
  | 0 => fun _ _ _ _ => none
  | q + 1 => fX10_knocksWithin_4 n o  (fX10_knocksWithin_4L n o  q)
set_option maxHeartbeats 4000000 in
set_option maxRecDepth 100000 in
theorem fX10_knocksWithin_4_ok {V : VE} {G : GE} {N : Nat} {f m : Mm} {n : Nat} {ls : Array Slot} {o : Nat} {r : Int32} (B : CX V G cX10_knocksWithin 4 "FluxWatch$World" (some .int)) (hR : V.2.2.2.1 = rmX10_knocksWithin) (ho : rg 10 o)  {k4 : Int32 → Int32 → Int32 → Mm → Option (Int32)} (hk4 : ∀ (x1 : Int32) (x2 : Int32) (x3 : Int32) (mm : Mm) (ls : Array Slot),  lv_has ls 4 [(0, .ref (gz G + o)), (1, .int x1), (2, .int x2), (3, .int x3)] → k4 x1 x2 x3 mm = some r → WX V G N mm m 0 0 (QQ V G (some (.int r)) N mm m 0 0) 4 ls []) {x1 : Int32} {x2 : Int32} {x3 : Int32}  (hl : lv_has ls 4 [(0, .ref (gz G + o)), (1, .int x1), (2, .int x2), (3, .int x3)]) (hf : fX10_knocksWithin_4 n o k4 x1 x2 x3 f = some r) : WX V G N f m 0 0 (QQ V G (some (.int r)) N f m 0 0) 4 ls [] := by
  unfold fX10_knocksWithin_4 at hf
  refine x_iload_n B dX10_knocksWithin_4 rfl (lv_at hl 3 rfl) ?_
  refine x_aload_n B dX10_knocksWithin_5 rfl (lv_at hl 0 rfl) ?_
  refine y_getFi (C := RX10) (T := TX10) (NN := 16) B (ho.at0 rfl) inX10 rfl (j := 13) (by decide) q_216 rfl rfl dX10_knocksWithin_6 ?_
  refine x_icmp_ge (tgt := 35) B dX10_knocksWithin_9 (by decide) (fun h1 => ?_) (fun h1 => ?_)
  · have hf := ip h1 hf
    refine x_iload_n B dX10_knocksWithin_35 rfl (lv_at hl 2 rfl) ?_
    obtain rfl := rt1 hf
    exact x_iret B dX10_knocksWithin_36
  · have hf := iq h1 hf
    refine x_aload_n B dX10_knocksWithin_12 rfl (lv_at hl 0 rfl) ?_
    refine x_aload_n B dX10_knocksWithin_13 rfl (lv_at hl 0 rfl) ?_
    refine y_getFs (C := RX10) (T := TX10) (NN := 16) (d := 16) B (ho.at0 rfl) inX10 rfl (j := 12) (by decide) q_215 rfl rfl (by decide) dX10_knocksWithin_14 ?_
    refine x_iload_n B dX10_knocksWithin_17 rfl (lv_at hl 3 rfl) ?_
    obtain ⟨h2, hf⟩ := gd_some hf
    refine x_ialdF B (ho.at 16 rfl) h2 dX10_knocksWithin_18 ?_
    refine x_iload_n B dX10_knocksWithin_19 rfl (lv_at hl 1 rfl) ?_
    obtain ⟨r4, c3, hf⟩ := bn_some hf
    refine x_callV0 (rest := []) B (kX10_isWithin ho c3) ⟨rfl, rfl⟩ (ho.at0 (N := N) rfl).lt (ho.at0 (N := N) rfl).2 rfl (by decide) q_536 q_537 q_538 (by rw [hR]; exact cw_X10_knocksWithin_X10_isWithin) rfl rfl hl.1 (Nat.le_of_ble_eq_true rfl) dX10_knocksWithin_20 ⟨Nat.zero_le _, Nat.zero_le _⟩ ?_
    refine x_if_eq (tgt := 29) B dX10_knocksWithin_23 (by decide) (fun h5 => ?_) (fun h5 => ?_)
    · have hf := ip h5 hf
      exact fX10_knocksWithin_29_ok B hR ho hk4 hl hf
    · have hf := iq h5 hf
      refine x_iinc (k := 2) (v := (nI 1)) (lv' := [(2, .int (x2 + (nI 1))), (0, .ref (gz G + o)), (1, .int x1), (3, .int x3)]) B dX10_knocksWithin_26 hl rfl (by decide) (by decide) rfl (fun ls hl => ?_)
      exact fX10_knocksWithin_29_ok B hR ho hk4 (lv_sub hl [1, 2, 0, 3] rfl) hf
set_option maxHeartbeats 4000000 in
set_option maxRecDepth 100000 in
theorem fX10_knocksWithin_4L_ok {V : VE} {G : GE} {N : Nat} {m : Mm} {n : Nat}  {o : Nat} {r : Int32} (B : CX V G cX10_knocksWithin 4 "FluxWatch$World" (some .int)) (hR : V.2.2.2.1 = rmX10_knocksWithin) (ho : rg 10 o)  : ∀ (q : Nat) (x1 : Int32) (x2 : Int32) (x3 : Int32) (mm : Mm) (ls : Array Slot),  lv_has ls 4 [(0, .ref (gz G + o)), (1, .int x1), (2, .int x2), (3, .int x3)] → fX10_knocksWithin_4L n o q x1 x2 x3 mm = some r → WX V G N mm m 0 0 (QQ V G (some (.int r)) N mm m 0 0) 4 ls [] := by
  intro q
  induction q with
  | zero =>
    intro x1 x2 x3 mm ls hl hf
    cases hf
  | succ q ih =>
    intro x1 x2 x3 mm ls hl hf
    exact fX10_knocksWithin_4_ok B hR ho  ih  hl hf
def fX10_knocksWithin (n : Nat) (o : Nat) (a1 : Int32) (f : Mm) : Option (Int32) :=
  fX10_knocksWithin_4L n o n a1 (nI 0) (nI 0) f
set_option maxHeartbeats 4000000 in
set_option maxRecDepth 100000 in
theorem kX10_knocksWithin {l : Launch} {G : GE} {N : Nat} {f m : Mm} {n : Nat} {o : Nat} {a1 : Int32} {r : Int32} (ho : rg 10 o) (hf : fX10_knocksWithin n o a1 f = some r) : MT l G yX10_knocksWithin cX10_knocksWithin 4 (some .int) rmX10_knocksWithin [.ref (gz G + o), .int a1] N f m (some (.int r)) N f m := by
  unfold fX10_knocksWithin at hf
  refine MT.of (by decide) (Nat.le_of_ble_eq_true rfl) (fun V ls hV hR B hl => ?_)
  have B : CX V G cX10_knocksWithin 4 "FluxWatch$World" (some .int) := B
  have hl : lv_has ls 4 [(0, .ref (gz G + o)), (1, .int a1)] := hl
  show WX V G N f m 0 0 (QQ V G (some (.int r)) N f m 0 0) 0 ls []
  refine x_iconst (v := (nI 0)) B dX10_knocksWithin_0 (by decide) ?_
  refine x_istore_n (lv' := [(2, .int (nI 0)), (0, .ref (gz G + o)), (1, .int a1)]) B dX10_knocksWithin_1 rfl hl (by decide) rfl (fun ls hl => ?_)
  refine x_iconst (v := (nI 0)) B dX10_knocksWithin_2 (by decide) ?_
  refine x_istore_n (lv' := [(3, .int (nI 0)), (2, .int (nI 0)), (0, .ref (gz G + o)), (1, .int a1)]) B dX10_knocksWithin_3 rfl hl (by decide) rfl (fun ls hl => ?_)
  exact fX10_knocksWithin_4L_ok B hR ho  n _ _ _ _ _ (lv_sub hl [2, 3, 1, 0] rfl) hf
def rmX11_chance : Room := { frames := 3, cells := 0, slots := 0, locals := 113 }
set_option maxHeartbeats 4000000 in
set_option maxRecDepth 100000 in
theorem cw_X11_chance_X10_knocksWithin : cwB rmX11_chance rmX10_knocksWithin yX10_knocksWithin cX10_knocksWithin 4 (some .int) 1 := ⟨q_921, q_46, by decide, by decide⟩
def fX11_chance (n : Nat)  (f : Mm) : Option (Int32) :=
  bn (fX10_knocksWithin n 1 (f 1 3) f) fun r2 =>
  some r2
set_option maxHeartbeats 4000000 in
set_option maxRecDepth 100000 in
theorem kX11_chance {l : Launch} {G : GE} {N : Nat} {f m : Mm} {n : Nat}  {r : Int32}  (hf : fX11_chance n f = some r) : MT l G yX11_chance cX11_chance 1 (some .int) rmX11_chance [.ref (gz G + 0)] N f m (some (.int r)) N f m := by
  unfold fX11_chance at hf
  refine MT.of (by decide) (Nat.le_of_ble_eq_true rfl) (fun V ls hV hR B hl => ?_)
  have B : CX V G cX11_chance 1 "FluxWatch" (some .int) := B
  have hl : lv_has ls 1 [(0, .ref (gz G + 0))] := hl
  show WX V G N f m 0 0 (QQ V G (some (.int r)) N f m 0 0) 0 ls []
  refine x_aload_n B dX11_chance_0 rfl (lv_at hl 0 rfl) ?_
  refine y_getFs (C := RX11) (T := TX11) (NN := 10) (d := 1) B (rg_11_0.at0 rfl) inX11 rfl (j := 0) (by decide) q_388 rfl rfl (by decide) dX11_chance_1 ?_
  refine x_aload_n B dX11_chance_4 rfl (lv_at hl 0 rfl) ?_
  refine y_getFs (C := RX11) (T := TX11) (NN := 10) (d := 1) B (rg_11_0.at0 rfl) inX11 rfl (j := 0) (by decide) q_388 rfl rfl (by decide) dX11_chance_5 ?_
  refine y_getFi (C := RX10) (T := TX10) (NN := 16) B (rg_10_1.at0 rfl) inX10 rfl (j := 3) (by decide) q_199 rfl rfl dX11_chance_8 ?_
  obtain ⟨r2, c1, hf⟩ := bn_some hf
  refine x_callV0 (rest := []) B (kX10_knocksWithin rg_10_1 c1) ⟨rfl, rfl⟩ (rg_10_1.at0 (N := N) rfl).lt (rg_10_1.at0 (N := N) rfl).2 rfl (by decide) q_918 q_919 q_920 (by rw [hR]; exact cw_X11_chance_X10_knocksWithin) rfl rfl hl.1 (Nat.le_of_ble_eq_true rfl) dX11_chance_11 ⟨Nat.zero_le _, Nat.zero_le _⟩ ?_
  obtain rfl := rt1 hf
  exact x_iret B dX11_chance_14
def rmX8_isFull : Room := { frames := 0, cells := 0, slots := 0, locals := 0 }
def fX8_isFull (n : Nat) (o : Nat) (f : Mm) : Option (Int32) :=
  if (f o 4) < (nI 40) then (
  some (nI 0)) else (
  some (nI 1))
set_option maxHeartbeats 4000000 in
set_option maxRecDepth 100000 in
theorem kX8_isFull {l : Launch} {G : GE} {N : Nat} {f m : Mm} {n : Nat} {o : Nat} {r : Int32} (ho : rg 8 o) (hf : fX8_isFull n o f = some r) : MT l G yX8_isFull cX8_isFull 1 (some .boolean) rmX8_isFull [.ref (gz G + o)] N f m (some (.int r)) N f m := by
  unfold fX8_isFull at hf
  refine MT.of (by decide) (Nat.le_of_ble_eq_true rfl) (fun V ls hV hR B hl => ?_)
  have B : CX V G cX8_isFull 1 "FluxWatch$Steps" (some .boolean) := B
  have hl : lv_has ls 1 [(0, .ref (gz G + o))] := hl
  show WX V G N f m 0 0 (QQ V G (some (.int r)) N f m 0 0) 0 ls []
  refine x_aload_n B dX8_isFull_0 rfl (lv_at hl 0 rfl) ?_
  refine y_getFi (C := RX8) (T := TX8) (NN := 5) B (ho.at0 rfl) inX8 rfl (j := 4) (by decide) q_151 rfl rfl dX8_isFull_1 ?_
  refine x_bipush (v := (nI 40)) B dX8_isFull_4 (by decide) ?_
  refine x_icmp_lt (tgt := 13) B dX8_isFull_6 (by decide) (fun h1 => ?_) (fun h1 => ?_)
  · have hf := ip h1 hf
    refine x_iconst (v := (nI 0)) B dX8_isFull_13 (by decide) ?_
    obtain rfl := rt1 hf
    exact x_zret B (by decide) dX8_isFull_14
  · have hf := iq h1 hf
    refine x_iconst (v := (nI 1)) B dX8_isFull_9 (by decide) ?_
    refine x_goto (tgt := 14) B dX8_isFull_10 (by decide) ?_
    obtain rfl := rt1 hf
    exact x_zret B (by decide) dX8_isFull_14
def rmX8_add : Room := { frames := 1, cells := 0, slots := 0, locals := 20 }
set_option maxHeartbeats 4000000 in
set_option maxRecDepth 100000 in
theorem cw_X8_add_X8_isFull : cwB rmX8_add rmX8_isFull yX8_isFull cX8_isFull 1 (some .boolean) 0 := ⟨q_522, q_50, by decide, by decide⟩
def fX8_add (n : Nat) (o : Nat) (a1 : Int32) (a2 : Int32) (a3 : Int32) (a4 : Int32) (f : Mm) : Option (Int32 × Mm) :=
  bn (fX8_isFull n o f) fun r2 =>
  if r2 = 0 then (
  gd (ib (f o 4) 40) <|
  lt (up f (o + 1) (f o 4).toNatClampNeg a1) fun f5 =>
  gd (ib (f5 o 4) 40) <|
  lt (up f5 (o + 2) (f5 o 4).toNatClampNeg a2) fun f8 =>
  gd (ib (f8 o 4) 40) <|
  lt (up f8 (o + 3) (f8 o 4).toNatClampNeg a3) fun f11 =>
  gd (ib (f11 o 4) 40) <|
  lt (up f11 (o + 4) (f11 o 4).toNatClampNeg a4) fun f14 =>
  lt (up f14 o 4 ((f14 o 4) + (nI 1))) fun f16 =>
  some ((f16 o 4) - (nI 1), f16)) else (
  some ((-1000000003 : Int32), f))
set_option maxHeartbeats 4000000 in
set_option maxRecDepth 100000 in
theorem kX8_add {l : Launch} {G : GE} {N : Nat} {f m : Mm} {n : Nat} {o : Nat} {a1 : Int32} {a2 : Int32} {a3 : Int32} {a4 : Int32} {r : Int32} {g : Mm} (ho : rg 8 o) (hf : fX8_add n o a1 a2 a3 a4 f = some (r, g)) : MT l G yX8_add cX8_add 5 (some .int) rmX8_add [.ref (gz G + o), .int a1, .int a2, .int a3, .int a4] N f m (some (.int r)) N g m := by
  unfold fX8_add at hf
  refine MT.of (by decide) (Nat.le_of_ble_eq_true rfl) (fun V ls hV hR B hl => ?_)
  have B : CX V G cX8_add 5 "FluxWatch$Steps" (some .int) := B
  have hl : lv_has ls 5 [(0, .ref (gz G + o)), (1, .int a1), (2, .int a2), (3, .int a3), (4, .int a4)] := hl
  show WX V G N f m 0 0 (QQ V G (some (.int r)) N g m 0 0) 0 ls []
  refine x_aload_n B dX8_add_0 rfl (lv_at hl 0 rfl) ?_
  obtain ⟨r2, c1, hf⟩ := bn_some hf
  refine x_callV0 (rest := []) B (kX8_isFull ho c1) ⟨rfl, rfl⟩ (ho.at0 (N := N) rfl).lt (ho.at0 (N := N) rfl).2 rfl (by decide) q_519 q_520 q_521 (by rw [hR]; exact cw_X8_add_X8_isFull) rfl rfl hl.1 (Nat.le_of_ble_eq_true rfl) dX8_add_1 ⟨Nat.zero_le _, Nat.zero_le _⟩ ?_
  refine x_if_eq (tgt := 10) B dX8_add_4 (by decide) (fun h3 => ?_) (fun h3 => ?_)
  · have hf := ip h3 hf
    refine x_aload_n B dX8_add_10 rfl (lv_at hl 0 rfl) ?_
    refine y_getFs (C := RX8) (T := TX8) (NN := 5) (d := 1) B (ho.at0 rfl) inX8 rfl (j := 0) (by decide) q_139 rfl rfl (by decide) dX8_add_11 ?_
    refine x_aload_n B dX8_add_14 rfl (lv_at hl 0 rfl) ?_
    refine y_getFi (C := RX8) (T := TX8) (NN := 5) B (ho.at0 rfl) inX8 rfl (j := 4) (by decide) q_151 rfl rfl dX8_add_15 ?_
    refine x_iload_n B dX8_add_18 rfl (lv_at hl 1 rfl) ?_
    obtain ⟨h4, hf⟩ := gd_some hf
    refine x_iastF B (ho.at 1 rfl) h4 dX8_add_19 (fun f5 e6 => ?_)
    have hf := lt_some hf e6
    refine x_aload_n B dX8_add_20 rfl (lv_at hl 0 rfl) ?_
    refine y_getFs (C := RX8) (T := TX8) (NN := 5) (d := 2) B (ho.at0 rfl) inX8 rfl (j := 1) (by decide) q_142 rfl rfl (by decide) dX8_add_21 ?_
    refine x_aload_n B dX8_add_24 rfl (lv_at hl 0 rfl) ?_
    refine y_getFi (C := RX8) (T := TX8) (NN := 5) B (ho.at0 rfl) inX8 rfl (j := 4) (by decide) q_151 rfl rfl dX8_add_25 ?_
    refine x_iload_n B dX8_add_28 rfl (lv_at hl 2 rfl) ?_
    obtain ⟨h7, hf⟩ := gd_some hf
    refine x_iastF B (ho.at 2 rfl) h7 dX8_add_29 (fun f8 e9 => ?_)
    have hf := lt_some hf e9
    refine x_aload_n B dX8_add_30 rfl (lv_at hl 0 rfl) ?_
    refine y_getFs (C := RX8) (T := TX8) (NN := 5) (d := 3) B (ho.at0 rfl) inX8 rfl (j := 2) (by decide) q_145 rfl rfl (by decide) dX8_add_31 ?_
    refine x_aload_n B dX8_add_34 rfl (lv_at hl 0 rfl) ?_
    refine y_getFi (C := RX8) (T := TX8) (NN := 5) B (ho.at0 rfl) inX8 rfl (j := 4) (by decide) q_151 rfl rfl dX8_add_35 ?_
    refine x_iload_n B dX8_add_38 rfl (lv_at hl 3 rfl) ?_
    obtain ⟨h10, hf⟩ := gd_some hf
    refine x_iastF B (ho.at 3 rfl) h10 dX8_add_39 (fun f11 e12 => ?_)
    have hf := lt_some hf e12
    refine x_aload_n B dX8_add_40 rfl (lv_at hl 0 rfl) ?_
    refine y_getFs (C := RX8) (T := TX8) (NN := 5) (d := 4) B (ho.at0 rfl) inX8 rfl (j := 3) (by decide) q_148 rfl rfl (by decide) dX8_add_41 ?_
    refine x_aload_n B dX8_add_44 rfl (lv_at hl 0 rfl) ?_
    refine y_getFi (C := RX8) (T := TX8) (NN := 5) B (ho.at0 rfl) inX8 rfl (j := 4) (by decide) q_151 rfl rfl dX8_add_45 ?_
    refine x_iload B dX8_add_48 (lv_at hl 4 rfl) ?_
    obtain ⟨h13, hf⟩ := gd_some hf
    refine x_iastF B (ho.at 4 rfl) h13 dX8_add_50 (fun f14 e15 => ?_)
    have hf := lt_some hf e15
    refine x_aload_n B dX8_add_51 rfl (lv_at hl 0 rfl) ?_
    refine x_dup B dX8_add_52 rfl ?_
    refine y_getFi (C := RX8) (T := TX8) (NN := 5) B (ho.at0 rfl) inX8 rfl (j := 4) (by decide) q_151 rfl rfl dX8_add_53 ?_
    refine x_iconst (v := (nI 1)) B dX8_add_56 (by decide) ?_
    refine x_iadd B dX8_add_57 ?_
    refine x_putF (C := RX8) (T := TX8) (NN := 5) (ty0 := tyX8) (ty := .int) B (ho.at0 rfl) inX8 tyX8_ok nmX8 rfl (j := 4) (by decide) q_151 rfl rfl rfl rfl rfl rfl dX8_add_58 (fun f16 e17 => ?_)
    have hf := lt_some hf e17
    refine x_aload_n B dX8_add_61 rfl (lv_at hl 0 rfl) ?_
    refine y_getFi (C := RX8) (T := TX8) (NN := 5) B (ho.at0 rfl) inX8 rfl (j := 4) (by decide) q_151 rfl rfl dX8_add_62 ?_
    refine x_iconst (v := (nI 1)) B dX8_add_65 (by decide) ?_
    refine x_isub B dX8_add_66 ?_
    obtain ⟨rfl, rfl⟩ := rt2 hf
    exact x_iret B dX8_add_67
  · have hf := iq h3 hf
    refine x_ldc (v := (-1000000003 : Int32)) B q_523 dX8_add_7 ?_
    obtain ⟨rfl, rfl⟩ := rt2 hf
    exact x_iret B dX8_add_9
def rmX10_coilAt : Room := { frames := 0, cells := 0, slots := 0, locals := 0 }
def fX10_coilAt_27 (n : Nat)  (k4 : Int32 → Int32 → Int32 → Option (Int32)) (x0 : Int32) (x2 : Int32) (x3 : Int32)  : Option (Int32) :=
  k4 x0 x2 (x3 + (nI 1))
set_option maxHeartbeats 4000000 in
set_option maxRecDepth 100000 in
theorem fX10_coilAt_27_ok {V : VE} {G : GE} {N : Nat} {f m : Mm} {n : Nat} {ls : Array Slot} {r : Int32} (B : CX V G cX10_coilAt 4 "FluxWatch$World" (some .int)) (hR : V.2.2.2.1 = rmX10_coilAt)  {k4 : Int32 → Int32 → Int32 → Option (Int32)} (hk4 : ∀ (x0 : Int32) (x2 : Int32) (x3 : Int32)  (ls : Array Slot),  lv_has ls 4 [(0, .int x0), (2, .int x2), (3, .int x3)] → k4 x0 x2 x3 = some r → WX V G N f m 0 0 (QQ V G (some (.int r)) N f m 0 0) 4 ls []) {x0 : Int32} {x2 : Int32} {x3 : Int32}  (hl : lv_has ls 4 [(0, .int x0), (2, .int x2), (3, .int x3)]) (hf : fX10_coilAt_27 n  k4 x0 x2 x3 = some r) : WX V G N f m 0 0 (QQ V G (some (.int r)) N f m 0 0) 27 ls [] := by
  unfold fX10_coilAt_27 at hf
  refine x_iinc (k := 2) (v := (nI 1)) (lv' := [(3, .int (x3 + (nI 1))), (0, .int x0), (2, .int x2)]) B dX10_coilAt_27 hl rfl (by decide) (by decide) rfl (fun ls hl => ?_)
  refine x_goto (tgt := 4) B dX10_coilAt_30 (by decide) ?_
  exact hk4 _ _ _ _ (lv_sub hl [1, 2, 0] rfl) hf
def fX10_coilAt_4 (n : Nat)   (k4 : Int32 → Int32 → Int32 → Option (Int32)) (x0 : Int32) (x2 : Int32) (x3 : Int32)  : Option (Int32) :=
  if (nI 6) ≤ x3 then (
  some (nI 0)) else (
  if ((shrI x0 x3) &&& (nI 1)) = 0 then (
  fX10_coilAt_27 n k4 x0 x2 x3) else (
  if x2 = 0 then (
  some x3) else (
  fX10_coilAt_27 n k4 x0 (x2 + (-1 : Int32)) x3)))
def fX10_coilAt_4L (n : Nat)   : Nat → Int32 → Int32 → Int32 → Option (Int32)
  | 0 => fun _ _ _ => none
  | q + 1 => fX10_coilAt_4 n   (fX10_coilAt_4L n   q)
set_option maxHeartbeats 4000000 in
set_option maxRecDepth 100000 in
theorem fX10_coilAt_4_ok {V : VE} {G : GE} {N : Nat} {f m : Mm} {n : Nat} {ls : Array Slot} {r : Int32} (B : CX V G cX10_coilAt 4 "FluxWatch$World" (some .int)) (hR : V.2.2.2.1 = rmX10_coilAt)   {k4 : Int32 → Int32 → Int32 → Option (Int32)} (hk4 : ∀ (x0 : Int32) (x2 : Int32) (x3 : Int32)  (ls : Array Slot),  lv_has ls 4 [(0, .int x0), (2, .int x2), (3, .int x3)] → k4 x0 x2 x3 = some r → WX V G N f m 0 0 (QQ V G (some (.int r)) N f m 0 0) 4 ls []) {x0 : Int32} {x2 : Int32} {x3 : Int32}  (hl : lv_has ls 4 [(0, .int x0), (2, .int x2), (3, .int x3)]) (hf : fX10_coilAt_4 n  k4 x0 x2 x3 = some r) : WX V G N f m 0 0 (QQ V G (some (.int r)) N f m 0 0) 4 ls [] := by
  unfold fX10_coilAt_4 at hf
  refine x_iload_n B dX10_coilAt_4 rfl (lv_at hl 2 rfl) ?_
  refine x_bipush (v := (nI 6)) B dX10_coilAt_5 (by decide) ?_
  refine x_icmp_ge (tgt := 33) B dX10_coilAt_7 (by decide) (fun h1 => ?_) (fun h1 => ?_)
  · have hf := ip h1 hf
    refine x_iconst (v := (nI 0)) B dX10_coilAt_33 (by decide) ?_
    obtain rfl := rt1 hf
    exact x_iret B dX10_coilAt_34
  · have hf := iq h1 hf
    refine x_iload_n B dX10_coilAt_10 rfl (lv_at hl 0 rfl) ?_
    refine x_iload_n B dX10_coilAt_11 rfl (lv_at hl 2 rfl) ?_
    refine y_ishr B dX10_coilAt_12 ?_
    refine x_iconst (v := (nI 1)) B dX10_coilAt_13 (by decide) ?_
    refine x_iand B dX10_coilAt_14 ?_
    refine x_if_eq (tgt := 27) B dX10_coilAt_15 (by decide) (fun h2 => ?_) (fun h2 => ?_)
    · have hf := ip h2 hf
      exact fX10_coilAt_27_ok B hR hk4 hl hf
    · have hf := iq h2 hf
      refine x_iload_n B dX10_coilAt_18 rfl (lv_at hl 1 rfl) ?_
      refine x_if_ne (tgt := 24) B dX10_coilAt_19 (by decide) (fun h3 => ?_) (fun h3 => ?_)
      · have hf := ip h3 hf
        refine x_iload_n B dX10_coilAt_22 rfl (lv_at hl 2 rfl) ?_
        obtain rfl := rt1 hf
        exact x_iret B dX10_coilAt_23
      · have hf := iq h3 hf
        refine x_iinc (k := 1) (v := (-1 : Int32)) (lv' := [(2, .int (x2 + (-1 : Int32))), (0, .int x0), (3, .int x3)]) B dX10_coilAt_24 hl rfl (by decide) (by decide) rfl (fun ls hl => ?_)
        exact fX10_coilAt_27_ok B hR hk4 (lv_sub hl [1, 0, 2] rfl) hf
set_option maxHeartbeats 4000000 in
set_option maxRecDepth 100000 in
theorem fX10_coilAt_4L_ok {V : VE} {G : GE} {N : Nat} {f m : Mm} {n : Nat}  {r : Int32} (B : CX V G cX10_coilAt 4 "FluxWatch$World" (some .int)) (hR : V.2.2.2.1 = rmX10_coilAt)   : ∀ (q : Nat) (x0 : Int32) (x2 : Int32) (x3 : Int32)  (ls : Array Slot),  lv_has ls 4 [(0, .int x0), (2, .int x2), (3, .int x3)] → fX10_coilAt_4L n  q x0 x2 x3 = some r → WX V G N f m 0 0 (QQ V G (some (.int r)) N f m 0 0) 4 ls [] := by
  intro q
  induction q with
  | zero =>
    intro x0 x2 x3 ls hl hf
    cases hf
  | succ q ih =>
    intro x0 x2 x3 ls hl hf
    exact fX10_coilAt_4_ok B hR   ih  hl hf
def fX10_coilAt (n : Nat) (a1 : Int32) (a2 : Int32)  : Option (Int32) :=
  fX10_coilAt_4L n n a1 a2 (nI 0)
set_option maxHeartbeats 4000000 in
set_option maxRecDepth 100000 in
theorem kX10_coilAt {l : Launch} {G : GE} {N : Nat} {f m : Mm} {n : Nat} {a1 : Int32} {a2 : Int32} {r : Int32}  (hf : fX10_coilAt n a1 a2 = some r) : MT l G yX10_coilAt cX10_coilAt 4 (some .int) rmX10_coilAt [.int a1, .int a2] N f m (some (.int r)) N f m := by
  unfold fX10_coilAt at hf
  refine MT.of (by decide) (Nat.le_of_ble_eq_true rfl) (fun V ls hV hR B hl => ?_)
  have B : CX V G cX10_coilAt 4 "FluxWatch$World" (some .int) := B
  have hl : lv_has ls 4 [(0, .int a1), (1, .int a2)] := hl
  show WX V G N f m 0 0 (QQ V G (some (.int r)) N f m 0 0) 0 ls []
  refine x_iload_n B dX10_coilAt_0 rfl (lv_at hl 1 rfl) ?_
  refine x_istore_n (lv' := [(2, .int a2), (0, .int a1), (1, .int a2)]) B dX10_coilAt_1 rfl hl (by decide) rfl (fun ls hl => ?_)
  refine x_iconst (v := (nI 0)) B dX10_coilAt_2 (by decide) ?_
  refine x_istore_n (lv' := [(3, .int (nI 0)), (2, .int a2), (0, .int a1), (1, .int a2)]) B dX10_coilAt_3 rfl hl (by decide) rfl (fun ls hl => ?_)
  exact fX10_coilAt_4L_ok B hR  n _ _ _ _ (lv_sub hl [2, 1, 0] rfl) hf
def rmX10_nextDraw : Room := { frames := 0, cells := 0, slots := 0, locals := 0 }
def fX10_nextDraw (n : Nat) (o : Nat) (f : Mm) : Option (Int32 × Mm) :=
  lt (up f o 5 (((f o 5) * (nI 1103515245)) + (nI 12345))) fun f1 =>
  some (ushr (f1 o 5) (nI 8), f1)
set_option maxHeartbeats 4000000 in
set_option maxRecDepth 100000 in
theorem kX10_nextDraw {l : Launch} {G : GE} {N : Nat} {f m : Mm} {n : Nat} {o : Nat} {r : Int32} {g : Mm} (ho : rg 10 o) (hf : fX10_nextDraw n o f = some (r, g)) : MT l G yX10_nextDraw cX10_nextDraw 1 (some .int) rmX10_nextDraw [.ref (gz G + o)] N f m (some (.int r)) N g m := by
  unfold fX10_nextDraw at hf
  refine MT.of (by decide) (Nat.le_of_ble_eq_true rfl) (fun V ls hV hR B hl => ?_)
  have B : CX V G cX10_nextDraw 1 "FluxWatch$World" (some .int) := B
  have hl : lv_has ls 1 [(0, .ref (gz G + o))] := hl
  show WX V G N f m 0 0 (QQ V G (some (.int r)) N g m 0 0) 0 ls []
  refine x_aload_n B dX10_nextDraw_0 rfl (lv_at hl 0 rfl) ?_
  refine x_aload_n B dX10_nextDraw_1 rfl (lv_at hl 0 rfl) ?_
  refine y_getFi (C := RX10) (T := TX10) (NN := 16) B (ho.at0 rfl) inX10 rfl (j := 5) (by decide) q_201 rfl rfl dX10_nextDraw_2 ?_
  refine x_ldc (v := (nI 1103515245)) B q_646 dX10_nextDraw_5 ?_
  refine x_imul B dX10_nextDraw_7 ?_
  refine x_sipush (v := (nI 12345)) B dX10_nextDraw_8 (by decide) ?_
  refine x_iadd B dX10_nextDraw_11 ?_
  refine x_putF (C := RX10) (T := TX10) (NN := 16) (ty0 := tyX10) (ty := .int) B (ho.at0 rfl) inX10 tyX10_ok nmX10 rfl (j := 5) (by decide) q_201 rfl rfl rfl rfl rfl rfl dX10_nextDraw_12 (fun f1 e2 => ?_)
  have hf := lt_some hf e2
  refine x_aload_n B dX10_nextDraw_15 rfl (lv_at hl 0 rfl) ?_
  refine y_getFi (C := RX10) (T := TX10) (NN := 16) B (ho.at0 rfl) inX10 rfl (j := 5) (by decide) q_201 rfl rfl dX10_nextDraw_16 ?_
  refine x_bipush (v := (nI 8)) B dX10_nextDraw_19 (by decide) ?_
  refine y_iushr B dX10_nextDraw_21 ?_
  obtain ⟨rfl, rfl⟩ := rt2 hf
  exact x_iret B dX10_nextDraw_22
def rmX10_drawJust : Room := { frames := 2, cells := 0, slots := 0, locals := 44 }
set_option maxHeartbeats 4000000 in
set_option maxRecDepth 100000 in
theorem cw_X10_drawJust_X10_coilAt : cwB rmX10_drawJust rmX10_coilAt yX10_coilAt cX10_coilAt 4 (some .int) 2 := ⟨q_650, q_46, by decide, by decide⟩
set_option maxHeartbeats 4000000 in
set_option maxRecDepth 100000 in
theorem cw_X10_drawJust_X10_nextDraw : cwB rmX10_drawJust rmX10_nextDraw yX10_nextDraw cX10_nextDraw 1 (some .int) 0 := ⟨q_645, q_46, by decide, by decide⟩
set_option maxHeartbeats 4000000 in
set_option maxRecDepth 100000 in
theorem cw_X10_drawJust_X8_add : cwB rmX10_drawJust rmX8_add yX8_add cX8_add 5 (some .int) 4 := ⟨q_518, q_50, by decide, by decide⟩
set_option maxHeartbeats 4000000 in
set_option maxRecDepth 100000 in
theorem cw_X10_drawJust_X8_isFull : cwB rmX10_drawJust rmX8_isFull yX8_isFull cX8_isFull 1 (some .boolean) 0 := ⟨q_522, q_50, by decide, by decide⟩
def fX10_drawJust_17 (n : Nat) (o : Nat)  (x1 : Int32) (s0 : Int32) (f : Mm) : Option (Mm) :=
  if s0 = 0 then (
  some f) else (
  if x1 = 0 then (
  some f) else (
  bn (fX8_isFull n (o + 9) f) fun r8 =>
  if r8 = 0 then (
  bn (fX10_coilAt n x1 (nI 0)) fun r11 =>
  bn2 (fX8_add n (o + 9) (nI 1) r11 (f o 0) (f o 2) f) fun r14 f13 =>
  some f13) else (
  some f)))
set_option maxHeartbeats 4000000 in
set_option maxRecDepth 100000 in
theorem fX10_drawJust_17_ok {V : VE} {G : GE} {N : Nat} {f m : Mm} {n : Nat} {ls : Array Slot} {o : Nat} {g : Mm} (B : CX V G cX10_drawJust 4 "FluxWatch$World" none) (hR : V.2.2.2.1 = rmX10_drawJust) (ho : rg 10 o)  {x1 : Int32} {s0 : Int32}  (hl : lv_has ls 4 [(0, .ref (gz G + o)), (1, .int x1)]) (hf : fX10_drawJust_17 n o x1 s0 f = some g) : WX V G N f m 0 0 (QQ V G none N g m 0 0) 17 ls [.int s0] := by
  unfold fX10_drawJust_17 at hf
  refine x_istore_n (lv' := [(3, .int s0), (0, .ref (gz G + o)), (1, .int x1)]) B dX10_drawJust_17 rfl hl (by decide) rfl (fun ls hl => ?_)
  refine x_iload_n B dX10_drawJust_18 rfl (lv_at hl 0 rfl) ?_
  refine x_if_eq (tgt := 58) B dX10_drawJust_19 (by decide) (fun h5 => ?_) (fun h5 => ?_)
  · have hf := ip h5 hf
    obtain rfl := rt1 hf
    exact x_vret B dX10_drawJust_58
  · have hf := iq h5 hf
    refine x_iload_n B dX10_drawJust_22 rfl (lv_at hl 2 rfl) ?_
    refine x_if_eq (tgt := 58) B dX10_drawJust_23 (by decide) (fun h6 => ?_) (fun h6 => ?_)
    · have hf := ip h6 hf
      obtain rfl := rt1 hf
      exact x_vret B dX10_drawJust_58
    · have hf := iq h6 hf
      refine x_aload_n B dX10_drawJust_26 rfl (lv_at hl 1 rfl) ?_
      refine y_getFs (C := RX10) (T := TX10) (NN := 16) (d := 9) B (ho.at0 rfl) inX10 rfl (j := 8) (by decide) q_207 rfl rfl (by decide) dX10_drawJust_27 ?_
      obtain ⟨r8, c7, hf⟩ := bn_some hf
      refine x_callV0 (rest := []) B (kX8_isFull (rs_10_9_8 ho) c7) ⟨rfl, rfl⟩ ((rs_10_9_8 ho).at0 (N := N) rfl).lt ((rs_10_9_8 ho).at0 (N := N) rfl).2 rfl (by decide) q_647 q_520 q_521 (by rw [hR]; exact cw_X10_drawJust_X8_isFull) rfl rfl hl.1 (Nat.le_of_ble_eq_true rfl) dX10_drawJust_30 ⟨Nat.zero_le _, Nat.zero_le _⟩ ?_
      refine x_if_ne (tgt := 58) B dX10_drawJust_33 (by decide) (fun h9 => ?_) (fun h9 => ?_)
      · have hf := ip h9 hf
        refine x_aload_n B dX10_drawJust_36 rfl (lv_at hl 1 rfl) ?_
        refine y_getFs (C := RX10) (T := TX10) (NN := 16) (d := 9) B (ho.at0 rfl) inX10 rfl (j := 8) (by decide) q_207 rfl rfl (by decide) dX10_drawJust_37 ?_
        refine x_iconst (v := (nI 1)) B dX10_drawJust_40 (by decide) ?_
        refine x_iload_n B dX10_drawJust_41 rfl (lv_at hl 2 rfl) ?_
        refine x_iconst (v := (nI 0)) B dX10_drawJust_42 (by decide) ?_
        obtain ⟨r11, c10, hf⟩ := bn_some hf
        refine x_callS0 (rest := [.int (nI 1), .ref (gz G + (o + 9))]) B (kX10_coilAt c10) ⟨rfl, rfl⟩ q_648 q_649 (by rw [hR]; exact cw_X10_drawJust_X10_coilAt) rfl rfl hl.1 (Nat.le_of_ble_eq_true rfl) dX10_drawJust_43 ⟨Nat.zero_le _, Nat.zero_le _⟩ ?_
        refine x_aload_n B dX10_drawJust_46 rfl (lv_at hl 1 rfl) ?_
        refine y_getFi (C := RX10) (T := TX10) (NN := 16) B (ho.at0 rfl) inX10 rfl (j := 0) (by decide) q_188 rfl rfl dX10_drawJust_47 ?_
        refine x_aload_n B dX10_drawJust_50 rfl (lv_at hl 1 rfl) ?_
        refine y_getFi (C := RX10) (T := TX10) (NN := 16) B (ho.at0 rfl) inX10 rfl (j := 2) (by decide) q_194 rfl rfl dX10_drawJust_51 ?_
        obtain ⟨r14, f13, c12, hf⟩ := bn2_some hf
        refine x_callV0 (rest := []) B (kX8_add (rs_10_9_8 ho) c12) ⟨rfl, rfl⟩ ((rs_10_9_8 ho).at0 (N := N) rfl).lt ((rs_10_9_8 ho).at0 (N := N) rfl).2 rfl (by decide) q_651 q_516 q_517 (by rw [hR]; exact cw_X10_drawJust_X8_add) rfl rfl hl.1 (Nat.le_of_ble_eq_true rfl) dX10_drawJust_54 ⟨Nat.zero_le _, Nat.zero_le _⟩ ?_
        refine x_pop B dX10_drawJust_57 rfl ?_
        obtain rfl := rt1 hf
        exact x_vret B dX10_drawJust_58
      · have hf := iq h9 hf
        obtain rfl := rt1 hf
        exact x_vret B dX10_drawJust_58
def fX10_drawJust (n : Nat) (o : Nat) (a1 : Int32) (a2 : Int32) (f : Mm) : Option (Mm) :=
  bn2 (fX10_nextDraw n o f) fun r3 f2 =>
  if a2 ≤ (irm r3 (nI 1000)) then (
  fX10_drawJust_17 n o a1 (nI 0) f2) else (
  fX10_drawJust_17 n o a1 (nI 1) f2)
set_option maxHeartbeats 4000000 in
set_option maxRecDepth 100000 in
theorem kX10_drawJust {l : Launch} {G : GE} {N : Nat} {f m : Mm} {n : Nat} {o : Nat} {a1 : Int32} {a2 : Int32} {g : Mm} (ho : rg 10 o) (hf : fX10_drawJust n o a1 a2 f = some g) : MT l G yX10_drawJust cX10_drawJust 4 none rmX10_drawJust [.ref (gz G + o), .int a1, .int a2] N f m none N g m := by
  unfold fX10_drawJust at hf
  refine MT.of (by decide) (Nat.le_of_ble_eq_true rfl) (fun V ls hV hR B hl => ?_)
  have B : CX V G cX10_drawJust 4 "FluxWatch$World" none := B
  have hl : lv_has ls 4 [(0, .ref (gz G + o)), (1, .int a1), (2, .int a2)] := hl
  show WX V G N f m 0 0 (QQ V G none N g m 0 0) 0 ls []
  refine x_aload_n B dX10_drawJust_0 rfl (lv_at hl 0 rfl) ?_
  obtain ⟨r3, f2, c1, hf⟩ := bn2_some hf
  refine x_callV0 (rest := []) B (kX10_nextDraw ho c1) ⟨rfl, rfl⟩ (ho.at0 (N := N) rfl).lt (ho.at0 (N := N) rfl).2 rfl (by decide) q_642 q_643 q_644 (by rw [hR]; exact cw_X10_drawJust_X10_nextDraw) rfl rfl hl.1 (Nat.le_of_ble_eq_true rfl) dX10_drawJust_1 ⟨Nat.zero_le _, Nat.zero_le _⟩ ?_
  refine x_sipush (v := (nI 1000)) B dX10_drawJust_4 (by decide) ?_
  refine y_irem B dX10_drawJust_7 (by decide) ?_
  refine x_iload_n B dX10_drawJust_8 rfl (lv_at hl 2 rfl) ?_
  refine x_icmp_ge (tgt := 16) B dX10_drawJust_9 (by decide) (fun h4 => ?_) (fun h4 => ?_)
  · have hf := ip h4 hf
    refine x_iconst (v := (nI 0)) B dX10_drawJust_16 (by decide) ?_
    exact fX10_drawJust_17_ok B hR ho  (lv_sub hl [0, 1] rfl) hf
  · have hf := iq h4 hf
    refine x_iconst (v := (nI 1)) B dX10_drawJust_12 (by decide) ?_
    refine x_goto (tgt := 17) B dX10_drawJust_13 (by decide) ?_
    exact fX10_drawJust_17_ok B hR ho  (lv_sub hl [0, 1] rfl) hf
def rmJ6_bitCount_0f7a4 : Room := { frames := 0, cells := 0, slots := 0, locals := 0 }
def fJ6_bitCount_0f7a4 (n : Nat) (a1 : Int32)  : Option (Int32) :=
  lt (a1 - ((ushr a1 (nI 1)) &&& (nI 1431655765))) fun v1 =>
  lt ((v1 &&& (nI 858993459)) + ((ushr v1 (nI 2)) &&& (nI 858993459))) fun v3 =>
  lt ((v3 + (ushr v3 (nI 4))) &&& (nI 252645135)) fun v5 =>
  lt ((v5 + (ushr v5 (nI 8))) + (ushr (v5 + (ushr v5 (nI 8))) (nI 16))) fun v7 =>
  some (v7 &&& (nI 63))
set_option maxHeartbeats 4000000 in
set_option maxRecDepth 100000 in
theorem kJ6_bitCount_0f7a4 {l : Launch} {G : GE} {N : Nat} {f m : Mm} {n : Nat} {a1 : Int32} {r : Int32}  (hf : fJ6_bitCount_0f7a4 n a1 = some r) : MT l G yJ6_bitCount_0f7a4 cJ6_bitCount_0f7a4 1 (some .int) rmJ6_bitCount_0f7a4 [.int a1] N f m (some (.int r)) N f m := by
  unfold fJ6_bitCount_0f7a4 at hf
  refine MT.of (by decide) (Nat.le_of_ble_eq_true rfl) (fun V ls hV hR B hl => ?_)
  have B : CX V G cJ6_bitCount_0f7a4 1 "java/lang/Integer" (some .int) := B
  have hl : lv_has ls 1 [(0, .int a1)] := hl
  show WX V G N f m 0 0 (QQ V G (some (.int r)) N f m 0 0) 0 ls []
  refine x_iload_n B dJ6_bitCount_0f7a4_0 rfl (lv_at hl 0 rfl) ?_
  refine x_iload_n B dJ6_bitCount_0f7a4_1 rfl (lv_at hl 0 rfl) ?_
  refine x_iconst (v := (nI 1)) B dJ6_bitCount_0f7a4_2 (by decide) ?_
  refine y_iushr B dJ6_bitCount_0f7a4_3 ?_
  refine x_ldc_w (v := (nI 1431655765)) B q_659 dJ6_bitCount_0f7a4_4 ?_
  refine x_iand B dJ6_bitCount_0f7a4_7 ?_
  refine x_isub B dJ6_bitCount_0f7a4_8 ?_
  refine x_nm (fun v1 e2 => ?_)
  have hf := lt_some hf e2
  refine x_istore_n (lv' := [(0, .int v1)]) B dJ6_bitCount_0f7a4_9 rfl hl (by decide) rfl (fun ls hl => ?_)
  refine x_iload_n B dJ6_bitCount_0f7a4_10 rfl (lv_at hl 0 rfl) ?_
  refine x_ldc_w (v := (nI 858993459)) B q_660 dJ6_bitCount_0f7a4_11 ?_
  refine x_iand B dJ6_bitCount_0f7a4_14 ?_
  refine x_iload_n B dJ6_bitCount_0f7a4_15 rfl (lv_at hl 0 rfl) ?_
  refine x_iconst (v := (nI 2)) B dJ6_bitCount_0f7a4_16 (by decide) ?_
  refine y_iushr B dJ6_bitCount_0f7a4_17 ?_
  refine x_ldc_w (v := (nI 858993459)) B q_660 dJ6_bitCount_0f7a4_18 ?_
  refine x_iand B dJ6_bitCount_0f7a4_21 ?_
  refine x_iadd B dJ6_bitCount_0f7a4_22 ?_
  refine x_nm (fun v3 e4 => ?_)
  have hf := lt_some hf e4
  refine x_istore_n (lv' := [(0, .int v3)]) B dJ6_bitCount_0f7a4_23 rfl hl (by decide) rfl (fun ls hl => ?_)
  refine x_iload_n B dJ6_bitCount_0f7a4_24 rfl (lv_at hl 0 rfl) ?_
  refine x_iload_n B dJ6_bitCount_0f7a4_25 rfl (lv_at hl 0 rfl) ?_
  refine x_iconst (v := (nI 4)) B dJ6_bitCount_0f7a4_26 (by decide) ?_
  refine y_iushr B dJ6_bitCount_0f7a4_27 ?_
  refine x_iadd B dJ6_bitCount_0f7a4_28 ?_
  refine x_ldc_w (v := (nI 252645135)) B q_661 dJ6_bitCount_0f7a4_29 ?_
  refine x_iand B dJ6_bitCount_0f7a4_32 ?_
  refine x_nm (fun v5 e6 => ?_)
  have hf := lt_some hf e6
  refine x_istore_n (lv' := [(0, .int v5)]) B dJ6_bitCount_0f7a4_33 rfl hl (by decide) rfl (fun ls hl => ?_)
  refine x_iload_n B dJ6_bitCount_0f7a4_34 rfl (lv_at hl 0 rfl) ?_
  refine x_iload_n B dJ6_bitCount_0f7a4_35 rfl (lv_at hl 0 rfl) ?_
  refine x_bipush (v := (nI 8)) B dJ6_bitCount_0f7a4_36 (by decide) ?_
  refine y_iushr B dJ6_bitCount_0f7a4_38 ?_
  refine x_iadd B dJ6_bitCount_0f7a4_39 ?_
  refine x_istore_n (lv' := [(0, .int (v5 + (ushr v5 (nI 8))))]) B dJ6_bitCount_0f7a4_40 rfl hl (by decide) rfl (fun ls hl => ?_)
  refine x_iload_n B dJ6_bitCount_0f7a4_41 rfl (lv_at hl 0 rfl) ?_
  refine x_iload_n B dJ6_bitCount_0f7a4_42 rfl (lv_at hl 0 rfl) ?_
  refine x_bipush (v := (nI 16)) B dJ6_bitCount_0f7a4_43 (by decide) ?_
  refine y_iushr B dJ6_bitCount_0f7a4_45 ?_
  refine x_iadd B dJ6_bitCount_0f7a4_46 ?_
  refine x_nm (fun v7 e8 => ?_)
  have hf := lt_some hf e8
  refine x_istore_n (lv' := [(0, .int v7)]) B dJ6_bitCount_0f7a4_47 rfl hl (by decide) rfl (fun ls hl => ?_)
  refine x_iload_n B dJ6_bitCount_0f7a4_48 rfl (lv_at hl 0 rfl) ?_
  refine x_bipush (v := (nI 63)) B dJ6_bitCount_0f7a4_49 (by decide) ?_
  refine x_iand B dJ6_bitCount_0f7a4_51 ?_
  obtain rfl := rt1 hf
  exact x_iret B dJ6_bitCount_0f7a4_52
def rmX10_drawKnocked : Room := { frames := 2, cells := 0, slots := 0, locals := 44 }
set_option maxHeartbeats 4000000 in
set_option maxRecDepth 100000 in
theorem cw_X10_drawKnocked_J6_bitCount_0f7a4 : cwB rmX10_drawKnocked rmJ6_bitCount_0f7a4 yJ6_bitCount_0f7a4 cJ6_bitCount_0f7a4 1 (some .int) 1 := ⟨q_658, q_60, by decide, by decide⟩
set_option maxHeartbeats 4000000 in
set_option maxRecDepth 100000 in
theorem cw_X10_drawKnocked_X10_coilAt : cwB rmX10_drawKnocked rmX10_coilAt yX10_coilAt cX10_coilAt 4 (some .int) 2 := ⟨q_650, q_46, by decide, by decide⟩
set_option maxHeartbeats 4000000 in
set_option maxRecDepth 100000 in
theorem cw_X10_drawKnocked_X10_nextDraw : cwB rmX10_drawKnocked rmX10_nextDraw yX10_nextDraw cX10_nextDraw 1 (some .int) 0 := ⟨q_645, q_46, by decide, by decide⟩
set_option maxHeartbeats 4000000 in
set_option maxRecDepth 100000 in
theorem cw_X10_drawKnocked_X8_add : cwB rmX10_drawKnocked rmX8_add yX8_add cX8_add 5 (some .int) 4 := ⟨q_518, q_50, by decide, by decide⟩
set_option maxHeartbeats 4000000 in
set_option maxRecDepth 100000 in
theorem cw_X10_drawKnocked_X8_isFull : cwB rmX10_drawKnocked rmX8_isFull yX8_isFull cX8_isFull 1 (some .boolean) 0 := ⟨q_522, q_50, by decide, by decide⟩
def fX10_drawKnocked_89 (n : Nat) (o : Nat)  (x5 : Int32) (s0 : Int32) (f : Mm) : Option (Mm) :=
  bn2 (fX8_add n (o + 9) (nI 2) x5 (f o 0) s0 f) fun r24 f23 =>
  some f23
set_option maxHeartbeats 4000000 in
set_option maxRecDepth 100000 in
theorem fX10_drawKnocked_89_ok {V : VE} {G : GE} {N : Nat} {f m : Mm} {n : Nat} {ls : Array Slot} {o : Nat} {g : Mm} (B : CX V G cX10_drawKnocked 7 "FluxWatch$World" none) (hR : V.2.2.2.1 = rmX10_drawKnocked) (ho : rg 10 o)  {x5 : Int32} {s0 : Int32}  (hl : lv_has ls 7 [(0, .ref (gz G + o)), (5, .int x5)]) (hf : fX10_drawKnocked_89 n o x5 s0 f = some g) : WX V G N f m 0 0 (QQ V G none N g m 0 0) 89 ls [.int s0] := by
  unfold fX10_drawKnocked_89 at hf
  refine x_istore (lv' := [(6, .int s0), (0, .ref (gz G + o)), (5, .int x5)]) B dX10_drawKnocked_89 hl (by decide) rfl (fun ls hl => ?_)
  refine x_aload_n B dX10_drawKnocked_91 rfl (lv_at hl 1 rfl) ?_
  refine y_getFs (C := RX10) (T := TX10) (NN := 16) (d := 9) B (ho.at0 rfl) inX10 rfl (j := 8) (by decide) q_207 rfl rfl (by decide) dX10_drawKnocked_92 ?_
  refine x_iconst (v := (nI 2)) B dX10_drawKnocked_95 (by decide) ?_
  refine x_iload B dX10_drawKnocked_96 (lv_at hl 2 rfl) ?_
  refine x_aload_n B dX10_drawKnocked_98 rfl (lv_at hl 1 rfl) ?_
  refine y_getFi (C := RX10) (T := TX10) (NN := 16) B (ho.at0 rfl) inX10 rfl (j := 0) (by decide) q_188 rfl rfl dX10_drawKnocked_99 ?_
  refine x_iload B dX10_drawKnocked_102 (lv_at hl 0 rfl) ?_
  obtain ⟨r24, f23, c22, hf⟩ := bn2_some hf
  refine x_callV0 (rest := []) B (kX8_add (rs_10_9_8 ho) c22) ⟨rfl, rfl⟩ ((rs_10_9_8 ho).at0 (N := N) rfl).lt ((rs_10_9_8 ho).at0 (N := N) rfl).2 rfl (by decide) q_651 q_516 q_517 (by rw [hR]; exact cw_X10_drawKnocked_X8_add) rfl rfl hl.1 (Nat.le_of_ble_eq_true rfl) dX10_drawKnocked_104 ⟨Nat.zero_le _, Nat.zero_le _⟩ ?_
  refine x_pop B dX10_drawKnocked_107 rfl ?_
  obtain rfl := rt1 hf
  exact x_vret B dX10_drawKnocked_108
def fX10_drawKnocked_17 (n : Nat) (o : Nat)  (x1 : Int32) (s0 : Int32) (f : Mm) : Option (Mm) :=
  bn (fJ6_bitCount_0f7a4 n x1) fun r6 =>
  if s0 = 0 then (
  some f) else (
  if r6 ≤ 0 then (
  some f) else (
  bn (fX8_isFull n (o + 9) f) fun r10 =>
  if r10 = 0 then (
  bn2 (fX10_nextDraw n o f) fun r14 f13 =>
  gd (nz r6) <|
  bn (fX10_coilAt n x1 (irm r14 r6)) fun r17 =>
  if (f13 o 13) ≤ 0 then (
  bn2 (fX10_nextDraw n o f13) fun r21 f20 =>
  fX10_drawKnocked_89 n o r17 ((nI 1) + (irm r21 (nI 99))) f20) else (
  bn2 (fX10_nextDraw n o f13) fun r27 f26 =>
  gd (nz (f26 o 13)) <|
  gd (ib (irm r27 (f26 o 13)) 60) <|
  fX10_drawKnocked_89 n o r17 (f26 (o + 16) (irm r27 (f26 o 13)).toNatClampNeg) f26)) else (
  some f)))
set_option maxHeartbeats 4000000 in
set_option maxRecDepth 100000 in
theorem fX10_drawKnocked_17_ok {V : VE} {G : GE} {N : Nat} {f m : Mm} {n : Nat} {ls : Array Slot} {o : Nat} {g : Mm} (B : CX V G cX10_drawKnocked 7 "FluxWatch$World" none) (hR : V.2.2.2.1 = rmX10_drawKnocked) (ho : rg 10 o)  {x1 : Int32} {s0 : Int32}  (hl : lv_has ls 7 [(0, .ref (gz G + o)), (1, .int x1)]) (hf : fX10_drawKnocked_17 n o x1 s0 f = some g) : WX V G N f m 0 0 (QQ V G none N g m 0 0) 17 ls [.int s0] := by
  unfold fX10_drawKnocked_17 at hf
  refine x_istore_n (lv' := [(3, .int s0), (0, .ref (gz G + o)), (1, .int x1)]) B dX10_drawKnocked_17 rfl hl (by decide) rfl (fun ls hl => ?_)
  refine x_iload_n B dX10_drawKnocked_18 rfl (lv_at hl 2 rfl) ?_
  obtain ⟨r6, c5, hf⟩ := bn_some hf
  refine x_callS0 (rest := []) B (kJ6_bitCount_0f7a4 c5) ⟨rfl, rfl⟩ q_656 q_657 (by rw [hR]; exact cw_X10_drawKnocked_J6_bitCount_0f7a4) rfl rfl hl.1 (Nat.le_of_ble_eq_true rfl) dX10_drawKnocked_19 ⟨Nat.zero_le _, Nat.zero_le _⟩ ?_
  refine x_istore (lv' := [(4, .int r6), (3, .int s0), (0, .ref (gz G + o)), (1, .int x1)]) B dX10_drawKnocked_22 hl (by decide) rfl (fun ls hl => ?_)
  refine x_iload_n B dX10_drawKnocked_24 rfl (lv_at hl 1 rfl) ?_
  refine x_if_eq (tgt := 108) B dX10_drawKnocked_25 (by decide) (fun h7 => ?_) (fun h7 => ?_)
  · have hf := ip h7 hf
    obtain rfl := rt1 hf
    exact x_vret B dX10_drawKnocked_108
  · have hf := iq h7 hf
    refine x_iload B dX10_drawKnocked_28 (lv_at hl 0 rfl) ?_
    refine x_if_le (tgt := 108) B dX10_drawKnocked_30 (by decide) (fun h8 => ?_) (fun h8 => ?_)
    · have hf := ip h8 hf
      obtain rfl := rt1 hf
      exact x_vret B dX10_drawKnocked_108
    · have hf := iq h8 hf
      refine x_aload_n B dX10_drawKnocked_33 rfl (lv_at hl 2 rfl) ?_
      refine y_getFs (C := RX10) (T := TX10) (NN := 16) (d := 9) B (ho.at0 rfl) inX10 rfl (j := 8) (by decide) q_207 rfl rfl (by decide) dX10_drawKnocked_34 ?_
      obtain ⟨r10, c9, hf⟩ := bn_some hf
      refine x_callV0 (rest := []) B (kX8_isFull (rs_10_9_8 ho) c9) ⟨rfl, rfl⟩ ((rs_10_9_8 ho).at0 (N := N) rfl).lt ((rs_10_9_8 ho).at0 (N := N) rfl).2 rfl (by decide) q_647 q_520 q_521 (by rw [hR]; exact cw_X10_drawKnocked_X8_isFull) rfl rfl hl.1 (Nat.le_of_ble_eq_true rfl) dX10_drawKnocked_37 ⟨Nat.zero_le _, Nat.zero_le _⟩ ?_
      refine x_if_ne (tgt := 108) B dX10_drawKnocked_40 (by decide) (fun h11 => ?_) (fun h11 => ?_)
      · have hf := ip h11 hf
        refine x_iload_n B dX10_drawKnocked_43 rfl (lv_at hl 3 rfl) ?_
        refine x_aload_n B dX10_drawKnocked_44 rfl (lv_at hl 2 rfl) ?_
        obtain ⟨r14, f13, c12, hf⟩ := bn2_some hf
        refine x_callV0 (rest := [.int x1]) B (kX10_nextDraw ho c12) ⟨rfl, rfl⟩ (ho.at0 (N := N) rfl).lt (ho.at0 (N := N) rfl).2 rfl (by decide) q_642 q_643 q_644 (by rw [hR]; exact cw_X10_drawKnocked_X10_nextDraw) rfl rfl hl.1 (Nat.le_of_ble_eq_true rfl) dX10_drawKnocked_45 ⟨Nat.zero_le _, Nat.zero_le _⟩ ?_
        refine x_iload B dX10_drawKnocked_48 (lv_at hl 0 rfl) ?_
        obtain ⟨h15, hf⟩ := gd_some hf
        refine y_irem B dX10_drawKnocked_50 (nz_ne h15) ?_
        obtain ⟨r17, c16, hf⟩ := bn_some hf
        refine x_callS0 (rest := []) B (kX10_coilAt c16) ⟨rfl, rfl⟩ q_648 q_649 (by rw [hR]; exact cw_X10_drawKnocked_X10_coilAt) rfl rfl hl.1 (Nat.le_of_ble_eq_true rfl) dX10_drawKnocked_51 ⟨Nat.zero_le _, Nat.zero_le _⟩ ?_
        refine x_istore (lv' := [(5, .int r17), (4, .int r6), (3, .int s0), (0, .ref (gz G + o)), (1, .int x1)]) B dX10_drawKnocked_54 hl (by decide) rfl (fun ls hl => ?_)
        refine x_aload_n B dX10_drawKnocked_56 rfl (lv_at hl 3 rfl) ?_
        refine y_getFi (C := RX10) (T := TX10) (NN := 16) B (ho.at0 rfl) inX10 rfl (j := 13) (by decide) q_216 rfl rfl dX10_drawKnocked_57 ?_
        refine x_if_le (tgt := 80) B dX10_drawKnocked_60 (by decide) (fun h18 => ?_) (fun h18 => ?_)
        · have hf := ip h18 hf
          refine x_iconst (v := (nI 1)) B dX10_drawKnocked_80 (by decide) ?_
          refine x_aload_n B dX10_drawKnocked_81 rfl (lv_at hl 3 rfl) ?_
          obtain ⟨r21, f20, c19, hf⟩ := bn2_some hf
          refine x_callV0 (rest := [.int (nI 1)]) B (kX10_nextDraw ho c19) ⟨rfl, rfl⟩ (ho.at0 (N := N) rfl).lt (ho.at0 (N := N) rfl).2 rfl (by decide) q_642 q_643 q_644 (by rw [hR]; exact cw_X10_drawKnocked_X10_nextDraw) rfl rfl hl.1 (Nat.le_of_ble_eq_true rfl) dX10_drawKnocked_82 ⟨Nat.zero_le _, Nat.zero_le _⟩ ?_
          refine x_bipush (v := (nI 99)) B dX10_drawKnocked_85 (by decide) ?_
          refine y_irem B dX10_drawKnocked_87 (by decide) ?_
          refine x_iadd B dX10_drawKnocked_88 ?_
          exact fX10_drawKnocked_89_ok B hR ho  (lv_sub hl [3, 0] rfl) hf
        · have hf := iq h18 hf
          refine x_aload_n B dX10_drawKnocked_63 rfl (lv_at hl 3 rfl) ?_
          refine y_getFs (C := RX10) (T := TX10) (NN := 16) (d := 16) B (ho.at0 rfl) inX10 rfl (j := 12) (by decide) q_215 rfl rfl (by decide) dX10_drawKnocked_64 ?_
          refine x_aload_n B dX10_drawKnocked_67 rfl (lv_at hl 3 rfl) ?_
          obtain ⟨r27, f26, c25, hf⟩ := bn2_some hf
          refine x_callV0 (rest := [.ref (gz G + (o + 16))]) B (kX10_nextDraw ho c25) ⟨rfl, rfl⟩ (ho.at0 (N := N) rfl).lt (ho.at0 (N := N) rfl).2 rfl (by decide) q_642 q_643 q_644 (by rw [hR]; exact cw_X10_drawKnocked_X10_nextDraw) rfl rfl hl.1 (Nat.le_of_ble_eq_true rfl) dX10_drawKnocked_68 ⟨Nat.zero_le _, Nat.zero_le _⟩ ?_
          refine x_aload_n B dX10_drawKnocked_71 rfl (lv_at hl 3 rfl) ?_
          refine y_getFi (C := RX10) (T := TX10) (NN := 16) B (ho.at0 rfl) inX10 rfl (j := 13) (by decide) q_216 rfl rfl dX10_drawKnocked_72 ?_
          obtain ⟨h28, hf⟩ := gd_some hf
          refine y_irem B dX10_drawKnocked_75 (nz_ne h28) ?_
          obtain ⟨h29, hf⟩ := gd_some hf
          refine x_ialdF B (ho.at 16 rfl) h29 dX10_drawKnocked_76 ?_
          refine x_goto (tgt := 89) B dX10_drawKnocked_77 (by decide) ?_
          exact fX10_drawKnocked_89_ok B hR ho  (lv_sub hl [3, 0] rfl) hf
      · have hf := iq h11 hf
        obtain rfl := rt1 hf
        exact x_vret B dX10_drawKnocked_108
def fX10_drawKnocked (n : Nat) (o : Nat) (a1 : Int32) (a2 : Int32) (f : Mm) : Option (Mm) :=
  bn2 (fX10_nextDraw n o f) fun r3 f2 =>
  if a2 ≤ (irm r3 (nI 1000)) then (
  fX10_drawKnocked_17 n o a1 (nI 0) f2) else (
  fX10_drawKnocked_17 n o a1 (nI 1) f2)
set_option maxHeartbeats 4000000 in
set_option maxRecDepth 100000 in
theorem kX10_drawKnocked {l : Launch} {G : GE} {N : Nat} {f m : Mm} {n : Nat} {o : Nat} {a1 : Int32} {a2 : Int32} {g : Mm} (ho : rg 10 o) (hf : fX10_drawKnocked n o a1 a2 f = some g) : MT l G yX10_drawKnocked cX10_drawKnocked 7 none rmX10_drawKnocked [.ref (gz G + o), .int a1, .int a2] N f m none N g m := by
  unfold fX10_drawKnocked at hf
  refine MT.of (by decide) (Nat.le_of_ble_eq_true rfl) (fun V ls hV hR B hl => ?_)
  have B : CX V G cX10_drawKnocked 7 "FluxWatch$World" none := B
  have hl : lv_has ls 7 [(0, .ref (gz G + o)), (1, .int a1), (2, .int a2)] := hl
  show WX V G N f m 0 0 (QQ V G none N g m 0 0) 0 ls []
  refine x_aload_n B dX10_drawKnocked_0 rfl (lv_at hl 0 rfl) ?_
  obtain ⟨r3, f2, c1, hf⟩ := bn2_some hf
  refine x_callV0 (rest := []) B (kX10_nextDraw ho c1) ⟨rfl, rfl⟩ (ho.at0 (N := N) rfl).lt (ho.at0 (N := N) rfl).2 rfl (by decide) q_642 q_643 q_644 (by rw [hR]; exact cw_X10_drawKnocked_X10_nextDraw) rfl rfl hl.1 (Nat.le_of_ble_eq_true rfl) dX10_drawKnocked_1 ⟨Nat.zero_le _, Nat.zero_le _⟩ ?_
  refine x_sipush (v := (nI 1000)) B dX10_drawKnocked_4 (by decide) ?_
  refine y_irem B dX10_drawKnocked_7 (by decide) ?_
  refine x_iload_n B dX10_drawKnocked_8 rfl (lv_at hl 2 rfl) ?_
  refine x_icmp_ge (tgt := 16) B dX10_drawKnocked_9 (by decide) (fun h4 => ?_) (fun h4 => ?_)
  · have hf := ip h4 hf
    refine x_iconst (v := (nI 0)) B dX10_drawKnocked_16 (by decide) ?_
    exact fX10_drawKnocked_17_ok B hR ho  (lv_sub hl [0, 1] rfl) hf
  · have hf := iq h4 hf
    refine x_iconst (v := (nI 1)) B dX10_drawKnocked_12 (by decide) ?_
    refine x_goto (tgt := 17) B dX10_drawKnocked_13 (by decide) ?_
    exact fX10_drawKnocked_17_ok B hR ho  (lv_sub hl [0, 1] rfl) hf
def rmX10_isWatched : Room := { frames := 1, cells := 0, slots := 0, locals := 23 }
set_option maxHeartbeats 4000000 in
set_option maxRecDepth 100000 in
theorem cw_X10_isWatched_X7_coilsOn : cwB rmX10_isWatched rmX7_coilsOn yX7_coilsOn cX7_coilsOn 4 (some .int) 1 := ⟨q_448, q_48, by decide, by decide⟩
def fX10_isWatched (n : Nat) (o : Nat) (a1 : Int32) (a2 : Int32) (f : Mm) : Option (Int32) :=
  bn (fX7_coilsOn n (o + 5) a2 f) fun r2 =>
  if ((shrI r2 a1) &&& (nI 1)) = 0 then (
  some (nI 0)) else (
  some (nI 1))
set_option maxHeartbeats 4000000 in
set_option maxRecDepth 100000 in
theorem kX10_isWatched {l : Launch} {G : GE} {N : Nat} {f m : Mm} {n : Nat} {o : Nat} {a1 : Int32} {a2 : Int32} {r : Int32} (ho : rg 10 o) (hf : fX10_isWatched n o a1 a2 f = some r) : MT l G yX10_isWatched cX10_isWatched 3 (some .boolean) rmX10_isWatched [.ref (gz G + o), .int a1, .int a2] N f m (some (.int r)) N f m := by
  unfold fX10_isWatched at hf
  refine MT.of (by decide) (Nat.le_of_ble_eq_true rfl) (fun V ls hV hR B hl => ?_)
  have B : CX V G cX10_isWatched 3 "FluxWatch$World" (some .boolean) := B
  have hl : lv_has ls 3 [(0, .ref (gz G + o)), (1, .int a1), (2, .int a2)] := hl
  show WX V G N f m 0 0 (QQ V G (some (.int r)) N f m 0 0) 0 ls []
  refine x_aload_n B dX10_isWatched_0 rfl (lv_at hl 0 rfl) ?_
  refine y_getFs (C := RX10) (T := TX10) (NN := 16) (d := 5) B (ho.at0 rfl) inX10 rfl (j := 7) (by decide) q_205 rfl rfl (by decide) dX10_isWatched_1 ?_
  refine x_iload_n B dX10_isWatched_4 rfl (lv_at hl 2 rfl) ?_
  obtain ⟨r2, c1, hf⟩ := bn_some hf
  refine x_callV0 (rest := []) B (kX7_coilsOn (rs_10_5_7 ho) c1) ⟨rfl, rfl⟩ ((rs_10_5_7 ho).at0 (N := N) rfl).lt ((rs_10_5_7 ho).at0 (N := N) rfl).2 rfl (by decide) q_445 q_446 q_447 (by rw [hR]; exact cw_X10_isWatched_X7_coilsOn) rfl rfl hl.1 (Nat.le_of_ble_eq_true rfl) dX10_isWatched_5 ⟨Nat.zero_le _, Nat.zero_le _⟩ ?_
  refine x_iload_n B dX10_isWatched_8 rfl (lv_at hl 1 rfl) ?_
  refine y_ishr B dX10_isWatched_9 ?_
  refine x_iconst (v := (nI 1)) B dX10_isWatched_10 (by decide) ?_
  refine x_iand B dX10_isWatched_11 ?_
  refine x_if_eq (tgt := 19) B dX10_isWatched_12 (by decide) (fun h3 => ?_) (fun h3 => ?_)
  · have hf := ip h3 hf
    refine x_iconst (v := (nI 0)) B dX10_isWatched_19 (by decide) ?_
    obtain rfl := rt1 hf
    exact x_zret B (by decide) dX10_isWatched_20
  · have hf := iq h3 hf
    refine x_iconst (v := (nI 1)) B dX10_isWatched_15 (by decide) ?_
    refine x_goto (tgt := 20) B dX10_isWatched_16 (by decide) ?_
    obtain rfl := rt1 hf
    exact x_zret B (by decide) dX10_isWatched_20
def rmX8_hasOne : Room := { frames := 0, cells := 0, slots := 0, locals := 0 }
def fX8_hasOne_32 (n : Nat) (o : Nat) (k2 : Int32 → Int32 → Int32 → Mm → Option (Int32)) (x1 : Int32) (x2 : Int32) (x3 : Int32) (f : Mm) : Option (Int32) :=
  k2 x1 x2 (x3 + (nI 1)) f
set_option maxHeartbeats 4000000 in
set_option maxRecDepth 100000 in
theorem fX8_hasOne_32_ok {V : VE} {G : GE} {N : Nat} {f m : Mm} {n : Nat} {ls : Array Slot} {o : Nat} {r : Int32} (B : CX V G cX8_hasOne 4 "FluxWatch$Steps" (some .boolean)) (hR : V.2.2.2.1 = rmX8_hasOne) (ho : rg 8 o) {k2 : Int32 → Int32 → Int32 → Mm → Option (Int32)} (hk2 : ∀ (x1 : Int32) (x2 : Int32) (x3 : Int32) (mm : Mm) (ls : Array Slot),  lv_has ls 4 [(0, .ref (gz G + o)), (1, .int x1), (2, .int x2), (3, .int x3)] → k2 x1 x2 x3 mm = some r → WX V G N mm m 0 0 (QQ V G (some (.int r)) N mm m 0 0) 2 ls []) {x1 : Int32} {x2 : Int32} {x3 : Int32}  (hl : lv_has ls 4 [(0, .ref (gz G + o)), (1, .int x1), (2, .int x2), (3, .int x3)]) (hf : fX8_hasOne_32 n o k2 x1 x2 x3 f = some r) : WX V G N f m 0 0 (QQ V G (some (.int r)) N f m 0 0) 32 ls [] := by
  unfold fX8_hasOne_32 at hf
  refine x_iinc (k := 3) (v := (nI 1)) (lv' := [(3, .int (x3 + (nI 1))), (0, .ref (gz G + o)), (1, .int x1), (2, .int x2)]) B dX8_hasOne_32 hl rfl (by decide) (by decide) rfl (fun ls hl => ?_)
  refine x_goto (tgt := 2) B dX8_hasOne_35 (by decide) ?_
  exact hk2 _ _ _ _ _ (lv_sub hl [1, 2, 3, 0] rfl) hf
def fX8_hasOne_2 (n : Nat) (o : Nat)  (k2 : Int32 → Int32 → Int32 → Mm → Option (Int32)) (x1 : Int32) (x2 : Int32) (x3 : Int32) (f : Mm) : Option (Int32) :=
  if (f o 4) ≤ x3 then (
  some (nI 0)) else (
  gd (ib x3 40) <|
  if (f (o + 2) x3.toNatClampNeg) = x1 then (
  gd (ib x3 40) <|
  if (f (o + 3) x3.toNatClampNeg) = x2 then (
  some (nI 1)) else (
  fX8_hasOne_32 n o k2 x1 x2 x3 f)) else (
  fX8_hasOne_32 n o k2 x1 x2 x3 f))
def fX8_hasOne_2L (n : Nat) (o : Nat)  : Nat → Int32 → Int32 → Int32 → Mm → Option (Int32)
  | 0 => fun _ _ _ _ => none
  | q + 1 => fX8_hasOne_2 n o  (fX8_hasOne_2L n o  q)
set_option maxHeartbeats 4000000 in
set_option maxRecDepth 100000 in
theorem fX8_hasOne_2_ok {V : VE} {G : GE} {N : Nat} {f m : Mm} {n : Nat} {ls : Array Slot} {o : Nat} {r : Int32} (B : CX V G cX8_hasOne 4 "FluxWatch$Steps" (some .boolean)) (hR : V.2.2.2.1 = rmX8_hasOne) (ho : rg 8 o)  {k2 : Int32 → Int32 → Int32 → Mm → Option (Int32)} (hk2 : ∀ (x1 : Int32) (x2 : Int32) (x3 : Int32) (mm : Mm) (ls : Array Slot),  lv_has ls 4 [(0, .ref (gz G + o)), (1, .int x1), (2, .int x2), (3, .int x3)] → k2 x1 x2 x3 mm = some r → WX V G N mm m 0 0 (QQ V G (some (.int r)) N mm m 0 0) 2 ls []) {x1 : Int32} {x2 : Int32} {x3 : Int32}  (hl : lv_has ls 4 [(0, .ref (gz G + o)), (1, .int x1), (2, .int x2), (3, .int x3)]) (hf : fX8_hasOne_2 n o k2 x1 x2 x3 f = some r) : WX V G N f m 0 0 (QQ V G (some (.int r)) N f m 0 0) 2 ls [] := by
  unfold fX8_hasOne_2 at hf
  refine x_iload_n B dX8_hasOne_2 rfl (lv_at hl 3 rfl) ?_
  refine x_aload_n B dX8_hasOne_3 rfl (lv_at hl 0 rfl) ?_
  refine y_getFi (C := RX8) (T := TX8) (NN := 5) B (ho.at0 rfl) inX8 rfl (j := 4) (by decide) q_151 rfl rfl dX8_hasOne_4 ?_
  refine x_icmp_ge (tgt := 38) B dX8_hasOne_7 (by decide) (fun h1 => ?_) (fun h1 => ?_)
  · have hf := ip h1 hf
    refine x_iconst (v := (nI 0)) B dX8_hasOne_38 (by decide) ?_
    obtain rfl := rt1 hf
    exact x_zret B (by decide) dX8_hasOne_39
  · have hf := iq h1 hf
    refine x_aload_n B dX8_hasOne_10 rfl (lv_at hl 0 rfl) ?_
    refine y_getFs (C := RX8) (T := TX8) (NN := 5) (d := 2) B (ho.at0 rfl) inX8 rfl (j := 1) (by decide) q_142 rfl rfl (by decide) dX8_hasOne_11 ?_
    refine x_iload_n B dX8_hasOne_14 rfl (lv_at hl 3 rfl) ?_
    obtain ⟨h2, hf⟩ := gd_some hf
    refine x_ialdF B (ho.at 2 rfl) h2 dX8_hasOne_15 ?_
    refine x_iload_n B dX8_hasOne_16 rfl (lv_at hl 1 rfl) ?_
    refine x_icmp_ne (tgt := 32) B dX8_hasOne_17 (by decide) (fun h3 => ?_) (fun h3 => ?_)
    · have hf := ip h3 hf
      refine x_aload_n B dX8_hasOne_20 rfl (lv_at hl 0 rfl) ?_
      refine y_getFs (C := RX8) (T := TX8) (NN := 5) (d := 3) B (ho.at0 rfl) inX8 rfl (j := 2) (by decide) q_145 rfl rfl (by decide) dX8_hasOne_21 ?_
      refine x_iload_n B dX8_hasOne_24 rfl (lv_at hl 3 rfl) ?_
      obtain ⟨h4, hf⟩ := gd_some hf
      refine x_ialdF B (ho.at 3 rfl) h4 dX8_hasOne_25 ?_
      refine x_iload_n B dX8_hasOne_26 rfl (lv_at hl 2 rfl) ?_
      refine x_icmp_ne (tgt := 32) B dX8_hasOne_27 (by decide) (fun h5 => ?_) (fun h5 => ?_)
      · have hf := ip h5 hf
        refine x_iconst (v := (nI 1)) B dX8_hasOne_30 (by decide) ?_
        obtain rfl := rt1 hf
        exact x_zret B (by decide) dX8_hasOne_31
      · have hf := iq h5 hf
        exact fX8_hasOne_32_ok B hR ho hk2 hl hf
    · have hf := iq h3 hf
      exact fX8_hasOne_32_ok B hR ho hk2 hl hf
set_option maxHeartbeats 4000000 in
set_option maxRecDepth 100000 in
theorem fX8_hasOne_2L_ok {V : VE} {G : GE} {N : Nat} {m : Mm} {n : Nat}  {o : Nat} {r : Int32} (B : CX V G cX8_hasOne 4 "FluxWatch$Steps" (some .boolean)) (hR : V.2.2.2.1 = rmX8_hasOne) (ho : rg 8 o)  : ∀ (q : Nat) (x1 : Int32) (x2 : Int32) (x3 : Int32) (mm : Mm) (ls : Array Slot),  lv_has ls 4 [(0, .ref (gz G + o)), (1, .int x1), (2, .int x2), (3, .int x3)] → fX8_hasOne_2L n o q x1 x2 x3 mm = some r → WX V G N mm m 0 0 (QQ V G (some (.int r)) N mm m 0 0) 2 ls [] := by
  intro q
  induction q with
  | zero =>
    intro x1 x2 x3 mm ls hl hf
    cases hf
  | succ q ih =>
    intro x1 x2 x3 mm ls hl hf
    exact fX8_hasOne_2_ok B hR ho  ih  hl hf
def fX8_hasOne (n : Nat) (o : Nat) (a1 : Int32) (a2 : Int32) (f : Mm) : Option (Int32) :=
  fX8_hasOne_2L n o n a1 a2 (nI 0) f
set_option maxHeartbeats 4000000 in
set_option maxRecDepth 100000 in
theorem kX8_hasOne {l : Launch} {G : GE} {N : Nat} {f m : Mm} {n : Nat} {o : Nat} {a1 : Int32} {a2 : Int32} {r : Int32} (ho : rg 8 o) (hf : fX8_hasOne n o a1 a2 f = some r) : MT l G yX8_hasOne cX8_hasOne 4 (some .boolean) rmX8_hasOne [.ref (gz G + o), .int a1, .int a2] N f m (some (.int r)) N f m := by
  unfold fX8_hasOne at hf
  refine MT.of (by decide) (Nat.le_of_ble_eq_true rfl) (fun V ls hV hR B hl => ?_)
  have B : CX V G cX8_hasOne 4 "FluxWatch$Steps" (some .boolean) := B
  have hl : lv_has ls 4 [(0, .ref (gz G + o)), (1, .int a1), (2, .int a2)] := hl
  show WX V G N f m 0 0 (QQ V G (some (.int r)) N f m 0 0) 0 ls []
  refine x_iconst (v := (nI 0)) B dX8_hasOne_0 (by decide) ?_
  refine x_istore_n (lv' := [(3, .int (nI 0)), (0, .ref (gz G + o)), (1, .int a1), (2, .int a2)]) B dX8_hasOne_1 rfl hl (by decide) rfl (fun ls hl => ?_)
  exact fX8_hasOne_2L_ok B hR ho  n _ _ _ _ _ (lv_sub hl [1, 2, 3, 0] rfl) hf
def rmX10_mateSteps : Room := { frames := 1, cells := 0, slots := 0, locals := 23 }
set_option maxHeartbeats 4000000 in
set_option maxRecDepth 100000 in
theorem cw_X10_mateSteps_X8_hasOne : cwB rmX10_mateSteps rmX8_hasOne yX8_hasOne cX8_hasOne 4 (some .boolean) 2 := ⟨q_550, q_50, by decide, by decide⟩
def fX10_mateSteps (n : Nat) (o : Nat) (a1 : Int32) (a2 : Int32) (f : Mm) : Option (Int32) :=
  gd (ib a1 6) <|
  lt (f (o + 1 + 3) a1.toNatClampNeg) fun v2 =>
  if v2 = (-1000000005 : Int32) then (
  some (nI 0)) else (
  bn (fX8_hasOne n (o + 9) v2 a2 f) fun r6 =>
  if r6 = 0 then (
  some (nI 0)) else (
  some (nI 1)))
set_option maxHeartbeats 4000000 in
set_option maxRecDepth 100000 in
theorem kX10_mateSteps {l : Launch} {G : GE} {N : Nat} {f m : Mm} {n : Nat} {o : Nat} {a1 : Int32} {a2 : Int32} {r : Int32} (ho : rg 10 o) (hf : fX10_mateSteps n o a1 a2 f = some r) : MT l G yX10_mateSteps cX10_mateSteps 4 (some .boolean) rmX10_mateSteps [.ref (gz G + o), .int a1, .int a2] N f m (some (.int r)) N f m := by
  unfold fX10_mateSteps at hf
  refine MT.of (by decide) (Nat.le_of_ble_eq_true rfl) (fun V ls hV hR B hl => ?_)
  have B : CX V G cX10_mateSteps 4 "FluxWatch$World" (some .boolean) := B
  have hl : lv_has ls 4 [(0, .ref (gz G + o)), (1, .int a1), (2, .int a2)] := hl
  show WX V G N f m 0 0 (QQ V G (some (.int r)) N f m 0 0) 0 ls []
  refine x_aload_n B dX10_mateSteps_0 rfl (lv_at hl 0 rfl) ?_
  refine y_getFs (C := RX10) (T := TX10) (NN := 16) (d := 1) B (ho.at0 rfl) inX10 rfl (j := 6) (by decide) q_203 rfl rfl (by decide) dX10_mateSteps_1 ?_
  refine y_getFs (C := RX1) (T := TX1) (NN := 4) (d := 3) B ((rs_10_1_1 ho).at0 rfl) inX1 rfl (j := 2) (by decide) q_94 rfl rfl (by decide) dX10_mateSteps_4 ?_
  refine x_iload_n B dX10_mateSteps_7 rfl (lv_at hl 1 rfl) ?_
  obtain ⟨h1, hf⟩ := gd_some hf
  refine x_ialdF B ((rs_10_1_1 ho).at 3 rfl) h1 dX10_mateSteps_8 ?_
  refine x_nm (fun v2 e3 => ?_)
  have hf := lt_some hf e3
  refine x_istore_n (lv' := [(3, .int v2), (0, .ref (gz G + o)), (1, .int a1), (2, .int a2)]) B dX10_mateSteps_9 rfl hl (by decide) rfl (fun ls hl => ?_)
  refine x_iload_n B dX10_mateSteps_10 rfl (lv_at hl 0 rfl) ?_
  refine x_ldc (v := (-1000000005 : Int32)) B q_167 dX10_mateSteps_11 ?_
  refine x_icmp_eq (tgt := 32) B dX10_mateSteps_13 (by decide) (fun h4 => ?_) (fun h4 => ?_)
  · have hf := ip h4 hf
    refine x_iconst (v := (nI 0)) B dX10_mateSteps_32 (by decide) ?_
    obtain rfl := rt1 hf
    exact x_zret B (by decide) dX10_mateSteps_33
  · have hf := iq h4 hf
    refine x_aload_n B dX10_mateSteps_16 rfl (lv_at hl 1 rfl) ?_
    refine y_getFs (C := RX10) (T := TX10) (NN := 16) (d := 9) B (ho.at0 rfl) inX10 rfl (j := 8) (by decide) q_207 rfl rfl (by decide) dX10_mateSteps_17 ?_
    refine x_iload_n B dX10_mateSteps_20 rfl (lv_at hl 0 rfl) ?_
    refine x_iload_n B dX10_mateSteps_21 rfl (lv_at hl 3 rfl) ?_
    obtain ⟨r6, c5, hf⟩ := bn_some hf
    refine x_callV0 (rest := []) B (kX8_hasOne (rs_10_9_8 ho) c5) ⟨rfl, rfl⟩ ((rs_10_9_8 ho).at0 (N := N) rfl).lt ((rs_10_9_8 ho).at0 (N := N) rfl).2 rfl (by decide) q_547 q_548 q_549 (by rw [hR]; exact cw_X10_mateSteps_X8_hasOne) rfl rfl hl.1 (Nat.le_of_ble_eq_true rfl) dX10_mateSteps_22 ⟨Nat.zero_le _, Nat.zero_le _⟩ ?_
    refine x_if_eq (tgt := 32) B dX10_mateSteps_25 (by decide) (fun h7 => ?_) (fun h7 => ?_)
    · have hf := ip h7 hf
      refine x_iconst (v := (nI 0)) B dX10_mateSteps_32 (by decide) ?_
      obtain rfl := rt1 hf
      exact x_zret B (by decide) dX10_mateSteps_33
    · have hf := iq h7 hf
      refine x_iconst (v := (nI 1)) B dX10_mateSteps_28 (by decide) ?_
      refine x_goto (tgt := 33) B dX10_mateSteps_29 (by decide) ?_
      obtain rfl := rt1 hf
      exact x_zret B (by decide) dX10_mateSteps_33
def rmX10_stepFits : Room := { frames := 2, cells := 0, slots := 0, locals := 90 }
set_option maxHeartbeats 4000000 in
set_option maxRecDepth 100000 in
theorem cw_X10_stepFits_X10_isWatched : cwB rmX10_stepFits rmX10_isWatched yX10_isWatched cX10_isWatched 3 (some .boolean) 2 := ⟨q_444, q_46, by decide, by decide⟩
set_option maxHeartbeats 4000000 in
set_option maxRecDepth 100000 in
theorem cw_X10_stepFits_X10_isWithin : cwB rmX10_stepFits rmX10_isWithin yX10_isWithin cX10_isWithin 3 (some .boolean) 2 := ⟨q_539, q_46, by decide, by decide⟩
set_option maxHeartbeats 4000000 in
set_option maxRecDepth 100000 in
theorem cw_X10_stepFits_X10_mateSteps : cwB rmX10_stepFits rmX10_mateSteps yX10_mateSteps cX10_mateSteps 4 (some .boolean) 2 := ⟨q_546, q_46, by decide, by decide⟩
def fX10_stepFits (n : Nat) (o : Nat) (a1 : Int32) (f : Mm) : Option (Int32) :=
  gd (ib a1 40) <|
  lt (f (o + 9 + 4) a1.toNatClampNeg) fun v2 =>
  bn (fX10_isWithin n o v2 (f o 3) f) fun r5 =>
  if r5 = 0 then (
  some (nI 0)) else (
  gd (ib a1 40) <|
  if (f (o + 9 + 1) a1.toNatClampNeg) = (nI 1) then (
  if v2 ≤ 0 then (
  some (nI 0)) else (
  some (nI 1))) else (
  if (f (o + 9 + 1) a1.toNatClampNeg) = (nI 2) then (
  some (nI 1)) else (
  if (f (o + 9 + 1) a1.toNatClampNeg) = (nI 3) then (
  if v2 ≤ 0 then (
  some (nI 0)) else (
  gd (ib a1 40) <|
  gd (ib a1 40) <|
  bn (fX10_mateSteps n o (f (o + 9 + 2) a1.toNatClampNeg) (f (o + 9 + 3) a1.toNatClampNeg) f) fun r16 =>
  if r16 = 0 then (
  some (nI 0)) else (
  some (nI 1)))) else (
  if (f (o + 9 + 1) a1.toNatClampNeg) = (nI 4) then (
  some (nI 0)) else (
  if (f (o + 9 + 1) a1.toNatClampNeg) = (nI 5) then (
  gd (ib a1 40) <|
  gd (ib a1 40) <|
  bn (fX10_isWatched n o (f (o + 9 + 2) a1.toNatClampNeg) (f (o + 9 + 3) a1.toNatClampNeg) f) fun r23 =>
  if r23 = 0 then (
  some (nI 1)) else (
  some (nI 0))) else (
  some (nI 1)))))))
set_option maxHeartbeats 4000000 in
set_option maxRecDepth 100000 in
theorem kX10_stepFits {l : Launch} {G : GE} {N : Nat} {f m : Mm} {n : Nat} {o : Nat} {a1 : Int32} {r : Int32} (ho : rg 10 o) (hf : fX10_stepFits n o a1 f = some r) : MT l G yX10_stepFits cX10_stepFits 3 (some .boolean) rmX10_stepFits [.ref (gz G + o), .int a1] N f m (some (.int r)) N f m := by
  unfold fX10_stepFits at hf
  refine MT.of (by decide) (Nat.le_of_ble_eq_true rfl) (fun V ls hV hR B hl => ?_)
  have B : CX V G cX10_stepFits 3 "FluxWatch$World" (some .boolean) := B
  have hl : lv_has ls 3 [(0, .ref (gz G + o)), (1, .int a1)] := hl
  show WX V G N f m 0 0 (QQ V G (some (.int r)) N f m 0 0) 0 ls []
  refine x_aload_n B dX10_stepFits_0 rfl (lv_at hl 0 rfl) ?_
  refine y_getFs (C := RX10) (T := TX10) (NN := 16) (d := 9) B (ho.at0 rfl) inX10 rfl (j := 8) (by decide) q_207 rfl rfl (by decide) dX10_stepFits_1 ?_
  refine y_getFs (C := RX8) (T := TX8) (NN := 5) (d := 4) B ((rs_10_9_8 ho).at0 rfl) inX8 rfl (j := 3) (by decide) q_150 rfl rfl (by decide) dX10_stepFits_4 ?_
  refine x_iload_n B dX10_stepFits_7 rfl (lv_at hl 1 rfl) ?_
  obtain ⟨h1, hf⟩ := gd_some hf
  refine x_ialdF B ((rs_10_9_8 ho).at 4 rfl) h1 dX10_stepFits_8 ?_
  refine x_nm (fun v2 e3 => ?_)
  have hf := lt_some hf e3
  refine x_istore_n (lv' := [(2, .int v2), (0, .ref (gz G + o)), (1, .int a1)]) B dX10_stepFits_9 rfl hl (by decide) rfl (fun ls hl => ?_)
  refine x_aload_n B dX10_stepFits_10 rfl (lv_at hl 1 rfl) ?_
  refine x_iload_n B dX10_stepFits_11 rfl (lv_at hl 0 rfl) ?_
  refine x_aload_n B dX10_stepFits_12 rfl (lv_at hl 1 rfl) ?_
  refine y_getFi (C := RX10) (T := TX10) (NN := 16) B (ho.at0 rfl) inX10 rfl (j := 3) (by decide) q_197 rfl rfl dX10_stepFits_13 ?_
  obtain ⟨r5, c4, hf⟩ := bn_some hf
  refine x_callV0 (rest := []) B (kX10_isWithin ho c4) ⟨rfl, rfl⟩ (ho.at0 (N := N) rfl).lt (ho.at0 (N := N) rfl).2 rfl (by decide) q_536 q_537 q_538 (by rw [hR]; exact cw_X10_stepFits_X10_isWithin) rfl rfl hl.1 (Nat.le_of_ble_eq_true rfl) dX10_stepFits_16 ⟨Nat.zero_le _, Nat.zero_le _⟩ ?_
  refine x_if_ne (tgt := 24) B dX10_stepFits_19 (by decide) (fun h6 => ?_) (fun h6 => ?_)
  · have hf := ip h6 hf
    refine x_iconst (v := (nI 0)) B dX10_stepFits_22 (by decide) ?_
    obtain rfl := rt1 hf
    exact x_zret B (by decide) dX10_stepFits_23
  · have hf := iq h6 hf
    refine x_aload_n B dX10_stepFits_24 rfl (lv_at hl 1 rfl) ?_
    refine y_getFs (C := RX10) (T := TX10) (NN := 16) (d := 9) B (ho.at0 rfl) inX10 rfl (j := 8) (by decide) q_207 rfl rfl (by decide) dX10_stepFits_25 ?_
    refine y_getFs (C := RX8) (T := TX8) (NN := 5) (d := 1) B ((rs_10_9_8 ho).at0 rfl) inX8 rfl (j := 0) (by decide) q_141 rfl rfl (by decide) dX10_stepFits_28 ?_
    refine x_iload_n B dX10_stepFits_31 rfl (lv_at hl 2 rfl) ?_
    obtain ⟨h7, hf⟩ := gd_some hf
    refine x_ialdF B ((rs_10_9_8 ho).at 1 rfl) h7 dX10_stepFits_32 ?_
    by_cases h8 : (f (o + 9 + 1) a1.toNatClampNeg) = (nI 1)
    · have hf := ip h8 hf
      refine x_tabIn (a := 1) (tgt := 68) B dX10_stepFits_33 (by rw [h8]; rfl) (by decide) (by decide) rfl (by decide) ?_
      refine x_iload_n B dX10_stepFits_68 rfl (lv_at hl 0 rfl) ?_
      refine x_if_le (tgt := 76) B dX10_stepFits_69 (by decide) (fun h9 => ?_) (fun h9 => ?_)
      · have hf := ip h9 hf
        refine x_iconst (v := (nI 0)) B dX10_stepFits_76 (by decide) ?_
        obtain rfl := rt1 hf
        exact x_zret B (by decide) dX10_stepFits_77
      · have hf := iq h9 hf
        refine x_iconst (v := (nI 1)) B dX10_stepFits_72 (by decide) ?_
        refine x_goto (tgt := 77) B dX10_stepFits_73 (by decide) ?_
        obtain rfl := rt1 hf
        exact x_zret B (by decide) dX10_stepFits_77
    · have hf := iq h8 hf
      by_cases h10 : (f (o + 9 + 1) a1.toNatClampNeg) = (nI 2)
      · have hf := ip h10 hf
        refine x_tabIn (a := 2) (tgt := 146) B dX10_stepFits_33 (by rw [h10]; rfl) (by decide) (by decide) rfl (by decide) ?_
        refine x_iconst (v := (nI 1)) B dX10_stepFits_146 (by decide) ?_
        obtain rfl := rt1 hf
        exact x_zret B (by decide) dX10_stepFits_147
      · have hf := iq h10 hf
        by_cases h11 : (f (o + 9 + 1) a1.toNatClampNeg) = (nI 3)
        · have hf := ip h11 hf
          refine x_tabIn (a := 3) (tgt := 78) B dX10_stepFits_33 (by rw [h11]; rfl) (by decide) (by decide) rfl (by decide) ?_
          refine x_iload_n B dX10_stepFits_78 rfl (lv_at hl 0 rfl) ?_
          refine x_if_le (tgt := 111) B dX10_stepFits_79 (by decide) (fun h12 => ?_) (fun h12 => ?_)
          · have hf := ip h12 hf
            refine x_iconst (v := (nI 0)) B dX10_stepFits_111 (by decide) ?_
            obtain rfl := rt1 hf
            exact x_zret B (by decide) dX10_stepFits_112
          · have hf := iq h12 hf
            refine x_aload_n B dX10_stepFits_82 rfl (lv_at hl 1 rfl) ?_
            refine x_aload_n B dX10_stepFits_83 rfl (lv_at hl 1 rfl) ?_
            refine y_getFs (C := RX10) (T := TX10) (NN := 16) (d := 9) B (ho.at0 rfl) inX10 rfl (j := 8) (by decide) q_207 rfl rfl (by decide) dX10_stepFits_84 ?_
            refine y_getFs (C := RX8) (T := TX8) (NN := 5) (d := 2) B ((rs_10_9_8 ho).at0 rfl) inX8 rfl (j := 1) (by decide) q_144 rfl rfl (by decide) dX10_stepFits_87 ?_
            refine x_iload_n B dX10_stepFits_90 rfl (lv_at hl 2 rfl) ?_
            obtain ⟨h13, hf⟩ := gd_some hf
            refine x_ialdF B ((rs_10_9_8 ho).at 2 rfl) h13 dX10_stepFits_91 ?_
            refine x_aload_n B dX10_stepFits_92 rfl (lv_at hl 1 rfl) ?_
            refine y_getFs (C := RX10) (T := TX10) (NN := 16) (d := 9) B (ho.at0 rfl) inX10 rfl (j := 8) (by decide) q_207 rfl rfl (by decide) dX10_stepFits_93 ?_
            refine y_getFs (C := RX8) (T := TX8) (NN := 5) (d := 3) B ((rs_10_9_8 ho).at0 rfl) inX8 rfl (j := 2) (by decide) q_147 rfl rfl (by decide) dX10_stepFits_96 ?_
            refine x_iload_n B dX10_stepFits_99 rfl (lv_at hl 2 rfl) ?_
            obtain ⟨h14, hf⟩ := gd_some hf
            refine x_ialdF B ((rs_10_9_8 ho).at 3 rfl) h14 dX10_stepFits_100 ?_
            obtain ⟨r16, c15, hf⟩ := bn_some hf
            refine x_callV0 (rest := []) B (kX10_mateSteps ho c15) ⟨rfl, rfl⟩ (ho.at0 (N := N) rfl).lt (ho.at0 (N := N) rfl).2 rfl (by decide) q_543 q_544 q_545 (by rw [hR]; exact cw_X10_stepFits_X10_mateSteps) rfl rfl hl.1 (Nat.le_of_ble_eq_true rfl) dX10_stepFits_101 ⟨Nat.zero_le _, Nat.zero_le _⟩ ?_
            refine x_if_eq (tgt := 111) B dX10_stepFits_104 (by decide) (fun h17 => ?_) (fun h17 => ?_)
            · have hf := ip h17 hf
              refine x_iconst (v := (nI 0)) B dX10_stepFits_111 (by decide) ?_
              obtain rfl := rt1 hf
              exact x_zret B (by decide) dX10_stepFits_112
            · have hf := iq h17 hf
              refine x_iconst (v := (nI 1)) B dX10_stepFits_107 (by decide) ?_
              refine x_goto (tgt := 112) B dX10_stepFits_108 (by decide) ?_
              obtain rfl := rt1 hf
              exact x_zret B (by decide) dX10_stepFits_112
        · have hf := iq h11 hf
          by_cases h18 : (f (o + 9 + 1) a1.toNatClampNeg) = (nI 4)
          · have hf := ip h18 hf
            refine x_tabIn (a := 4) (tgt := 113) B dX10_stepFits_33 (by rw [h18]; rfl) (by decide) (by decide) rfl (by decide) ?_
            refine x_iconst (v := (nI 0)) B dX10_stepFits_113 (by decide) ?_
            obtain rfl := rt1 hf
            exact x_zret B (by decide) dX10_stepFits_114
          · have hf := iq h18 hf
            by_cases h19 : (f (o + 9 + 1) a1.toNatClampNeg) = (nI 5)
            · have hf := ip h19 hf
              refine x_tabIn (a := 5) (tgt := 115) B dX10_stepFits_33 (by rw [h19]; rfl) (by decide) (by decide) rfl (by decide) ?_
              refine x_aload_n B dX10_stepFits_115 rfl (lv_at hl 1 rfl) ?_
              refine x_aload_n B dX10_stepFits_116 rfl (lv_at hl 1 rfl) ?_
              refine y_getFs (C := RX10) (T := TX10) (NN := 16) (d := 9) B (ho.at0 rfl) inX10 rfl (j := 8) (by decide) q_207 rfl rfl (by decide) dX10_stepFits_117 ?_
              refine y_getFs (C := RX8) (T := TX8) (NN := 5) (d := 2) B ((rs_10_9_8 ho).at0 rfl) inX8 rfl (j := 1) (by decide) q_144 rfl rfl (by decide) dX10_stepFits_120 ?_
              refine x_iload_n B dX10_stepFits_123 rfl (lv_at hl 2 rfl) ?_
              obtain ⟨h20, hf⟩ := gd_some hf
              refine x_ialdF B ((rs_10_9_8 ho).at 2 rfl) h20 dX10_stepFits_124 ?_
              refine x_aload_n B dX10_stepFits_125 rfl (lv_at hl 1 rfl) ?_
              refine y_getFs (C := RX10) (T := TX10) (NN := 16) (d := 9) B (ho.at0 rfl) inX10 rfl (j := 8) (by decide) q_207 rfl rfl (by decide) dX10_stepFits_126 ?_
              refine y_getFs (C := RX8) (T := TX8) (NN := 5) (d := 3) B ((rs_10_9_8 ho).at0 rfl) inX8 rfl (j := 2) (by decide) q_147 rfl rfl (by decide) dX10_stepFits_129 ?_
              refine x_iload_n B dX10_stepFits_132 rfl (lv_at hl 2 rfl) ?_
              obtain ⟨h21, hf⟩ := gd_some hf
              refine x_ialdF B ((rs_10_9_8 ho).at 3 rfl) h21 dX10_stepFits_133 ?_
              obtain ⟨r23, c22, hf⟩ := bn_some hf
              refine x_callV0 (rest := []) B (kX10_isWatched ho c22) ⟨rfl, rfl⟩ (ho.at0 (N := N) rfl).lt (ho.at0 (N := N) rfl).2 rfl (by decide) q_551 q_442 q_443 (by rw [hR]; exact cw_X10_stepFits_X10_isWatched) rfl rfl hl.1 (Nat.le_of_ble_eq_true rfl) dX10_stepFits_134 ⟨Nat.zero_le _, Nat.zero_le _⟩ ?_
              refine x_if_ne (tgt := 144) B dX10_stepFits_137 (by decide) (fun h24 => ?_) (fun h24 => ?_)
              · have hf := ip h24 hf
                refine x_iconst (v := (nI 1)) B dX10_stepFits_140 (by decide) ?_
                refine x_goto (tgt := 145) B dX10_stepFits_141 (by decide) ?_
                obtain rfl := rt1 hf
                exact x_zret B (by decide) dX10_stepFits_145
              · have hf := iq h24 hf
                refine x_iconst (v := (nI 0)) B dX10_stepFits_144 (by decide) ?_
                obtain rfl := rt1 hf
                exact x_zret B (by decide) dX10_stepFits_145
            · have hf := iq h19 hf
              have h8t := lv_neT h8 (show ((nI 1)).toInt = 1 from rfl)
              have h10t := lv_neT h10 (show ((nI 2)).toInt = 2 from rfl)
              have h11t := lv_neT h11 (show ((nI 3)).toInt = 3 from rfl)
              have h18t := lv_neT h18 (show ((nI 4)).toInt = 4 from rfl)
              have h19t := lv_neT h19 (show ((nI 5)).toInt = 5 from rfl)
              refine x_tabOut (tgt := 146) B dX10_stepFits_33 (by omega) (by decide) ?_
              refine x_iconst (v := (nI 1)) B dX10_stepFits_146 (by decide) ?_
              obtain rfl := rt1 hf
              exact x_zret B (by decide) dX10_stepFits_147
def rmX10_hasFit : Room := { frames := 3, cells := 0, slots := 0, locals := 112 }
set_option maxHeartbeats 4000000 in
set_option maxRecDepth 100000 in
theorem cw_X10_hasFit_X10_stepFits : cwB rmX10_hasFit rmX10_stepFits yX10_stepFits cX10_stepFits 3 (some .boolean) 1 := ⟨q_535, q_46, by decide, by decide⟩
def fX10_hasFit_36 (n : Nat) (o : Nat) (k2 : Int32 → Int32 → Mm → Option (Int32)) (x1 : Int32) (x2 : Int32) (f : Mm) : Option (Int32) :=
  k2 x1 (x2 + (nI 1)) f
set_option maxHeartbeats 4000000 in
set_option maxRecDepth 100000 in
theorem fX10_hasFit_36_ok {V : VE} {G : GE} {N : Nat} {f m : Mm} {n : Nat} {ls : Array Slot} {o : Nat} {r : Int32} (B : CX V G cX10_hasFit 3 "FluxWatch$World" (some .boolean)) (hR : V.2.2.2.1 = rmX10_hasFit) (ho : rg 10 o) {k2 : Int32 → Int32 → Mm → Option (Int32)} (hk2 : ∀ (x1 : Int32) (x2 : Int32) (mm : Mm) (ls : Array Slot),  lv_has ls 3 [(0, .ref (gz G + o)), (1, .int x1), (2, .int x2)] → k2 x1 x2 mm = some r → WX V G N mm m 0 0 (QQ V G (some (.int r)) N mm m 0 0) 2 ls []) {x1 : Int32} {x2 : Int32}  (hl : lv_has ls 3 [(0, .ref (gz G + o)), (1, .int x1), (2, .int x2)]) (hf : fX10_hasFit_36 n o k2 x1 x2 f = some r) : WX V G N f m 0 0 (QQ V G (some (.int r)) N f m 0 0) 36 ls [] := by
  unfold fX10_hasFit_36 at hf
  refine x_iinc (k := 2) (v := (nI 1)) (lv' := [(2, .int (x2 + (nI 1))), (0, .ref (gz G + o)), (1, .int x1)]) B dX10_hasFit_36 hl rfl (by decide) (by decide) rfl (fun ls hl => ?_)
  refine x_goto (tgt := 2) B dX10_hasFit_39 (by decide) ?_
  exact hk2 _ _ _ _ (lv_sub hl [1, 2, 0] rfl) hf
def fX10_hasFit_2 (n : Nat) (o : Nat)  (k2 : Int32 → Int32 → Mm → Option (Int32)) (x1 : Int32) (x2 : Int32) (f : Mm) : Option (Int32) :=
  if (f (o + 9) 4) ≤ x2 then (
  some (nI 0)) else (
  gd (ib x2 40) <|
  if (f (o + 9 + 3) x2.toNatClampNeg) = x1 then (
  bn (fX10_stepFits n o x2 f) fun r5 =>
  if r5 = 0 then (
  fX10_hasFit_36 n o k2 x1 x2 f) else (
  some (nI 1))) else (
  fX10_hasFit_36 n o k2 x1 x2 f))
def fX10_hasFit_2L (n : Nat) (o : Nat)  : Nat → Int32 → Int32 → Mm → Option (Int32)
  | 0 => fun _ _ _ => none
  | q + 1 => fX10_hasFit_2 n o  (fX10_hasFit_2L n o  q)
set_option maxHeartbeats 4000000 in
set_option maxRecDepth 100000 in
theorem fX10_hasFit_2_ok {V : VE} {G : GE} {N : Nat} {f m : Mm} {n : Nat} {ls : Array Slot} {o : Nat} {r : Int32} (B : CX V G cX10_hasFit 3 "FluxWatch$World" (some .boolean)) (hR : V.2.2.2.1 = rmX10_hasFit) (ho : rg 10 o)  {k2 : Int32 → Int32 → Mm → Option (Int32)} (hk2 : ∀ (x1 : Int32) (x2 : Int32) (mm : Mm) (ls : Array Slot),  lv_has ls 3 [(0, .ref (gz G + o)), (1, .int x1), (2, .int x2)] → k2 x1 x2 mm = some r → WX V G N mm m 0 0 (QQ V G (some (.int r)) N mm m 0 0) 2 ls []) {x1 : Int32} {x2 : Int32}  (hl : lv_has ls 3 [(0, .ref (gz G + o)), (1, .int x1), (2, .int x2)]) (hf : fX10_hasFit_2 n o k2 x1 x2 f = some r) : WX V G N f m 0 0 (QQ V G (some (.int r)) N f m 0 0) 2 ls [] := by
  unfold fX10_hasFit_2 at hf
  refine x_iload_n B dX10_hasFit_2 rfl (lv_at hl 2 rfl) ?_
  refine x_aload_n B dX10_hasFit_3 rfl (lv_at hl 0 rfl) ?_
  refine y_getFs (C := RX10) (T := TX10) (NN := 16) (d := 9) B (ho.at0 rfl) inX10 rfl (j := 8) (by decide) q_207 rfl rfl (by decide) dX10_hasFit_4 ?_
  refine y_getFi (C := RX8) (T := TX8) (NN := 5) B ((rs_10_9_8 ho).at0 rfl) inX8 rfl (j := 4) (by decide) q_152 rfl rfl dX10_hasFit_7 ?_
  refine x_icmp_ge (tgt := 42) B dX10_hasFit_10 (by decide) (fun h1 => ?_) (fun h1 => ?_)
  · have hf := ip h1 hf
    refine x_iconst (v := (nI 0)) B dX10_hasFit_42 (by decide) ?_
    obtain rfl := rt1 hf
    exact x_zret B (by decide) dX10_hasFit_43
  · have hf := iq h1 hf
    refine x_aload_n B dX10_hasFit_13 rfl (lv_at hl 0 rfl) ?_
    refine y_getFs (C := RX10) (T := TX10) (NN := 16) (d := 9) B (ho.at0 rfl) inX10 rfl (j := 8) (by decide) q_207 rfl rfl (by decide) dX10_hasFit_14 ?_
    refine y_getFs (C := RX8) (T := TX8) (NN := 5) (d := 3) B ((rs_10_9_8 ho).at0 rfl) inX8 rfl (j := 2) (by decide) q_147 rfl rfl (by decide) dX10_hasFit_17 ?_
    refine x_iload_n B dX10_hasFit_20 rfl (lv_at hl 2 rfl) ?_
    obtain ⟨h2, hf⟩ := gd_some hf
    refine x_ialdF B ((rs_10_9_8 ho).at 3 rfl) h2 dX10_hasFit_21 ?_
    refine x_iload_n B dX10_hasFit_22 rfl (lv_at hl 1 rfl) ?_
    refine x_icmp_ne (tgt := 36) B dX10_hasFit_23 (by decide) (fun h3 => ?_) (fun h3 => ?_)
    · have hf := ip h3 hf
      refine x_aload_n B dX10_hasFit_26 rfl (lv_at hl 0 rfl) ?_
      refine x_iload_n B dX10_hasFit_27 rfl (lv_at hl 2 rfl) ?_
      obtain ⟨r5, c4, hf⟩ := bn_some hf
      refine x_callV0 (rest := []) B (kX10_stepFits ho c4) ⟨rfl, rfl⟩ (ho.at0 (N := N) rfl).lt (ho.at0 (N := N) rfl).2 rfl (by decide) q_666 q_533 q_534 (by rw [hR]; exact cw_X10_hasFit_X10_stepFits) rfl rfl hl.1 (Nat.le_of_ble_eq_true rfl) dX10_hasFit_28 ⟨Nat.zero_le _, Nat.zero_le _⟩ ?_
      refine x_if_eq (tgt := 36) B dX10_hasFit_31 (by decide) (fun h6 => ?_) (fun h6 => ?_)
      · have hf := ip h6 hf
        exact fX10_hasFit_36_ok B hR ho hk2 hl hf
      · have hf := iq h6 hf
        refine x_iconst (v := (nI 1)) B dX10_hasFit_34 (by decide) ?_
        obtain rfl := rt1 hf
        exact x_zret B (by decide) dX10_hasFit_35
    · have hf := iq h3 hf
      exact fX10_hasFit_36_ok B hR ho hk2 hl hf
set_option maxHeartbeats 4000000 in
set_option maxRecDepth 100000 in
theorem fX10_hasFit_2L_ok {V : VE} {G : GE} {N : Nat} {m : Mm} {n : Nat}  {o : Nat} {r : Int32} (B : CX V G cX10_hasFit 3 "FluxWatch$World" (some .boolean)) (hR : V.2.2.2.1 = rmX10_hasFit) (ho : rg 10 o)  : ∀ (q : Nat) (x1 : Int32) (x2 : Int32) (mm : Mm) (ls : Array Slot),  lv_has ls 3 [(0, .ref (gz G + o)), (1, .int x1), (2, .int x2)] → fX10_hasFit_2L n o q x1 x2 mm = some r → WX V G N mm m 0 0 (QQ V G (some (.int r)) N mm m 0 0) 2 ls [] := by
  intro q
  induction q with
  | zero =>
    intro x1 x2 mm ls hl hf
    cases hf
  | succ q ih =>
    intro x1 x2 mm ls hl hf
    exact fX10_hasFit_2_ok B hR ho  ih  hl hf
def fX10_hasFit (n : Nat) (o : Nat) (a1 : Int32) (f : Mm) : Option (Int32) :=
  fX10_hasFit_2L n o n a1 (nI 0) f
set_option maxHeartbeats 4000000 in
set_option maxRecDepth 100000 in
theorem kX10_hasFit {l : Launch} {G : GE} {N : Nat} {f m : Mm} {n : Nat} {o : Nat} {a1 : Int32} {r : Int32} (ho : rg 10 o) (hf : fX10_hasFit n o a1 f = some r) : MT l G yX10_hasFit cX10_hasFit 3 (some .boolean) rmX10_hasFit [.ref (gz G + o), .int a1] N f m (some (.int r)) N f m := by
  unfold fX10_hasFit at hf
  refine MT.of (by decide) (Nat.le_of_ble_eq_true rfl) (fun V ls hV hR B hl => ?_)
  have B : CX V G cX10_hasFit 3 "FluxWatch$World" (some .boolean) := B
  have hl : lv_has ls 3 [(0, .ref (gz G + o)), (1, .int a1)] := hl
  show WX V G N f m 0 0 (QQ V G (some (.int r)) N f m 0 0) 0 ls []
  refine x_iconst (v := (nI 0)) B dX10_hasFit_0 (by decide) ?_
  refine x_istore_n (lv' := [(2, .int (nI 0)), (0, .ref (gz G + o)), (1, .int a1)]) B dX10_hasFit_1 rfl hl (by decide) rfl (fun ls hl => ?_)
  exact fX10_hasFit_2L_ok B hR ho  n _ _ _ _ (lv_sub hl [1, 2, 0] rfl) hf
def rmX10_knockOn : Room := { frames := 2, cells := 0, slots := 0, locals := 88 }
set_option maxHeartbeats 4000000 in
set_option maxRecDepth 100000 in
theorem cw_X10_knockOn_X10_lawFor : cwB rmX10_knockOn rmX10_lawFor yX10_lawFor cX10_lawFor 3 (some (.object "FluxWatch$Law")) 1 := ⟨q_613, q_46, by decide, by decide⟩
set_option maxHeartbeats 4000000 in
set_option maxRecDepth 100000 in
theorem cw_X10_knockOn_X11_heldRate : cwB rmX10_knockOn rmX11_heldRate yX11_heldRate cX11_heldRate 1 (some .int) 1 := ⟨q_629, q_45, by decide, by decide⟩
set_option maxHeartbeats 4000000 in
set_option maxRecDepth 100000 in
theorem cw_X10_knockOn_X2_valueOn : cwB rmX10_knockOn rmX2_valueOn yX2_valueOn cX2_valueOn 7 (some .int) 3 := ⟨q_617, q_59, by decide, by decide⟩
def fX10_knockOn (n : Nat) (N : Nat) (o : Nat) (a1 : Int32) (a2 : Int32) (f : Mm) : Option (Int32 × Mm) :=
  bn (fX10_lawFor n o (nI 1) f) fun r2 =>
  if r2 = 0 then (
  some ((nI 1), f)) else (gd (lkb N r2) <|
  bn2 (fX2_valueOn n (130 + 3 * (r2.toNatClampNeg - 1)) a1 a2 o f) fun r7 f6 =>
  bn (fX11_heldRate n r7) fun r9 =>
  some (r9, f6))
set_option maxHeartbeats 4000000 in
set_option maxRecDepth 100000 in
theorem kX10_knockOn {l : Launch} {G : GE} {N : Nat} {f m : Mm} {n : Nat} {o : Nat} {a1 : Int32} {a2 : Int32} {r : Int32} {g : Mm} (ho : rg 10 o) (hf : fX10_knockOn n N o a1 a2 f = some (r, g)) : MT l G yX10_knockOn cX10_knockOn 4 (some .int) rmX10_knockOn [.ref (gz G + o), .int a1, .int a2] N f m (some (.int r)) N g m := by
  unfold fX10_knockOn at hf
  refine MT.of (by decide) (Nat.le_of_ble_eq_true rfl) (fun V ls hV hR B hl => ?_)
  have B : CX V G cX10_knockOn 4 "FluxWatch$World" (some .int) := B
  have hl : lv_has ls 4 [(0, .ref (gz G + o)), (1, .int a1), (2, .int a2)] := hl
  show WX V G N f m 0 0 (QQ V G (some (.int r)) N g m 0 0) 0 ls []
  refine x_aload_n B dX10_knockOn_0 rfl (lv_at hl 0 rfl) ?_
  refine x_iconst (v := (nI 1)) B dX10_knockOn_1 (by decide) ?_
  obtain ⟨r2, c1, hf⟩ := bn_some hf
  refine x_callV0 (rest := []) B (kX10_lawFor ho c1) ⟨rfl, rfl⟩ (ho.at0 (N := N) rfl).lt (ho.at0 (N := N) rfl).2 rfl (by decide) q_610 q_611 q_612 (by rw [hR]; exact cw_X10_knockOn_X10_lawFor) rfl rfl hl.1 (Nat.le_of_ble_eq_true rfl) dX10_knockOn_2 ⟨Nat.zero_le _, Nat.zero_le _⟩ ?_
  by_cases h3 : r2 = 0
  · have hf := ip h3 hf
    refine x_val (lvv_z h3) ?_
    refine y_astore_nN (lv' := [(3, .null), (0, .ref (gz G + o)), (1, .int a1), (2, .int a2)]) B dX10_knockOn_5 rfl hl (by decide) rfl (fun ls hl => ?_)
    refine y_aload_nN B dX10_knockOn_6 rfl (lv_at hl 0 rfl) ?_
    refine x_ifnonnullN B dX10_knockOn_7 ?_
    refine x_iconst (v := (nI 1)) B dX10_knockOn_10 (by decide) ?_
    refine x_goto (tgt := 24) B dX10_knockOn_11 (by decide) ?_
    obtain ⟨rfl, rfl⟩ := rt2 hf
    exact x_iret B dX10_knockOn_24
  · obtain ⟨h4, hf⟩ := gd_some (iq h3 hf)
    refine x_val (lvv_1 h3) ?_
    refine x_astore_n (lv' := [(3, .ref (gz G + (130 + 3 * (r2.toNatClampNeg - 1)))), (0, .ref (gz G + o)), (1, .int a1), (2, .int a2)]) B dX10_knockOn_5 rfl hl (by decide) rfl (fun ls hl => ?_)
    refine x_aload_n B dX10_knockOn_6 rfl (lv_at hl 0 rfl) ?_
    refine x_ifnonnull (tgt := 14) B dX10_knockOn_7 (by decide) ?_
    refine x_aload_n B dX10_knockOn_14 rfl (lv_at hl 0 rfl) ?_
    refine x_iload_n B dX10_knockOn_15 rfl (lv_at hl 2 rfl) ?_
    refine x_iload_n B dX10_knockOn_16 rfl (lv_at hl 3 rfl) ?_
    refine x_aload_n B dX10_knockOn_17 rfl (lv_at hl 1 rfl) ?_
    obtain ⟨r7, f6, c5, hf⟩ := bn2_some hf
    refine x_callV0 (rest := []) B (kX2_valueOn (lk_of h4) ho c5) ⟨rfl, rfl⟩ (lk_of h4).a0.lt (lk_of h4).a0.2 rfl (by decide) q_614 q_615 q_616 (by rw [hR]; exact cw_X10_knockOn_X2_valueOn) rfl rfl hl.1 (Nat.le_of_ble_eq_true rfl) dX10_knockOn_18 ⟨Nat.zero_le _, Nat.zero_le _⟩ ?_
    obtain ⟨r9, c8, hf⟩ := bn_some hf
    refine x_callSN0 (rest := []) B (kX11_heldRate c8) ⟨rfl, rfl⟩ nq_627 q_628 (by rw [hR]; exact cw_X10_knockOn_X11_heldRate) rfl rfl hl.1 (Nat.le_of_ble_eq_true rfl) dX10_knockOn_21 ⟨Nat.zero_le _, Nat.zero_le _⟩ ?_
    obtain ⟨rfl, rfl⟩ := rt2 hf
    exact x_iret B dX10_knockOn_24
def rmX10_passDay : Room := { frames := 4, cells := 0, slots := 0, locals := 134 }
set_option maxHeartbeats 4000000 in
set_option maxRecDepth 100000 in
theorem cw_X10_passDay_X10_drawJust : cwB rmX10_passDay rmX10_drawJust yX10_drawJust cX10_drawJust 4 none 2 := ⟨q_641, q_46, by decide, by decide⟩
set_option maxHeartbeats 4000000 in
set_option maxRecDepth 100000 in
theorem cw_X10_passDay_X10_drawKnocked : cwB rmX10_passDay rmX10_drawKnocked yX10_drawKnocked cX10_drawKnocked 7 none 2 := ⟨q_655, q_46, by decide, by decide⟩
set_option maxHeartbeats 4000000 in
set_option maxRecDepth 100000 in
theorem cw_X10_passDay_X10_hasFit : cwB rmX10_passDay rmX10_hasFit yX10_hasFit cX10_hasFit 3 (some .boolean) 1 := ⟨q_665, q_46, by decide, by decide⟩
set_option maxHeartbeats 4000000 in
set_option maxRecDepth 100000 in
theorem cw_X10_passDay_X10_knockOn : cwB rmX10_passDay rmX10_knockOn yX10_knockOn cX10_knockOn 4 (some .int) 2 := ⟨q_637, q_46, by decide, by decide⟩
set_option maxHeartbeats 4000000 in
set_option maxRecDepth 100000 in
theorem cw_X10_passDay_X10_rateOn : cwB rmX10_passDay rmX10_rateOn yX10_rateOn cX10_rateOn 4 (some .int) 2 := ⟨q_609, q_46, by decide, by decide⟩
set_option maxHeartbeats 4000000 in
set_option maxRecDepth 100000 in
theorem cw_X10_passDay_X11_believed : cwB rmX10_passDay rmX11_believed yX11_believed cX11_believed 11 (some .int) 4 := ⟨q_669, q_45, by decide, by decide⟩
set_option maxHeartbeats 4000000 in
set_option maxRecDepth 100000 in
theorem cw_X10_passDay_X11_sumOf : cwB rmX10_passDay rmX11_sumOf yX11_sumOf cX11_sumOf 4 (some .int) 2 := ⟨q_492, q_45, by decide, by decide⟩
set_option maxHeartbeats 4000000 in
set_option maxRecDepth 100000 in
theorem cw_X10_passDay_X7_coilsOn : cwB rmX10_passDay rmX7_coilsOn yX7_coilsOn cX7_coilsOn 4 (some .int) 1 := ⟨q_448, q_48, by decide, by decide⟩
def fX10_passDay_59 (n : Nat) (N : Nat) (o : Nat)  (x1 : Int32) (x3 : Int32) (x4 : Int32) (f : Mm) : Option (Mm) :=
  bn (fX10_drawKnocked n o x1 x4 f) fun f15 =>
  bn (fX10_hasFit n o (f15 o 0) f15) fun r17 =>
  bn (fX11_believed n (f15 o 1) x3 x4 r17) fun r19 =>
  lt (up f15 o 1 r19) fun f20 =>
  lt (up f20 o 0 ((f20 o 0) + (nI 1))) fun f22 =>
  some f22
set_option maxHeartbeats 4000000 in
set_option maxRecDepth 100000 in
theorem fX10_passDay_59_ok {V : VE} {G : GE} {N : Nat} {f m : Mm} {n : Nat} {ls : Array Slot} {o : Nat} {g : Mm} (B : CX V G cX10_passDay 5 "FluxWatch$World" none) (hR : V.2.2.2.1 = rmX10_passDay) (ho : rg 10 o)  {x1 : Int32} {x3 : Int32} {x4 : Int32}  (hl : lv_has ls 5 [(0, .ref (gz G + o)), (1, .int x1), (3, .int x3), (4, .int x4)]) (hf : fX10_passDay_59 n N o x1 x3 x4 f = some g) : WX V G N f m 0 0 (QQ V G none N g m 0 0) 59 ls [] := by
  unfold fX10_passDay_59 at hf
  refine x_aload_n B dX10_passDay_59 rfl (lv_at hl 0 rfl) ?_
  refine x_iload_n B dX10_passDay_60 rfl (lv_at hl 1 rfl) ?_
  refine x_iload B dX10_passDay_61 (lv_at hl 3 rfl) ?_
  obtain ⟨f15, c14, hf⟩ := bn_some hf
  refine x_callV0 (rest := []) B (kX10_drawKnocked ho c14) ⟨rfl, rfl⟩ (ho.at0 (N := N) rfl).lt (ho.at0 (N := N) rfl).2 rfl (by decide) q_652 q_653 q_654 (by rw [hR]; exact cw_X10_passDay_X10_drawKnocked) rfl rfl hl.1 (Nat.le_of_ble_eq_true rfl) dX10_passDay_63 ⟨Nat.zero_le _, Nat.zero_le _⟩ ?_
  refine x_aload_n B dX10_passDay_66 rfl (lv_at hl 0 rfl) ?_
  refine x_aload_n B dX10_passDay_67 rfl (lv_at hl 0 rfl) ?_
  refine y_getFi (C := RX10) (T := TX10) (NN := 16) B (ho.at0 rfl) inX10 rfl (j := 1) (by decide) q_191 rfl rfl dX10_passDay_68 ?_
  refine x_iload_n B dX10_passDay_71 rfl (lv_at hl 2 rfl) ?_
  refine x_iload B dX10_passDay_72 (lv_at hl 3 rfl) ?_
  refine x_aload_n B dX10_passDay_74 rfl (lv_at hl 0 rfl) ?_
  refine x_aload_n B dX10_passDay_75 rfl (lv_at hl 0 rfl) ?_
  refine y_getFi (C := RX10) (T := TX10) (NN := 16) B (ho.at0 rfl) inX10 rfl (j := 0) (by decide) q_188 rfl rfl dX10_passDay_76 ?_
  obtain ⟨r17, c16, hf⟩ := bn_some hf
  refine x_callV0 (rest := [.int x4, .int x3, .int (f15 o 1), .ref (gz G + o)]) B (kX10_hasFit ho c16) ⟨rfl, rfl⟩ (ho.at0 (N := N) rfl).lt (ho.at0 (N := N) rfl).2 rfl (by decide) q_662 q_663 q_664 (by rw [hR]; exact cw_X10_passDay_X10_hasFit) rfl rfl hl.1 (Nat.le_of_ble_eq_true rfl) dX10_passDay_79 ⟨Nat.zero_le _, Nat.zero_le _⟩ ?_
  obtain ⟨r19, c18, hf⟩ := bn_some hf
  refine x_callSN0 (rest := [.ref (gz G + o)]) B (kX11_believed c18) ⟨rfl, rfl⟩ nq_667 q_668 (by rw [hR]; exact cw_X10_passDay_X11_believed) rfl rfl hl.1 (Nat.le_of_ble_eq_true rfl) dX10_passDay_82 ⟨Nat.zero_le _, Nat.zero_le _⟩ ?_
  refine x_putF (C := RX10) (T := TX10) (NN := 16) (ty0 := tyX10) (ty := .int) B (ho.at0 rfl) inX10 tyX10_ok nmX10 rfl (j := 1) (by decide) q_191 rfl rfl rfl rfl rfl rfl dX10_passDay_85 (fun f20 e21 => ?_)
  have hf := lt_some hf e21
  refine x_aload_n B dX10_passDay_88 rfl (lv_at hl 0 rfl) ?_
  refine x_dup B dX10_passDay_89 rfl ?_
  refine y_getFi (C := RX10) (T := TX10) (NN := 16) B (ho.at0 rfl) inX10 rfl (j := 0) (by decide) q_188 rfl rfl dX10_passDay_90 ?_
  refine x_iconst (v := (nI 1)) B dX10_passDay_93 (by decide) ?_
  refine x_iadd B dX10_passDay_94 ?_
  refine x_putF (C := RX10) (T := TX10) (NN := 16) (ty0 := tyX10) (ty := .int) B (ho.at0 rfl) inX10 tyX10_ok nmX10 rfl (j := 0) (by decide) q_188 rfl rfl rfl rfl rfl rfl dX10_passDay_95 (fun f22 e23 => ?_)
  have hf := lt_some hf e23
  obtain rfl := rt1 hf
  exact x_vret B dX10_passDay_98
def fX10_passDay (n : Nat) (N : Nat) (o : Nat) (f : Mm) : Option (Mm) :=
  bn (fX7_coilsOn n (o + 5) (f o 0) f) fun r2 =>
  bn (fX11_sumOf n (o + 1 + 1) 6 r2 f) fun r4 =>
  bn2 (fX10_rateOn n N o (f o 0) r4 f) fun r7 f6 =>
  bn2 (fX10_knockOn n N o (f6 o 0) r4 f6) fun r10 f9 =>
  if (f9 o 4) = (nI 1) then (
  bn (fX10_drawJust n o r2 r7 f9) fun f13 =>
  fX10_passDay_59 n N o r2 r7 r10 f13) else (
  fX10_passDay_59 n N o r2 r7 r10 f9)
set_option maxHeartbeats 4000000 in
set_option maxRecDepth 100000 in
theorem kX10_passDay {l : Launch} {G : GE} {N : Nat} {f m : Mm} {n : Nat} {o : Nat} {g : Mm} (ho : rg 10 o) (hf : fX10_passDay n N o f = some g) : MT l G yX10_passDay cX10_passDay 5 none rmX10_passDay [.ref (gz G + o)] N f m none N g m := by
  unfold fX10_passDay at hf
  refine MT.of (by decide) (Nat.le_of_ble_eq_true rfl) (fun V ls hV hR B hl => ?_)
  have B : CX V G cX10_passDay 5 "FluxWatch$World" none := B
  have hl : lv_has ls 5 [(0, .ref (gz G + o))] := hl
  show WX V G N f m 0 0 (QQ V G none N g m 0 0) 0 ls []
  refine x_aload_n B dX10_passDay_0 rfl (lv_at hl 0 rfl) ?_
  refine y_getFs (C := RX10) (T := TX10) (NN := 16) (d := 5) B (ho.at0 rfl) inX10 rfl (j := 7) (by decide) q_205 rfl rfl (by decide) dX10_passDay_1 ?_
  refine x_aload_n B dX10_passDay_4 rfl (lv_at hl 0 rfl) ?_
  refine y_getFi (C := RX10) (T := TX10) (NN := 16) B (ho.at0 rfl) inX10 rfl (j := 0) (by decide) q_188 rfl rfl dX10_passDay_5 ?_
  obtain ⟨r2, c1, hf⟩ := bn_some hf
  refine x_callV0 (rest := []) B (kX7_coilsOn (rs_10_5_7 ho) c1) ⟨rfl, rfl⟩ ((rs_10_5_7 ho).at0 (N := N) rfl).lt ((rs_10_5_7 ho).at0 (N := N) rfl).2 rfl (by decide) q_445 q_446 q_447 (by rw [hR]; exact cw_X10_passDay_X7_coilsOn) rfl rfl hl.1 (Nat.le_of_ble_eq_true rfl) dX10_passDay_8 ⟨Nat.zero_le _, Nat.zero_le _⟩ ?_
  refine x_istore_n (lv' := [(1, .int r2), (0, .ref (gz G + o))]) B dX10_passDay_11 rfl hl (by decide) rfl (fun ls hl => ?_)
  refine x_aload_n B dX10_passDay_12 rfl (lv_at hl 1 rfl) ?_
  refine y_getFs (C := RX10) (T := TX10) (NN := 16) (d := 1) B (ho.at0 rfl) inX10 rfl (j := 6) (by decide) q_203 rfl rfl (by decide) dX10_passDay_13 ?_
  refine y_getFs (C := RX1) (T := TX1) (NN := 4) (d := 1) B ((rs_10_1_1 ho).at0 rfl) inX1 rfl (j := 0) (by decide) q_88 rfl rfl (by decide) dX10_passDay_16 ?_
  refine x_iload_n B dX10_passDay_19 rfl (lv_at hl 0 rfl) ?_
  obtain ⟨r4, c3, hf⟩ := bn_some hf
  refine x_callSN0 (rest := []) B (kX11_sumOf ((rs_10_1_1 ho).at 1 rfl) c3) ⟨rfl, rfl⟩ nq_490 q_491 (by rw [hR]; exact cw_X10_passDay_X11_sumOf) rfl rfl hl.1 (Nat.le_of_ble_eq_true rfl) dX10_passDay_20 ⟨Nat.zero_le _, Nat.zero_le _⟩ ?_
  refine x_istore_n (lv' := [(2, .int r4), (1, .int r2), (0, .ref (gz G + o))]) B dX10_passDay_23 rfl hl (by decide) rfl (fun ls hl => ?_)
  refine x_aload_n B dX10_passDay_24 rfl (lv_at hl 2 rfl) ?_
  refine x_aload_n B dX10_passDay_25 rfl (lv_at hl 2 rfl) ?_
  refine y_getFi (C := RX10) (T := TX10) (NN := 16) B (ho.at0 rfl) inX10 rfl (j := 0) (by decide) q_188 rfl rfl dX10_passDay_26 ?_
  refine x_iload_n B dX10_passDay_29 rfl (lv_at hl 0 rfl) ?_
  obtain ⟨r7, f6, c5, hf⟩ := bn2_some hf
  refine x_callV0 (rest := []) B (kX10_rateOn ho c5) ⟨rfl, rfl⟩ (ho.at0 (N := N) rfl).lt (ho.at0 (N := N) rfl).2 rfl (by decide) q_606 q_607 q_608 (by rw [hR]; exact cw_X10_passDay_X10_rateOn) rfl rfl hl.1 (Nat.le_of_ble_eq_true rfl) dX10_passDay_30 ⟨Nat.zero_le _, Nat.zero_le _⟩ ?_
  refine x_istore_n (lv' := [(3, .int r7), (2, .int r4), (1, .int r2), (0, .ref (gz G + o))]) B dX10_passDay_33 rfl hl (by decide) rfl (fun ls hl => ?_)
  refine x_aload_n B dX10_passDay_34 rfl (lv_at hl 3 rfl) ?_
  refine x_aload_n B dX10_passDay_35 rfl (lv_at hl 3 rfl) ?_
  refine y_getFi (C := RX10) (T := TX10) (NN := 16) B (ho.at0 rfl) inX10 rfl (j := 0) (by decide) q_188 rfl rfl dX10_passDay_36 ?_
  refine x_iload_n B dX10_passDay_39 rfl (lv_at hl 1 rfl) ?_
  obtain ⟨r10, f9, c8, hf⟩ := bn2_some hf
  refine x_callV0 (rest := []) B (kX10_knockOn ho c8) ⟨rfl, rfl⟩ (ho.at0 (N := N) rfl).lt (ho.at0 (N := N) rfl).2 rfl (by decide) q_634 q_635 q_636 (by rw [hR]; exact cw_X10_passDay_X10_knockOn) rfl rfl hl.1 (Nat.le_of_ble_eq_true rfl) dX10_passDay_40 ⟨Nat.zero_le _, Nat.zero_le _⟩ ?_
  refine x_istore (lv' := [(4, .int r10), (3, .int r7), (2, .int r4), (1, .int r2), (0, .ref (gz G + o))]) B dX10_passDay_43 hl (by decide) rfl (fun ls hl => ?_)
  refine x_aload_n B dX10_passDay_45 rfl (lv_at hl 4 rfl) ?_
  refine y_getFi (C := RX10) (T := TX10) (NN := 16) B (ho.at0 rfl) inX10 rfl (j := 4) (by decide) q_200 rfl rfl dX10_passDay_46 ?_
  refine x_iconst (v := (nI 1)) B dX10_passDay_49 (by decide) ?_
  refine x_icmp_ne (tgt := 59) B dX10_passDay_50 (by decide) (fun h11 => ?_) (fun h11 => ?_)
  · have hf := ip h11 hf
    refine x_aload_n B dX10_passDay_53 rfl (lv_at hl 4 rfl) ?_
    refine x_iload_n B dX10_passDay_54 rfl (lv_at hl 3 rfl) ?_
    refine x_iload_n B dX10_passDay_55 rfl (lv_at hl 1 rfl) ?_
    obtain ⟨f13, c12, hf⟩ := bn_some hf
    refine x_callV0 (rest := []) B (kX10_drawJust ho c12) ⟨rfl, rfl⟩ (ho.at0 (N := N) rfl).lt (ho.at0 (N := N) rfl).2 rfl (by decide) q_638 q_639 q_640 (by rw [hR]; exact cw_X10_passDay_X10_drawJust) rfl rfl hl.1 (Nat.le_of_ble_eq_true rfl) dX10_passDay_56 ⟨Nat.zero_le _, Nat.zero_le _⟩ ?_
    exact fX10_passDay_59_ok B hR ho  (lv_sub hl [4, 3, 1, 0] rfl) hf
  · have hf := iq h11 hf
    exact fX10_passDay_59_ok B hR ho  (lv_sub hl [4, 3, 1, 0] rfl) hf
def rmX11_check : Room := { frames := 5, cells := 0, slots := 0, locals := 158 }
set_option maxHeartbeats 4000000 in
set_option maxRecDepth 100000 in
theorem cw_X11_check_X10_passDay : cwB rmX11_check rmX10_passDay yX10_passDay cX10_passDay 5 none 0 := ⟨q_605, q_46, by decide, by decide⟩
set_option maxHeartbeats 4000000 in
set_option maxRecDepth 100000 in
theorem cw_X11_check_X10_takeOver : cwB rmX11_check rmX10_takeOver yX10_takeOver cX10_takeOver 2 none 1 := ⟨q_1069, q_46, by decide, by decide⟩
def fX11_check_84 (n : Nat) (N : Nat)  (x3 : Int32) (f : Mm) : Option (Int32 × Mm) :=
  some ((nI 1) + ((nI 2) * x3), f)
set_option maxHeartbeats 4000000 in
set_option maxRecDepth 100000 in
theorem fX11_check_84_ok {V : VE} {G : GE} {N : Nat} {f m : Mm} {n : Nat} {ls : Array Slot} {r : Int32} {g : Mm} (B : CX V G cX11_check 4 "FluxWatch" (some .int)) (hR : V.2.2.2.1 = rmX11_check)   {x3 : Int32}  (hl : lv_has ls 4 [(3, .int x3)]) (hf : fX11_check_84 n N x3 f = some (r, g)) : WX V G N f m 0 0 (QQ V G (some (.int r)) N g m 0 0) 84 ls [] := by
  unfold fX11_check_84 at hf
  refine x_iconst (v := (nI 1)) B dX11_check_84 (by decide) ?_
  refine x_iconst (v := (nI 2)) B dX11_check_85 (by decide) ?_
  refine x_iload_n B dX11_check_86 rfl (lv_at hl 0 rfl) ?_
  refine x_imul B dX11_check_87 ?_
  refine x_iadd B dX11_check_88 ?_
  obtain ⟨rfl, rfl⟩ := rt2 hf
  exact x_iret B dX11_check_89
def fX11_check_122 (n : Nat) (N : Nat)  (x3 : Int32) (f : Mm) : Option (Int32 × Mm) :=
  some ((nI 2) + ((nI 2) * x3), f)
set_option maxHeartbeats 4000000 in
set_option maxRecDepth 100000 in
theorem fX11_check_122_ok {V : VE} {G : GE} {N : Nat} {f m : Mm} {n : Nat} {ls : Array Slot} {r : Int32} {g : Mm} (B : CX V G cX11_check 4 "FluxWatch" (some .int)) (hR : V.2.2.2.1 = rmX11_check)   {x3 : Int32}  (hl : lv_has ls 4 [(3, .int x3)]) (hf : fX11_check_122 n N x3 f = some (r, g)) : WX V G N f m 0 0 (QQ V G (some (.int r)) N g m 0 0) 122 ls [] := by
  unfold fX11_check_122 at hf
  refine x_iconst (v := (nI 2)) B dX11_check_122 (by decide) ?_
  refine x_iconst (v := (nI 2)) B dX11_check_123 (by decide) ?_
  refine x_iload_n B dX11_check_124 rfl (lv_at hl 0 rfl) ?_
  refine x_imul B dX11_check_125 ?_
  refine x_iadd B dX11_check_126 ?_
  obtain ⟨rfl, rfl⟩ := rt2 hf
  exact x_iret B dX11_check_127
def fX11_check_47 (n : Nat) (N : Nat)  (k47 : Int32 → Int32 → Int32 → Mm → Option (Int32 × Mm)) (x1 : Int32) (x2 : Int32) (x3 : Int32) (f : Mm) : Option (Int32 × Mm) :=
  if x1 ≤ x3 then (
  if x2 ≤ ((nI 2) * x1) then (
  some ((nI 0), f)) else (
  some ((nI 1) + ((nI 2) * x1), f))) else (
  bn (fX10_passDay n N 49 f) fun f11 =>
  if x2 ≤ ((nI 2) * x3) then (
  fX11_check_84 n N x3 f11) else (
  gd (ib ((nI 2) * x3) 60) <|
  if (f11 98 ((nI 2) * x3).toNatClampNeg) = (f11 49 1) then (
  if x2 ≤ (((nI 2) * x3) + (nI 1)) then (
  fX11_check_122 n N x3 f11) else (
  gd (ib (((nI 2) * x3) + (nI 1)) 60) <|
  if (f11 98 (((nI 2) * x3) + (nI 1)).toNatClampNeg) = (f11 58 4) then (
  k47 x1 x2 (x3 + (nI 1)) f11) else (
  fX11_check_122 n N x3 f11))) else (
  fX11_check_84 n N x3 f11)))
def fX11_check_47L (n : Nat) (N : Nat)  : Nat → Int32 → Int32 → Int32 → Mm → Option (Int32 × Mm)
  | 0 => fun _ _ _ _ => none
  | q + 1 => fX11_check_47 n N  (fX11_check_47L n N  q)
set_option maxHeartbeats 4000000 in
set_option maxRecDepth 100000 in
theorem fX11_check_47_ok {V : VE} {G : GE} {N : Nat} {f m : Mm} {n : Nat} {ls : Array Slot} {r : Int32} {g : Mm} (B : CX V G cX11_check 4 "FluxWatch" (some .int)) (hR : V.2.2.2.1 = rmX11_check)   {k47 : Int32 → Int32 → Int32 → Mm → Option (Int32 × Mm)} (hk47 : ∀ (x1 : Int32) (x2 : Int32) (x3 : Int32) (mm : Mm) (ls : Array Slot),  lv_has ls 4 [(0, .ref (gz G + 0)), (1, .int x1), (2, .int x2), (3, .int x3)] → k47 x1 x2 x3 mm = some (r, g) → WX V G N mm m 0 0 (QQ V G (some (.int r)) N g m 0 0) 47 ls []) {x1 : Int32} {x2 : Int32} {x3 : Int32}  (hl : lv_has ls 4 [(0, .ref (gz G + 0)), (1, .int x1), (2, .int x2), (3, .int x3)]) (hf : fX11_check_47 n N k47 x1 x2 x3 f = some (r, g)) : WX V G N f m 0 0 (QQ V G (some (.int r)) N g m 0 0) 47 ls [] := by
  unfold fX11_check_47 at hf
  refine x_iload_n B dX11_check_47 rfl (lv_at hl 3 rfl) ?_
  refine x_iload_n B dX11_check_48 rfl (lv_at hl 1 rfl) ?_
  refine x_icmp_ge (tgt := 134) B dX11_check_49 (by decide) (fun h8 => ?_) (fun h8 => ?_)
  · have hf := ip h8 hf
    refine x_iload_n B dX11_check_134 rfl (lv_at hl 2 rfl) ?_
    refine x_iconst (v := (nI 2)) B dX11_check_135 (by decide) ?_
    refine x_iload_n B dX11_check_136 rfl (lv_at hl 1 rfl) ?_
    refine x_imul B dX11_check_137 ?_
    refine x_icmp_le (tgt := 149) B dX11_check_138 (by decide) (fun h9 => ?_) (fun h9 => ?_)
    · have hf := ip h9 hf
      refine x_iconst (v := (nI 0)) B dX11_check_149 (by decide) ?_
      obtain ⟨rfl, rfl⟩ := rt2 hf
      exact x_iret B dX11_check_150
    · have hf := iq h9 hf
      refine x_iconst (v := (nI 1)) B dX11_check_141 (by decide) ?_
      refine x_iconst (v := (nI 2)) B dX11_check_142 (by decide) ?_
      refine x_iload_n B dX11_check_143 rfl (lv_at hl 1 rfl) ?_
      refine x_imul B dX11_check_144 ?_
      refine x_iadd B dX11_check_145 ?_
      refine x_goto (tgt := 150) B dX11_check_146 (by decide) ?_
      obtain ⟨rfl, rfl⟩ := rt2 hf
      exact x_iret B dX11_check_150
  · have hf := iq h8 hf
    refine x_aload_n B dX11_check_52 rfl (lv_at hl 0 rfl) ?_
    refine y_getFs (C := RX11) (T := TX11) (NN := 10) (d := 49) B (rg_11_0.at0 rfl) inX11 rfl (j := 2) (by decide) q_390 rfl rfl (by decide) dX11_check_53 ?_
    obtain ⟨f11, c10, hf⟩ := bn_some hf
    refine x_callV0 (rest := []) B (kX10_passDay rg_10_49 c10) ⟨rfl, rfl⟩ (rg_10_49.at0 (N := N) rfl).lt (rg_10_49.at0 (N := N) rfl).2 rfl (by decide) q_602 q_603 q_604 (by rw [hR]; exact cw_X11_check_X10_passDay) rfl rfl hl.1 (Nat.le_of_ble_eq_true rfl) dX11_check_56 ⟨Nat.zero_le _, Nat.zero_le _⟩ ?_
    refine x_iconst (v := (nI 2)) B dX11_check_59 (by decide) ?_
    refine x_iload_n B dX11_check_60 rfl (lv_at hl 3 rfl) ?_
    refine x_imul B dX11_check_61 ?_
    refine x_iload_n B dX11_check_62 rfl (lv_at hl 2 rfl) ?_
    refine x_icmp_ge (tgt := 84) B dX11_check_63 (by decide) (fun h12 => ?_) (fun h12 => ?_)
    · have hf := ip h12 hf
      exact fX11_check_84_ok B hR  (lv_sub hl [3] rfl) hf
    · have hf := iq h12 hf
      refine x_aload_n B dX11_check_66 rfl (lv_at hl 0 rfl) ?_
      refine y_getFs (C := RX11) (T := TX11) (NN := 10) (d := 98) B (rg_11_0.at0 rfl) inX11 rfl (j := 6) (by decide) q_394 rfl rfl (by decide) dX11_check_67 ?_
      refine x_iconst (v := (nI 2)) B dX11_check_70 (by decide) ?_
      refine x_iload_n B dX11_check_71 rfl (lv_at hl 3 rfl) ?_
      refine x_imul B dX11_check_72 ?_
      obtain ⟨h13, hf⟩ := gd_some hf
      refine x_ialdF B (rg_11_0.at 98 rfl) h13 dX11_check_73 ?_
      refine x_aload_n B dX11_check_74 rfl (lv_at hl 0 rfl) ?_
      refine y_getFs (C := RX11) (T := TX11) (NN := 10) (d := 49) B (rg_11_0.at0 rfl) inX11 rfl (j := 2) (by decide) q_390 rfl rfl (by decide) dX11_check_75 ?_
      refine y_getFi (C := RX10) (T := TX10) (NN := 16) B (rg_10_49.at0 rfl) inX10 rfl (j := 1) (by decide) q_193 rfl rfl dX11_check_78 ?_
      refine x_icmp_eq (tgt := 90) B dX11_check_81 (by decide) (fun h14 => ?_) (fun h14 => ?_)
      · have hf := ip h14 hf
        refine x_iconst (v := (nI 2)) B dX11_check_90 (by decide) ?_
        refine x_iload_n B dX11_check_91 rfl (lv_at hl 3 rfl) ?_
        refine x_imul B dX11_check_92 ?_
        refine x_iconst (v := (nI 1)) B dX11_check_93 (by decide) ?_
        refine x_iadd B dX11_check_94 ?_
        refine x_iload_n B dX11_check_95 rfl (lv_at hl 2 rfl) ?_
        refine x_icmp_ge (tgt := 122) B dX11_check_96 (by decide) (fun h15 => ?_) (fun h15 => ?_)
        · have hf := ip h15 hf
          exact fX11_check_122_ok B hR  (lv_sub hl [3] rfl) hf
        · have hf := iq h15 hf
          refine x_aload_n B dX11_check_99 rfl (lv_at hl 0 rfl) ?_
          refine y_getFs (C := RX11) (T := TX11) (NN := 10) (d := 98) B (rg_11_0.at0 rfl) inX11 rfl (j := 6) (by decide) q_394 rfl rfl (by decide) dX11_check_100 ?_
          refine x_iconst (v := (nI 2)) B dX11_check_103 (by decide) ?_
          refine x_iload_n B dX11_check_104 rfl (lv_at hl 3 rfl) ?_
          refine x_imul B dX11_check_105 ?_
          refine x_iconst (v := (nI 1)) B dX11_check_106 (by decide) ?_
          refine x_iadd B dX11_check_107 ?_
          obtain ⟨h16, hf⟩ := gd_some hf
          refine x_ialdF B (rg_11_0.at 98 rfl) h16 dX11_check_108 ?_
          refine x_aload_n B dX11_check_109 rfl (lv_at hl 0 rfl) ?_
          refine y_getFs (C := RX11) (T := TX11) (NN := 10) (d := 49) B (rg_11_0.at0 rfl) inX11 rfl (j := 2) (by decide) q_390 rfl rfl (by decide) dX11_check_110 ?_
          refine y_getFs (C := RX10) (T := TX10) (NN := 16) (d := 9) B (rg_10_49.at0 rfl) inX10 rfl (j := 8) (by decide) q_208 rfl rfl (by decide) dX11_check_113 ?_
          refine y_getFi (C := RX8) (T := TX8) (NN := 5) B (rg_8_58.at0 rfl) inX8 rfl (j := 4) (by decide) q_153 rfl rfl dX11_check_116 ?_
          refine x_icmp_eq (tgt := 128) B dX11_check_119 (by decide) (fun h17 => ?_) (fun h17 => ?_)
          · have hf := ip h17 hf
            refine x_iinc (k := 3) (v := (nI 1)) (lv' := [(3, .int (x3 + (nI 1))), (0, .ref (gz G + 0)), (1, .int x1), (2, .int x2)]) B dX11_check_128 hl rfl (by decide) (by decide) rfl (fun ls hl => ?_)
            refine x_goto (tgt := 47) B dX11_check_131 (by decide) ?_
            exact hk47 _ _ _ _ _ (lv_sub hl [1, 2, 3, 0] rfl) hf
          · have hf := iq h17 hf
            exact fX11_check_122_ok B hR  (lv_sub hl [3] rfl) hf
      · have hf := iq h14 hf
        exact fX11_check_84_ok B hR  (lv_sub hl [3] rfl) hf
set_option maxHeartbeats 4000000 in
set_option maxRecDepth 100000 in
theorem fX11_check_47L_ok {V : VE} {G : GE} {N : Nat} {m : Mm} {n : Nat}  {r : Int32} {g : Mm} (B : CX V G cX11_check 4 "FluxWatch" (some .int)) (hR : V.2.2.2.1 = rmX11_check)   : ∀ (q : Nat) (x1 : Int32) (x2 : Int32) (x3 : Int32) (mm : Mm) (ls : Array Slot),  lv_has ls 4 [(0, .ref (gz G + 0)), (1, .int x1), (2, .int x2), (3, .int x3)] → fX11_check_47L n N q x1 x2 x3 mm = some (r, g) → WX V G N mm m 0 0 (QQ V G (some (.int r)) N g m 0 0) 47 ls [] := by
  intro q
  induction q with
  | zero =>
    intro x1 x2 x3 mm ls hl hf
    cases hf
  | succ q ih =>
    intro x1 x2 x3 mm ls hl hf
    exact fX11_check_47_ok B hR   ih  hl hf
def fX11_check (n : Nat) (N : Nat) (a1 : Int32) (f : Mm) : Option (Int32 × Mm) :=
  lt (up f 0 7 (nI 0)) fun f1 =>
  if a1 < (nI 1) then (
  some ((-1000000001 : Int32), f1)) else (
  if a1 ≤ (nI 30) then (
  if (f1 0 3) = 0 then (
  some ((-1000000002 : Int32), f1)) else (
  bn (fX10_takeOver n N 49 25 f1) fun f7 =>
  fX11_check_47L n N n a1 (f 0 7) (nI 0) f7)) else (
  some ((-1000000001 : Int32), f1)))
set_option maxHeartbeats 4000000 in
set_option maxRecDepth 100000 in
theorem kX11_check {l : Launch} {G : GE} {N : Nat} {f m : Mm} {n : Nat} {a1 : Int32} {r : Int32} {g : Mm}  (hf : fX11_check n N a1 f = some (r, g)) : MT l G yX11_check cX11_check 4 (some .int) rmX11_check [.ref (gz G + 0), .int a1] N f m (some (.int r)) N g m := by
  unfold fX11_check at hf
  refine MT.of (by decide) (Nat.le_of_ble_eq_true rfl) (fun V ls hV hR B hl => ?_)
  have B : CX V G cX11_check 4 "FluxWatch" (some .int) := B
  have hl : lv_has ls 4 [(0, .ref (gz G + 0)), (1, .int a1)] := hl
  show WX V G N f m 0 0 (QQ V G (some (.int r)) N g m 0 0) 0 ls []
  refine x_aload_n B dX11_check_0 rfl (lv_at hl 0 rfl) ?_
  refine y_getFi (C := RX11) (T := TX11) (NN := 10) B (rg_11_0.at0 rfl) inX11 rfl (j := 7) (by decide) q_395 rfl rfl dX11_check_1 ?_
  refine x_istore_n (lv' := [(2, .int (f 0 7)), (0, .ref (gz G + 0)), (1, .int a1)]) B dX11_check_4 rfl hl (by decide) rfl (fun ls hl => ?_)
  refine x_aload_n B dX11_check_5 rfl (lv_at hl 1 rfl) ?_
  refine x_iconst (v := (nI 0)) B dX11_check_6 (by decide) ?_
  refine x_putF (C := RX11) (T := TX11) (NN := 10) (ty0 := tyX11) (ty := .int) B (rg_11_0.at0 rfl) inX11 tyX11_ok nmX11 rfl (j := 7) (by decide) q_395 rfl rfl rfl rfl rfl rfl dX11_check_7 (fun f1 e2 => ?_)
  have hf := lt_some hf e2
  refine x_iload_n B dX11_check_10 rfl (lv_at hl 2 rfl) ?_
  refine x_iconst (v := (nI 1)) B dX11_check_11 (by decide) ?_
  refine x_icmp_lt (tgt := 21) B dX11_check_12 (by decide) (fun h3 => ?_) (fun h3 => ?_)
  · have hf := ip h3 hf
    refine x_ldc (v := (-1000000001 : Int32)) B q_432 dX11_check_21 ?_
    obtain ⟨rfl, rfl⟩ := rt2 hf
    exact x_iret B dX11_check_23
  · have hf := iq h3 hf
    refine x_iload_n B dX11_check_15 rfl (lv_at hl 2 rfl) ?_
    refine x_bipush (v := (nI 30)) B dX11_check_16 (by decide) ?_
    refine x_icmp_le (tgt := 24) B dX11_check_18 (by decide) (fun h4 => ?_) (fun h4 => ?_)
    · have hf := ip h4 hf
      refine x_aload_n B dX11_check_24 rfl (lv_at hl 1 rfl) ?_
      refine y_getFi (C := RX11) (T := TX11) (NN := 10) B (rg_11_0.at0 rfl) inX11 rfl (j := 3) (by decide) q_391 rfl rfl dX11_check_25 ?_
      refine x_if_ne (tgt := 34) B dX11_check_28 (by decide) (fun h5 => ?_) (fun h5 => ?_)
      · have hf := ip h5 hf
        refine x_ldc (v := (-1000000002 : Int32)) B q_462 dX11_check_31 ?_
        obtain ⟨rfl, rfl⟩ := rt2 hf
        exact x_iret B dX11_check_33
      · have hf := iq h5 hf
        refine x_aload_n B dX11_check_34 rfl (lv_at hl 1 rfl) ?_
        refine y_getFs (C := RX11) (T := TX11) (NN := 10) (d := 49) B (rg_11_0.at0 rfl) inX11 rfl (j := 2) (by decide) q_390 rfl rfl (by decide) dX11_check_35 ?_
        refine x_aload_n B dX11_check_38 rfl (lv_at hl 1 rfl) ?_
        refine y_getFs (C := RX11) (T := TX11) (NN := 10) (d := 25) B (rg_11_0.at0 rfl) inX11 rfl (j := 1) (by decide) q_389 rfl rfl (by decide) dX11_check_39 ?_
        obtain ⟨f7, c6, hf⟩ := bn_some hf
        refine x_callV0 (rest := []) B (kX10_takeOver rg_10_49 rg_10_25 c6) ⟨rfl, rfl⟩ (rg_10_49.at0 (N := N) rfl).lt (rg_10_49.at0 (N := N) rfl).2 rfl (by decide) q_1066 q_1067 q_1068 (by rw [hR]; exact cw_X11_check_X10_takeOver) rfl rfl hl.1 (Nat.le_of_ble_eq_true rfl) dX11_check_42 ⟨Nat.zero_le _, Nat.zero_le _⟩ ?_
        refine x_iconst (v := (nI 0)) B dX11_check_45 (by decide) ?_
        refine x_istore_n (lv' := [(3, .int (nI 0)), (2, .int (f 0 7)), (0, .ref (gz G + 0)), (1, .int a1)]) B dX11_check_46 rfl hl (by decide) rfl (fun ls hl => ?_)
        exact fX11_check_47L_ok B hR  n _ _ _ _ _ (lv_sub hl [2, 3, 1, 0] rfl) hf
    · have hf := iq h4 hf
      refine x_ldc (v := (-1000000001 : Int32)) B q_432 dX11_check_21 ?_
      obtain ⟨rfl, rfl⟩ := rt2 hf
      exact x_iret B dX11_check_23
def rmX11_clear : Room := { frames := 0, cells := 0, slots := 0, locals := 0 }
def fX11_clear (n : Nat)  (f : Mm) : Option (Int32 × Mm) :=
  lt (up f 22 2 (nI 0)) fun f1 =>
  some (f 22 2, f1)
set_option maxHeartbeats 4000000 in
set_option maxRecDepth 100000 in
theorem kX11_clear {l : Launch} {G : GE} {N : Nat} {f m : Mm} {n : Nat}  {r : Int32} {g : Mm}  (hf : fX11_clear n f = some (r, g)) : MT l G yX11_clear cX11_clear 2 (some .int) rmX11_clear [.ref (gz G + 0)] N f m (some (.int r)) N g m := by
  unfold fX11_clear at hf
  refine MT.of (by decide) (Nat.le_of_ble_eq_true rfl) (fun V ls hV hR B hl => ?_)
  have B : CX V G cX11_clear 2 "FluxWatch" (some .int) := B
  have hl : lv_has ls 2 [(0, .ref (gz G + 0))] := hl
  show WX V G N f m 0 0 (QQ V G (some (.int r)) N g m 0 0) 0 ls []
  refine x_aload_n B dX11_clear_0 rfl (lv_at hl 0 rfl) ?_
  refine y_getFs (C := RX11) (T := TX11) (NN := 10) (d := 1) B (rg_11_0.at0 rfl) inX11 rfl (j := 0) (by decide) q_388 rfl rfl (by decide) dX11_clear_1 ?_
  refine y_getFs (C := RX10) (T := TX10) (NN := 16) (d := 21) B (rg_10_1.at0 rfl) inX10 rfl (j := 15) (by decide) q_222 rfl rfl (by decide) dX11_clear_4 ?_
  refine y_getFi (C := RX4) (T := TX4) (NN := 3) B (rg_4_22.at0 rfl) inX4 rfl (j := 2) (by decide) q_180 rfl rfl dX11_clear_7 ?_
  refine x_istore_n (lv' := [(1, .int (f 22 2)), (0, .ref (gz G + 0))]) B dX11_clear_10 rfl hl (by decide) rfl (fun ls hl => ?_)
  refine x_aload_n B dX11_clear_11 rfl (lv_at hl 1 rfl) ?_
  refine y_getFs (C := RX11) (T := TX11) (NN := 10) (d := 1) B (rg_11_0.at0 rfl) inX11 rfl (j := 0) (by decide) q_388 rfl rfl (by decide) dX11_clear_12 ?_
  refine y_getFs (C := RX10) (T := TX10) (NN := 16) (d := 21) B (rg_10_1.at0 rfl) inX10 rfl (j := 15) (by decide) q_222 rfl rfl (by decide) dX11_clear_15 ?_
  refine x_iconst (v := (nI 0)) B dX11_clear_18 (by decide) ?_
  refine x_putF (C := RX4) (T := TX4) (NN := 3) (ty0 := tyX4) (ty := .int) B (rg_4_22.at0 rfl) inX4 tyX4_ok nmX4 rfl (j := 2) (by decide) q_180 rfl rfl rfl rfl rfl rfl dX11_clear_19 (fun f1 e2 => ?_)
  have hf := lt_some hf e2
  refine x_iload_n B dX11_clear_22 rfl (lv_at hl 0 rfl) ?_
  obtain ⟨rfl, rfl⟩ := rt2 hf
  exact x_iret B dX11_clear_23
def rmX11_isSize : Room := { frames := 0, cells := 0, slots := 0, locals := 0 }
def fX11_isSize (n : Nat) (a1 : Int32)  : Option (Int32) :=
  if a1 < (nI 1) then (
  some (nI 0)) else (
  if (nI 9) < a1 then (
  some (nI 0)) else (
  some (nI 1)))
set_option maxHeartbeats 4000000 in
set_option maxRecDepth 100000 in
theorem kX11_isSize {l : Launch} {G : GE} {N : Nat} {f m : Mm} {n : Nat} {a1 : Int32} {r : Int32}  (hf : fX11_isSize n a1 = some r) : MT l G yX11_isSize cX11_isSize 1 (some .boolean) rmX11_isSize [.int a1] N f m (some (.int r)) N f m := by
  unfold fX11_isSize at hf
  refine MT.of (by decide) (Nat.le_of_ble_eq_true rfl) (fun V ls hV hR B hl => ?_)
  have B : CX V G cX11_isSize 1 "FluxWatch" (some .boolean) := B
  have hl : lv_has ls 1 [(0, .int a1)] := hl
  show WX V G N f m 0 0 (QQ V G (some (.int r)) N f m 0 0) 0 ls []
  refine x_iload_n B dX11_isSize_0 rfl (lv_at hl 0 rfl) ?_
  refine x_iconst (v := (nI 1)) B dX11_isSize_1 (by decide) ?_
  refine x_icmp_lt (tgt := 15) B dX11_isSize_2 (by decide) (fun h1 => ?_) (fun h1 => ?_)
  · have hf := ip h1 hf
    refine x_iconst (v := (nI 0)) B dX11_isSize_15 (by decide) ?_
    obtain rfl := rt1 hf
    exact x_zret B (by decide) dX11_isSize_16
  · have hf := iq h1 hf
    refine x_iload_n B dX11_isSize_5 rfl (lv_at hl 0 rfl) ?_
    refine x_bipush (v := (nI 9)) B dX11_isSize_6 (by decide) ?_
    refine x_icmp_gt (tgt := 15) B dX11_isSize_8 (by decide) (fun h2 => ?_) (fun h2 => ?_)
    · have hf := ip h2 hf
      refine x_iconst (v := (nI 0)) B dX11_isSize_15 (by decide) ?_
      obtain rfl := rt1 hf
      exact x_zret B (by decide) dX11_isSize_16
    · have hf := iq h2 hf
      refine x_iconst (v := (nI 1)) B dX11_isSize_11 (by decide) ?_
      refine x_goto (tgt := 16) B dX11_isSize_12 (by decide) ?_
      obtain rfl := rt1 hf
      exact x_zret B (by decide) dX11_isSize_16
def rmX1_add : Room := { frames := 0, cells := 0, slots := 0, locals := 0 }
def fX1_add (n : Nat) (o : Nat) (a1 : Int32) (f : Mm) : Option (Int32 × Mm) :=
  if (f o 3) < (nI 6) then (
  gd (ib (f o 3) 6) <|
  lt (up f (o + 1) (f o 3).toNatClampNeg a1) fun f3 =>
  gd (ib (f3 o 3) 6) <|
  lt (up f3 (o + 2) (f3 o 3).toNatClampNeg (nI 0)) fun f6 =>
  gd (ib (f6 o 3) 6) <|
  lt (up f6 (o + 3) (f6 o 3).toNatClampNeg (-1000000005 : Int32)) fun f9 =>
  lt (up f9 o 3 ((f9 o 3) + (nI 1))) fun f11 =>
  some ((f11 o 3) - (nI 1), f11)) else (
  some ((-1000000003 : Int32), f))
set_option maxHeartbeats 4000000 in
set_option maxRecDepth 100000 in
theorem kX1_add {l : Launch} {G : GE} {N : Nat} {f m : Mm} {n : Nat} {o : Nat} {a1 : Int32} {r : Int32} {g : Mm} (ho : rg 1 o) (hf : fX1_add n o a1 f = some (r, g)) : MT l G yX1_add cX1_add 2 (some .int) rmX1_add [.ref (gz G + o), .int a1] N f m (some (.int r)) N g m := by
  unfold fX1_add at hf
  refine MT.of (by decide) (Nat.le_of_ble_eq_true rfl) (fun V ls hV hR B hl => ?_)
  have B : CX V G cX1_add 2 "FluxWatch$Coils" (some .int) := B
  have hl : lv_has ls 2 [(0, .ref (gz G + o)), (1, .int a1)] := hl
  show WX V G N f m 0 0 (QQ V G (some (.int r)) N g m 0 0) 0 ls []
  refine x_aload_n B dX1_add_0 rfl (lv_at hl 0 rfl) ?_
  refine y_getFi (C := RX1) (T := TX1) (NN := 4) B (ho.at0 rfl) inX1 rfl (j := 3) (by decide) q_95 rfl rfl dX1_add_1 ?_
  refine x_bipush (v := (nI 6)) B dX1_add_4 (by decide) ?_
  refine x_icmp_lt (tgt := 12) B dX1_add_6 (by decide) (fun h1 => ?_) (fun h1 => ?_)
  · have hf := ip h1 hf
    refine x_aload_n B dX1_add_12 rfl (lv_at hl 0 rfl) ?_
    refine y_getFs (C := RX1) (T := TX1) (NN := 4) (d := 1) B (ho.at0 rfl) inX1 rfl (j := 0) (by decide) q_86 rfl rfl (by decide) dX1_add_13 ?_
    refine x_aload_n B dX1_add_16 rfl (lv_at hl 0 rfl) ?_
    refine y_getFi (C := RX1) (T := TX1) (NN := 4) B (ho.at0 rfl) inX1 rfl (j := 3) (by decide) q_95 rfl rfl dX1_add_17 ?_
    refine x_iload_n B dX1_add_20 rfl (lv_at hl 1 rfl) ?_
    obtain ⟨h2, hf⟩ := gd_some hf
    refine x_iastF B (ho.at 1 rfl) h2 dX1_add_21 (fun f3 e4 => ?_)
    have hf := lt_some hf e4
    refine x_aload_n B dX1_add_22 rfl (lv_at hl 0 rfl) ?_
    refine y_getFs (C := RX1) (T := TX1) (NN := 4) (d := 2) B (ho.at0 rfl) inX1 rfl (j := 1) (by decide) q_89 rfl rfl (by decide) dX1_add_23 ?_
    refine x_aload_n B dX1_add_26 rfl (lv_at hl 0 rfl) ?_
    refine y_getFi (C := RX1) (T := TX1) (NN := 4) B (ho.at0 rfl) inX1 rfl (j := 3) (by decide) q_95 rfl rfl dX1_add_27 ?_
    refine x_iconst (v := (nI 0)) B dX1_add_30 (by decide) ?_
    obtain ⟨h5, hf⟩ := gd_some hf
    refine x_iastF B (ho.at 2 rfl) h5 dX1_add_31 (fun f6 e7 => ?_)
    have hf := lt_some hf e7
    refine x_aload_n B dX1_add_32 rfl (lv_at hl 0 rfl) ?_
    refine y_getFs (C := RX1) (T := TX1) (NN := 4) (d := 3) B (ho.at0 rfl) inX1 rfl (j := 2) (by decide) q_92 rfl rfl (by decide) dX1_add_33 ?_
    refine x_aload_n B dX1_add_36 rfl (lv_at hl 0 rfl) ?_
    refine y_getFi (C := RX1) (T := TX1) (NN := 4) B (ho.at0 rfl) inX1 rfl (j := 3) (by decide) q_95 rfl rfl dX1_add_37 ?_
    refine x_ldc (v := (-1000000005 : Int32)) B q_431 dX1_add_40 ?_
    obtain ⟨h8, hf⟩ := gd_some hf
    refine x_iastF B (ho.at 3 rfl) h8 dX1_add_42 (fun f9 e10 => ?_)
    have hf := lt_some hf e10
    refine x_aload_n B dX1_add_43 rfl (lv_at hl 0 rfl) ?_
    refine x_dup B dX1_add_44 rfl ?_
    refine y_getFi (C := RX1) (T := TX1) (NN := 4) B (ho.at0 rfl) inX1 rfl (j := 3) (by decide) q_95 rfl rfl dX1_add_45 ?_
    refine x_iconst (v := (nI 1)) B dX1_add_48 (by decide) ?_
    refine x_iadd B dX1_add_49 ?_
    refine x_putF (C := RX1) (T := TX1) (NN := 4) (ty0 := tyX1) (ty := .int) B (ho.at0 rfl) inX1 tyX1_ok nmX1 rfl (j := 3) (by decide) q_95 rfl rfl rfl rfl rfl rfl dX1_add_50 (fun f11 e12 => ?_)
    have hf := lt_some hf e12
    refine x_aload_n B dX1_add_53 rfl (lv_at hl 0 rfl) ?_
    refine y_getFi (C := RX1) (T := TX1) (NN := 4) B (ho.at0 rfl) inX1 rfl (j := 3) (by decide) q_95 rfl rfl dX1_add_54 ?_
    refine x_iconst (v := (nI 1)) B dX1_add_57 (by decide) ?_
    refine x_isub B dX1_add_58 ?_
    obtain ⟨rfl, rfl⟩ := rt2 hf
    exact x_iret B dX1_add_59
  · have hf := iq h1 hf
    refine x_ldc (v := (-1000000003 : Int32)) B q_430 dX1_add_9 ?_
    obtain ⟨rfl, rfl⟩ := rt2 hf
    exact x_iret B dX1_add_11
def rmX11_coil : Room := { frames := 1, cells := 0, slots := 0, locals := 21 }
set_option maxHeartbeats 4000000 in
set_option maxRecDepth 100000 in
theorem cw_X11_coil_X11_isSize : cwB rmX11_coil rmX11_isSize yX11_isSize cX11_isSize 1 (some .boolean) 1 := ⟨q_425, q_45, by decide, by decide⟩
set_option maxHeartbeats 4000000 in
set_option maxRecDepth 100000 in
theorem cw_X11_coil_X1_add : cwB rmX11_coil rmX1_add yX1_add cX1_add 2 (some .int) 1 := ⟨q_429, q_47, by decide, by decide⟩
def fX11_coil (n : Nat) (a1 : Int32) (f : Mm) : Option (Int32 × Mm) :=
  bn (fX11_isSize n a1) fun r2 =>
  if r2 = 0 then (
  some ((-1000000001 : Int32), f)) else (
  bn2 (fX1_add n 2 a1 f) fun r6 f5 =>
  some (r6, f5))
set_option maxHeartbeats 4000000 in
set_option maxRecDepth 100000 in
theorem kX11_coil {l : Launch} {G : GE} {N : Nat} {f m : Mm} {n : Nat} {a1 : Int32} {r : Int32} {g : Mm}  (hf : fX11_coil n a1 f = some (r, g)) : MT l G yX11_coil cX11_coil 2 (some .int) rmX11_coil [.ref (gz G + 0), .int a1] N f m (some (.int r)) N g m := by
  unfold fX11_coil at hf
  refine MT.of (by decide) (Nat.le_of_ble_eq_true rfl) (fun V ls hV hR B hl => ?_)
  have B : CX V G cX11_coil 2 "FluxWatch" (some .int) := B
  have hl : lv_has ls 2 [(0, .ref (gz G + 0)), (1, .int a1)] := hl
  show WX V G N f m 0 0 (QQ V G (some (.int r)) N g m 0 0) 0 ls []
  refine x_iload_n B dX11_coil_0 rfl (lv_at hl 1 rfl) ?_
  obtain ⟨r2, c1, hf⟩ := bn_some hf
  refine x_callS0 (rest := []) B (kX11_isSize c1) ⟨rfl, rfl⟩ q_423 q_424 (by rw [hR]; exact cw_X11_coil_X11_isSize) rfl rfl hl.1 (Nat.le_of_ble_eq_true rfl) dX11_coil_1 ⟨Nat.zero_le _, Nat.zero_le _⟩ ?_
  refine x_if_eq (tgt := 21) B dX11_coil_4 (by decide) (fun h3 => ?_) (fun h3 => ?_)
  · have hf := ip h3 hf
    refine x_ldc (v := (-1000000001 : Int32)) B q_432 dX11_coil_21 ?_
    obtain ⟨rfl, rfl⟩ := rt2 hf
    exact x_iret B dX11_coil_23
  · have hf := iq h3 hf
    refine x_aload_n B dX11_coil_7 rfl (lv_at hl 0 rfl) ?_
    refine y_getFs (C := RX11) (T := TX11) (NN := 10) (d := 1) B (rg_11_0.at0 rfl) inX11 rfl (j := 0) (by decide) q_388 rfl rfl (by decide) dX11_coil_8 ?_
    refine y_getFs (C := RX10) (T := TX10) (NN := 16) (d := 1) B (rg_10_1.at0 rfl) inX10 rfl (j := 6) (by decide) q_204 rfl rfl (by decide) dX11_coil_11 ?_
    refine x_iload_n B dX11_coil_14 rfl (lv_at hl 1 rfl) ?_
    obtain ⟨r6, f5, c4, hf⟩ := bn2_some hf
    refine x_callV0 (rest := []) B (kX1_add rg_1_2 c4) ⟨rfl, rfl⟩ (rg_1_2.at0 (N := N) rfl).lt (rg_1_2.at0 (N := N) rfl).2 rfl (by decide) q_426 q_427 q_428 (by rw [hR]; exact cw_X11_coil_X1_add) rfl rfl hl.1 (Nat.le_of_ble_eq_true rfl) dX11_coil_15 ⟨Nat.zero_le _, Nat.zero_le _⟩ ?_
    refine x_goto (tgt := 23) B dX11_coil_18 (by decide) ?_
    obtain ⟨rfl, rfl⟩ := rt2 hf
    exact x_iret B dX11_coil_23
def rmX1_has : Room := { frames := 0, cells := 0, slots := 0, locals := 0 }
def fX1_has (n : Nat) (o : Nat) (a1 : Int32) (f : Mm) : Option (Int32) :=
  if a1 < 0 then (
  some (nI 0)) else (
  if (f o 3) ≤ a1 then (
  some (nI 0)) else (
  some (nI 1)))
set_option maxHeartbeats 4000000 in
set_option maxRecDepth 100000 in
theorem kX1_has {l : Launch} {G : GE} {N : Nat} {f m : Mm} {n : Nat} {o : Nat} {a1 : Int32} {r : Int32} (ho : rg 1 o) (hf : fX1_has n o a1 f = some r) : MT l G yX1_has cX1_has 2 (some .boolean) rmX1_has [.ref (gz G + o), .int a1] N f m (some (.int r)) N f m := by
  unfold fX1_has at hf
  refine MT.of (by decide) (Nat.le_of_ble_eq_true rfl) (fun V ls hV hR B hl => ?_)
  have B : CX V G cX1_has 2 "FluxWatch$Coils" (some .boolean) := B
  have hl : lv_has ls 2 [(0, .ref (gz G + o)), (1, .int a1)] := hl
  show WX V G N f m 0 0 (QQ V G (some (.int r)) N f m 0 0) 0 ls []
  refine x_iload_n B dX1_has_0 rfl (lv_at hl 1 rfl) ?_
  refine x_if_lt (tgt := 16) B dX1_has_1 (by decide) (fun h1 => ?_) (fun h1 => ?_)
  · have hf := ip h1 hf
    refine x_iconst (v := (nI 0)) B dX1_has_16 (by decide) ?_
    obtain rfl := rt1 hf
    exact x_zret B (by decide) dX1_has_17
  · have hf := iq h1 hf
    refine x_iload_n B dX1_has_4 rfl (lv_at hl 1 rfl) ?_
    refine x_aload_n B dX1_has_5 rfl (lv_at hl 0 rfl) ?_
    refine y_getFi (C := RX1) (T := TX1) (NN := 4) B (ho.at0 rfl) inX1 rfl (j := 3) (by decide) q_95 rfl rfl dX1_has_6 ?_
    refine x_icmp_ge (tgt := 16) B dX1_has_9 (by decide) (fun h2 => ?_) (fun h2 => ?_)
    · have hf := ip h2 hf
      refine x_iconst (v := (nI 0)) B dX1_has_16 (by decide) ?_
      obtain rfl := rt1 hf
      exact x_zret B (by decide) dX1_has_17
    · have hf := iq h2 hf
      refine x_iconst (v := (nI 1)) B dX1_has_12 (by decide) ?_
      refine x_goto (tgt := 17) B dX1_has_13 (by decide) ?_
      obtain rfl := rt1 hf
      exact x_zret B (by decide) dX1_has_17
def rmX8_manyOf : Room := { frames := 0, cells := 0, slots := 0, locals := 0 }
def fX8_manyOf_25 (n : Nat) (o : Nat) (k4 : Int32 → Int32 → Int32 → Mm → Option (Int32)) (x1 : Int32) (x2 : Int32) (x3 : Int32) (f : Mm) : Option (Int32) :=
  k4 x1 x2 (x3 + (nI 1)) f
set_option maxHeartbeats 4000000 in
set_option maxRecDepth 100000 in
theorem fX8_manyOf_25_ok {V : VE} {G : GE} {N : Nat} {f m : Mm} {n : Nat} {ls : Array Slot} {o : Nat} {r : Int32} (B : CX V G cX8_manyOf 4 "FluxWatch$Steps" (some .int)) (hR : V.2.2.2.1 = rmX8_manyOf) (ho : rg 8 o) {k4 : Int32 → Int32 → Int32 → Mm → Option (Int32)} (hk4 : ∀ (x1 : Int32) (x2 : Int32) (x3 : Int32) (mm : Mm) (ls : Array Slot),  lv_has ls 4 [(0, .ref (gz G + o)), (1, .int x1), (2, .int x2), (3, .int x3)] → k4 x1 x2 x3 mm = some r → WX V G N mm m 0 0 (QQ V G (some (.int r)) N mm m 0 0) 4 ls []) {x1 : Int32} {x2 : Int32} {x3 : Int32}  (hl : lv_has ls 4 [(0, .ref (gz G + o)), (1, .int x1), (2, .int x2), (3, .int x3)]) (hf : fX8_manyOf_25 n o k4 x1 x2 x3 f = some r) : WX V G N f m 0 0 (QQ V G (some (.int r)) N f m 0 0) 25 ls [] := by
  unfold fX8_manyOf_25 at hf
  refine x_iinc (k := 3) (v := (nI 1)) (lv' := [(3, .int (x3 + (nI 1))), (0, .ref (gz G + o)), (1, .int x1), (2, .int x2)]) B dX8_manyOf_25 hl rfl (by decide) (by decide) rfl (fun ls hl => ?_)
  refine x_goto (tgt := 4) B dX8_manyOf_28 (by decide) ?_
  exact hk4 _ _ _ _ _ (lv_sub hl [1, 2, 3, 0] rfl) hf
def fX8_manyOf_4 (n : Nat) (o : Nat)  (k4 : Int32 → Int32 → Int32 → Mm → Option (Int32)) (x1 : Int32) (x2 : Int32) (x3 : Int32) (f : Mm) : Option (Int32) :=
  if (f o 4) ≤ x3 then (
  some x2) else (
  gd (ib x3 40) <|
  if (f (o + 2) x3.toNatClampNeg) = x1 then (
  fX8_manyOf_25 n o k4 x1 (x2 + (nI 1)) x3 f) else (
  fX8_manyOf_25 n o k4 x1 x2 x3 f))
def fX8_manyOf_4L (n : Nat) (o : Nat)  : Nat → Int32 → Int32 → Int32 → Mm → Option (Int32)
  | 0 => fun _ _ _ _ => none
  | q + 1 => fX8_manyOf_4 n o  (fX8_manyOf_4L n o  q)
set_option maxHeartbeats 4000000 in
set_option maxRecDepth 100000 in
theorem fX8_manyOf_4_ok {V : VE} {G : GE} {N : Nat} {f m : Mm} {n : Nat} {ls : Array Slot} {o : Nat} {r : Int32} (B : CX V G cX8_manyOf 4 "FluxWatch$Steps" (some .int)) (hR : V.2.2.2.1 = rmX8_manyOf) (ho : rg 8 o)  {k4 : Int32 → Int32 → Int32 → Mm → Option (Int32)} (hk4 : ∀ (x1 : Int32) (x2 : Int32) (x3 : Int32) (mm : Mm) (ls : Array Slot),  lv_has ls 4 [(0, .ref (gz G + o)), (1, .int x1), (2, .int x2), (3, .int x3)] → k4 x1 x2 x3 mm = some r → WX V G N mm m 0 0 (QQ V G (some (.int r)) N mm m 0 0) 4 ls []) {x1 : Int32} {x2 : Int32} {x3 : Int32}  (hl : lv_has ls 4 [(0, .ref (gz G + o)), (1, .int x1), (2, .int x2), (3, .int x3)]) (hf : fX8_manyOf_4 n o k4 x1 x2 x3 f = some r) : WX V G N f m 0 0 (QQ V G (some (.int r)) N f m 0 0) 4 ls [] := by
  unfold fX8_manyOf_4 at hf
  refine x_iload_n B dX8_manyOf_4 rfl (lv_at hl 3 rfl) ?_
  refine x_aload_n B dX8_manyOf_5 rfl (lv_at hl 0 rfl) ?_
  refine y_getFi (C := RX8) (T := TX8) (NN := 5) B (ho.at0 rfl) inX8 rfl (j := 4) (by decide) q_151 rfl rfl dX8_manyOf_6 ?_
  refine x_icmp_ge (tgt := 31) B dX8_manyOf_9 (by decide) (fun h1 => ?_) (fun h1 => ?_)
  · have hf := ip h1 hf
    refine x_iload_n B dX8_manyOf_31 rfl (lv_at hl 2 rfl) ?_
    obtain rfl := rt1 hf
    exact x_iret B dX8_manyOf_32
  · have hf := iq h1 hf
    refine x_aload_n B dX8_manyOf_12 rfl (lv_at hl 0 rfl) ?_
    refine y_getFs (C := RX8) (T := TX8) (NN := 5) (d := 2) B (ho.at0 rfl) inX8 rfl (j := 1) (by decide) q_142 rfl rfl (by decide) dX8_manyOf_13 ?_
    refine x_iload_n B dX8_manyOf_16 rfl (lv_at hl 3 rfl) ?_
    obtain ⟨h2, hf⟩ := gd_some hf
    refine x_ialdF B (ho.at 2 rfl) h2 dX8_manyOf_17 ?_
    refine x_iload_n B dX8_manyOf_18 rfl (lv_at hl 1 rfl) ?_
    refine x_icmp_ne (tgt := 25) B dX8_manyOf_19 (by decide) (fun h3 => ?_) (fun h3 => ?_)
    · have hf := ip h3 hf
      refine x_iinc (k := 2) (v := (nI 1)) (lv' := [(2, .int (x2 + (nI 1))), (0, .ref (gz G + o)), (1, .int x1), (3, .int x3)]) B dX8_manyOf_22 hl rfl (by decide) (by decide) rfl (fun ls hl => ?_)
      exact fX8_manyOf_25_ok B hR ho hk4 (lv_sub hl [1, 2, 0, 3] rfl) hf
    · have hf := iq h3 hf
      exact fX8_manyOf_25_ok B hR ho hk4 hl hf
set_option maxHeartbeats 4000000 in
set_option maxRecDepth 100000 in
theorem fX8_manyOf_4L_ok {V : VE} {G : GE} {N : Nat} {m : Mm} {n : Nat}  {o : Nat} {r : Int32} (B : CX V G cX8_manyOf 4 "FluxWatch$Steps" (some .int)) (hR : V.2.2.2.1 = rmX8_manyOf) (ho : rg 8 o)  : ∀ (q : Nat) (x1 : Int32) (x2 : Int32) (x3 : Int32) (mm : Mm) (ls : Array Slot),  lv_has ls 4 [(0, .ref (gz G + o)), (1, .int x1), (2, .int x2), (3, .int x3)] → fX8_manyOf_4L n o q x1 x2 x3 mm = some r → WX V G N mm m 0 0 (QQ V G (some (.int r)) N mm m 0 0) 4 ls [] := by
  intro q
  induction q with
  | zero =>
    intro x1 x2 x3 mm ls hl hf
    cases hf
  | succ q ih =>
    intro x1 x2 x3 mm ls hl hf
    exact fX8_manyOf_4_ok B hR ho  ih  hl hf
def fX8_manyOf (n : Nat) (o : Nat) (a1 : Int32) (f : Mm) : Option (Int32) :=
  fX8_manyOf_4L n o n a1 (nI 0) (nI 0) f
set_option maxHeartbeats 4000000 in
set_option maxRecDepth 100000 in
theorem kX8_manyOf {l : Launch} {G : GE} {N : Nat} {f m : Mm} {n : Nat} {o : Nat} {a1 : Int32} {r : Int32} (ho : rg 8 o) (hf : fX8_manyOf n o a1 f = some r) : MT l G yX8_manyOf cX8_manyOf 4 (some .int) rmX8_manyOf [.ref (gz G + o), .int a1] N f m (some (.int r)) N f m := by
  unfold fX8_manyOf at hf
  refine MT.of (by decide) (Nat.le_of_ble_eq_true rfl) (fun V ls hV hR B hl => ?_)
  have B : CX V G cX8_manyOf 4 "FluxWatch$Steps" (some .int) := B
  have hl : lv_has ls 4 [(0, .ref (gz G + o)), (1, .int a1)] := hl
  show WX V G N f m 0 0 (QQ V G (some (.int r)) N f m 0 0) 0 ls []
  refine x_iconst (v := (nI 0)) B dX8_manyOf_0 (by decide) ?_
  refine x_istore_n (lv' := [(2, .int (nI 0)), (0, .ref (gz G + o)), (1, .int a1)]) B dX8_manyOf_1 rfl hl (by decide) rfl (fun ls hl => ?_)
  refine x_iconst (v := (nI 0)) B dX8_manyOf_2 (by decide) ?_
  refine x_istore_n (lv' := [(3, .int (nI 0)), (2, .int (nI 0)), (0, .ref (gz G + o)), (1, .int a1)]) B dX8_manyOf_3 rfl hl (by decide) rfl (fun ls hl => ?_)
  exact fX8_manyOf_4L_ok B hR ho  n _ _ _ _ _ (lv_sub hl [2, 3, 1, 0] rfl) hf
def rmX11_coilTold : Room := { frames := 2, cells := 0, slots := 0, locals := 45 }
set_option maxHeartbeats 4000000 in
set_option maxRecDepth 100000 in
theorem cw_X11_coilTold_X10_isWatched : cwB rmX11_coilTold rmX10_isWatched yX10_isWatched cX10_isWatched 3 (some .boolean) 2 := ⟨q_444, q_46, by decide, by decide⟩
set_option maxHeartbeats 4000000 in
set_option maxRecDepth 100000 in
theorem cw_X11_coilTold_X1_has : cwB rmX11_coilTold rmX1_has yX1_has cX1_has 2 (some .boolean) 1 := ⟨q_440, q_47, by decide, by decide⟩
set_option maxHeartbeats 4000000 in
set_option maxRecDepth 100000 in
theorem cw_X11_coilTold_X8_manyOf : cwB rmX11_coilTold rmX8_manyOf yX8_manyOf cX8_manyOf 4 (some .int) 1 := ⟨q_452, q_50, by decide, by decide⟩
def fX11_coilTold (n : Nat) (a1 : Int32) (a2 : Int32) (f : Mm) : Option (Int32) :=
  bn (fX1_has n 2 a1 f) fun r2 =>
  if r2 = 0 then (
  some (-1000000001 : Int32)) else (
  if a2 = (nI 0) then (
  gd (ib a1 6) <|
  some (f 3 a1.toNatClampNeg)) else (
  if a2 = (nI 1) then (
  gd (ib a1 6) <|
  some (f 4 a1.toNatClampNeg)) else (
  if a2 = (nI 2) then (
  gd (ib a1 6) <|
  some (f 5 a1.toNatClampNeg)) else (
  if a2 = (nI 3) then (
  bn (fX10_isWatched n 1 a1 (f 1 0) f) fun r12 =>
  if r12 = 0 then (
  some (nI 0)) else (
  some (nI 1))) else (
  if a2 = (nI 4) then (
  bn (fX8_manyOf n 10 a1 f) fun r16 =>
  some r16) else (
  some (-1000000001 : Int32)))))))
set_option maxHeartbeats 4000000 in
set_option maxRecDepth 100000 in
theorem kX11_coilTold {l : Launch} {G : GE} {N : Nat} {f m : Mm} {n : Nat} {a1 : Int32} {a2 : Int32} {r : Int32}  (hf : fX11_coilTold n a1 a2 f = some r) : MT l G yX11_coilTold cX11_coilTold 4 (some .int) rmX11_coilTold [.ref (gz G + 0), .int a1, .int a2] N f m (some (.int r)) N f m := by
  unfold fX11_coilTold at hf
  refine MT.of (by decide) (Nat.le_of_ble_eq_true rfl) (fun V ls hV hR B hl => ?_)
  have B : CX V G cX11_coilTold 4 "FluxWatch" (some .int) := B
  have hl : lv_has ls 4 [(0, .ref (gz G + 0)), (1, .int a1), (2, .int a2)] := hl
  show WX V G N f m 0 0 (QQ V G (some (.int r)) N f m 0 0) 0 ls []
  refine x_aload_n B dX11_coilTold_0 rfl (lv_at hl 0 rfl) ?_
  refine y_getFs (C := RX11) (T := TX11) (NN := 10) (d := 1) B (rg_11_0.at0 rfl) inX11 rfl (j := 0) (by decide) q_388 rfl rfl (by decide) dX11_coilTold_1 ?_
  refine y_getFs (C := RX10) (T := TX10) (NN := 16) (d := 1) B (rg_10_1.at0 rfl) inX10 rfl (j := 6) (by decide) q_204 rfl rfl (by decide) dX11_coilTold_4 ?_
  refine x_astore_n (lv' := [(3, .ref (gz G + 2)), (0, .ref (gz G + 0)), (1, .int a1), (2, .int a2)]) B dX11_coilTold_7 rfl hl (by decide) rfl (fun ls hl => ?_)
  refine x_aload_n B dX11_coilTold_8 rfl (lv_at hl 0 rfl) ?_
  refine x_iload_n B dX11_coilTold_9 rfl (lv_at hl 2 rfl) ?_
  obtain ⟨r2, c1, hf⟩ := bn_some hf
  refine x_callV0 (rest := []) B (kX1_has rg_1_2 c1) ⟨rfl, rfl⟩ (rg_1_2.at0 (N := N) rfl).lt (rg_1_2.at0 (N := N) rfl).2 rfl (by decide) q_437 q_438 q_439 (by rw [hR]; exact cw_X11_coilTold_X1_has) rfl rfl hl.1 (Nat.le_of_ble_eq_true rfl) dX11_coilTold_10 ⟨Nat.zero_le _, Nat.zero_le _⟩ ?_
  refine x_if_ne (tgt := 19) B dX11_coilTold_13 (by decide) (fun h3 => ?_) (fun h3 => ?_)
  · have hf := ip h3 hf
    refine x_ldc (v := (-1000000001 : Int32)) B q_432 dX11_coilTold_16 ?_
    obtain rfl := rt1 hf
    exact x_iret B dX11_coilTold_18
  · have hf := iq h3 hf
    refine x_iload_n B dX11_coilTold_19 rfl (lv_at hl 3 rfl) ?_
    by_cases h4 : a2 = (nI 0)
    · have hf := ip h4 hf
      refine x_tabIn (a := 0) (tgt := 56) B dX11_coilTold_20 (by rw [h4]; rfl) (by decide) (by decide) rfl (by decide) ?_
      refine x_aload_n B dX11_coilTold_56 rfl (lv_at hl 0 rfl) ?_
      refine y_getFs (C := RX1) (T := TX1) (NN := 4) (d := 1) B (rg_1_2.at0 rfl) inX1 rfl (j := 0) (by decide) q_87 rfl rfl (by decide) dX11_coilTold_57 ?_
      refine x_iload_n B dX11_coilTold_60 rfl (lv_at hl 2 rfl) ?_
      obtain ⟨h5, hf⟩ := gd_some hf
      refine x_ialdF B (rg_1_2.at 1 rfl) h5 dX11_coilTold_61 ?_
      obtain rfl := rt1 hf
      exact x_iret B dX11_coilTold_62
    · have hf := iq h4 hf
      by_cases h6 : a2 = (nI 1)
      · have hf := ip h6 hf
        refine x_tabIn (a := 1) (tgt := 63) B dX11_coilTold_20 (by rw [h6]; rfl) (by decide) (by decide) rfl (by decide) ?_
        refine x_aload_n B dX11_coilTold_63 rfl (lv_at hl 0 rfl) ?_
        refine y_getFs (C := RX1) (T := TX1) (NN := 4) (d := 2) B (rg_1_2.at0 rfl) inX1 rfl (j := 1) (by decide) q_90 rfl rfl (by decide) dX11_coilTold_64 ?_
        refine x_iload_n B dX11_coilTold_67 rfl (lv_at hl 2 rfl) ?_
        obtain ⟨h7, hf⟩ := gd_some hf
        refine x_ialdF B (rg_1_2.at 2 rfl) h7 dX11_coilTold_68 ?_
        obtain rfl := rt1 hf
        exact x_iret B dX11_coilTold_69
      · have hf := iq h6 hf
        by_cases h8 : a2 = (nI 2)
        · have hf := ip h8 hf
          refine x_tabIn (a := 2) (tgt := 70) B dX11_coilTold_20 (by rw [h8]; rfl) (by decide) (by decide) rfl (by decide) ?_
          refine x_aload_n B dX11_coilTold_70 rfl (lv_at hl 0 rfl) ?_
          refine y_getFs (C := RX1) (T := TX1) (NN := 4) (d := 3) B (rg_1_2.at0 rfl) inX1 rfl (j := 2) (by decide) q_93 rfl rfl (by decide) dX11_coilTold_71 ?_
          refine x_iload_n B dX11_coilTold_74 rfl (lv_at hl 2 rfl) ?_
          obtain ⟨h9, hf⟩ := gd_some hf
          refine x_ialdF B (rg_1_2.at 3 rfl) h9 dX11_coilTold_75 ?_
          obtain rfl := rt1 hf
          exact x_iret B dX11_coilTold_76
        · have hf := iq h8 hf
          by_cases h10 : a2 = (nI 3)
          · have hf := ip h10 hf
            refine x_tabIn (a := 3) (tgt := 77) B dX11_coilTold_20 (by rw [h10]; rfl) (by decide) (by decide) rfl (by decide) ?_
            refine x_aload_n B dX11_coilTold_77 rfl (lv_at hl 1 rfl) ?_
            refine y_getFs (C := RX11) (T := TX11) (NN := 10) (d := 1) B (rg_11_0.at0 rfl) inX11 rfl (j := 0) (by decide) q_388 rfl rfl (by decide) dX11_coilTold_78 ?_
            refine x_iload_n B dX11_coilTold_81 rfl (lv_at hl 2 rfl) ?_
            refine x_aload_n B dX11_coilTold_82 rfl (lv_at hl 1 rfl) ?_
            refine y_getFs (C := RX11) (T := TX11) (NN := 10) (d := 1) B (rg_11_0.at0 rfl) inX11 rfl (j := 0) (by decide) q_388 rfl rfl (by decide) dX11_coilTold_83 ?_
            refine y_getFi (C := RX10) (T := TX10) (NN := 16) B (rg_10_1.at0 rfl) inX10 rfl (j := 0) (by decide) q_189 rfl rfl dX11_coilTold_86 ?_
            obtain ⟨r12, c11, hf⟩ := bn_some hf
            refine x_callV0 (rest := []) B (kX10_isWatched rg_10_1 c11) ⟨rfl, rfl⟩ (rg_10_1.at0 (N := N) rfl).lt (rg_10_1.at0 (N := N) rfl).2 rfl (by decide) q_441 q_442 q_443 (by rw [hR]; exact cw_X11_coilTold_X10_isWatched) rfl rfl hl.1 (Nat.le_of_ble_eq_true rfl) dX11_coilTold_89 ⟨Nat.zero_le _, Nat.zero_le _⟩ ?_
            refine x_if_eq (tgt := 99) B dX11_coilTold_92 (by decide) (fun h13 => ?_) (fun h13 => ?_)
            · have hf := ip h13 hf
              refine x_iconst (v := (nI 0)) B dX11_coilTold_99 (by decide) ?_
              obtain rfl := rt1 hf
              exact x_iret B dX11_coilTold_100
            · have hf := iq h13 hf
              refine x_iconst (v := (nI 1)) B dX11_coilTold_95 (by decide) ?_
              refine x_goto (tgt := 100) B dX11_coilTold_96 (by decide) ?_
              obtain rfl := rt1 hf
              exact x_iret B dX11_coilTold_100
          · have hf := iq h10 hf
            by_cases h14 : a2 = (nI 4)
            · have hf := ip h14 hf
              refine x_tabIn (a := 4) (tgt := 101) B dX11_coilTold_20 (by rw [h14]; rfl) (by decide) (by decide) rfl (by decide) ?_
              refine x_aload_n B dX11_coilTold_101 rfl (lv_at hl 1 rfl) ?_
              refine y_getFs (C := RX11) (T := TX11) (NN := 10) (d := 1) B (rg_11_0.at0 rfl) inX11 rfl (j := 0) (by decide) q_388 rfl rfl (by decide) dX11_coilTold_102 ?_
              refine y_getFs (C := RX10) (T := TX10) (NN := 16) (d := 9) B (rg_10_1.at0 rfl) inX10 rfl (j := 8) (by decide) q_208 rfl rfl (by decide) dX11_coilTold_105 ?_
              refine x_iload_n B dX11_coilTold_108 rfl (lv_at hl 2 rfl) ?_
              obtain ⟨r16, c15, hf⟩ := bn_some hf
              refine x_callV0 (rest := []) B (kX8_manyOf rg_8_10 c15) ⟨rfl, rfl⟩ (rg_8_10.at0 (N := N) rfl).lt (rg_8_10.at0 (N := N) rfl).2 rfl (by decide) q_449 q_450 q_451 (by rw [hR]; exact cw_X11_coilTold_X8_manyOf) rfl rfl hl.1 (Nat.le_of_ble_eq_true rfl) dX11_coilTold_109 ⟨Nat.zero_le _, Nat.zero_le _⟩ ?_
              obtain rfl := rt1 hf
              exact x_iret B dX11_coilTold_112
            · have hf := iq h14 hf
              have h4t := lv_neT h4 (show ((nI 0)).toInt = 0 from rfl)
              have h6t := lv_neT h6 (show ((nI 1)).toInt = 1 from rfl)
              have h8t := lv_neT h8 (show ((nI 2)).toInt = 2 from rfl)
              have h10t := lv_neT h10 (show ((nI 3)).toInt = 3 from rfl)
              have h14t := lv_neT h14 (show ((nI 4)).toInt = 4 from rfl)
              refine x_tabOut (tgt := 113) B dX11_coilTold_20 (by omega) (by decide) ?_
              refine x_ldc (v := (-1000000001 : Int32)) B q_432 dX11_coilTold_113 ?_
              obtain rfl := rt1 hf
              exact x_iret B dX11_coilTold_115
def rmX11_isSheet : Room := { frames := 0, cells := 0, slots := 0, locals := 0 }
def fX11_isSheet (n : Nat) (a1 : Int32)  : Option (Int32) :=
  if a1 < 0 then (
  some (nI 0)) else (
  if (nI 4) ≤ a1 then (
  some (nI 0)) else (
  some (nI 1)))
set_option maxHeartbeats 4000000 in
set_option maxRecDepth 100000 in
theorem kX11_isSheet {l : Launch} {G : GE} {N : Nat} {f m : Mm} {n : Nat} {a1 : Int32} {r : Int32}  (hf : fX11_isSheet n a1 = some r) : MT l G yX11_isSheet cX11_isSheet 1 (some .boolean) rmX11_isSheet [.int a1] N f m (some (.int r)) N f m := by
  unfold fX11_isSheet at hf
  refine MT.of (by decide) (Nat.le_of_ble_eq_true rfl) (fun V ls hV hR B hl => ?_)
  have B : CX V G cX11_isSheet 1 "FluxWatch" (some .boolean) := B
  have hl : lv_has ls 1 [(0, .int a1)] := hl
  show WX V G N f m 0 0 (QQ V G (some (.int r)) N f m 0 0) 0 ls []
  refine x_iload_n B dX11_isSheet_0 rfl (lv_at hl 0 rfl) ?_
  refine x_if_lt (tgt := 13) B dX11_isSheet_1 (by decide) (fun h1 => ?_) (fun h1 => ?_)
  · have hf := ip h1 hf
    refine x_iconst (v := (nI 0)) B dX11_isSheet_13 (by decide) ?_
    obtain rfl := rt1 hf
    exact x_zret B (by decide) dX11_isSheet_14
  · have hf := iq h1 hf
    refine x_iload_n B dX11_isSheet_4 rfl (lv_at hl 0 rfl) ?_
    refine x_iconst (v := (nI 4)) B dX11_isSheet_5 (by decide) ?_
    refine x_icmp_ge (tgt := 13) B dX11_isSheet_6 (by decide) (fun h2 => ?_) (fun h2 => ?_)
    · have hf := ip h2 hf
      refine x_iconst (v := (nI 0)) B dX11_isSheet_13 (by decide) ?_
      obtain rfl := rt1 hf
      exact x_zret B (by decide) dX11_isSheet_14
    · have hf := iq h2 hf
      refine x_iconst (v := (nI 1)) B dX11_isSheet_9 (by decide) ?_
      refine x_goto (tgt := 14) B dX11_isSheet_10 (by decide) ?_
      obtain rfl := rt1 hf
      exact x_zret B (by decide) dX11_isSheet_14
def rmX5_hasRow : Room := { frames := 0, cells := 0, slots := 0, locals := 0 }
def fX5_hasRow (n : Nat) (o : Nat) (a1 : Int32) (a2 : Int32) (f : Mm) : Option (Int32) :=
  if a1 < 0 then (
  some (nI 0)) else (
  if (f o 1) < a1 then (
  some (nI 0)) else (
  if a2 < 0 then (
  some (nI 0)) else (
  if ((f o 1) - a1) < a2 then (
  some (nI 0)) else (
  some (nI 1)))))
set_option maxHeartbeats 4000000 in
set_option maxRecDepth 100000 in
theorem kX5_hasRow {l : Launch} {G : GE} {N : Nat} {f m : Mm} {n : Nat} {o : Nat} {a1 : Int32} {a2 : Int32} {r : Int32} (ho : rg 5 o) (hf : fX5_hasRow n o a1 a2 f = some r) : MT l G yX5_hasRow cX5_hasRow 3 (some .boolean) rmX5_hasRow [.ref (gz G + o), .int a1, .int a2] N f m (some (.int r)) N f m := by
  unfold fX5_hasRow at hf
  refine MT.of (by decide) (Nat.le_of_ble_eq_true rfl) (fun V ls hV hR B hl => ?_)
  have B : CX V G cX5_hasRow 3 "FluxWatch$Sheet" (some .boolean) := B
  have hl : lv_has ls 3 [(0, .ref (gz G + o)), (1, .int a1), (2, .int a2)] := hl
  show WX V G N f m 0 0 (QQ V G (some (.int r)) N f m 0 0) 0 ls []
  refine x_iload_n B dX5_hasRow_0 rfl (lv_at hl 1 rfl) ?_
  refine x_if_lt (tgt := 30) B dX5_hasRow_1 (by decide) (fun h1 => ?_) (fun h1 => ?_)
  · have hf := ip h1 hf
    refine x_iconst (v := (nI 0)) B dX5_hasRow_30 (by decide) ?_
    obtain rfl := rt1 hf
    exact x_zret B (by decide) dX5_hasRow_31
  · have hf := iq h1 hf
    refine x_iload_n B dX5_hasRow_4 rfl (lv_at hl 1 rfl) ?_
    refine x_aload_n B dX5_hasRow_5 rfl (lv_at hl 0 rfl) ?_
    refine y_getFi (C := RX5) (T := TX5) (NN := 3) B (ho.at0 rfl) inX5 rfl (j := 1) (by decide) q_265 rfl rfl dX5_hasRow_6 ?_
    refine x_icmp_gt (tgt := 30) B dX5_hasRow_9 (by decide) (fun h2 => ?_) (fun h2 => ?_)
    · have hf := ip h2 hf
      refine x_iconst (v := (nI 0)) B dX5_hasRow_30 (by decide) ?_
      obtain rfl := rt1 hf
      exact x_zret B (by decide) dX5_hasRow_31
    · have hf := iq h2 hf
      refine x_iload_n B dX5_hasRow_12 rfl (lv_at hl 2 rfl) ?_
      refine x_if_lt (tgt := 30) B dX5_hasRow_13 (by decide) (fun h3 => ?_) (fun h3 => ?_)
      · have hf := ip h3 hf
        refine x_iconst (v := (nI 0)) B dX5_hasRow_30 (by decide) ?_
        obtain rfl := rt1 hf
        exact x_zret B (by decide) dX5_hasRow_31
      · have hf := iq h3 hf
        refine x_iload_n B dX5_hasRow_16 rfl (lv_at hl 2 rfl) ?_
        refine x_aload_n B dX5_hasRow_17 rfl (lv_at hl 0 rfl) ?_
        refine y_getFi (C := RX5) (T := TX5) (NN := 3) B (ho.at0 rfl) inX5 rfl (j := 1) (by decide) q_265 rfl rfl dX5_hasRow_18 ?_
        refine x_iload_n B dX5_hasRow_21 rfl (lv_at hl 1 rfl) ?_
        refine x_isub B dX5_hasRow_22 ?_
        refine x_icmp_gt (tgt := 30) B dX5_hasRow_23 (by decide) (fun h4 => ?_) (fun h4 => ?_)
        · have hf := ip h4 hf
          refine x_iconst (v := (nI 0)) B dX5_hasRow_30 (by decide) ?_
          obtain rfl := rt1 hf
          exact x_zret B (by decide) dX5_hasRow_31
        · have hf := iq h4 hf
          refine x_iconst (v := (nI 1)) B dX5_hasRow_26 (by decide) ?_
          refine x_goto (tgt := 31) B dX5_hasRow_27 (by decide) ?_
          obtain rfl := rt1 hf
          exact x_zret B (by decide) dX5_hasRow_31
def rmX5_isMissing : Room := { frames := 0, cells := 0, slots := 0, locals := 0 }
def fX5_isMissing (n : Nat) (o : Nat) (f : Mm) : Option (Int32) :=
  if (f o 0) = (-1 : Int32) then (
  some (nI 1)) else (
  some (nI 0))
set_option maxHeartbeats 4000000 in
set_option maxRecDepth 100000 in
theorem kX5_isMissing {l : Launch} {G : GE} {N : Nat} {f m : Mm} {n : Nat} {o : Nat} {r : Int32} (ho : rg 5 o) (hf : fX5_isMissing n o f = some r) : MT l G yX5_isMissing cX5_isMissing 1 (some .boolean) rmX5_isMissing [.ref (gz G + o)] N f m (some (.int r)) N f m := by
  unfold fX5_isMissing at hf
  refine MT.of (by decide) (Nat.le_of_ble_eq_true rfl) (fun V ls hV hR B hl => ?_)
  have B : CX V G cX5_isMissing 1 "FluxWatch$Sheet" (some .boolean) := B
  have hl : lv_has ls 1 [(0, .ref (gz G + o))] := hl
  show WX V G N f m 0 0 (QQ V G (some (.int r)) N f m 0 0) 0 ls []
  refine x_aload_n B dX5_isMissing_0 rfl (lv_at hl 0 rfl) ?_
  refine y_getFi (C := RX5) (T := TX5) (NN := 3) B (ho.at0 rfl) inX5 rfl (j := 0) (by decide) q_263 rfl rfl dX5_isMissing_1 ?_
  refine x_iconst (v := (-1 : Int32)) B dX5_isMissing_4 (by decide) ?_
  refine x_icmp_ne (tgt := 12) B dX5_isMissing_5 (by decide) (fun h1 => ?_) (fun h1 => ?_)
  · have hf := ip h1 hf
    refine x_iconst (v := (nI 1)) B dX5_isMissing_8 (by decide) ?_
    refine x_goto (tgt := 13) B dX5_isMissing_9 (by decide) ?_
    obtain rfl := rt1 hf
    exact x_zret B (by decide) dX5_isMissing_13
  · have hf := iq h1 hf
    refine x_iconst (v := (nI 0)) B dX5_isMissing_12 (by decide) ?_
    obtain rfl := rt1 hf
    exact x_zret B (by decide) dX5_isMissing_13
def rmX11_copy : Room := { frames := 1, cells := 0, slots := 0, locals := 68 }
set_option maxHeartbeats 4000000 in
set_option maxRecDepth 100000 in
theorem cw_X11_copy_X11_isSheet : cwB rmX11_copy rmX11_isSheet yX11_isSheet cX11_isSheet 1 (some .boolean) 1 := ⟨q_905, q_45, by decide, by decide⟩
set_option maxHeartbeats 4000000 in
set_option maxRecDepth 100000 in
theorem cw_X11_copy_X5_hasRow : cwB rmX11_copy rmX5_hasRow yX5_hasRow cX5_hasRow 3 (some .boolean) 2 := ⟨q_1032, q_52, by decide, by decide⟩
set_option maxHeartbeats 4000000 in
set_option maxRecDepth 100000 in
theorem cw_X11_copy_X5_isMissing : cwB rmX11_copy rmX5_isMissing yX5_isMissing cX5_isMissing 1 (some .boolean) 0 := ⟨q_909, q_52, by decide, by decide⟩
def fX11_copy (n : Nat) (a1 : Int32) (a2 : Int32) (a3 : Int32) (a4 : Int32) (a5 : Int32) (f : Mm) : Option (Int32 × Mm) :=
  bn (fX11_isSheet n a1) fun r2 =>
  if r2 = 0 then (
  some ((-1000000001 : Int32), f)) else (
  bn (fX11_isSheet n a3) fun r5 =>
  if r5 = 0 then (
  some ((-1000000001 : Int32), f)) else (
  gd (ib a1 4) <|
  gd (ib a3 4) <|
  bn (fX5_isMissing n (73 + 1 + 2 * a1.toNatClampNeg) f) fun r10 =>
  if r10 = 0 then (
  bn (fX5_isMissing n (73 + 1 + 2 * a3.toNatClampNeg) f) fun r13 =>
  if r13 = 0 then (
  if (f (73 + 1 + 2 * a1.toNatClampNeg) 0) = (f (73 + 1 + 2 * a3.toNatClampNeg) 0) then (
  bn (fX5_hasRow n (73 + 1 + 2 * a1.toNatClampNeg) a2 a5 f) fun r17 =>
  if r17 = 0 then (
  some ((-1000000013 : Int32), f)) else (
  bn (fX5_hasRow n (73 + 1 + 2 * a3.toNatClampNeg) a4 a5 f) fun r20 =>
  if r20 = 0 then (
  some ((-1000000013 : Int32), f)) else (
  gd (acb a2 a4 a5 24 24) <|
  lt (cpR f (73 + 1 + 2 * a1.toNatClampNeg + 1) (73 + 1 + 2 * a3.toNatClampNeg + 1) a2 a4 a5) fun f23 =>
  some (a5, f23)))) else (
  some ((-1000000012 : Int32), f))) else (
  some ((-1000000011 : Int32), f))) else (
  some ((-1000000011 : Int32), f))))
set_option maxHeartbeats 4000000 in
set_option maxRecDepth 100000 in
theorem kX11_copy {l : Launch} {G : GE} {N : Nat} {f m : Mm} {n : Nat} {a1 : Int32} {a2 : Int32} {a3 : Int32} {a4 : Int32} {a5 : Int32} {r : Int32} {g : Mm}  (hf : fX11_copy n a1 a2 a3 a4 a5 f = some (r, g)) : MT l G yX11_copy cX11_copy 8 (some .int) rmX11_copy [.ref (gz G + 0), .int a1, .int a2, .int a3, .int a4, .int a5] N f m (some (.int r)) N g m := by
  unfold fX11_copy at hf
  refine MT.of (by decide) (Nat.le_of_ble_eq_true rfl) (fun V ls hV hR B hl => ?_)
  have B : CX V G cX11_copy 8 "FluxWatch" (some .int) := B
  have hl : lv_has ls 8 [(0, .ref (gz G + 0)), (1, .int a1), (2, .int a2), (3, .int a3), (4, .int a4), (5, .int a5)] := hl
  show WX V G N f m 0 0 (QQ V G (some (.int r)) N g m 0 0) 0 ls []
  refine x_iload_n B dX11_copy_0 rfl (lv_at hl 1 rfl) ?_
  obtain ⟨r2, c1, hf⟩ := bn_some hf
  refine x_callS0 (rest := []) B (kX11_isSheet c1) ⟨rfl, rfl⟩ q_903 q_904 (by rw [hR]; exact cw_X11_copy_X11_isSheet) rfl rfl hl.1 (Nat.le_of_ble_eq_true rfl) dX11_copy_1 ⟨Nat.zero_le _, Nat.zero_le _⟩ ?_
  refine x_if_eq (tgt := 14) B dX11_copy_4 (by decide) (fun h3 => ?_) (fun h3 => ?_)
  · have hf := ip h3 hf
    refine x_ldc (v := (-1000000001 : Int32)) B q_432 dX11_copy_14 ?_
    obtain ⟨rfl, rfl⟩ := rt2 hf
    exact x_iret B dX11_copy_16
  · have hf := iq h3 hf
    refine x_iload_n B dX11_copy_7 rfl (lv_at hl 3 rfl) ?_
    obtain ⟨r5, c4, hf⟩ := bn_some hf
    refine x_callS0 (rest := []) B (kX11_isSheet c4) ⟨rfl, rfl⟩ q_903 q_904 (by rw [hR]; exact cw_X11_copy_X11_isSheet) rfl rfl hl.1 (Nat.le_of_ble_eq_true rfl) dX11_copy_8 ⟨Nat.zero_le _, Nat.zero_le _⟩ ?_
    refine x_if_ne (tgt := 17) B dX11_copy_11 (by decide) (fun h6 => ?_) (fun h6 => ?_)
    · have hf := ip h6 hf
      refine x_ldc (v := (-1000000001 : Int32)) B q_432 dX11_copy_14 ?_
      obtain ⟨rfl, rfl⟩ := rt2 hf
      exact x_iret B dX11_copy_16
    · have hf := iq h6 hf
      refine x_aload_n B dX11_copy_17 rfl (lv_at hl 0 rfl) ?_
      refine y_getFs (C := RX11) (T := TX11) (NN := 10) (d := 73) B (rg_11_0.at0 rfl) inX11 rfl (j := 4) (by decide) q_392 rfl rfl (by decide) dX11_copy_18 ?_
      refine x_iload_n B dX11_copy_21 rfl (lv_at hl 1 rfl) ?_
      obtain ⟨h7, hf⟩ := gd_some hf
      refine x_aaldS B (rg_11_0.at 73 rfl) h7 dX11_copy_22 ?_
      refine x_astore (lv' := [(6, .ref (gz G + (73 + 1 + 2 * a1.toNatClampNeg))), (0, .ref (gz G + 0)), (1, .int a1), (2, .int a2), (3, .int a3), (4, .int a4), (5, .int a5)]) B dX11_copy_23 hl (by decide) rfl (fun ls hl => ?_)
      refine x_aload_n B dX11_copy_25 rfl (lv_at hl 1 rfl) ?_
      refine y_getFs (C := RX11) (T := TX11) (NN := 10) (d := 73) B (rg_11_0.at0 rfl) inX11 rfl (j := 4) (by decide) q_392 rfl rfl (by decide) dX11_copy_26 ?_
      refine x_iload_n B dX11_copy_29 rfl (lv_at hl 4 rfl) ?_
      obtain ⟨h8, hf⟩ := gd_some hf
      refine x_aaldS B (rg_11_0.at 73 rfl) h8 dX11_copy_30 ?_
      refine x_astore (lv' := [(7, .ref (gz G + (73 + 1 + 2 * a3.toNatClampNeg))), (6, .ref (gz G + (73 + 1 + 2 * a1.toNatClampNeg))), (0, .ref (gz G + 0)), (1, .int a1), (2, .int a2), (3, .int a3), (4, .int a4), (5, .int a5)]) B dX11_copy_31 hl (by decide) rfl (fun ls hl => ?_)
      refine x_aload B dX11_copy_33 (lv_at hl 1 rfl) ?_
      obtain ⟨r10, c9, hf⟩ := bn_some hf
      refine x_callV0 (rest := []) B (kX5_isMissing (rg_she h7) c9) ⟨rfl, rfl⟩ ((rg_she h7).at0 (N := N) rfl).lt ((rg_she h7).at0 (N := N) rfl).2 rfl (by decide) q_906 q_907 q_908 (by rw [hR]; exact cw_X11_copy_X5_isMissing) rfl rfl hl.1 (Nat.le_of_ble_eq_true rfl) dX11_copy_35 ⟨Nat.zero_le _, Nat.zero_le _⟩ ?_
      refine x_if_ne (tgt := 49) B dX11_copy_38 (by decide) (fun h11 => ?_) (fun h11 => ?_)
      · have hf := ip h11 hf
        refine x_aload B dX11_copy_41 (lv_at hl 0 rfl) ?_
        obtain ⟨r13, c12, hf⟩ := bn_some hf
        refine x_callV0 (rest := []) B (kX5_isMissing (rg_she h8) c12) ⟨rfl, rfl⟩ ((rg_she h8).at0 (N := N) rfl).lt ((rg_she h8).at0 (N := N) rfl).2 rfl (by decide) q_906 q_907 q_908 (by rw [hR]; exact cw_X11_copy_X5_isMissing) rfl rfl hl.1 (Nat.le_of_ble_eq_true rfl) dX11_copy_43 ⟨Nat.zero_le _, Nat.zero_le _⟩ ?_
        refine x_if_eq (tgt := 53) B dX11_copy_46 (by decide) (fun h14 => ?_) (fun h14 => ?_)
        · have hf := ip h14 hf
          refine x_aload B dX11_copy_53 (lv_at hl 1 rfl) ?_
          refine y_getFi (C := RX5) (T := TX5) (NN := 3) B ((rg_she h7).at0 rfl) inX5 rfl (j := 0) (by decide) q_264 rfl rfl dX11_copy_55 ?_
          refine x_aload B dX11_copy_58 (lv_at hl 0 rfl) ?_
          refine y_getFi (C := RX5) (T := TX5) (NN := 3) B ((rg_she h8).at0 rfl) inX5 rfl (j := 0) (by decide) q_264 rfl rfl dX11_copy_60 ?_
          refine x_icmp_eq (tgt := 69) B dX11_copy_63 (by decide) (fun h15 => ?_) (fun h15 => ?_)
          · have hf := ip h15 hf
            refine x_aload B dX11_copy_69 (lv_at hl 1 rfl) ?_
            refine x_iload_n B dX11_copy_71 rfl (lv_at hl 4 rfl) ?_
            refine x_iload B dX11_copy_72 (lv_at hl 7 rfl) ?_
            obtain ⟨r17, c16, hf⟩ := bn_some hf
            refine x_callV0 (rest := []) B (kX5_hasRow (rg_she h7) c16) ⟨rfl, rfl⟩ ((rg_she h7).at0 (N := N) rfl).lt ((rg_she h7).at0 (N := N) rfl).2 rfl (by decide) q_1029 q_1030 q_1031 (by rw [hR]; exact cw_X11_copy_X5_hasRow) rfl rfl hl.1 (Nat.le_of_ble_eq_true rfl) dX11_copy_74 ⟨Nat.zero_le _, Nat.zero_le _⟩ ?_
            refine x_if_eq (tgt := 92) B dX11_copy_77 (by decide) (fun h18 => ?_) (fun h18 => ?_)
            · have hf := ip h18 hf
              refine x_ldc_w (v := (-1000000013 : Int32)) B q_1018 dX11_copy_92 ?_
              obtain ⟨rfl, rfl⟩ := rt2 hf
              exact x_iret B dX11_copy_95
            · have hf := iq h18 hf
              refine x_aload B dX11_copy_80 (lv_at hl 0 rfl) ?_
              refine x_iload B dX11_copy_82 (lv_at hl 6 rfl) ?_
              refine x_iload B dX11_copy_84 (lv_at hl 7 rfl) ?_
              obtain ⟨r20, c19, hf⟩ := bn_some hf
              refine x_callV0 (rest := []) B (kX5_hasRow (rg_she h8) c19) ⟨rfl, rfl⟩ ((rg_she h8).at0 (N := N) rfl).lt ((rg_she h8).at0 (N := N) rfl).2 rfl (by decide) q_1029 q_1030 q_1031 (by rw [hR]; exact cw_X11_copy_X5_hasRow) rfl rfl hl.1 (Nat.le_of_ble_eq_true rfl) dX11_copy_86 ⟨Nat.zero_le _, Nat.zero_le _⟩ ?_
              refine x_if_ne (tgt := 96) B dX11_copy_89 (by decide) (fun h21 => ?_) (fun h21 => ?_)
              · have hf := ip h21 hf
                refine x_ldc_w (v := (-1000000013 : Int32)) B q_1018 dX11_copy_92 ?_
                obtain ⟨rfl, rfl⟩ := rt2 hf
                exact x_iret B dX11_copy_95
              · have hf := iq h21 hf
                refine x_aload B dX11_copy_96 (lv_at hl 1 rfl) ?_
                refine y_getFs (C := RX5) (T := TX5) (NN := 3) (d := 1) B ((rg_she h7).at0 rfl) inX5 rfl (j := 2) (by decide) q_268 rfl rfl (by decide) dX11_copy_98 ?_
                refine x_iload_n B dX11_copy_101 rfl (lv_at hl 4 rfl) ?_
                refine x_aload B dX11_copy_102 (lv_at hl 0 rfl) ?_
                refine y_getFs (C := RX5) (T := TX5) (NN := 3) (d := 1) B ((rg_she h8).at0 rfl) inX5 rfl (j := 2) (by decide) q_268 rfl rfl (by decide) dX11_copy_104 ?_
                refine x_iload B dX11_copy_107 (lv_at hl 6 rfl) ?_
                refine x_iload B dX11_copy_109 (lv_at hl 7 rfl) ?_
                obtain ⟨h22, hf⟩ := gd_some hf
                refine x_copyF B ((rg_she h7).at 1 rfl) ((rg_she h8).at 1 rfl) h22 q_1033 q_580 q_579 q_58 hl.1 (by rw [hR]; decide) (by rw [hR]; decide) (Nat.le_of_ble_eq_true rfl) dX11_copy_111 (fun f23 e24 => ?_)
                have hf := lt_some hf e24
                refine x_iload B dX11_copy_114 (lv_at hl 7 rfl) ?_
                obtain ⟨rfl, rfl⟩ := rt2 hf
                exact x_iret B dX11_copy_116
          · have hf := iq h15 hf
            refine x_ldc (v := (-1000000012 : Int32)) B q_565 dX11_copy_66 ?_
            obtain ⟨rfl, rfl⟩ := rt2 hf
            exact x_iret B dX11_copy_68
        · have hf := iq h14 hf
          refine x_ldc_w (v := (-1000000011 : Int32)) B q_910 dX11_copy_49 ?_
          obtain ⟨rfl, rfl⟩ := rt2 hf
          exact x_iret B dX11_copy_52
      · have hf := iq h11 hf
        refine x_ldc_w (v := (-1000000011 : Int32)) B q_910 dX11_copy_49 ?_
        obtain ⟨rfl, rfl⟩ := rt2 hf
        exact x_iret B dX11_copy_52
def rmX1_pairs : Room := { frames := 0, cells := 0, slots := 0, locals := 0 }
def fX1_pairs_26 (n : Nat) (o : Nat) (k4 : Int32 → Int32 → Mm → Option (Int32)) (x1 : Int32) (x2 : Int32) (f : Mm) : Option (Int32) :=
  k4 x1 (x2 + (nI 1)) f
set_option maxHeartbeats 4000000 in
set_option maxRecDepth 100000 in
theorem fX1_pairs_26_ok {V : VE} {G : GE} {N : Nat} {f m : Mm} {n : Nat} {ls : Array Slot} {o : Nat} {r : Int32} (B : CX V G cX1_pairs 3 "FluxWatch$Coils" (some .int)) (hR : V.2.2.2.1 = rmX1_pairs) (ho : rg 1 o) {k4 : Int32 → Int32 → Mm → Option (Int32)} (hk4 : ∀ (x1 : Int32) (x2 : Int32) (mm : Mm) (ls : Array Slot),  lv_has ls 3 [(0, .ref (gz G + o)), (1, .int x1), (2, .int x2)] → k4 x1 x2 mm = some r → WX V G N mm m 0 0 (QQ V G (some (.int r)) N mm m 0 0) 4 ls []) {x1 : Int32} {x2 : Int32}  (hl : lv_has ls 3 [(0, .ref (gz G + o)), (1, .int x1), (2, .int x2)]) (hf : fX1_pairs_26 n o k4 x1 x2 f = some r) : WX V G N f m 0 0 (QQ V G (some (.int r)) N f m 0 0) 26 ls [] := by
  unfold fX1_pairs_26 at hf
  refine x_iinc (k := 2) (v := (nI 1)) (lv' := [(2, .int (x2 + (nI 1))), (0, .ref (gz G + o)), (1, .int x1)]) B dX1_pairs_26 hl rfl (by decide) (by decide) rfl (fun ls hl => ?_)
  refine x_goto (tgt := 4) B dX1_pairs_29 (by decide) ?_
  exact hk4 _ _ _ _ (lv_sub hl [1, 2, 0] rfl) hf
def fX1_pairs_4 (n : Nat) (o : Nat)  (k4 : Int32 → Int32 → Mm → Option (Int32)) (x1 : Int32) (x2 : Int32) (f : Mm) : Option (Int32) :=
  if (f o 3) ≤ x2 then (
  some (x1 / (nI 2))) else (
  gd (ib x2 6) <|
  if (f (o + 3) x2.toNatClampNeg) = (-1000000005 : Int32) then (
  fX1_pairs_26 n o k4 x1 x2 f) else (
  fX1_pairs_26 n o k4 (x1 + (nI 1)) x2 f))
def fX1_pairs_4L (n : Nat) (o : Nat)  : Nat → Int32 → Int32 → Mm → Option (Int32)
  | 0 => fun _ _ _ => none
  | q + 1 => fX1_pairs_4 n o  (fX1_pairs_4L n o  q)
set_option maxHeartbeats 4000000 in
set_option maxRecDepth 100000 in
theorem fX1_pairs_4_ok {V : VE} {G : GE} {N : Nat} {f m : Mm} {n : Nat} {ls : Array Slot} {o : Nat} {r : Int32} (B : CX V G cX1_pairs 3 "FluxWatch$Coils" (some .int)) (hR : V.2.2.2.1 = rmX1_pairs) (ho : rg 1 o)  {k4 : Int32 → Int32 → Mm → Option (Int32)} (hk4 : ∀ (x1 : Int32) (x2 : Int32) (mm : Mm) (ls : Array Slot),  lv_has ls 3 [(0, .ref (gz G + o)), (1, .int x1), (2, .int x2)] → k4 x1 x2 mm = some r → WX V G N mm m 0 0 (QQ V G (some (.int r)) N mm m 0 0) 4 ls []) {x1 : Int32} {x2 : Int32}  (hl : lv_has ls 3 [(0, .ref (gz G + o)), (1, .int x1), (2, .int x2)]) (hf : fX1_pairs_4 n o k4 x1 x2 f = some r) : WX V G N f m 0 0 (QQ V G (some (.int r)) N f m 0 0) 4 ls [] := by
  unfold fX1_pairs_4 at hf
  refine x_iload_n B dX1_pairs_4 rfl (lv_at hl 2 rfl) ?_
  refine x_aload_n B dX1_pairs_5 rfl (lv_at hl 0 rfl) ?_
  refine y_getFi (C := RX1) (T := TX1) (NN := 4) B (ho.at0 rfl) inX1 rfl (j := 3) (by decide) q_95 rfl rfl dX1_pairs_6 ?_
  refine x_icmp_ge (tgt := 32) B dX1_pairs_9 (by decide) (fun h1 => ?_) (fun h1 => ?_)
  · have hf := ip h1 hf
    refine x_iload_n B dX1_pairs_32 rfl (lv_at hl 1 rfl) ?_
    refine x_iconst (v := (nI 2)) B dX1_pairs_33 (by decide) ?_
    refine x_idiv B dX1_pairs_34 (by decide) ?_
    obtain rfl := rt1 hf
    exact x_iret B dX1_pairs_35
  · have hf := iq h1 hf
    refine x_aload_n B dX1_pairs_12 rfl (lv_at hl 0 rfl) ?_
    refine y_getFs (C := RX1) (T := TX1) (NN := 4) (d := 3) B (ho.at0 rfl) inX1 rfl (j := 2) (by decide) q_92 rfl rfl (by decide) dX1_pairs_13 ?_
    refine x_iload_n B dX1_pairs_16 rfl (lv_at hl 2 rfl) ?_
    obtain ⟨h2, hf⟩ := gd_some hf
    refine x_ialdF B (ho.at 3 rfl) h2 dX1_pairs_17 ?_
    refine x_ldc (v := (-1000000005 : Int32)) B q_431 dX1_pairs_18 ?_
    refine x_icmp_eq (tgt := 26) B dX1_pairs_20 (by decide) (fun h3 => ?_) (fun h3 => ?_)
    · have hf := ip h3 hf
      exact fX1_pairs_26_ok B hR ho hk4 hl hf
    · have hf := iq h3 hf
      refine x_iinc (k := 1) (v := (nI 1)) (lv' := [(1, .int (x1 + (nI 1))), (0, .ref (gz G + o)), (2, .int x2)]) B dX1_pairs_23 hl rfl (by decide) (by decide) rfl (fun ls hl => ?_)
      exact fX1_pairs_26_ok B hR ho hk4 (lv_sub hl [1, 0, 2] rfl) hf
set_option maxHeartbeats 4000000 in
set_option maxRecDepth 100000 in
theorem fX1_pairs_4L_ok {V : VE} {G : GE} {N : Nat} {m : Mm} {n : Nat}  {o : Nat} {r : Int32} (B : CX V G cX1_pairs 3 "FluxWatch$Coils" (some .int)) (hR : V.2.2.2.1 = rmX1_pairs) (ho : rg 1 o)  : ∀ (q : Nat) (x1 : Int32) (x2 : Int32) (mm : Mm) (ls : Array Slot),  lv_has ls 3 [(0, .ref (gz G + o)), (1, .int x1), (2, .int x2)] → fX1_pairs_4L n o q x1 x2 mm = some r → WX V G N mm m 0 0 (QQ V G (some (.int r)) N mm m 0 0) 4 ls [] := by
  intro q
  induction q with
  | zero =>
    intro x1 x2 mm ls hl hf
    cases hf
  | succ q ih =>
    intro x1 x2 mm ls hl hf
    exact fX1_pairs_4_ok B hR ho  ih  hl hf
def fX1_pairs (n : Nat) (o : Nat) (f : Mm) : Option (Int32) :=
  fX1_pairs_4L n o n (nI 0) (nI 0) f
set_option maxHeartbeats 4000000 in
set_option maxRecDepth 100000 in
theorem kX1_pairs {l : Launch} {G : GE} {N : Nat} {f m : Mm} {n : Nat} {o : Nat} {r : Int32} (ho : rg 1 o) (hf : fX1_pairs n o f = some r) : MT l G yX1_pairs cX1_pairs 3 (some .int) rmX1_pairs [.ref (gz G + o)] N f m (some (.int r)) N f m := by
  unfold fX1_pairs at hf
  refine MT.of (by decide) (Nat.le_of_ble_eq_true rfl) (fun V ls hV hR B hl => ?_)
  have B : CX V G cX1_pairs 3 "FluxWatch$Coils" (some .int) := B
  have hl : lv_has ls 3 [(0, .ref (gz G + o))] := hl
  show WX V G N f m 0 0 (QQ V G (some (.int r)) N f m 0 0) 0 ls []
  refine x_iconst (v := (nI 0)) B dX1_pairs_0 (by decide) ?_
  refine x_istore_n (lv' := [(1, .int (nI 0)), (0, .ref (gz G + o))]) B dX1_pairs_1 rfl hl (by decide) rfl (fun ls hl => ?_)
  refine x_iconst (v := (nI 0)) B dX1_pairs_2 (by decide) ?_
  refine x_istore_n (lv' := [(2, .int (nI 0)), (1, .int (nI 0)), (0, .ref (gz G + o))]) B dX1_pairs_3 rfl hl (by decide) rfl (fun ls hl => ?_)
  exact fX1_pairs_4L_ok B hR ho  n _ _ _ _ (lv_sub hl [2, 1, 0] rfl) hf
def rmX11_count : Room := { frames := 1, cells := 0, slots := 0, locals := 22 }
set_option maxHeartbeats 4000000 in
set_option maxRecDepth 100000 in
theorem cw_X11_count_X1_pairs : cwB rmX11_count rmX1_pairs yX1_pairs cX1_pairs 3 (some .int) 0 := ⟨q_1105, q_47, by decide, by decide⟩
def fX11_count (n : Nat) (a1 : Int32) (f : Mm) : Option (Int32) :=
  if a1 = (nI 0) then (
  some (f 2 3)) else (
  if a1 = (nI 1) then (
  some (f 6 4)) else (
  if a1 = (nI 2) then (
  some (f 10 4)) else (
  if a1 = (nI 3) then (
  some (f 1 10)) else (
  if a1 = (nI 4) then (
  some (f 1 13)) else (
  if a1 = (nI 5) then (
  some (f 18 4)) else (
  if a1 = (nI 6) then (
  some (f 22 2)) else (
  if a1 = (nI 7) then (
  bn (fX1_pairs n 2 f) fun r10 =>
  some r10) else (
  if a1 = (nI 8) then (
  some (f 1 1)) else (
  if a1 = (nI 9) then (
  some (f 1 0)) else (
  if a1 = (nI 10) then (
  some (f 0 7)) else (
  if a1 = (nI 11) then (
  some (f 100 1)) else (
  if a1 = (nI 12) then (
  some (f 1 5)) else (
  some (-1000000001 : Int32))))))))))))))
set_option maxHeartbeats 4000000 in
set_option maxRecDepth 100000 in
theorem kX11_count {l : Launch} {G : GE} {N : Nat} {f m : Mm} {n : Nat} {a1 : Int32} {r : Int32}  (hf : fX11_count n a1 f = some r) : MT l G yX11_count cX11_count 2 (some .int) rmX11_count [.ref (gz G + 0), .int a1] N f m (some (.int r)) N f m := by
  unfold fX11_count at hf
  refine MT.of (by decide) (Nat.le_of_ble_eq_true rfl) (fun V ls hV hR B hl => ?_)
  have B : CX V G cX11_count 2 "FluxWatch" (some .int) := B
  have hl : lv_has ls 2 [(0, .ref (gz G + 0)), (1, .int a1)] := hl
  show WX V G N f m 0 0 (QQ V G (some (.int r)) N f m 0 0) 0 ls []
  refine x_iload_n B dX11_count_0 rfl (lv_at hl 1 rfl) ?_
  by_cases h1 : a1 = (nI 0)
  · have hf := ip h1 hf
    refine x_tabIn (a := 0) (tgt := 68) B dX11_count_1 (by rw [h1]; rfl) (by decide) (by decide) rfl (by decide) ?_
    refine x_aload_n B dX11_count_68 rfl (lv_at hl 0 rfl) ?_
    refine y_getFs (C := RX11) (T := TX11) (NN := 10) (d := 1) B (rg_11_0.at0 rfl) inX11 rfl (j := 0) (by decide) q_388 rfl rfl (by decide) dX11_count_69 ?_
    refine y_getFs (C := RX10) (T := TX10) (NN := 16) (d := 1) B (rg_10_1.at0 rfl) inX10 rfl (j := 6) (by decide) q_204 rfl rfl (by decide) dX11_count_72 ?_
    refine y_getFi (C := RX1) (T := TX1) (NN := 4) B (rg_1_2.at0 rfl) inX1 rfl (j := 3) (by decide) q_96 rfl rfl dX11_count_75 ?_
    obtain rfl := rt1 hf
    exact x_iret B dX11_count_78
  · have hf := iq h1 hf
    by_cases h2 : a1 = (nI 1)
    · have hf := ip h2 hf
      refine x_tabIn (a := 1) (tgt := 79) B dX11_count_1 (by rw [h2]; rfl) (by decide) (by decide) rfl (by decide) ?_
      refine x_aload_n B dX11_count_79 rfl (lv_at hl 0 rfl) ?_
      refine y_getFs (C := RX11) (T := TX11) (NN := 10) (d := 1) B (rg_11_0.at0 rfl) inX11 rfl (j := 0) (by decide) q_388 rfl rfl (by decide) dX11_count_80 ?_
      refine y_getFs (C := RX10) (T := TX10) (NN := 16) (d := 5) B (rg_10_1.at0 rfl) inX10 rfl (j := 7) (by decide) q_206 rfl rfl (by decide) dX11_count_83 ?_
      refine y_getFi (C := RX7) (T := TX7) (NN := 5) B (rg_7_6.at0 rfl) inX7 rfl (j := 4) (by decide) q_121 rfl rfl dX11_count_86 ?_
      obtain rfl := rt1 hf
      exact x_iret B dX11_count_89
    · have hf := iq h2 hf
      by_cases h3 : a1 = (nI 2)
      · have hf := ip h3 hf
        refine x_tabIn (a := 2) (tgt := 90) B dX11_count_1 (by rw [h3]; rfl) (by decide) (by decide) rfl (by decide) ?_
        refine x_aload_n B dX11_count_90 rfl (lv_at hl 0 rfl) ?_
        refine y_getFs (C := RX11) (T := TX11) (NN := 10) (d := 1) B (rg_11_0.at0 rfl) inX11 rfl (j := 0) (by decide) q_388 rfl rfl (by decide) dX11_count_91 ?_
        refine y_getFs (C := RX10) (T := TX10) (NN := 16) (d := 9) B (rg_10_1.at0 rfl) inX10 rfl (j := 8) (by decide) q_208 rfl rfl (by decide) dX11_count_94 ?_
        refine y_getFi (C := RX8) (T := TX8) (NN := 5) B (rg_8_10.at0 rfl) inX8 rfl (j := 4) (by decide) q_153 rfl rfl dX11_count_97 ?_
        obtain rfl := rt1 hf
        exact x_iret B dX11_count_100
      · have hf := iq h3 hf
        by_cases h4 : a1 = (nI 3)
        · have hf := ip h4 hf
          refine x_tabIn (a := 3) (tgt := 101) B dX11_count_1 (by rw [h4]; rfl) (by decide) (by decide) rfl (by decide) ?_
          refine x_aload_n B dX11_count_101 rfl (lv_at hl 0 rfl) ?_
          refine y_getFs (C := RX11) (T := TX11) (NN := 10) (d := 1) B (rg_11_0.at0 rfl) inX11 rfl (j := 0) (by decide) q_388 rfl rfl (by decide) dX11_count_102 ?_
          refine y_getFi (C := RX10) (T := TX10) (NN := 16) B (rg_10_1.at0 rfl) inX10 rfl (j := 10) (by decide) q_212 rfl rfl dX11_count_105 ?_
          obtain rfl := rt1 hf
          exact x_iret B dX11_count_108
        · have hf := iq h4 hf
          by_cases h5 : a1 = (nI 4)
          · have hf := ip h5 hf
            refine x_tabIn (a := 4) (tgt := 109) B dX11_count_1 (by rw [h5]; rfl) (by decide) (by decide) rfl (by decide) ?_
            refine x_aload_n B dX11_count_109 rfl (lv_at hl 0 rfl) ?_
            refine y_getFs (C := RX11) (T := TX11) (NN := 10) (d := 1) B (rg_11_0.at0 rfl) inX11 rfl (j := 0) (by decide) q_388 rfl rfl (by decide) dX11_count_110 ?_
            refine y_getFi (C := RX10) (T := TX10) (NN := 16) B (rg_10_1.at0 rfl) inX10 rfl (j := 13) (by decide) q_217 rfl rfl dX11_count_113 ?_
            obtain rfl := rt1 hf
            exact x_iret B dX11_count_116
          · have hf := iq h5 hf
            by_cases h6 : a1 = (nI 5)
            · have hf := ip h6 hf
              refine x_tabIn (a := 5) (tgt := 117) B dX11_count_1 (by rw [h6]; rfl) (by decide) (by decide) rfl (by decide) ?_
              refine x_aload_n B dX11_count_117 rfl (lv_at hl 0 rfl) ?_
              refine y_getFs (C := RX11) (T := TX11) (NN := 10) (d := 1) B (rg_11_0.at0 rfl) inX11 rfl (j := 0) (by decide) q_388 rfl rfl (by decide) dX11_count_118 ?_
              refine y_getFs (C := RX10) (T := TX10) (NN := 16) (d := 17) B (rg_10_1.at0 rfl) inX10 rfl (j := 14) (by decide) q_219 rfl rfl (by decide) dX11_count_121 ?_
              refine y_getFi (C := RX7) (T := TX7) (NN := 5) B (rg_7_18.at0 rfl) inX7 rfl (j := 4) (by decide) q_121 rfl rfl dX11_count_124 ?_
              obtain rfl := rt1 hf
              exact x_iret B dX11_count_127
            · have hf := iq h6 hf
              by_cases h7 : a1 = (nI 6)
              · have hf := ip h7 hf
                refine x_tabIn (a := 6) (tgt := 128) B dX11_count_1 (by rw [h7]; rfl) (by decide) (by decide) rfl (by decide) ?_
                refine x_aload_n B dX11_count_128 rfl (lv_at hl 0 rfl) ?_
                refine y_getFs (C := RX11) (T := TX11) (NN := 10) (d := 1) B (rg_11_0.at0 rfl) inX11 rfl (j := 0) (by decide) q_388 rfl rfl (by decide) dX11_count_129 ?_
                refine y_getFs (C := RX10) (T := TX10) (NN := 16) (d := 21) B (rg_10_1.at0 rfl) inX10 rfl (j := 15) (by decide) q_222 rfl rfl (by decide) dX11_count_132 ?_
                refine y_getFi (C := RX4) (T := TX4) (NN := 3) B (rg_4_22.at0 rfl) inX4 rfl (j := 2) (by decide) q_180 rfl rfl dX11_count_135 ?_
                obtain rfl := rt1 hf
                exact x_iret B dX11_count_138
              · have hf := iq h7 hf
                by_cases h8 : a1 = (nI 7)
                · have hf := ip h8 hf
                  refine x_tabIn (a := 7) (tgt := 139) B dX11_count_1 (by rw [h8]; rfl) (by decide) (by decide) rfl (by decide) ?_
                  refine x_aload_n B dX11_count_139 rfl (lv_at hl 0 rfl) ?_
                  refine y_getFs (C := RX11) (T := TX11) (NN := 10) (d := 1) B (rg_11_0.at0 rfl) inX11 rfl (j := 0) (by decide) q_388 rfl rfl (by decide) dX11_count_140 ?_
                  refine y_getFs (C := RX10) (T := TX10) (NN := 16) (d := 1) B (rg_10_1.at0 rfl) inX10 rfl (j := 6) (by decide) q_204 rfl rfl (by decide) dX11_count_143 ?_
                  obtain ⟨r10, c9, hf⟩ := bn_some hf
                  refine x_callV0 (rest := []) B (kX1_pairs rg_1_2 c9) ⟨rfl, rfl⟩ (rg_1_2.at0 (N := N) rfl).lt (rg_1_2.at0 (N := N) rfl).2 rfl (by decide) q_1102 q_1103 q_1104 (by rw [hR]; exact cw_X11_count_X1_pairs) rfl rfl hl.1 (Nat.le_of_ble_eq_true rfl) dX11_count_146 ⟨Nat.zero_le _, Nat.zero_le _⟩ ?_
                  obtain rfl := rt1 hf
                  exact x_iret B dX11_count_149
                · have hf := iq h8 hf
                  by_cases h11 : a1 = (nI 8)
                  · have hf := ip h11 hf
                    refine x_tabIn (a := 8) (tgt := 150) B dX11_count_1 (by rw [h11]; rfl) (by decide) (by decide) rfl (by decide) ?_
                    refine x_aload_n B dX11_count_150 rfl (lv_at hl 0 rfl) ?_
                    refine y_getFs (C := RX11) (T := TX11) (NN := 10) (d := 1) B (rg_11_0.at0 rfl) inX11 rfl (j := 0) (by decide) q_388 rfl rfl (by decide) dX11_count_151 ?_
                    refine y_getFi (C := RX10) (T := TX10) (NN := 16) B (rg_10_1.at0 rfl) inX10 rfl (j := 1) (by decide) q_193 rfl rfl dX11_count_154 ?_
                    obtain rfl := rt1 hf
                    exact x_iret B dX11_count_157
                  · have hf := iq h11 hf
                    by_cases h12 : a1 = (nI 9)
                    · have hf := ip h12 hf
                      refine x_tabIn (a := 9) (tgt := 158) B dX11_count_1 (by rw [h12]; rfl) (by decide) (by decide) rfl (by decide) ?_
                      refine x_aload_n B dX11_count_158 rfl (lv_at hl 0 rfl) ?_
                      refine y_getFs (C := RX11) (T := TX11) (NN := 10) (d := 1) B (rg_11_0.at0 rfl) inX11 rfl (j := 0) (by decide) q_388 rfl rfl (by decide) dX11_count_159 ?_
                      refine y_getFi (C := RX10) (T := TX10) (NN := 16) B (rg_10_1.at0 rfl) inX10 rfl (j := 0) (by decide) q_189 rfl rfl dX11_count_162 ?_
                      obtain rfl := rt1 hf
                      exact x_iret B dX11_count_165
                    · have hf := iq h12 hf
                      by_cases h13 : a1 = (nI 10)
                      · have hf := ip h13 hf
                        refine x_tabIn (a := 10) (tgt := 166) B dX11_count_1 (by rw [h13]; rfl) (by decide) (by decide) rfl (by decide) ?_
                        refine x_aload_n B dX11_count_166 rfl (lv_at hl 0 rfl) ?_
                        refine y_getFi (C := RX11) (T := TX11) (NN := 10) B (rg_11_0.at0 rfl) inX11 rfl (j := 7) (by decide) q_395 rfl rfl dX11_count_167 ?_
                        obtain rfl := rt1 hf
                        exact x_iret B dX11_count_170
                      · have hf := iq h13 hf
                        by_cases h14 : a1 = (nI 11)
                        · have hf := ip h14 hf
                          refine x_tabIn (a := 11) (tgt := 171) B dX11_count_1 (by rw [h14]; rfl) (by decide) (by decide) rfl (by decide) ?_
                          refine x_aload_n B dX11_count_171 rfl (lv_at hl 0 rfl) ?_
                          refine y_getFs (C := RX11) (T := TX11) (NN := 10) (d := 99) B (rg_11_0.at0 rfl) inX11 rfl (j := 8) (by decide) q_396 rfl rfl (by decide) dX11_count_172 ?_
                          refine y_getFs (C := RX3) (T := TX3) (NN := 5) (d := 1) B (rg_3_99.at0 rfl) inX3 rfl (j := 0) (by decide) q_339 rfl rfl (by decide) dX11_count_175 ?_
                          refine y_getFi (C := RX9) (T := TX9) (NN := 6) B (rg_9_100.at0 rfl) inX9 rfl (j := 1) (by decide) q_317 rfl rfl dX11_count_178 ?_
                          obtain rfl := rt1 hf
                          exact x_iret B dX11_count_181
                        · have hf := iq h14 hf
                          by_cases h15 : a1 = (nI 12)
                          · have hf := ip h15 hf
                            refine x_tabIn (a := 12) (tgt := 182) B dX11_count_1 (by rw [h15]; rfl) (by decide) (by decide) rfl (by decide) ?_
                            refine x_aload_n B dX11_count_182 rfl (lv_at hl 0 rfl) ?_
                            refine y_getFs (C := RX11) (T := TX11) (NN := 10) (d := 1) B (rg_11_0.at0 rfl) inX11 rfl (j := 0) (by decide) q_388 rfl rfl (by decide) dX11_count_183 ?_
                            refine y_getFi (C := RX10) (T := TX10) (NN := 16) B (rg_10_1.at0 rfl) inX10 rfl (j := 5) (by decide) q_202 rfl rfl dX11_count_186 ?_
                            obtain rfl := rt1 hf
                            exact x_iret B dX11_count_189
                          · have hf := iq h15 hf
                            have h1t := lv_neT h1 (show ((nI 0)).toInt = 0 from rfl)
                            have h2t := lv_neT h2 (show ((nI 1)).toInt = 1 from rfl)
                            have h3t := lv_neT h3 (show ((nI 2)).toInt = 2 from rfl)
                            have h4t := lv_neT h4 (show ((nI 3)).toInt = 3 from rfl)
                            have h5t := lv_neT h5 (show ((nI 4)).toInt = 4 from rfl)
                            have h6t := lv_neT h6 (show ((nI 5)).toInt = 5 from rfl)
                            have h7t := lv_neT h7 (show ((nI 6)).toInt = 6 from rfl)
                            have h8t := lv_neT h8 (show ((nI 7)).toInt = 7 from rfl)
                            have h11t := lv_neT h11 (show ((nI 8)).toInt = 8 from rfl)
                            have h12t := lv_neT h12 (show ((nI 9)).toInt = 9 from rfl)
                            have h13t := lv_neT h13 (show ((nI 10)).toInt = 10 from rfl)
                            have h14t := lv_neT h14 (show ((nI 11)).toInt = 11 from rfl)
                            have h15t := lv_neT h15 (show ((nI 12)).toInt = 12 from rfl)
                            refine x_tabOut (tgt := 190) B dX11_count_1 (by omega) (by decide) ?_
                            refine x_ldc (v := (-1000000001 : Int32)) B q_432 dX11_count_190 ?_
                            obtain rfl := rt1 hf
                            exact x_iret B dX11_count_192
def rmX11_creep : Room := { frames := 1, cells := 0, slots := 0, locals := 21 }
set_option maxHeartbeats 4000000 in
set_option maxRecDepth 100000 in
theorem cw_X11_creep_X1_has : cwB rmX11_creep rmX1_has yX1_has cX1_has 2 (some .boolean) 1 := ⟨q_440, q_47, by decide, by decide⟩
def fX11_creep (n : Nat) (a1 : Int32) (a2 : Int32) (f : Mm) : Option (Int32 × Mm) :=
  bn (fX1_has n 2 a1 f) fun r2 =>
  if r2 = 0 then (
  some ((-1000000001 : Int32), f)) else (
  if a2 < (-9 : Int32) then (
  some ((-1000000001 : Int32), f)) else (
  if a2 ≤ (nI 9) then (
  gd (ib a1 6) <|
  gd (ib a1 6) <|
  lt (up f 4 a1.toNatClampNeg a2) fun f8 =>
  some (f 4 a1.toNatClampNeg, f8)) else (
  some ((-1000000001 : Int32), f))))
set_option maxHeartbeats 4000000 in
set_option maxRecDepth 100000 in
theorem kX11_creep {l : Launch} {G : GE} {N : Nat} {f m : Mm} {n : Nat} {a1 : Int32} {a2 : Int32} {r : Int32} {g : Mm}  (hf : fX11_creep n a1 a2 f = some (r, g)) : MT l G yX11_creep cX11_creep 4 (some .int) rmX11_creep [.ref (gz G + 0), .int a1, .int a2] N f m (some (.int r)) N g m := by
  unfold fX11_creep at hf
  refine MT.of (by decide) (Nat.le_of_ble_eq_true rfl) (fun V ls hV hR B hl => ?_)
  have B : CX V G cX11_creep 4 "FluxWatch" (some .int) := B
  have hl : lv_has ls 4 [(0, .ref (gz G + 0)), (1, .int a1), (2, .int a2)] := hl
  show WX V G N f m 0 0 (QQ V G (some (.int r)) N g m 0 0) 0 ls []
  refine x_aload_n B dX11_creep_0 rfl (lv_at hl 0 rfl) ?_
  refine y_getFs (C := RX11) (T := TX11) (NN := 10) (d := 1) B (rg_11_0.at0 rfl) inX11 rfl (j := 0) (by decide) q_388 rfl rfl (by decide) dX11_creep_1 ?_
  refine y_getFs (C := RX10) (T := TX10) (NN := 16) (d := 1) B (rg_10_1.at0 rfl) inX10 rfl (j := 6) (by decide) q_204 rfl rfl (by decide) dX11_creep_4 ?_
  refine x_iload_n B dX11_creep_7 rfl (lv_at hl 1 rfl) ?_
  obtain ⟨r2, c1, hf⟩ := bn_some hf
  refine x_callV0 (rest := []) B (kX1_has rg_1_2 c1) ⟨rfl, rfl⟩ (rg_1_2.at0 (N := N) rfl).lt (rg_1_2.at0 (N := N) rfl).2 rfl (by decide) q_437 q_438 q_439 (by rw [hR]; exact cw_X11_creep_X1_has) rfl rfl hl.1 (Nat.le_of_ble_eq_true rfl) dX11_creep_8 ⟨Nat.zero_le _, Nat.zero_le _⟩ ?_
  refine x_if_eq (tgt := 26) B dX11_creep_11 (by decide) (fun h3 => ?_) (fun h3 => ?_)
  · have hf := ip h3 hf
    refine x_ldc (v := (-1000000001 : Int32)) B q_432 dX11_creep_26 ?_
    obtain ⟨rfl, rfl⟩ := rt2 hf
    exact x_iret B dX11_creep_28
  · have hf := iq h3 hf
    refine x_iload_n B dX11_creep_14 rfl (lv_at hl 2 rfl) ?_
    refine x_bipush (v := (-9 : Int32)) B dX11_creep_15 (by decide) ?_
    refine x_icmp_lt (tgt := 26) B dX11_creep_17 (by decide) (fun h4 => ?_) (fun h4 => ?_)
    · have hf := ip h4 hf
      refine x_ldc (v := (-1000000001 : Int32)) B q_432 dX11_creep_26 ?_
      obtain ⟨rfl, rfl⟩ := rt2 hf
      exact x_iret B dX11_creep_28
    · have hf := iq h4 hf
      refine x_iload_n B dX11_creep_20 rfl (lv_at hl 2 rfl) ?_
      refine x_bipush (v := (nI 9)) B dX11_creep_21 (by decide) ?_
      refine x_icmp_le (tgt := 29) B dX11_creep_23 (by decide) (fun h5 => ?_) (fun h5 => ?_)
      · have hf := ip h5 hf
        refine x_aload_n B dX11_creep_29 rfl (lv_at hl 0 rfl) ?_
        refine y_getFs (C := RX11) (T := TX11) (NN := 10) (d := 1) B (rg_11_0.at0 rfl) inX11 rfl (j := 0) (by decide) q_388 rfl rfl (by decide) dX11_creep_30 ?_
        refine y_getFs (C := RX10) (T := TX10) (NN := 16) (d := 1) B (rg_10_1.at0 rfl) inX10 rfl (j := 6) (by decide) q_204 rfl rfl (by decide) dX11_creep_33 ?_
        refine y_getFs (C := RX1) (T := TX1) (NN := 4) (d := 2) B (rg_1_2.at0 rfl) inX1 rfl (j := 1) (by decide) q_90 rfl rfl (by decide) dX11_creep_36 ?_
        refine x_iload_n B dX11_creep_39 rfl (lv_at hl 1 rfl) ?_
        obtain ⟨h6, hf⟩ := gd_some hf
        refine x_ialdF B (rg_1_2.at 2 rfl) h6 dX11_creep_40 ?_
        refine x_istore_n (lv' := [(3, .int (f 4 a1.toNatClampNeg)), (0, .ref (gz G + 0)), (1, .int a1), (2, .int a2)]) B dX11_creep_41 rfl hl (by decide) rfl (fun ls hl => ?_)
        refine x_aload_n B dX11_creep_42 rfl (lv_at hl 1 rfl) ?_
        refine y_getFs (C := RX11) (T := TX11) (NN := 10) (d := 1) B (rg_11_0.at0 rfl) inX11 rfl (j := 0) (by decide) q_388 rfl rfl (by decide) dX11_creep_43 ?_
        refine y_getFs (C := RX10) (T := TX10) (NN := 16) (d := 1) B (rg_10_1.at0 rfl) inX10 rfl (j := 6) (by decide) q_204 rfl rfl (by decide) dX11_creep_46 ?_
        refine y_getFs (C := RX1) (T := TX1) (NN := 4) (d := 2) B (rg_1_2.at0 rfl) inX1 rfl (j := 1) (by decide) q_90 rfl rfl (by decide) dX11_creep_49 ?_
        refine x_iload_n B dX11_creep_52 rfl (lv_at hl 2 rfl) ?_
        refine x_iload_n B dX11_creep_53 rfl (lv_at hl 3 rfl) ?_
        obtain ⟨h7, hf⟩ := gd_some hf
        refine x_iastF B (rg_1_2.at 2 rfl) h7 dX11_creep_54 (fun f8 e9 => ?_)
        have hf := lt_some hf e9
        refine x_iload_n B dX11_creep_55 rfl (lv_at hl 0 rfl) ?_
        obtain ⟨rfl, rfl⟩ := rt2 hf
        exact x_iret B dX11_creep_56
      · have hf := iq h5 hf
        refine x_ldc (v := (-1000000001 : Int32)) B q_432 dX11_creep_26 ?_
        obtain ⟨rfl, rfl⟩ := rt2 hf
        exact x_iret B dX11_creep_28
def rmX8_removeAt : Room := { frames := 1, cells := 0, slots := 0, locals := 68 }
def fX8_removeAt (n : Nat) (o : Nat) (a1 : Int32) (f : Mm) : Option (Mm) :=
  lt (up f o 4 ((f o 4) - (nI 1))) fun f1 =>
  gd (acb (a1 + (nI 1)) a1 ((f1 o 4) - a1) 40 40) <|
  lt (cpR f1 (o + 1) (o + 1) (a1 + (nI 1)) a1 ((f1 o 4) - a1)) fun f4 =>
  gd (acb (a1 + (nI 1)) a1 ((f1 o 4) - a1) 40 40) <|
  lt (cpR f4 (o + 2) (o + 2) (a1 + (nI 1)) a1 ((f1 o 4) - a1)) fun f7 =>
  gd (acb (a1 + (nI 1)) a1 ((f1 o 4) - a1) 40 40) <|
  lt (cpR f7 (o + 3) (o + 3) (a1 + (nI 1)) a1 ((f1 o 4) - a1)) fun f10 =>
  gd (acb (a1 + (nI 1)) a1 ((f1 o 4) - a1) 40 40) <|
  lt (cpR f10 (o + 4) (o + 4) (a1 + (nI 1)) a1 ((f1 o 4) - a1)) fun f13 =>
  some f13
set_option maxHeartbeats 4000000 in
set_option maxRecDepth 100000 in
theorem kX8_removeAt {l : Launch} {G : GE} {N : Nat} {f m : Mm} {n : Nat} {o : Nat} {a1 : Int32} {g : Mm} (ho : rg 8 o) (hf : fX8_removeAt n o a1 f = some g) : MT l G yX8_removeAt cX8_removeAt 3 none rmX8_removeAt [.ref (gz G + o), .int a1] N f m none N g m := by
  unfold fX8_removeAt at hf
  refine MT.of (by decide) (Nat.le_of_ble_eq_true rfl) (fun V ls hV hR B hl => ?_)
  have B : CX V G cX8_removeAt 3 "FluxWatch$Steps" none := B
  have hl : lv_has ls 3 [(0, .ref (gz G + o)), (1, .int a1)] := hl
  show WX V G N f m 0 0 (QQ V G none N g m 0 0) 0 ls []
  refine x_aload_n B dX8_removeAt_0 rfl (lv_at hl 0 rfl) ?_
  refine x_dup B dX8_removeAt_1 rfl ?_
  refine y_getFi (C := RX8) (T := TX8) (NN := 5) B (ho.at0 rfl) inX8 rfl (j := 4) (by decide) q_151 rfl rfl dX8_removeAt_2 ?_
  refine x_iconst (v := (nI 1)) B dX8_removeAt_5 (by decide) ?_
  refine x_isub B dX8_removeAt_6 ?_
  refine x_putF (C := RX8) (T := TX8) (NN := 5) (ty0 := tyX8) (ty := .int) B (ho.at0 rfl) inX8 tyX8_ok nmX8 rfl (j := 4) (by decide) q_151 rfl rfl rfl rfl rfl rfl dX8_removeAt_7 (fun f1 e2 => ?_)
  have hf := lt_some hf e2
  refine x_aload_n B dX8_removeAt_10 rfl (lv_at hl 0 rfl) ?_
  refine y_getFi (C := RX8) (T := TX8) (NN := 5) B (ho.at0 rfl) inX8 rfl (j := 4) (by decide) q_151 rfl rfl dX8_removeAt_11 ?_
  refine x_iload_n B dX8_removeAt_14 rfl (lv_at hl 1 rfl) ?_
  refine x_isub B dX8_removeAt_15 ?_
  refine x_istore_n (lv' := [(2, .int ((f1 o 4) - a1)), (0, .ref (gz G + o)), (1, .int a1)]) B dX8_removeAt_16 rfl hl (by decide) rfl (fun ls hl => ?_)
  refine x_aload_n B dX8_removeAt_17 rfl (lv_at hl 1 rfl) ?_
  refine y_getFs (C := RX8) (T := TX8) (NN := 5) (d := 1) B (ho.at0 rfl) inX8 rfl (j := 0) (by decide) q_139 rfl rfl (by decide) dX8_removeAt_18 ?_
  refine x_iload_n B dX8_removeAt_21 rfl (lv_at hl 2 rfl) ?_
  refine x_iconst (v := (nI 1)) B dX8_removeAt_22 (by decide) ?_
  refine x_iadd B dX8_removeAt_23 ?_
  refine x_aload_n B dX8_removeAt_24 rfl (lv_at hl 1 rfl) ?_
  refine y_getFs (C := RX8) (T := TX8) (NN := 5) (d := 1) B (ho.at0 rfl) inX8 rfl (j := 0) (by decide) q_139 rfl rfl (by decide) dX8_removeAt_25 ?_
  refine x_iload_n B dX8_removeAt_28 rfl (lv_at hl 2 rfl) ?_
  refine x_iload_n B dX8_removeAt_29 rfl (lv_at hl 0 rfl) ?_
  obtain ⟨h3, hf⟩ := gd_some hf
  refine x_copyF B (ho.at 1 rfl) (ho.at 1 rfl) h3 q_578 q_580 q_579 q_58 hl.1 (by rw [hR]; decide) (by rw [hR]; decide) (Nat.le_of_ble_eq_true rfl) dX8_removeAt_30 (fun f4 e5 => ?_)
  have hf := lt_some hf e5
  refine x_aload_n B dX8_removeAt_33 rfl (lv_at hl 1 rfl) ?_
  refine y_getFs (C := RX8) (T := TX8) (NN := 5) (d := 2) B (ho.at0 rfl) inX8 rfl (j := 1) (by decide) q_142 rfl rfl (by decide) dX8_removeAt_34 ?_
  refine x_iload_n B dX8_removeAt_37 rfl (lv_at hl 2 rfl) ?_
  refine x_iconst (v := (nI 1)) B dX8_removeAt_38 (by decide) ?_
  refine x_iadd B dX8_removeAt_39 ?_
  refine x_aload_n B dX8_removeAt_40 rfl (lv_at hl 1 rfl) ?_
  refine y_getFs (C := RX8) (T := TX8) (NN := 5) (d := 2) B (ho.at0 rfl) inX8 rfl (j := 1) (by decide) q_142 rfl rfl (by decide) dX8_removeAt_41 ?_
  refine x_iload_n B dX8_removeAt_44 rfl (lv_at hl 2 rfl) ?_
  refine x_iload_n B dX8_removeAt_45 rfl (lv_at hl 0 rfl) ?_
  obtain ⟨h6, hf⟩ := gd_some hf
  refine x_copyF B (ho.at 2 rfl) (ho.at 2 rfl) h6 q_578 q_580 q_579 q_58 hl.1 (by rw [hR]; decide) (by rw [hR]; decide) (Nat.le_of_ble_eq_true rfl) dX8_removeAt_46 (fun f7 e8 => ?_)
  have hf := lt_some hf e8
  refine x_aload_n B dX8_removeAt_49 rfl (lv_at hl 1 rfl) ?_
  refine y_getFs (C := RX8) (T := TX8) (NN := 5) (d := 3) B (ho.at0 rfl) inX8 rfl (j := 2) (by decide) q_145 rfl rfl (by decide) dX8_removeAt_50 ?_
  refine x_iload_n B dX8_removeAt_53 rfl (lv_at hl 2 rfl) ?_
  refine x_iconst (v := (nI 1)) B dX8_removeAt_54 (by decide) ?_
  refine x_iadd B dX8_removeAt_55 ?_
  refine x_aload_n B dX8_removeAt_56 rfl (lv_at hl 1 rfl) ?_
  refine y_getFs (C := RX8) (T := TX8) (NN := 5) (d := 3) B (ho.at0 rfl) inX8 rfl (j := 2) (by decide) q_145 rfl rfl (by decide) dX8_removeAt_57 ?_
  refine x_iload_n B dX8_removeAt_60 rfl (lv_at hl 2 rfl) ?_
  refine x_iload_n B dX8_removeAt_61 rfl (lv_at hl 0 rfl) ?_
  obtain ⟨h9, hf⟩ := gd_some hf
  refine x_copyF B (ho.at 3 rfl) (ho.at 3 rfl) h9 q_578 q_580 q_579 q_58 hl.1 (by rw [hR]; decide) (by rw [hR]; decide) (Nat.le_of_ble_eq_true rfl) dX8_removeAt_62 (fun f10 e11 => ?_)
  have hf := lt_some hf e11
  refine x_aload_n B dX8_removeAt_65 rfl (lv_at hl 1 rfl) ?_
  refine y_getFs (C := RX8) (T := TX8) (NN := 5) (d := 4) B (ho.at0 rfl) inX8 rfl (j := 3) (by decide) q_148 rfl rfl (by decide) dX8_removeAt_66 ?_
  refine x_iload_n B dX8_removeAt_69 rfl (lv_at hl 2 rfl) ?_
  refine x_iconst (v := (nI 1)) B dX8_removeAt_70 (by decide) ?_
  refine x_iadd B dX8_removeAt_71 ?_
  refine x_aload_n B dX8_removeAt_72 rfl (lv_at hl 1 rfl) ?_
  refine y_getFs (C := RX8) (T := TX8) (NN := 5) (d := 4) B (ho.at0 rfl) inX8 rfl (j := 3) (by decide) q_148 rfl rfl (by decide) dX8_removeAt_73 ?_
  refine x_iload_n B dX8_removeAt_76 rfl (lv_at hl 2 rfl) ?_
  refine x_iload_n B dX8_removeAt_77 rfl (lv_at hl 0 rfl) ?_
  obtain ⟨h12, hf⟩ := gd_some hf
  refine x_copyF B (ho.at 4 rfl) (ho.at 4 rfl) h12 q_578 q_580 q_579 q_58 hl.1 (by rw [hR]; decide) (by rw [hR]; decide) (Nat.le_of_ble_eq_true rfl) dX8_removeAt_78 (fun f13 e14 => ?_)
  have hf := lt_some hf e14
  obtain rfl := rt1 hf
  exact x_vret B dX8_removeAt_81
def rmX11_drop : Room := { frames := 2, cells := 0, slots := 0, locals := 90 }
set_option maxHeartbeats 4000000 in
set_option maxRecDepth 100000 in
theorem cw_X11_drop_X8_has : cwB rmX11_drop rmX8_has yX8_has cX8_has 2 (some .boolean) 1 := ⟨q_531, q_50, by decide, by decide⟩
set_option maxHeartbeats 4000000 in
set_option maxRecDepth 100000 in
theorem cw_X11_drop_X8_removeAt : cwB rmX11_drop rmX8_removeAt yX8_removeAt cX8_removeAt 3 none 1 := ⟨q_577, q_50, by decide, by decide⟩
def fX11_drop (n : Nat) (a1 : Int32) (f : Mm) : Option (Int32 × Mm) :=
  bn (fX8_has n 10 a1 f) fun r2 =>
  if r2 = 0 then (
  some ((-1000000001 : Int32), f)) else (
  bn (fX8_removeAt n 10 a1 f) fun f5 =>
  some (f5 10 4, f5))
set_option maxHeartbeats 4000000 in
set_option maxRecDepth 100000 in
theorem kX11_drop {l : Launch} {G : GE} {N : Nat} {f m : Mm} {n : Nat} {a1 : Int32} {r : Int32} {g : Mm}  (hf : fX11_drop n a1 f = some (r, g)) : MT l G yX11_drop cX11_drop 2 (some .int) rmX11_drop [.ref (gz G + 0), .int a1] N f m (some (.int r)) N g m := by
  unfold fX11_drop at hf
  refine MT.of (by decide) (Nat.le_of_ble_eq_true rfl) (fun V ls hV hR B hl => ?_)
  have B : CX V G cX11_drop 2 "FluxWatch" (some .int) := B
  have hl : lv_has ls 2 [(0, .ref (gz G + 0)), (1, .int a1)] := hl
  show WX V G N f m 0 0 (QQ V G (some (.int r)) N g m 0 0) 0 ls []
  refine x_aload_n B dX11_drop_0 rfl (lv_at hl 0 rfl) ?_
  refine y_getFs (C := RX11) (T := TX11) (NN := 10) (d := 1) B (rg_11_0.at0 rfl) inX11 rfl (j := 0) (by decide) q_388 rfl rfl (by decide) dX11_drop_1 ?_
  refine y_getFs (C := RX10) (T := TX10) (NN := 16) (d := 9) B (rg_10_1.at0 rfl) inX10 rfl (j := 8) (by decide) q_208 rfl rfl (by decide) dX11_drop_4 ?_
  refine x_iload_n B dX11_drop_7 rfl (lv_at hl 1 rfl) ?_
  obtain ⟨r2, c1, hf⟩ := bn_some hf
  refine x_callV0 (rest := []) B (kX8_has rg_8_10 c1) ⟨rfl, rfl⟩ (rg_8_10.at0 (N := N) rfl).lt (rg_8_10.at0 (N := N) rfl).2 rfl (by decide) q_528 q_529 q_530 (by rw [hR]; exact cw_X11_drop_X8_has) rfl rfl hl.1 (Nat.le_of_ble_eq_true rfl) dX11_drop_8 ⟨Nat.zero_le _, Nat.zero_le _⟩ ?_
  refine x_if_ne (tgt := 17) B dX11_drop_11 (by decide) (fun h3 => ?_) (fun h3 => ?_)
  · have hf := ip h3 hf
    refine x_ldc (v := (-1000000001 : Int32)) B q_432 dX11_drop_14 ?_
    obtain ⟨rfl, rfl⟩ := rt2 hf
    exact x_iret B dX11_drop_16
  · have hf := iq h3 hf
    refine x_aload_n B dX11_drop_17 rfl (lv_at hl 0 rfl) ?_
    refine y_getFs (C := RX11) (T := TX11) (NN := 10) (d := 1) B (rg_11_0.at0 rfl) inX11 rfl (j := 0) (by decide) q_388 rfl rfl (by decide) dX11_drop_18 ?_
    refine y_getFs (C := RX10) (T := TX10) (NN := 16) (d := 9) B (rg_10_1.at0 rfl) inX10 rfl (j := 8) (by decide) q_208 rfl rfl (by decide) dX11_drop_21 ?_
    refine x_iload_n B dX11_drop_24 rfl (lv_at hl 1 rfl) ?_
    obtain ⟨f5, c4, hf⟩ := bn_some hf
    refine x_callV0 (rest := []) B (kX8_removeAt rg_8_10 c4) ⟨rfl, rfl⟩ (rg_8_10.at0 (N := N) rfl).lt (rg_8_10.at0 (N := N) rfl).2 rfl (by decide) q_574 q_575 q_576 (by rw [hR]; exact cw_X11_drop_X8_removeAt) rfl rfl hl.1 (Nat.le_of_ble_eq_true rfl) dX11_drop_25 ⟨Nat.zero_le _, Nat.zero_le _⟩ ?_
    refine x_aload_n B dX11_drop_28 rfl (lv_at hl 0 rfl) ?_
    refine y_getFs (C := RX11) (T := TX11) (NN := 10) (d := 1) B (rg_11_0.at0 rfl) inX11 rfl (j := 0) (by decide) q_388 rfl rfl (by decide) dX11_drop_29 ?_
    refine y_getFs (C := RX10) (T := TX10) (NN := 16) (d := 9) B (rg_10_1.at0 rfl) inX10 rfl (j := 8) (by decide) q_208 rfl rfl (by decide) dX11_drop_32 ?_
    refine y_getFi (C := RX8) (T := TX8) (NN := 5) B (rg_8_10.at0 rfl) inX8 rfl (j := 4) (by decide) q_153 rfl rfl dX11_drop_35 ?_
    obtain ⟨rfl, rfl⟩ := rt2 hf
    exact x_iret B dX11_drop_38
def rmX10_believedBehind : Room := { frames := 4, cells := 0, slots := 0, locals := 134 }
set_option maxHeartbeats 4000000 in
set_option maxRecDepth 100000 in
theorem cw_X10_believedBehind_X10_hasFit : cwB rmX10_believedBehind rmX10_hasFit yX10_hasFit cX10_hasFit 3 (some .boolean) 1 := ⟨q_665, q_46, by decide, by decide⟩
set_option maxHeartbeats 4000000 in
set_option maxRecDepth 100000 in
theorem cw_X10_believedBehind_X10_knockOn : cwB rmX10_believedBehind rmX10_knockOn yX10_knockOn cX10_knockOn 4 (some .int) 2 := ⟨q_637, q_46, by decide, by decide⟩
set_option maxHeartbeats 4000000 in
set_option maxRecDepth 100000 in
theorem cw_X10_believedBehind_X10_rateOn : cwB rmX10_believedBehind rmX10_rateOn yX10_rateOn cX10_rateOn 4 (some .int) 2 := ⟨q_609, q_46, by decide, by decide⟩
set_option maxHeartbeats 4000000 in
set_option maxRecDepth 100000 in
theorem cw_X10_believedBehind_X10_seenOn : cwB rmX10_believedBehind rmX10_seenOn yX10_seenOn cX10_seenOn 2 (some .int) 1 := ⟨q_489, q_46, by decide, by decide⟩
set_option maxHeartbeats 4000000 in
set_option maxRecDepth 100000 in
theorem cw_X10_believedBehind_X11_believed : cwB rmX10_believedBehind rmX11_believed yX11_believed cX11_believed 11 (some .int) 4 := ⟨q_669, q_45, by decide, by decide⟩
def fX10_believedBehind (n : Nat) (N : Nat) (o : Nat) (a1 : Int32) (a2 : Int32) (f : Mm) : Option (Int32 × Mm) :=
  bn (fX10_seenOn n o a2 f) fun r2 =>
  bn2 (fX10_rateOn n N o a2 r2 f) fun r5 f4 =>
  bn2 (fX10_knockOn n N o a2 r2 f4) fun r8 f7 =>
  bn (fX10_hasFit n o a2 f7) fun r10 =>
  bn (fX11_believed n a1 r5 r8 r10) fun r12 =>
  some (r12, f7)
set_option maxHeartbeats 4000000 in
set_option maxRecDepth 100000 in
theorem kX10_believedBehind {l : Launch} {G : GE} {N : Nat} {f m : Mm} {n : Nat} {o : Nat} {a1 : Int32} {a2 : Int32} {r : Int32} {g : Mm} (ho : rg 10 o) (hf : fX10_believedBehind n N o a1 a2 f = some (r, g)) : MT l G yX10_believedBehind cX10_believedBehind 4 (some .int) rmX10_believedBehind [.ref (gz G + o), .int a1, .int a2] N f m (some (.int r)) N g m := by
  unfold fX10_believedBehind at hf
  refine MT.of (by decide) (Nat.le_of_ble_eq_true rfl) (fun V ls hV hR B hl => ?_)
  have B : CX V G cX10_believedBehind 4 "FluxWatch$World" (some .int) := B
  have hl : lv_has ls 4 [(0, .ref (gz G + o)), (1, .int a1), (2, .int a2)] := hl
  show WX V G N f m 0 0 (QQ V G (some (.int r)) N g m 0 0) 0 ls []
  refine x_aload_n B dX10_believedBehind_0 rfl (lv_at hl 0 rfl) ?_
  refine x_iload_n B dX10_believedBehind_1 rfl (lv_at hl 2 rfl) ?_
  obtain ⟨r2, c1, hf⟩ := bn_some hf
  refine x_callV0 (rest := []) B (kX10_seenOn ho c1) ⟨rfl, rfl⟩ (ho.at0 (N := N) rfl).lt (ho.at0 (N := N) rfl).2 rfl (by decide) q_686 q_487 q_488 (by rw [hR]; exact cw_X10_believedBehind_X10_seenOn) rfl rfl hl.1 (Nat.le_of_ble_eq_true rfl) dX10_believedBehind_2 ⟨Nat.zero_le _, Nat.zero_le _⟩ ?_
  refine x_istore_n (lv' := [(3, .int r2), (0, .ref (gz G + o)), (1, .int a1), (2, .int a2)]) B dX10_believedBehind_5 rfl hl (by decide) rfl (fun ls hl => ?_)
  refine x_iload_n B dX10_believedBehind_6 rfl (lv_at hl 2 rfl) ?_
  refine x_aload_n B dX10_believedBehind_7 rfl (lv_at hl 1 rfl) ?_
  refine x_iload_n B dX10_believedBehind_8 rfl (lv_at hl 3 rfl) ?_
  refine x_iload_n B dX10_believedBehind_9 rfl (lv_at hl 0 rfl) ?_
  obtain ⟨r5, f4, c3, hf⟩ := bn2_some hf
  refine x_callV0 (rest := [.int a1]) B (kX10_rateOn ho c3) ⟨rfl, rfl⟩ (ho.at0 (N := N) rfl).lt (ho.at0 (N := N) rfl).2 rfl (by decide) q_606 q_607 q_608 (by rw [hR]; exact cw_X10_believedBehind_X10_rateOn) rfl rfl hl.1 (Nat.le_of_ble_eq_true rfl) dX10_believedBehind_10 ⟨Nat.zero_le _, Nat.zero_le _⟩ ?_
  refine x_aload_n B dX10_believedBehind_13 rfl (lv_at hl 1 rfl) ?_
  refine x_iload_n B dX10_believedBehind_14 rfl (lv_at hl 3 rfl) ?_
  refine x_iload_n B dX10_believedBehind_15 rfl (lv_at hl 0 rfl) ?_
  obtain ⟨r8, f7, c6, hf⟩ := bn2_some hf
  refine x_callV0 (rest := [.int r5, .int a1]) B (kX10_knockOn ho c6) ⟨rfl, rfl⟩ (ho.at0 (N := N) rfl).lt (ho.at0 (N := N) rfl).2 rfl (by decide) q_634 q_635 q_636 (by rw [hR]; exact cw_X10_believedBehind_X10_knockOn) rfl rfl hl.1 (Nat.le_of_ble_eq_true rfl) dX10_believedBehind_16 ⟨Nat.zero_le _, Nat.zero_le _⟩ ?_
  refine x_aload_n B dX10_believedBehind_19 rfl (lv_at hl 1 rfl) ?_
  refine x_iload_n B dX10_believedBehind_20 rfl (lv_at hl 3 rfl) ?_
  obtain ⟨r10, c9, hf⟩ := bn_some hf
  refine x_callV0 (rest := [.int r8, .int r5, .int a1]) B (kX10_hasFit ho c9) ⟨rfl, rfl⟩ (ho.at0 (N := N) rfl).lt (ho.at0 (N := N) rfl).2 rfl (by decide) q_662 q_663 q_664 (by rw [hR]; exact cw_X10_believedBehind_X10_hasFit) rfl rfl hl.1 (Nat.le_of_ble_eq_true rfl) dX10_believedBehind_21 ⟨Nat.zero_le _, Nat.zero_le _⟩ ?_
  obtain ⟨r12, c11, hf⟩ := bn_some hf
  refine x_callSN0 (rest := []) B (kX11_believed c11) ⟨rfl, rfl⟩ nq_667 q_668 (by rw [hR]; exact cw_X10_believedBehind_X11_believed) rfl rfl hl.1 (Nat.le_of_ble_eq_true rfl) dX10_believedBehind_24 ⟨Nat.zero_le _, Nat.zero_le _⟩ ?_
  obtain ⟨rfl, rfl⟩ := rt2 hf
  exact x_iret B dX10_believedBehind_27
def rmX11_falls : Room := { frames := 5, cells := 0, slots := 0, locals := 157 }
set_option maxHeartbeats 4000000 in
set_option maxRecDepth 100000 in
theorem cw_X11_falls_X10_believedBehind : cwB rmX11_falls rmX10_believedBehind yX10_believedBehind cX10_believedBehind 4 (some .int) 2 := ⟨q_685, q_46, by decide, by decide⟩
def fX11_falls_24 (n : Nat) (N : Nat)  (k24 : Int32 → Int32 → Int32 → Mm → Option (Int32 × Mm)) (x1 : Int32) (x2 : Int32) (x3 : Int32) (f : Mm) : Option (Int32 × Mm) :=
  if (nI 200) ≤ x3 then (
  some ((-1000000005 : Int32), f)) else (
  bn2 (fX10_believedBehind n N 1 x2 ((f 1 0) + x3) f) fun r6 f5 =>
  if x1 ≤ r6 then (
  k24 x1 r6 (x3 + (nI 1)) f5) else (
  some ((f5 1 0) + x3, f5)))
def fX11_falls_24L (n : Nat) (N : Nat)  : Nat → Int32 → Int32 → Int32 → Mm → Option (Int32 × Mm)
  | 0 => fun _ _ _ _ => none
  | q + 1 => fX11_falls_24 n N  (fX11_falls_24L n N  q)
set_option maxHeartbeats 4000000 in
set_option maxRecDepth 100000 in
theorem fX11_falls_24_ok {V : VE} {G : GE} {N : Nat} {f m : Mm} {n : Nat} {ls : Array Slot} {r : Int32} {g : Mm} (B : CX V G cX11_falls 4 "FluxWatch" (some .int)) (hR : V.2.2.2.1 = rmX11_falls)   {k24 : Int32 → Int32 → Int32 → Mm → Option (Int32 × Mm)} (hk24 : ∀ (x1 : Int32) (x2 : Int32) (x3 : Int32) (mm : Mm) (ls : Array Slot),  lv_has ls 4 [(0, .ref (gz G + 0)), (1, .int x1), (2, .int x2), (3, .int x3)] → k24 x1 x2 x3 mm = some (r, g) → WX V G N mm m 0 0 (QQ V G (some (.int r)) N g m 0 0) 24 ls []) {x1 : Int32} {x2 : Int32} {x3 : Int32}  (hl : lv_has ls 4 [(0, .ref (gz G + 0)), (1, .int x1), (2, .int x2), (3, .int x3)]) (hf : fX11_falls_24 n N k24 x1 x2 x3 f = some (r, g)) : WX V G N f m 0 0 (QQ V G (some (.int r)) N g m 0 0) 24 ls [] := by
  unfold fX11_falls_24 at hf
  refine x_iload_n B dX11_falls_24 rfl (lv_at hl 3 rfl) ?_
  refine x_sipush (v := (nI 200)) B dX11_falls_25 (by decide) ?_
  refine x_icmp_ge (tgt := 70) B dX11_falls_28 (by decide) (fun h3 => ?_) (fun h3 => ?_)
  · have hf := ip h3 hf
    refine x_ldc (v := (-1000000005 : Int32)) B q_461 dX11_falls_70 ?_
    obtain ⟨rfl, rfl⟩ := rt2 hf
    exact x_iret B dX11_falls_72
  · have hf := iq h3 hf
    refine x_aload_n B dX11_falls_31 rfl (lv_at hl 0 rfl) ?_
    refine y_getFs (C := RX11) (T := TX11) (NN := 10) (d := 1) B (rg_11_0.at0 rfl) inX11 rfl (j := 0) (by decide) q_388 rfl rfl (by decide) dX11_falls_32 ?_
    refine x_iload_n B dX11_falls_35 rfl (lv_at hl 2 rfl) ?_
    refine x_aload_n B dX11_falls_36 rfl (lv_at hl 0 rfl) ?_
    refine y_getFs (C := RX11) (T := TX11) (NN := 10) (d := 1) B (rg_11_0.at0 rfl) inX11 rfl (j := 0) (by decide) q_388 rfl rfl (by decide) dX11_falls_37 ?_
    refine y_getFi (C := RX10) (T := TX10) (NN := 16) B (rg_10_1.at0 rfl) inX10 rfl (j := 0) (by decide) q_189 rfl rfl dX11_falls_40 ?_
    refine x_iload_n B dX11_falls_43 rfl (lv_at hl 3 rfl) ?_
    refine x_iadd B dX11_falls_44 ?_
    obtain ⟨r6, f5, c4, hf⟩ := bn2_some hf
    refine x_callV0 (rest := []) B (kX10_believedBehind rg_10_1 c4) ⟨rfl, rfl⟩ (rg_10_1.at0 (N := N) rfl).lt (rg_10_1.at0 (N := N) rfl).2 rfl (by decide) q_682 q_683 q_684 (by rw [hR]; exact cw_X11_falls_X10_believedBehind) rfl rfl hl.1 (Nat.le_of_ble_eq_true rfl) dX11_falls_45 ⟨Nat.zero_le _, Nat.zero_le _⟩ ?_
    refine x_istore_n (lv' := [(2, .int r6), (0, .ref (gz G + 0)), (1, .int x1), (3, .int x3)]) B dX11_falls_48 rfl hl (by decide) rfl (fun ls hl => ?_)
    refine x_iload_n B dX11_falls_49 rfl (lv_at hl 0 rfl) ?_
    refine x_iload_n B dX11_falls_50 rfl (lv_at hl 2 rfl) ?_
    refine x_icmp_ge (tgt := 64) B dX11_falls_51 (by decide) (fun h7 => ?_) (fun h7 => ?_)
    · have hf := ip h7 hf
      refine x_iinc (k := 3) (v := (nI 1)) (lv' := [(3, .int (x3 + (nI 1))), (2, .int r6), (0, .ref (gz G + 0)), (1, .int x1)]) B dX11_falls_64 hl rfl (by decide) (by decide) rfl (fun ls hl => ?_)
      refine x_goto (tgt := 24) B dX11_falls_67 (by decide) ?_
      exact hk24 _ _ _ _ _ (lv_sub hl [2, 3, 1, 0] rfl) hf
    · have hf := iq h7 hf
      refine x_aload_n B dX11_falls_54 rfl (lv_at hl 1 rfl) ?_
      refine y_getFs (C := RX11) (T := TX11) (NN := 10) (d := 1) B (rg_11_0.at0 rfl) inX11 rfl (j := 0) (by decide) q_388 rfl rfl (by decide) dX11_falls_55 ?_
      refine y_getFi (C := RX10) (T := TX10) (NN := 16) B (rg_10_1.at0 rfl) inX10 rfl (j := 0) (by decide) q_189 rfl rfl dX11_falls_58 ?_
      refine x_iload_n B dX11_falls_61 rfl (lv_at hl 3 rfl) ?_
      refine x_iadd B dX11_falls_62 ?_
      obtain ⟨rfl, rfl⟩ := rt2 hf
      exact x_iret B dX11_falls_63
set_option maxHeartbeats 4000000 in
set_option maxRecDepth 100000 in
theorem fX11_falls_24L_ok {V : VE} {G : GE} {N : Nat} {m : Mm} {n : Nat}  {r : Int32} {g : Mm} (B : CX V G cX11_falls 4 "FluxWatch" (some .int)) (hR : V.2.2.2.1 = rmX11_falls)   : ∀ (q : Nat) (x1 : Int32) (x2 : Int32) (x3 : Int32) (mm : Mm) (ls : Array Slot),  lv_has ls 4 [(0, .ref (gz G + 0)), (1, .int x1), (2, .int x2), (3, .int x3)] → fX11_falls_24L n N q x1 x2 x3 mm = some (r, g) → WX V G N mm m 0 0 (QQ V G (some (.int r)) N g m 0 0) 24 ls [] := by
  intro q
  induction q with
  | zero =>
    intro x1 x2 x3 mm ls hl hf
    cases hf
  | succ q ih =>
    intro x1 x2 x3 mm ls hl hf
    exact fX11_falls_24_ok B hR   ih  hl hf
def fX11_falls (n : Nat) (N : Nat) (a1 : Int32) (f : Mm) : Option (Int32 × Mm) :=
  if a1 < 0 then (
  some ((-1000000001 : Int32), f)) else (
  if a1 ≤ (nI 10000) then (
  fX11_falls_24L n N n a1 (f 1 1) (nI 0) f) else (
  some ((-1000000001 : Int32), f)))
set_option maxHeartbeats 4000000 in
set_option maxRecDepth 100000 in
theorem kX11_falls {l : Launch} {G : GE} {N : Nat} {f m : Mm} {n : Nat} {a1 : Int32} {r : Int32} {g : Mm}  (hf : fX11_falls n N a1 f = some (r, g)) : MT l G yX11_falls cX11_falls 4 (some .int) rmX11_falls [.ref (gz G + 0), .int a1] N f m (some (.int r)) N g m := by
  unfold fX11_falls at hf
  refine MT.of (by decide) (Nat.le_of_ble_eq_true rfl) (fun V ls hV hR B hl => ?_)
  have B : CX V G cX11_falls 4 "FluxWatch" (some .int) := B
  have hl : lv_has ls 4 [(0, .ref (gz G + 0)), (1, .int a1)] := hl
  show WX V G N f m 0 0 (QQ V G (some (.int r)) N g m 0 0) 0 ls []
  refine x_iload_n B dX11_falls_0 rfl (lv_at hl 1 rfl) ?_
  refine x_if_lt (tgt := 11) B dX11_falls_1 (by decide) (fun h1 => ?_) (fun h1 => ?_)
  · have hf := ip h1 hf
    refine x_ldc (v := (-1000000001 : Int32)) B q_432 dX11_falls_11 ?_
    obtain ⟨rfl, rfl⟩ := rt2 hf
    exact x_iret B dX11_falls_13
  · have hf := iq h1 hf
    refine x_iload_n B dX11_falls_4 rfl (lv_at hl 1 rfl) ?_
    refine x_sipush (v := (nI 10000)) B dX11_falls_5 (by decide) ?_
    refine x_icmp_le (tgt := 14) B dX11_falls_8 (by decide) (fun h2 => ?_) (fun h2 => ?_)
    · have hf := ip h2 hf
      refine x_aload_n B dX11_falls_14 rfl (lv_at hl 0 rfl) ?_
      refine y_getFs (C := RX11) (T := TX11) (NN := 10) (d := 1) B (rg_11_0.at0 rfl) inX11 rfl (j := 0) (by decide) q_388 rfl rfl (by decide) dX11_falls_15 ?_
      refine y_getFi (C := RX10) (T := TX10) (NN := 16) B (rg_10_1.at0 rfl) inX10 rfl (j := 1) (by decide) q_193 rfl rfl dX11_falls_18 ?_
      refine x_istore_n (lv' := [(2, .int (f 1 1)), (0, .ref (gz G + 0)), (1, .int a1)]) B dX11_falls_21 rfl hl (by decide) rfl (fun ls hl => ?_)
      refine x_iconst (v := (nI 0)) B dX11_falls_22 (by decide) ?_
      refine x_istore_n (lv' := [(3, .int (nI 0)), (2, .int (f 1 1)), (0, .ref (gz G + 0)), (1, .int a1)]) B dX11_falls_23 rfl hl (by decide) rfl (fun ls hl => ?_)
      exact fX11_falls_24L_ok B hR  n _ _ _ _ _ (lv_sub hl [2, 3, 1, 0] rfl) hf
    · have hf := iq h2 hf
      refine x_ldc (v := (-1000000001 : Int32)) B q_432 dX11_falls_11 ?_
      obtain ⟨rfl, rfl⟩ := rt2 hf
      exact x_iret B dX11_falls_13
def rmX9_addBytesOf : Room := { frames := 0, cells := 0, slots := 0, locals := 0 }
def fX9_addBytesOf_42 (n : Nat) (o : Nat) (k3 : Int32 → Int32 → Mm → Option (Mm)) (x1 : Int32) (x2 : Int32) (f : Mm) : Option (Mm) :=
  k3 x1 (x2 + (-8 : Int32)) f
set_option maxHeartbeats 4000000 in
set_option maxRecDepth 100000 in
theorem fX9_addBytesOf_42_ok {V : VE} {G : GE} {N : Nat} {f m : Mm} {n : Nat} {ls : Array Slot} {o : Nat} {g : Mm} (B : CX V G cX9_addBytesOf 3 "FluxWatch$Tape" none) (hR : V.2.2.2.1 = rmX9_addBytesOf) (ho : rg 9 o) {k3 : Int32 → Int32 → Mm → Option (Mm)} (hk3 : ∀ (x1 : Int32) (x2 : Int32) (mm : Mm) (ls : Array Slot),  lv_has ls 3 [(0, .ref (gz G + o)), (1, .int x1), (2, .int x2)] → k3 x1 x2 mm = some g → WX V G N mm m 0 0 (QQ V G none N g m 0 0) 3 ls []) {x1 : Int32} {x2 : Int32}  (hl : lv_has ls 3 [(0, .ref (gz G + o)), (1, .int x1), (2, .int x2)]) (hf : fX9_addBytesOf_42 n o k3 x1 x2 f = some g) : WX V G N f m 0 0 (QQ V G none N g m 0 0) 42 ls [] := by
  unfold fX9_addBytesOf_42 at hf
  refine x_iinc (k := 2) (v := (-8 : Int32)) (lv' := [(2, .int (x2 + (-8 : Int32))), (0, .ref (gz G + o)), (1, .int x1)]) B dX9_addBytesOf_42 hl rfl (by decide) (by decide) rfl (fun ls hl => ?_)
  refine x_goto (tgt := 3) B dX9_addBytesOf_45 (by decide) ?_
  exact hk3 _ _ _ _ (lv_sub hl [1, 2, 0] rfl) hf
def fX9_addBytesOf_3 (n : Nat) (o : Nat)  (k3 : Int32 → Int32 → Mm → Option (Mm)) (x1 : Int32) (x2 : Int32) (f : Mm) : Option (Mm) :=
  if x2 < 0 then (
  some f) else (
  if (nI 96) ≤ (f o 1) then (
  fX9_addBytesOf_42 n o k3 x1 x2 f) else (
  gd (ib (f o 1) 96) <|
  lt (up f (o + 1) (f o 1).toNatClampNeg ((ushr x1 x2) &&& (nI 255))) fun f4 =>
  lt (up f4 o 1 ((f4 o 1) + (nI 1))) fun f6 =>
  fX9_addBytesOf_42 n o k3 x1 x2 f6))
def fX9_addBytesOf_3L (n : Nat) (o : Nat)  : Nat → Int32 → Int32 → Mm → Option (Mm)
  | 0 => fun _ _ _ => none
  | q + 1 => fX9_addBytesOf_3 n o  (fX9_addBytesOf_3L n o  q)
set_option maxHeartbeats 4000000 in
set_option maxRecDepth 100000 in
theorem fX9_addBytesOf_3_ok {V : VE} {G : GE} {N : Nat} {f m : Mm} {n : Nat} {ls : Array Slot} {o : Nat} {g : Mm} (B : CX V G cX9_addBytesOf 3 "FluxWatch$Tape" none) (hR : V.2.2.2.1 = rmX9_addBytesOf) (ho : rg 9 o)  {k3 : Int32 → Int32 → Mm → Option (Mm)} (hk3 : ∀ (x1 : Int32) (x2 : Int32) (mm : Mm) (ls : Array Slot),  lv_has ls 3 [(0, .ref (gz G + o)), (1, .int x1), (2, .int x2)] → k3 x1 x2 mm = some g → WX V G N mm m 0 0 (QQ V G none N g m 0 0) 3 ls []) {x1 : Int32} {x2 : Int32}  (hl : lv_has ls 3 [(0, .ref (gz G + o)), (1, .int x1), (2, .int x2)]) (hf : fX9_addBytesOf_3 n o k3 x1 x2 f = some g) : WX V G N f m 0 0 (QQ V G none N g m 0 0) 3 ls [] := by
  unfold fX9_addBytesOf_3 at hf
  refine x_iload_n B dX9_addBytesOf_3 rfl (lv_at hl 2 rfl) ?_
  refine x_if_lt (tgt := 48) B dX9_addBytesOf_4 (by decide) (fun h1 => ?_) (fun h1 => ?_)
  · have hf := ip h1 hf
    obtain rfl := rt1 hf
    exact x_vret B dX9_addBytesOf_48
  · have hf := iq h1 hf
    refine x_aload_n B dX9_addBytesOf_7 rfl (lv_at hl 0 rfl) ?_
    refine y_getFi (C := RX9) (T := TX9) (NN := 6) B (ho.at0 rfl) inX9 rfl (j := 1) (by decide) q_316 rfl rfl dX9_addBytesOf_8 ?_
    refine x_bipush (v := (nI 96)) B dX9_addBytesOf_11 (by decide) ?_
    refine x_icmp_ge (tgt := 42) B dX9_addBytesOf_13 (by decide) (fun h2 => ?_) (fun h2 => ?_)
    · have hf := ip h2 hf
      exact fX9_addBytesOf_42_ok B hR ho hk3 hl hf
    · have hf := iq h2 hf
      refine x_aload_n B dX9_addBytesOf_16 rfl (lv_at hl 0 rfl) ?_
      refine y_getFs (C := RX9) (T := TX9) (NN := 6) (d := 1) B (ho.at0 rfl) inX9 rfl (j := 0) (by decide) q_315 rfl rfl (by decide) dX9_addBytesOf_17 ?_
      refine x_aload_n B dX9_addBytesOf_20 rfl (lv_at hl 0 rfl) ?_
      refine y_getFi (C := RX9) (T := TX9) (NN := 6) B (ho.at0 rfl) inX9 rfl (j := 1) (by decide) q_316 rfl rfl dX9_addBytesOf_21 ?_
      refine x_iload_n B dX9_addBytesOf_24 rfl (lv_at hl 1 rfl) ?_
      refine x_iload_n B dX9_addBytesOf_25 rfl (lv_at hl 2 rfl) ?_
      refine y_iushr B dX9_addBytesOf_26 ?_
      refine x_sipush (v := (nI 255)) B dX9_addBytesOf_27 (by decide) ?_
      refine x_iand B dX9_addBytesOf_30 ?_
      obtain ⟨h3, hf⟩ := gd_some hf
      refine x_iastF B (ho.at 1 rfl) h3 dX9_addBytesOf_31 (fun f4 e5 => ?_)
      have hf := lt_some hf e5
      refine x_aload_n B dX9_addBytesOf_32 rfl (lv_at hl 0 rfl) ?_
      refine x_dup B dX9_addBytesOf_33 rfl ?_
      refine y_getFi (C := RX9) (T := TX9) (NN := 6) B (ho.at0 rfl) inX9 rfl (j := 1) (by decide) q_316 rfl rfl dX9_addBytesOf_34 ?_
      refine x_iconst (v := (nI 1)) B dX9_addBytesOf_37 (by decide) ?_
      refine x_iadd B dX9_addBytesOf_38 ?_
      refine x_putF (C := RX9) (T := TX9) (NN := 6) (ty0 := tyX9) (ty := .int) B (ho.at0 rfl) inX9 tyX9_ok nmX9 rfl (j := 1) (by decide) q_316 rfl rfl rfl rfl rfl rfl dX9_addBytesOf_39 (fun f6 e7 => ?_)
      have hf := lt_some hf e7
      exact fX9_addBytesOf_42_ok B hR ho hk3 hl hf
set_option maxHeartbeats 4000000 in
set_option maxRecDepth 100000 in
theorem fX9_addBytesOf_3L_ok {V : VE} {G : GE} {N : Nat} {m : Mm} {n : Nat}  {o : Nat} {g : Mm} (B : CX V G cX9_addBytesOf 3 "FluxWatch$Tape" none) (hR : V.2.2.2.1 = rmX9_addBytesOf) (ho : rg 9 o)  : ∀ (q : Nat) (x1 : Int32) (x2 : Int32) (mm : Mm) (ls : Array Slot),  lv_has ls 3 [(0, .ref (gz G + o)), (1, .int x1), (2, .int x2)] → fX9_addBytesOf_3L n o q x1 x2 mm = some g → WX V G N mm m 0 0 (QQ V G none N g m 0 0) 3 ls [] := by
  intro q
  induction q with
  | zero =>
    intro x1 x2 mm ls hl hf
    cases hf
  | succ q ih =>
    intro x1 x2 mm ls hl hf
    exact fX9_addBytesOf_3_ok B hR ho  ih  hl hf
def fX9_addBytesOf (n : Nat) (o : Nat) (a1 : Int32) (f : Mm) : Option (Mm) :=
  fX9_addBytesOf_3L n o n a1 (nI 24) f
set_option maxHeartbeats 4000000 in
set_option maxRecDepth 100000 in
theorem kX9_addBytesOf {l : Launch} {G : GE} {N : Nat} {f m : Mm} {n : Nat} {o : Nat} {a1 : Int32} {g : Mm} (ho : rg 9 o) (hf : fX9_addBytesOf n o a1 f = some g) : MT l G yX9_addBytesOf cX9_addBytesOf 3 none rmX9_addBytesOf [.ref (gz G + o), .int a1] N f m none N g m := by
  unfold fX9_addBytesOf at hf
  refine MT.of (by decide) (Nat.le_of_ble_eq_true rfl) (fun V ls hV hR B hl => ?_)
  have B : CX V G cX9_addBytesOf 3 "FluxWatch$Tape" none := B
  have hl : lv_has ls 3 [(0, .ref (gz G + o)), (1, .int a1)] := hl
  show WX V G N f m 0 0 (QQ V G none N g m 0 0) 0 ls []
  refine x_bipush (v := (nI 24)) B dX9_addBytesOf_0 (by decide) ?_
  refine x_istore_n (lv' := [(2, .int (nI 24)), (0, .ref (gz G + o)), (1, .int a1)]) B dX9_addBytesOf_2 rfl hl (by decide) rfl (fun ls hl => ?_)
  exact fX9_addBytesOf_3L_ok B hR ho  n _ _ _ _ (lv_sub hl [1, 2, 0] rfl) hf
def rmX11_feed : Room := { frames := 1, cells := 0, slots := 0, locals := 22 }
set_option maxHeartbeats 4000000 in
set_option maxRecDepth 100000 in
theorem cw_X11_feed_X9_addBytesOf : cwB rmX11_feed rmX9_addBytesOf yX9_addBytesOf cX9_addBytesOf 3 none 1 := ⟨q_714, q_55, by decide, by decide⟩
def fX11_feed (n : Nat) (a1 : Int32) (a2 : Int32) (a3 : Int32) (f : Mm) : Option (Int32 × Mm) :=
  if ((f 100 1) + (nI 12)) ≤ (nI 96) then (
  bn (fX9_addBytesOf n 100 a1 f) fun f3 =>
  bn (fX9_addBytesOf n 100 a2 f3) fun f5 =>
  bn (fX9_addBytesOf n 100 a3 f5) fun f7 =>
  some (f7 100 1, f7)) else (
  some ((-1000000003 : Int32), f))
set_option maxHeartbeats 4000000 in
set_option maxRecDepth 100000 in
theorem kX11_feed {l : Launch} {G : GE} {N : Nat} {f m : Mm} {n : Nat} {a1 : Int32} {a2 : Int32} {a3 : Int32} {r : Int32} {g : Mm}  (hf : fX11_feed n a1 a2 a3 f = some (r, g)) : MT l G yX11_feed cX11_feed 5 (some .int) rmX11_feed [.ref (gz G + 0), .int a1, .int a2, .int a3] N f m (some (.int r)) N g m := by
  unfold fX11_feed at hf
  refine MT.of (by decide) (Nat.le_of_ble_eq_true rfl) (fun V ls hV hR B hl => ?_)
  have B : CX V G cX11_feed 5 "FluxWatch" (some .int) := B
  have hl : lv_has ls 5 [(0, .ref (gz G + 0)), (1, .int a1), (2, .int a2), (3, .int a3)] := hl
  show WX V G N f m 0 0 (QQ V G (some (.int r)) N g m 0 0) 0 ls []
  refine x_aload_n B dX11_feed_0 rfl (lv_at hl 0 rfl) ?_
  refine y_getFs (C := RX11) (T := TX11) (NN := 10) (d := 99) B (rg_11_0.at0 rfl) inX11 rfl (j := 8) (by decide) q_396 rfl rfl (by decide) dX11_feed_1 ?_
  refine y_getFs (C := RX3) (T := TX3) (NN := 5) (d := 1) B (rg_3_99.at0 rfl) inX3 rfl (j := 0) (by decide) q_339 rfl rfl (by decide) dX11_feed_4 ?_
  refine x_astore (lv' := [(4, .ref (gz G + 100)), (0, .ref (gz G + 0)), (1, .int a1), (2, .int a2), (3, .int a3)]) B dX11_feed_7 hl (by decide) rfl (fun ls hl => ?_)
  refine x_aload B dX11_feed_9 (lv_at hl 0 rfl) ?_
  refine y_getFi (C := RX9) (T := TX9) (NN := 6) B (rg_9_100.at0 rfl) inX9 rfl (j := 1) (by decide) q_317 rfl rfl dX11_feed_11 ?_
  refine x_bipush (v := (nI 12)) B dX11_feed_14 (by decide) ?_
  refine x_iadd B dX11_feed_16 ?_
  refine x_bipush (v := (nI 96)) B dX11_feed_17 (by decide) ?_
  refine x_icmp_le (tgt := 25) B dX11_feed_19 (by decide) (fun h1 => ?_) (fun h1 => ?_)
  · have hf := ip h1 hf
    refine x_aload B dX11_feed_25 (lv_at hl 0 rfl) ?_
    refine x_iload_n B dX11_feed_27 rfl (lv_at hl 2 rfl) ?_
    obtain ⟨f3, c2, hf⟩ := bn_some hf
    refine x_callV0 (rest := []) B (kX9_addBytesOf rg_9_100 c2) ⟨rfl, rfl⟩ (rg_9_100.at0 (N := N) rfl).lt (rg_9_100.at0 (N := N) rfl).2 rfl (by decide) q_711 q_712 q_713 (by rw [hR]; exact cw_X11_feed_X9_addBytesOf) rfl rfl hl.1 (Nat.le_of_ble_eq_true rfl) dX11_feed_28 ⟨Nat.zero_le _, Nat.zero_le _⟩ ?_
    refine x_aload B dX11_feed_31 (lv_at hl 0 rfl) ?_
    refine x_iload_n B dX11_feed_33 rfl (lv_at hl 3 rfl) ?_
    obtain ⟨f5, c4, hf⟩ := bn_some hf
    refine x_callV0 (rest := []) B (kX9_addBytesOf rg_9_100 c4) ⟨rfl, rfl⟩ (rg_9_100.at0 (N := N) rfl).lt (rg_9_100.at0 (N := N) rfl).2 rfl (by decide) q_711 q_712 q_713 (by rw [hR]; exact cw_X11_feed_X9_addBytesOf) rfl rfl hl.1 (Nat.le_of_ble_eq_true rfl) dX11_feed_34 ⟨Nat.zero_le _, Nat.zero_le _⟩ ?_
    refine x_aload B dX11_feed_37 (lv_at hl 0 rfl) ?_
    refine x_iload_n B dX11_feed_39 rfl (lv_at hl 4 rfl) ?_
    obtain ⟨f7, c6, hf⟩ := bn_some hf
    refine x_callV0 (rest := []) B (kX9_addBytesOf rg_9_100 c6) ⟨rfl, rfl⟩ (rg_9_100.at0 (N := N) rfl).lt (rg_9_100.at0 (N := N) rfl).2 rfl (by decide) q_711 q_712 q_713 (by rw [hR]; exact cw_X11_feed_X9_addBytesOf) rfl rfl hl.1 (Nat.le_of_ble_eq_true rfl) dX11_feed_40 ⟨Nat.zero_le _, Nat.zero_le _⟩ ?_
    refine x_aload B dX11_feed_43 (lv_at hl 0 rfl) ?_
    refine y_getFi (C := RX9) (T := TX9) (NN := 6) B (rg_9_100.at0 rfl) inX9 rfl (j := 1) (by decide) q_317 rfl rfl dX11_feed_45 ?_
    obtain ⟨rfl, rfl⟩ := rt2 hf
    exact x_iret B dX11_feed_48
  · have hf := iq h1 hf
    refine x_ldc (v := (-1000000003 : Int32)) B q_601 dX11_feed_22 ?_
    obtain ⟨rfl, rfl⟩ := rt2 hf
    exact x_iret B dX11_feed_24
def rmX11_fit : Room := { frames := 3, cells := 0, slots := 0, locals := 112 }
set_option maxHeartbeats 4000000 in
set_option maxRecDepth 100000 in
theorem cw_X11_fit_X10_stepFits : cwB rmX11_fit rmX10_stepFits yX10_stepFits cX10_stepFits 3 (some .boolean) 1 := ⟨q_535, q_46, by decide, by decide⟩
def fX11_fit_32 (n : Nat)  (k4 : Int32 → Int32 → Mm → Option (Int32)) (x1 : Int32) (x2 : Int32) (f : Mm) : Option (Int32) :=
  k4 x1 (x2 + (nI 1)) f
set_option maxHeartbeats 4000000 in
set_option maxRecDepth 100000 in
theorem fX11_fit_32_ok {V : VE} {G : GE} {N : Nat} {f m : Mm} {n : Nat} {ls : Array Slot} {r : Int32} (B : CX V G cX11_fit 3 "FluxWatch" (some .int)) (hR : V.2.2.2.1 = rmX11_fit)  {k4 : Int32 → Int32 → Mm → Option (Int32)} (hk4 : ∀ (x1 : Int32) (x2 : Int32) (mm : Mm) (ls : Array Slot),  lv_has ls 3 [(0, .ref (gz G + 0)), (1, .int x1), (2, .int x2)] → k4 x1 x2 mm = some r → WX V G N mm m 0 0 (QQ V G (some (.int r)) N mm m 0 0) 4 ls []) {x1 : Int32} {x2 : Int32}  (hl : lv_has ls 3 [(0, .ref (gz G + 0)), (1, .int x1), (2, .int x2)]) (hf : fX11_fit_32 n  k4 x1 x2 f = some r) : WX V G N f m 0 0 (QQ V G (some (.int r)) N f m 0 0) 32 ls [] := by
  unfold fX11_fit_32 at hf
  refine x_iinc (k := 2) (v := (nI 1)) (lv' := [(2, .int (x2 + (nI 1))), (0, .ref (gz G + 0)), (1, .int x1)]) B dX11_fit_32 hl rfl (by decide) (by decide) rfl (fun ls hl => ?_)
  refine x_goto (tgt := 4) B dX11_fit_35 (by decide) ?_
  exact hk4 _ _ _ _ (lv_sub hl [1, 2, 0] rfl) hf
def fX11_fit_4 (n : Nat)   (k4 : Int32 → Int32 → Mm → Option (Int32)) (x1 : Int32) (x2 : Int32) (f : Mm) : Option (Int32) :=
  if (f 10 4) ≤ x2 then (
  some x1) else (
  bn (fX10_stepFits n 1 x2 f) fun r3 =>
  if r3 = 0 then (
  fX11_fit_32 n k4 x1 x2 f) else (
  fX11_fit_32 n k4 (x1 + (nI 1)) x2 f))
def fX11_fit_4L (n : Nat)   : Nat → Int32 → Int32 → Mm → Option (Int32)
  | 0 => fun _ _ _ => none
  | q + 1 => fX11_fit_4 n   (fX11_fit_4L n   q)
set_option maxHeartbeats 4000000 in
set_option maxRecDepth 100000 in
theorem fX11_fit_4_ok {V : VE} {G : GE} {N : Nat} {f m : Mm} {n : Nat} {ls : Array Slot} {r : Int32} (B : CX V G cX11_fit 3 "FluxWatch" (some .int)) (hR : V.2.2.2.1 = rmX11_fit)   {k4 : Int32 → Int32 → Mm → Option (Int32)} (hk4 : ∀ (x1 : Int32) (x2 : Int32) (mm : Mm) (ls : Array Slot),  lv_has ls 3 [(0, .ref (gz G + 0)), (1, .int x1), (2, .int x2)] → k4 x1 x2 mm = some r → WX V G N mm m 0 0 (QQ V G (some (.int r)) N mm m 0 0) 4 ls []) {x1 : Int32} {x2 : Int32}  (hl : lv_has ls 3 [(0, .ref (gz G + 0)), (1, .int x1), (2, .int x2)]) (hf : fX11_fit_4 n  k4 x1 x2 f = some r) : WX V G N f m 0 0 (QQ V G (some (.int r)) N f m 0 0) 4 ls [] := by
  unfold fX11_fit_4 at hf
  refine x_iload_n B dX11_fit_4 rfl (lv_at hl 2 rfl) ?_
  refine x_aload_n B dX11_fit_5 rfl (lv_at hl 0 rfl) ?_
  refine y_getFs (C := RX11) (T := TX11) (NN := 10) (d := 1) B (rg_11_0.at0 rfl) inX11 rfl (j := 0) (by decide) q_388 rfl rfl (by decide) dX11_fit_6 ?_
  refine y_getFs (C := RX10) (T := TX10) (NN := 16) (d := 9) B (rg_10_1.at0 rfl) inX10 rfl (j := 8) (by decide) q_208 rfl rfl (by decide) dX11_fit_9 ?_
  refine y_getFi (C := RX8) (T := TX8) (NN := 5) B (rg_8_10.at0 rfl) inX8 rfl (j := 4) (by decide) q_153 rfl rfl dX11_fit_12 ?_
  refine x_icmp_ge (tgt := 38) B dX11_fit_15 (by decide) (fun h1 => ?_) (fun h1 => ?_)
  · have hf := ip h1 hf
    refine x_iload_n B dX11_fit_38 rfl (lv_at hl 1 rfl) ?_
    obtain rfl := rt1 hf
    exact x_iret B dX11_fit_39
  · have hf := iq h1 hf
    refine x_aload_n B dX11_fit_18 rfl (lv_at hl 0 rfl) ?_
    refine y_getFs (C := RX11) (T := TX11) (NN := 10) (d := 1) B (rg_11_0.at0 rfl) inX11 rfl (j := 0) (by decide) q_388 rfl rfl (by decide) dX11_fit_19 ?_
    refine x_iload_n B dX11_fit_22 rfl (lv_at hl 2 rfl) ?_
    obtain ⟨r3, c2, hf⟩ := bn_some hf
    refine x_callV0 (rest := []) B (kX10_stepFits rg_10_1 c2) ⟨rfl, rfl⟩ (rg_10_1.at0 (N := N) rfl).lt (rg_10_1.at0 (N := N) rfl).2 rfl (by decide) q_532 q_533 q_534 (by rw [hR]; exact cw_X11_fit_X10_stepFits) rfl rfl hl.1 (Nat.le_of_ble_eq_true rfl) dX11_fit_23 ⟨Nat.zero_le _, Nat.zero_le _⟩ ?_
    refine x_if_eq (tgt := 32) B dX11_fit_26 (by decide) (fun h4 => ?_) (fun h4 => ?_)
    · have hf := ip h4 hf
      exact fX11_fit_32_ok B hR hk4 hl hf
    · have hf := iq h4 hf
      refine x_iinc (k := 1) (v := (nI 1)) (lv' := [(1, .int (x1 + (nI 1))), (0, .ref (gz G + 0)), (2, .int x2)]) B dX11_fit_29 hl rfl (by decide) (by decide) rfl (fun ls hl => ?_)
      exact fX11_fit_32_ok B hR hk4 (lv_sub hl [1, 0, 2] rfl) hf
set_option maxHeartbeats 4000000 in
set_option maxRecDepth 100000 in
theorem fX11_fit_4L_ok {V : VE} {G : GE} {N : Nat} {m : Mm} {n : Nat}  {r : Int32} (B : CX V G cX11_fit 3 "FluxWatch" (some .int)) (hR : V.2.2.2.1 = rmX11_fit)   : ∀ (q : Nat) (x1 : Int32) (x2 : Int32) (mm : Mm) (ls : Array Slot),  lv_has ls 3 [(0, .ref (gz G + 0)), (1, .int x1), (2, .int x2)] → fX11_fit_4L n  q x1 x2 mm = some r → WX V G N mm m 0 0 (QQ V G (some (.int r)) N mm m 0 0) 4 ls [] := by
  intro q
  induction q with
  | zero =>
    intro x1 x2 mm ls hl hf
    cases hf
  | succ q ih =>
    intro x1 x2 mm ls hl hf
    exact fX11_fit_4_ok B hR   ih  hl hf
def fX11_fit (n : Nat)  (f : Mm) : Option (Int32) :=
  fX11_fit_4L n n (nI 0) (nI 0) f
set_option maxHeartbeats 4000000 in
set_option maxRecDepth 100000 in
theorem kX11_fit {l : Launch} {G : GE} {N : Nat} {f m : Mm} {n : Nat}  {r : Int32}  (hf : fX11_fit n f = some r) : MT l G yX11_fit cX11_fit 3 (some .int) rmX11_fit [.ref (gz G + 0)] N f m (some (.int r)) N f m := by
  unfold fX11_fit at hf
  refine MT.of (by decide) (Nat.le_of_ble_eq_true rfl) (fun V ls hV hR B hl => ?_)
  have B : CX V G cX11_fit 3 "FluxWatch" (some .int) := B
  have hl : lv_has ls 3 [(0, .ref (gz G + 0))] := hl
  show WX V G N f m 0 0 (QQ V G (some (.int r)) N f m 0 0) 0 ls []
  refine x_iconst (v := (nI 0)) B dX11_fit_0 (by decide) ?_
  refine x_istore_n (lv' := [(1, .int (nI 0)), (0, .ref (gz G + 0))]) B dX11_fit_1 rfl hl (by decide) rfl (fun ls hl => ?_)
  refine x_iconst (v := (nI 0)) B dX11_fit_2 (by decide) ?_
  refine x_istore_n (lv' := [(2, .int (nI 0)), (1, .int (nI 0)), (0, .ref (gz G + 0))]) B dX11_fit_3 rfl hl (by decide) rfl (fun ls hl => ?_)
  exact fX11_fit_4L_ok B hR  n _ _ _ _ (lv_sub hl [2, 1, 0] rfl) hf
def rmX11_isHeight : Room := { frames := 0, cells := 0, slots := 0, locals := 0 }
def fX11_isHeight (n : Nat) (a1 : Int32)  : Option (Int32) :=
  if a1 < (-999 : Int32) then (
  some (nI 0)) else (
  if (nI 999) < a1 then (
  some (nI 0)) else (
  some (nI 1)))
set_option maxHeartbeats 4000000 in
set_option maxRecDepth 100000 in
theorem kX11_isHeight {l : Launch} {G : GE} {N : Nat} {f m : Mm} {n : Nat} {a1 : Int32} {r : Int32}  (hf : fX11_isHeight n a1 = some r) : MT l G yX11_isHeight cX11_isHeight 1 (some .boolean) rmX11_isHeight [.int a1] N f m (some (.int r)) N f m := by
  unfold fX11_isHeight at hf
  refine MT.of (by decide) (Nat.le_of_ble_eq_true rfl) (fun V ls hV hR B hl => ?_)
  have B : CX V G cX11_isHeight 1 "FluxWatch" (some .boolean) := B
  have hl : lv_has ls 1 [(0, .int a1)] := hl
  show WX V G N f m 0 0 (QQ V G (some (.int r)) N f m 0 0) 0 ls []
  refine x_iload_n B dX11_isHeight_0 rfl (lv_at hl 0 rfl) ?_
  refine x_sipush (v := (-999 : Int32)) B dX11_isHeight_1 (by decide) ?_
  refine x_icmp_lt (tgt := 18) B dX11_isHeight_4 (by decide) (fun h1 => ?_) (fun h1 => ?_)
  · have hf := ip h1 hf
    refine x_iconst (v := (nI 0)) B dX11_isHeight_18 (by decide) ?_
    obtain rfl := rt1 hf
    exact x_zret B (by decide) dX11_isHeight_19
  · have hf := iq h1 hf
    refine x_iload_n B dX11_isHeight_7 rfl (lv_at hl 0 rfl) ?_
    refine x_sipush (v := (nI 999)) B dX11_isHeight_8 (by decide) ?_
    refine x_icmp_gt (tgt := 18) B dX11_isHeight_11 (by decide) (fun h2 => ?_) (fun h2 => ?_)
    · have hf := ip h2 hf
      refine x_iconst (v := (nI 0)) B dX11_isHeight_18 (by decide) ?_
      obtain rfl := rt1 hf
      exact x_zret B (by decide) dX11_isHeight_19
    · have hf := iq h2 hf
      refine x_iconst (v := (nI 1)) B dX11_isHeight_14 (by decide) ?_
      refine x_goto (tgt := 19) B dX11_isHeight_15 (by decide) ?_
      obtain rfl := rt1 hf
      exact x_zret B (by decide) dX11_isHeight_19
def rmX11_heightsAhead : Room := { frames := 1, cells := 0, slots := 0, locals := 20 }
set_option maxHeartbeats 4000000 in
set_option maxRecDepth 100000 in
theorem cw_X11_heightsAhead_X11_isHeight : cwB rmX11_heightsAhead rmX11_isHeight yX11_isHeight cX11_isHeight 1 (some .boolean) 1 := ⟨q_514, q_45, by decide, by decide⟩
def fX11_heightsAhead_2 (n : Nat) (b1 : Nat)  (k2 : Int32 → Mm → Option (Int32)) (x1 : Int32) (f : Mm) : Option (Int32) :=
  if (f b1 1) ≤ x1 then (
  some x1) else (
  gd (ib x1 24) <|
  bn (fX11_isHeight n (f (b1 + 1) x1.toNatClampNeg)) fun r4 =>
  if r4 = 0 then (
  some x1) else (
  k2 (x1 + (nI 1)) f))
def fX11_heightsAhead_2L (n : Nat) (b1 : Nat)  : Nat → Int32 → Mm → Option (Int32)
  | 0 => fun _ _ => none
  | q + 1 => fX11_heightsAhead_2 n b1  (fX11_heightsAhead_2L n b1  q)
set_option maxHeartbeats 4000000 in
set_option maxRecDepth 100000 in
theorem fX11_heightsAhead_2_ok {V : VE} {G : GE} {N : Nat} {f m : Mm} {n : Nat} {ls : Array Slot} {b1 : Nat} {r : Int32} (B : CX V G cX11_heightsAhead 2 "FluxWatch" (some .int)) (hR : V.2.2.2.1 = rmX11_heightsAhead) (hb1 : rg 5 b1)  {k2 : Int32 → Mm → Option (Int32)} (hk2 : ∀ (x1 : Int32) (mm : Mm) (ls : Array Slot),  lv_has ls 2 [(0, .ref (gz G + b1)), (1, .int x1)] → k2 x1 mm = some r → WX V G N mm m 0 0 (QQ V G (some (.int r)) N mm m 0 0) 2 ls []) {x1 : Int32}  (hl : lv_has ls 2 [(0, .ref (gz G + b1)), (1, .int x1)]) (hf : fX11_heightsAhead_2 n b1 k2 x1 f = some r) : WX V G N f m 0 0 (QQ V G (some (.int r)) N f m 0 0) 2 ls [] := by
  unfold fX11_heightsAhead_2 at hf
  refine x_iload_n B dX11_heightsAhead_2 rfl (lv_at hl 1 rfl) ?_
  refine x_aload_n B dX11_heightsAhead_3 rfl (lv_at hl 0 rfl) ?_
  refine y_getFi (C := RX5) (T := TX5) (NN := 3) B (hb1.at0 rfl) inX5 rfl (j := 1) (by decide) q_266 rfl rfl dX11_heightsAhead_4 ?_
  refine x_icmp_ge (tgt := 28) B dX11_heightsAhead_7 (by decide) (fun h1 => ?_) (fun h1 => ?_)
  · have hf := ip h1 hf
    refine x_iload_n B dX11_heightsAhead_28 rfl (lv_at hl 1 rfl) ?_
    obtain rfl := rt1 hf
    exact x_iret B dX11_heightsAhead_29
  · have hf := iq h1 hf
    refine x_aload_n B dX11_heightsAhead_10 rfl (lv_at hl 0 rfl) ?_
    refine y_getFs (C := RX5) (T := TX5) (NN := 3) (d := 1) B (hb1.at0 rfl) inX5 rfl (j := 2) (by decide) q_268 rfl rfl (by decide) dX11_heightsAhead_11 ?_
    refine x_iload_n B dX11_heightsAhead_14 rfl (lv_at hl 1 rfl) ?_
    obtain ⟨h2, hf⟩ := gd_some hf
    refine x_ialdF B (hb1.at 1 rfl) h2 dX11_heightsAhead_15 ?_
    obtain ⟨r4, c3, hf⟩ := bn_some hf
    refine x_callS0 (rest := []) B (kX11_isHeight c3) ⟨rfl, rfl⟩ q_512 q_513 (by rw [hR]; exact cw_X11_heightsAhead_X11_isHeight) rfl rfl hl.1 (Nat.le_of_ble_eq_true rfl) dX11_heightsAhead_16 ⟨Nat.zero_le _, Nat.zero_le _⟩ ?_
    refine x_if_eq (tgt := 28) B dX11_heightsAhead_19 (by decide) (fun h5 => ?_) (fun h5 => ?_)
    · have hf := ip h5 hf
      refine x_iload_n B dX11_heightsAhead_28 rfl (lv_at hl 1 rfl) ?_
      obtain rfl := rt1 hf
      exact x_iret B dX11_heightsAhead_29
    · have hf := iq h5 hf
      refine x_iinc (k := 1) (v := (nI 1)) (lv' := [(1, .int (x1 + (nI 1))), (0, .ref (gz G + b1))]) B dX11_heightsAhead_22 hl rfl (by decide) (by decide) rfl (fun ls hl => ?_)
      refine x_goto (tgt := 2) B dX11_heightsAhead_25 (by decide) ?_
      exact hk2 _ _ _ (lv_sub hl [1, 0] rfl) hf
set_option maxHeartbeats 4000000 in
set_option maxRecDepth 100000 in
theorem fX11_heightsAhead_2L_ok {V : VE} {G : GE} {N : Nat} {m : Mm} {n : Nat}  {b1 : Nat} {r : Int32} (B : CX V G cX11_heightsAhead 2 "FluxWatch" (some .int)) (hR : V.2.2.2.1 = rmX11_heightsAhead) (hb1 : rg 5 b1)  : ∀ (q : Nat) (x1 : Int32) (mm : Mm) (ls : Array Slot),  lv_has ls 2 [(0, .ref (gz G + b1)), (1, .int x1)] → fX11_heightsAhead_2L n b1 q x1 mm = some r → WX V G N mm m 0 0 (QQ V G (some (.int r)) N mm m 0 0) 2 ls [] := by
  intro q
  induction q with
  | zero =>
    intro x1 mm ls hl hf
    cases hf
  | succ q ih =>
    intro x1 mm ls hl hf
    exact fX11_heightsAhead_2_ok B hR hb1  ih  hl hf
def fX11_heightsAhead (n : Nat) (b1 : Nat) (f : Mm) : Option (Int32) :=
  fX11_heightsAhead_2L n b1 n (nI 0) f
set_option maxHeartbeats 4000000 in
set_option maxRecDepth 100000 in
theorem kX11_heightsAhead {l : Launch} {G : GE} {N : Nat} {f m : Mm} {n : Nat} {b1 : Nat} {r : Int32} (hb1 : rg 5 b1) (hf : fX11_heightsAhead n b1 f = some r) : MT l G yX11_heightsAhead cX11_heightsAhead 2 (some .int) rmX11_heightsAhead [.ref (gz G + b1)] N f m (some (.int r)) N f m := by
  unfold fX11_heightsAhead at hf
  refine MT.of (by decide) (Nat.le_of_ble_eq_true rfl) (fun V ls hV hR B hl => ?_)
  have B : CX V G cX11_heightsAhead 2 "FluxWatch" (some .int) := B
  have hl : lv_has ls 2 [(0, .ref (gz G + b1))] := hl
  show WX V G N f m 0 0 (QQ V G (some (.int r)) N f m 0 0) 0 ls []
  refine x_iconst (v := (nI 0)) B dX11_heightsAhead_0 (by decide) ?_
  refine x_istore_n (lv' := [(1, .int (nI 0)), (0, .ref (gz G + b1))]) B dX11_heightsAhead_1 rfl hl (by decide) rfl (fun ls hl => ?_)
  exact fX11_heightsAhead_2L_ok B hR hb1  n _ _ _ (lv_sub hl [1, 0] rfl) hf
def rmX11_isDay : Room := { frames := 0, cells := 0, slots := 0, locals := 0 }
def fX11_isDay (n : Nat) (a1 : Int32)  : Option (Int32) :=
  if a1 < 0 then (
  some (nI 0)) else (
  if (nI 1999) < a1 then (
  some (nI 0)) else (
  some (nI 1)))
set_option maxHeartbeats 4000000 in
set_option maxRecDepth 100000 in
theorem kX11_isDay {l : Launch} {G : GE} {N : Nat} {f m : Mm} {n : Nat} {a1 : Int32} {r : Int32}  (hf : fX11_isDay n a1 = some r) : MT l G yX11_isDay cX11_isDay 1 (some .boolean) rmX11_isDay [.int a1] N f m (some (.int r)) N f m := by
  unfold fX11_isDay at hf
  refine MT.of (by decide) (Nat.le_of_ble_eq_true rfl) (fun V ls hV hR B hl => ?_)
  have B : CX V G cX11_isDay 1 "FluxWatch" (some .boolean) := B
  have hl : lv_has ls 1 [(0, .int a1)] := hl
  show WX V G N f m 0 0 (QQ V G (some (.int r)) N f m 0 0) 0 ls []
  refine x_iload_n B dX11_isDay_0 rfl (lv_at hl 0 rfl) ?_
  refine x_if_lt (tgt := 15) B dX11_isDay_1 (by decide) (fun h1 => ?_) (fun h1 => ?_)
  · have hf := ip h1 hf
    refine x_iconst (v := (nI 0)) B dX11_isDay_15 (by decide) ?_
    obtain rfl := rt1 hf
    exact x_zret B (by decide) dX11_isDay_16
  · have hf := iq h1 hf
    refine x_iload_n B dX11_isDay_4 rfl (lv_at hl 0 rfl) ?_
    refine x_sipush (v := (nI 1999)) B dX11_isDay_5 (by decide) ?_
    refine x_icmp_gt (tgt := 15) B dX11_isDay_8 (by decide) (fun h2 => ?_) (fun h2 => ?_)
    · have hf := ip h2 hf
      refine x_iconst (v := (nI 0)) B dX11_isDay_15 (by decide) ?_
      obtain rfl := rt1 hf
      exact x_zret B (by decide) dX11_isDay_16
    · have hf := iq h2 hf
      refine x_iconst (v := (nI 1)) B dX11_isDay_11 (by decide) ?_
      refine x_goto (tgt := 16) B dX11_isDay_12 (by decide) ?_
      obtain rfl := rt1 hf
      exact x_zret B (by decide) dX11_isDay_16
def rmX11_isSpan : Room := { frames := 1, cells := 0, slots := 0, locals := 20 }
set_option maxHeartbeats 4000000 in
set_option maxRecDepth 100000 in
theorem cw_X11_isSpan_X11_isDay : cwB rmX11_isSpan rmX11_isDay yX11_isDay cX11_isDay 1 (some .boolean) 1 := ⟨q_476, q_45, by decide, by decide⟩
def fX11_isSpan (n : Nat) (a1 : Int32) (a2 : Int32)  : Option (Int32) :=
  bn (fX11_isDay n a1) fun r2 =>
  if r2 = 0 then (
  some (nI 0)) else (
  bn (fX11_isDay n a2) fun r5 =>
  if r5 = 0 then (
  some (nI 0)) else (
  if a2 < a1 then (
  some (nI 0)) else (
  some (nI 1))))
set_option maxHeartbeats 4000000 in
set_option maxRecDepth 100000 in
theorem kX11_isSpan {l : Launch} {G : GE} {N : Nat} {f m : Mm} {n : Nat} {a1 : Int32} {a2 : Int32} {r : Int32}  (hf : fX11_isSpan n a1 a2 = some r) : MT l G yX11_isSpan cX11_isSpan 2 (some .boolean) rmX11_isSpan [.int a1, .int a2] N f m (some (.int r)) N f m := by
  unfold fX11_isSpan at hf
  refine MT.of (by decide) (Nat.le_of_ble_eq_true rfl) (fun V ls hV hR B hl => ?_)
  have B : CX V G cX11_isSpan 2 "FluxWatch" (some .boolean) := B
  have hl : lv_has ls 2 [(0, .int a1), (1, .int a2)] := hl
  show WX V G N f m 0 0 (QQ V G (some (.int r)) N f m 0 0) 0 ls []
  refine x_iload_n B dX11_isSpan_0 rfl (lv_at hl 0 rfl) ?_
  obtain ⟨r2, c1, hf⟩ := bn_some hf
  refine x_callS0 (rest := []) B (kX11_isDay c1) ⟨rfl, rfl⟩ q_474 q_475 (by rw [hR]; exact cw_X11_isSpan_X11_isDay) rfl rfl hl.1 (Nat.le_of_ble_eq_true rfl) dX11_isSpan_1 ⟨Nat.zero_le _, Nat.zero_le _⟩ ?_
  refine x_if_eq (tgt := 23) B dX11_isSpan_4 (by decide) (fun h3 => ?_) (fun h3 => ?_)
  · have hf := ip h3 hf
    refine x_iconst (v := (nI 0)) B dX11_isSpan_23 (by decide) ?_
    obtain rfl := rt1 hf
    exact x_zret B (by decide) dX11_isSpan_24
  · have hf := iq h3 hf
    refine x_iload_n B dX11_isSpan_7 rfl (lv_at hl 1 rfl) ?_
    obtain ⟨r5, c4, hf⟩ := bn_some hf
    refine x_callS0 (rest := []) B (kX11_isDay c4) ⟨rfl, rfl⟩ q_474 q_475 (by rw [hR]; exact cw_X11_isSpan_X11_isDay) rfl rfl hl.1 (Nat.le_of_ble_eq_true rfl) dX11_isSpan_8 ⟨Nat.zero_le _, Nat.zero_le _⟩ ?_
    refine x_if_eq (tgt := 23) B dX11_isSpan_11 (by decide) (fun h6 => ?_) (fun h6 => ?_)
    · have hf := ip h6 hf
      refine x_iconst (v := (nI 0)) B dX11_isSpan_23 (by decide) ?_
      obtain rfl := rt1 hf
      exact x_zret B (by decide) dX11_isSpan_24
    · have hf := iq h6 hf
      refine x_iload_n B dX11_isSpan_14 rfl (lv_at hl 1 rfl) ?_
      refine x_iload_n B dX11_isSpan_15 rfl (lv_at hl 0 rfl) ?_
      refine x_icmp_lt (tgt := 23) B dX11_isSpan_16 (by decide) (fun h7 => ?_) (fun h7 => ?_)
      · have hf := ip h7 hf
        refine x_iconst (v := (nI 0)) B dX11_isSpan_23 (by decide) ?_
        obtain rfl := rt1 hf
        exact x_zret B (by decide) dX11_isSpan_24
      · have hf := iq h7 hf
        refine x_iconst (v := (nI 1)) B dX11_isSpan_19 (by decide) ?_
        refine x_goto (tgt := 24) B dX11_isSpan_20 (by decide) ?_
        obtain rfl := rt1 hf
        exact x_zret B (by decide) dX11_isSpan_24
def rmX5_has : Room := { frames := 0, cells := 0, slots := 0, locals := 0 }
def fX5_has (n : Nat) (o : Nat) (a1 : Int32) (f : Mm) : Option (Int32) :=
  if a1 < 0 then (
  some (nI 0)) else (
  if (f o 1) ≤ a1 then (
  some (nI 0)) else (
  some (nI 1)))
set_option maxHeartbeats 4000000 in
set_option maxRecDepth 100000 in
theorem kX5_has {l : Launch} {G : GE} {N : Nat} {f m : Mm} {n : Nat} {o : Nat} {a1 : Int32} {r : Int32} (ho : rg 5 o) (hf : fX5_has n o a1 f = some r) : MT l G yX5_has cX5_has 2 (some .boolean) rmX5_has [.ref (gz G + o), .int a1] N f m (some (.int r)) N f m := by
  unfold fX5_has at hf
  refine MT.of (by decide) (Nat.le_of_ble_eq_true rfl) (fun V ls hV hR B hl => ?_)
  have B : CX V G cX5_has 2 "FluxWatch$Sheet" (some .boolean) := B
  have hl : lv_has ls 2 [(0, .ref (gz G + o)), (1, .int a1)] := hl
  show WX V G N f m 0 0 (QQ V G (some (.int r)) N f m 0 0) 0 ls []
  refine x_iload_n B dX5_has_0 rfl (lv_at hl 1 rfl) ?_
  refine x_if_lt (tgt := 16) B dX5_has_1 (by decide) (fun h1 => ?_) (fun h1 => ?_)
  · have hf := ip h1 hf
    refine x_iconst (v := (nI 0)) B dX5_has_16 (by decide) ?_
    obtain rfl := rt1 hf
    exact x_zret B (by decide) dX5_has_17
  · have hf := iq h1 hf
    refine x_iload_n B dX5_has_4 rfl (lv_at hl 1 rfl) ?_
    refine x_aload_n B dX5_has_5 rfl (lv_at hl 0 rfl) ?_
    refine y_getFi (C := RX5) (T := TX5) (NN := 3) B (ho.at0 rfl) inX5 rfl (j := 1) (by decide) q_265 rfl rfl dX5_has_6 ?_
    refine x_icmp_ge (tgt := 16) B dX5_has_9 (by decide) (fun h2 => ?_) (fun h2 => ?_)
    · have hf := ip h2 hf
      refine x_iconst (v := (nI 0)) B dX5_has_16 (by decide) ?_
      obtain rfl := rt1 hf
      exact x_zret B (by decide) dX5_has_17
    · have hf := iq h2 hf
      refine x_iconst (v := (nI 1)) B dX5_has_12 (by decide) ?_
      refine x_goto (tgt := 17) B dX5_has_13 (by decide) ?_
      obtain rfl := rt1 hf
      exact x_zret B (by decide) dX5_has_17
def rmX11_item : Room := { frames := 1, cells := 0, slots := 0, locals := 21 }
set_option maxHeartbeats 4000000 in
set_option maxRecDepth 100000 in
theorem cw_X11_item_X11_isSlot : cwB rmX11_item rmX11_isSlot yX11_isSlot cX11_isSlot 1 (some .boolean) 1 := ⟨q_1040, q_45, by decide, by decide⟩
set_option maxHeartbeats 4000000 in
set_option maxRecDepth 100000 in
theorem cw_X11_item_X5_has : cwB rmX11_item rmX5_has yX5_has cX5_has 2 (some .boolean) 1 := ⟨q_1017, q_52, by decide, by decide⟩
def fX11_item (n : Nat) (a1 : Int32) (a2 : Int32) (f : Mm) : Option (Int32) :=
  bn (fX11_isSlot n a1) fun r2 =>
  if r2 = 0 then (
  some (-1000000001 : Int32)) else (
  gd (ib a1 5) <|
  if (f (82 + 1 + 3 * a1.toNatClampNeg) 0) = 0 then (
  some (-1000000011 : Int32)) else (
  if (f (82 + 1 + 3 * a1.toNatClampNeg) 0) = (nI 2) then (
  bn (fX5_has n (82 + 1 + 3 * a1.toNatClampNeg + 1) a2 f) fun r8 =>
  if r8 = 0 then (
  some (-1000000013 : Int32)) else (
  gd (ib a2 24) <|
  lt (f (82 + 1 + 3 * a1.toNatClampNeg + 1 + 1) a2.toNatClampNeg) fun v11 =>
  if v11 = (-1000000005 : Int32) then (
  some (-1000000012 : Int32)) else (
  some v11))) else (
  some (-1000000012 : Int32))))
set_option maxHeartbeats 4000000 in
set_option maxRecDepth 100000 in
theorem kX11_item {l : Launch} {G : GE} {N : Nat} {f m : Mm} {n : Nat} {a1 : Int32} {a2 : Int32} {r : Int32}  (hf : fX11_item n a1 a2 f = some r) : MT l G yX11_item cX11_item 5 (some .int) rmX11_item [.ref (gz G + 0), .int a1, .int a2] N f m (some (.int r)) N f m := by
  unfold fX11_item at hf
  refine MT.of (by decide) (Nat.le_of_ble_eq_true rfl) (fun V ls hV hR B hl => ?_)
  have B : CX V G cX11_item 5 "FluxWatch" (some .int) := B
  have hl : lv_has ls 5 [(0, .ref (gz G + 0)), (1, .int a1), (2, .int a2)] := hl
  show WX V G N f m 0 0 (QQ V G (some (.int r)) N f m 0 0) 0 ls []
  refine x_iload_n B dX11_item_0 rfl (lv_at hl 1 rfl) ?_
  obtain ⟨r2, c1, hf⟩ := bn_some hf
  refine x_callS0 (rest := []) B (kX11_isSlot c1) ⟨rfl, rfl⟩ q_1038 q_1039 (by rw [hR]; exact cw_X11_item_X11_isSlot) rfl rfl hl.1 (Nat.le_of_ble_eq_true rfl) dX11_item_1 ⟨Nat.zero_le _, Nat.zero_le _⟩ ?_
  refine x_if_ne (tgt := 10) B dX11_item_4 (by decide) (fun h3 => ?_) (fun h3 => ?_)
  · have hf := ip h3 hf
    refine x_ldc (v := (-1000000001 : Int32)) B q_432 dX11_item_7 ?_
    obtain rfl := rt1 hf
    exact x_iret B dX11_item_9
  · have hf := iq h3 hf
    refine x_aload_n B dX11_item_10 rfl (lv_at hl 0 rfl) ?_
    refine y_getFs (C := RX11) (T := TX11) (NN := 10) (d := 82) B (rg_11_0.at0 rfl) inX11 rfl (j := 5) (by decide) q_393 rfl rfl (by decide) dX11_item_11 ?_
    refine x_iload_n B dX11_item_14 rfl (lv_at hl 1 rfl) ?_
    obtain ⟨h4, hf⟩ := gd_some hf
    refine x_aaldT B (rg_11_0.at 82 rfl) h4 dX11_item_15 ?_
    refine x_astore_n (lv' := [(3, .ref (gz G + (82 + 1 + 3 * a1.toNatClampNeg))), (0, .ref (gz G + 0)), (1, .int a1), (2, .int a2)]) B dX11_item_16 rfl hl (by decide) rfl (fun ls hl => ?_)
    refine x_aload_n B dX11_item_17 rfl (lv_at hl 0 rfl) ?_
    refine y_getFi (C := RX6) (T := TX6) (NN := 5) B ((rg_slo h4).at0 rfl) inX6 rfl (j := 0) (by decide) q_286 rfl rfl dX11_item_18 ?_
    refine x_if_ne (tgt := 28) B dX11_item_21 (by decide) (fun h5 => ?_) (fun h5 => ?_)
    · have hf := ip h5 hf
      refine x_ldc_w (v := (-1000000011 : Int32)) B q_910 dX11_item_24 ?_
      obtain rfl := rt1 hf
      exact x_iret B dX11_item_27
    · have hf := iq h5 hf
      refine x_aload_n B dX11_item_28 rfl (lv_at hl 0 rfl) ?_
      refine y_getFi (C := RX6) (T := TX6) (NN := 5) B ((rg_slo h4).at0 rfl) inX6 rfl (j := 0) (by decide) q_286 rfl rfl dX11_item_29 ?_
      refine x_iconst (v := (nI 2)) B dX11_item_32 (by decide) ?_
      refine x_icmp_eq (tgt := 39) B dX11_item_33 (by decide) (fun h6 => ?_) (fun h6 => ?_)
      · have hf := ip h6 hf
        refine x_aload_n B dX11_item_39 rfl (lv_at hl 0 rfl) ?_
        refine y_getFs (C := RX6) (T := TX6) (NN := 5) (d := 1) B ((rg_slo h4).at0 rfl) inX6 rfl (j := 4) (by decide) q_291 rfl rfl (by decide) dX11_item_40 ?_
        refine x_iload_n B dX11_item_43 rfl (lv_at hl 3 rfl) ?_
        obtain ⟨r8, c7, hf⟩ := bn_some hf
        refine x_callV0 (rest := []) B (kX5_has (rs_6_1_5 (rg_slo h4)) c7) ⟨rfl, rfl⟩ ((rs_6_1_5 (rg_slo h4)).at0 (N := N) rfl).lt ((rs_6_1_5 (rg_slo h4)).at0 (N := N) rfl).2 rfl (by decide) q_1014 q_1015 q_1016 (by rw [hR]; exact cw_X11_item_X5_has) rfl rfl hl.1 (Nat.le_of_ble_eq_true rfl) dX11_item_44 ⟨Nat.zero_le _, Nat.zero_le _⟩ ?_
        refine x_if_ne (tgt := 54) B dX11_item_47 (by decide) (fun h9 => ?_) (fun h9 => ?_)
        · have hf := ip h9 hf
          refine x_ldc_w (v := (-1000000013 : Int32)) B q_1018 dX11_item_50 ?_
          obtain rfl := rt1 hf
          exact x_iret B dX11_item_53
        · have hf := iq h9 hf
          refine x_aload_n B dX11_item_54 rfl (lv_at hl 0 rfl) ?_
          refine y_getFs (C := RX6) (T := TX6) (NN := 5) (d := 1) B ((rg_slo h4).at0 rfl) inX6 rfl (j := 4) (by decide) q_291 rfl rfl (by decide) dX11_item_55 ?_
          refine y_getFs (C := RX5) (T := TX5) (NN := 3) (d := 1) B ((rs_6_1_5 (rg_slo h4)).at0 rfl) inX5 rfl (j := 2) (by decide) q_268 rfl rfl (by decide) dX11_item_58 ?_
          refine x_iload_n B dX11_item_61 rfl (lv_at hl 3 rfl) ?_
          obtain ⟨h10, hf⟩ := gd_some hf
          refine x_ialdF B ((rs_6_1_5 (rg_slo h4)).at 1 rfl) h10 dX11_item_62 ?_
          refine x_nm (fun v11 e12 => ?_)
          have hf := lt_some hf e12
          refine x_istore (lv' := [(4, .int v11), (3, .ref (gz G + (82 + 1 + 3 * a1.toNatClampNeg))), (0, .ref (gz G + 0)), (1, .int a1), (2, .int a2)]) B dX11_item_63 hl (by decide) rfl (fun ls hl => ?_)
          refine x_iload B dX11_item_65 (lv_at hl 0 rfl) ?_
          refine x_ldc (v := (-1000000005 : Int32)) B q_461 dX11_item_67 ?_
          refine x_icmp_ne (tgt := 77) B dX11_item_69 (by decide) (fun h13 => ?_) (fun h13 => ?_)
          · have hf := ip h13 hf
            refine x_ldc (v := (-1000000012 : Int32)) B q_565 dX11_item_72 ?_
            refine x_goto (tgt := 79) B dX11_item_74 (by decide) ?_
            obtain rfl := rt1 hf
            exact x_iret B dX11_item_79
          · have hf := iq h13 hf
            refine x_iload B dX11_item_77 (lv_at hl 0 rfl) ?_
            obtain rfl := rt1 hf
            exact x_iret B dX11_item_79
      · have hf := iq h6 hf
        refine x_ldc (v := (-1000000012 : Int32)) B q_565 dX11_item_36 ?_
        obtain rfl := rt1 hf
        exact x_iret B dX11_item_38
