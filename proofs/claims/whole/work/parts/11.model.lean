def rmX12_believed : Room := { frames := 0, cells := 0, slots := 0, locals := 0 }
def fX12_believed_38 (n : Nat)   (x0 : Int32) (x4 : Int64) (s0 : Int32) (s1 : Int64)  : Option (Int32) :=
  if (lg_cmp (x4 + (s1 * s0.toInt64)) (0 : Int64)) = 0 then (
  some x0) else (
  gd (nzl (x4 + (s1 * s0.toInt64))) <|
  some ((((10000 : Int64) * x4) / (x4 + (s1 * s0.toInt64))).toInt32))
set_option maxHeartbeats 4000000 in
set_option maxRecDepth 100000 in
theorem fX12_believed_38_ok {V : VE} {G : GE} {N : Nat} {f m : Mm} {n : Nat} {ls : Array Slot} {r : Int32} (B : CX V G cX12_believed 8 "FluxWatchModel" (some .int)) (hR : V.2.2.2.1 = rmX12_believed)   {x0 : Int32} {x4 : Int64} {s0 : Int32} {s1 : Int64}  (hl : lv_has ls 8 [(0, .int x0), (4, .long x4)]) (hf : fX12_believed_38 n  x0 x4 s0 s1 = some r) : WX V G N f m 0 0 (QQ V G (some (.int r)) N f m 0 0) 38 ls [.int s0, .long s1] := by
  unfold fX12_believed_38 at hf
  refine x_i2l B dX12_believed_38 ?_
  refine x_lmul B dX12_believed_39 ?_
  refine x_lstore (lv' := [(6, .long (s1 * s0.toInt64)), (0, .int x0), (4, .long x4)]) B dX12_believed_40 hl (by decide) rfl (fun ls hl => ?_)
  refine x_lload B dX12_believed_42 (lv_at hl 2 rfl) ?_
  refine x_lload B dX12_believed_44 (lv_at hl 0 rfl) ?_
  refine x_ladd B dX12_believed_46 ?_
  refine x_lconst (v := (0 : Int64)) B dX12_believed_47 (by decide) ?_
  refine x_lcmp B dX12_believed_48 ?_
  refine x_if_ne (tgt := 56) B dX12_believed_49 (by decide) (fun h3 => ?_) (fun h3 => ?_)
  · have hf := ip h3 hf
    refine x_iload_n B dX12_believed_52 rfl (lv_at hl 1 rfl) ?_
    refine x_goto (tgt := 69) B dX12_believed_53 (by decide) ?_
    obtain rfl := rt1 hf
    exact x_iret B dX12_believed_69
  · have hf := iq h3 hf
    refine x_ldc2_w (v := (10000 : Int64)) B q_1394 dX12_believed_56 ?_
    refine x_lload B dX12_believed_59 (lv_at hl 2 rfl) ?_
    refine x_lmul B dX12_believed_61 ?_
    refine x_lload B dX12_believed_62 (lv_at hl 2 rfl) ?_
    refine x_lload B dX12_believed_64 (lv_at hl 0 rfl) ?_
    refine x_ladd B dX12_believed_66 ?_
    obtain ⟨h4, hf⟩ := gd_some hf
    refine x_ldiv B dX12_believed_67 (nzl_ne h4) ?_
    refine x_l2i B dX12_believed_68 ?_
    obtain rfl := rt1 hf
    exact x_iret B dX12_believed_69
def fX12_believed_15 (n : Nat)   (x0 : Int32) (x2 : Int32) (x3 : Int32) (s0 : Int32) (s1 : Int64)  : Option (Int32) :=
  if x3 = 0 then (
  fX12_believed_38 n x0 (s1 * s0.toInt64) ((nI 1000) - x2) ((10000 : Int64) - x0.toInt64)) else (
  fX12_believed_38 n x0 (s1 * s0.toInt64) x2 ((10000 : Int64) - x0.toInt64))
set_option maxHeartbeats 4000000 in
set_option maxRecDepth 100000 in
theorem fX12_believed_15_ok {V : VE} {G : GE} {N : Nat} {f m : Mm} {n : Nat} {ls : Array Slot} {r : Int32} (B : CX V G cX12_believed 8 "FluxWatchModel" (some .int)) (hR : V.2.2.2.1 = rmX12_believed)   {x0 : Int32} {x2 : Int32} {x3 : Int32} {s0 : Int32} {s1 : Int64}  (hl : lv_has ls 8 [(0, .int x0), (2, .int x2), (3, .int x3)]) (hf : fX12_believed_15 n  x0 x2 x3 s0 s1 = some r) : WX V G N f m 0 0 (QQ V G (some (.int r)) N f m 0 0) 15 ls [.int s0, .long s1] := by
  unfold fX12_believed_15 at hf
  refine x_i2l B dX12_believed_15 ?_
  refine x_lmul B dX12_believed_16 ?_
  refine x_lstore (lv' := [(4, .long (s1 * s0.toInt64)), (0, .int x0), (2, .int x2), (3, .int x3)]) B dX12_believed_17 hl (by decide) rfl (fun ls hl => ?_)
  refine x_ldc2_w (v := (10000 : Int64)) B q_1394 dX12_believed_19 ?_
  refine x_iload_n B dX12_believed_22 rfl (lv_at hl 1 rfl) ?_
  refine x_i2l B dX12_believed_23 ?_
  refine x_lsub B dX12_believed_24 ?_
  refine x_iload_n B dX12_believed_25 rfl (lv_at hl 3 rfl) ?_
  refine x_if_eq (tgt := 33) B dX12_believed_26 (by decide) (fun h2 => ?_) (fun h2 => ?_)
  · have hf := ip h2 hf
    refine x_sipush (v := (nI 1000)) B dX12_believed_33 (by decide) ?_
    refine x_iload_n B dX12_believed_36 rfl (lv_at hl 2 rfl) ?_
    refine x_isub B dX12_believed_37 ?_
    exact fX12_believed_38_ok B hR  (lv_sub hl [1, 0] rfl) hf
  · have hf := iq h2 hf
    refine x_iload_n B dX12_believed_29 rfl (lv_at hl 2 rfl) ?_
    refine x_goto (tgt := 38) B dX12_believed_30 (by decide) ?_
    exact fX12_believed_38_ok B hR  (lv_sub hl [1, 0] rfl) hf
def fX12_believed (n : Nat) (a1 : Int32) (a2 : Int32) (a3 : Int32) (a4 : Int32)  : Option (Int32) :=
  if a4 = 0 then (
  fX12_believed_15 n a1 a3 a4 ((nI 1000) - a2) a1.toInt64) else (
  fX12_believed_15 n a1 a3 a4 a2 a1.toInt64)
set_option maxHeartbeats 4000000 in
set_option maxRecDepth 100000 in
theorem kX12_believed {l : Launch} {G : GE} {N : Nat} {f m : Mm} {n : Nat} {a1 : Int32} {a2 : Int32} {a3 : Int32} {a4 : Int32} {r : Int32}  (hf : fX12_believed n a1 a2 a3 a4 = some r) : MT l G yX12_believed cX12_believed 8 (some .int) rmX12_believed [.int a1, .int a2, .int a3, .int a4] N f m (some (.int r)) N f m := by
  unfold fX12_believed at hf
  refine MT.of (by decide) (Nat.le_of_ble_eq_true rfl) (fun V ls hV hR B hl => ?_)
  have B : CX V G cX12_believed 8 "FluxWatchModel" (some .int) := B
  have hl : lv_has ls 8 [(0, .int a1), (1, .int a2), (2, .int a3), (3, .int a4)] := hl
  show WX V G N f m 0 0 (QQ V G (some (.int r)) N f m 0 0) 0 ls []
  refine x_iload_n B dX12_believed_0 rfl (lv_at hl 0 rfl) ?_
  refine x_i2l B dX12_believed_1 ?_
  refine x_iload_n B dX12_believed_2 rfl (lv_at hl 3 rfl) ?_
  refine x_if_eq (tgt := 10) B dX12_believed_3 (by decide) (fun h1 => ?_) (fun h1 => ?_)
  · have hf := ip h1 hf
    refine x_sipush (v := (nI 1000)) B dX12_believed_10 (by decide) ?_
    refine x_iload_n B dX12_believed_13 rfl (lv_at hl 1 rfl) ?_
    refine x_isub B dX12_believed_14 ?_
    exact fX12_believed_15_ok B hR  (lv_sub hl [0, 2, 3] rfl) hf
  · have hf := iq h1 hf
    refine x_iload_n B dX12_believed_6 rfl (lv_at hl 1 rfl) ?_
    refine x_goto (tgt := 15) B dX12_believed_7 (by decide) ?_
    exact fX12_believed_15_ok B hR  (lv_sub hl [0, 2, 3] rfl) hf
def rmX12_comes : Room := { frames := 0, cells := 0, slots := 0, locals := 0 }
def fX12_comes (n : Nat) (a1 : Int32) (a2 : Int32) (a3 : Int32) (a4 : Int32) (m : Mm) : Option (Mm) :=
  lt ((nI 91) + ((nI 4) * (m 108 (nI 8).toNatClampNeg))) fun v1 =>
  gd (ib v1 1719) <|
  lt (up m 108 v1.toNatClampNeg a1) fun f4 =>
  gd (ib (v1 + (nI 1)) 1719) <|
  lt (up f4 108 (v1 + (nI 1)).toNatClampNeg a2) fun f7 =>
  gd (ib (v1 + (nI 2)) 1719) <|
  lt (up f7 108 (v1 + (nI 2)).toNatClampNeg a3) fun f10 =>
  gd (ib (v1 + (nI 3)) 1719) <|
  lt (up f10 108 (v1 + (nI 3)).toNatClampNeg a4) fun f13 =>
  lt (up f13 108 (nI 8).toNatClampNeg ((f13 108 (nI 8).toNatClampNeg) + (nI 1))) fun f15 =>
  some f15
set_option maxHeartbeats 4000000 in
set_option maxRecDepth 100000 in
theorem kX12_comes {l : Launch} {G : GE} {N : Nat} {f m : Mm} {n : Nat} {a1 : Int32} {a2 : Int32} {a3 : Int32} {a4 : Int32} {g : Mm}  (hf : fX12_comes n a1 a2 a3 a4 m = some g) : MT l G yX12_comes cX12_comes 6 none rmX12_comes [.ref (gz G + 107), .int a1, .int a2, .int a3, .int a4] N f m none N f g := by
  unfold fX12_comes at hf
  refine MT.of (by decide) (Nat.le_of_ble_eq_true rfl) (fun V ls hV hR B hl => ?_)
  have B : CX V G cX12_comes 6 "FluxWatchModel" none := B
  have hl : lv_has ls 6 [(0, .ref (gz G + 107)), (1, .int a1), (2, .int a2), (3, .int a3), (4, .int a4)] := hl
  show WX V G N f m 0 0 (QQ V G none N f g 0 0) 0 ls []
  refine x_bipush (v := (nI 91)) B dX12_comes_0 (by decide) ?_
  refine x_iconst (v := (nI 4)) B dX12_comes_2 (by decide) ?_
  refine x_aload_n B dX12_comes_3 rfl (lv_at hl 0 rfl) ?_
  refine y_getMr (C := RX12) (T := TX12) (NN := 34) (d := 0) (k2 := 108) B aM_107 inX12 rfl (j := 0) (by decide) q_1112 rfl rfl rfl dX12_comes_4 ?_
  refine x_bipush (v := (nI 8)) B dX12_comes_7 (by decide) ?_
  refine x_ialdM B aM_108 (by decide) dX12_comes_9 ?_
  refine x_imul B dX12_comes_10 ?_
  refine x_iadd B dX12_comes_11 ?_
  refine x_nm (fun v1 e2 => ?_)
  have hf := lt_some hf e2
  refine x_istore (lv' := [(5, .int v1), (0, .ref (gz G + 107)), (1, .int a1), (2, .int a2), (3, .int a3), (4, .int a4)]) B dX12_comes_12 hl (by decide) rfl (fun ls hl => ?_)
  refine x_aload_n B dX12_comes_14 rfl (lv_at hl 1 rfl) ?_
  refine y_getMr (C := RX12) (T := TX12) (NN := 34) (d := 0) (k2 := 108) B aM_107 inX12 rfl (j := 0) (by decide) q_1112 rfl rfl rfl dX12_comes_15 ?_
  refine x_iload B dX12_comes_18 (lv_at hl 0 rfl) ?_
  refine x_iload_n B dX12_comes_20 rfl (lv_at hl 2 rfl) ?_
  obtain ⟨h3, hf⟩ := gd_some hf
  refine x_iastM B aM_108 h3 dX12_comes_21 (fun f4 e5 => ?_)
  have hf := lt_some hf e5
  refine x_aload_n B dX12_comes_22 rfl (lv_at hl 1 rfl) ?_
  refine y_getMr (C := RX12) (T := TX12) (NN := 34) (d := 0) (k2 := 108) B aM_107 inX12 rfl (j := 0) (by decide) q_1112 rfl rfl rfl dX12_comes_23 ?_
  refine x_iload B dX12_comes_26 (lv_at hl 0 rfl) ?_
  refine x_iconst (v := (nI 1)) B dX12_comes_28 (by decide) ?_
  refine x_iadd B dX12_comes_29 ?_
  refine x_iload_n B dX12_comes_30 rfl (lv_at hl 3 rfl) ?_
  obtain ⟨h6, hf⟩ := gd_some hf
  refine x_iastM B aM_108 h6 dX12_comes_31 (fun f7 e8 => ?_)
  have hf := lt_some hf e8
  refine x_aload_n B dX12_comes_32 rfl (lv_at hl 1 rfl) ?_
  refine y_getMr (C := RX12) (T := TX12) (NN := 34) (d := 0) (k2 := 108) B aM_107 inX12 rfl (j := 0) (by decide) q_1112 rfl rfl rfl dX12_comes_33 ?_
  refine x_iload B dX12_comes_36 (lv_at hl 0 rfl) ?_
  refine x_iconst (v := (nI 2)) B dX12_comes_38 (by decide) ?_
  refine x_iadd B dX12_comes_39 ?_
  refine x_iload_n B dX12_comes_40 rfl (lv_at hl 4 rfl) ?_
  obtain ⟨h9, hf⟩ := gd_some hf
  refine x_iastM B aM_108 h9 dX12_comes_41 (fun f10 e11 => ?_)
  have hf := lt_some hf e11
  refine x_aload_n B dX12_comes_42 rfl (lv_at hl 1 rfl) ?_
  refine y_getMr (C := RX12) (T := TX12) (NN := 34) (d := 0) (k2 := 108) B aM_107 inX12 rfl (j := 0) (by decide) q_1112 rfl rfl rfl dX12_comes_43 ?_
  refine x_iload B dX12_comes_46 (lv_at hl 0 rfl) ?_
  refine x_iconst (v := (nI 3)) B dX12_comes_48 (by decide) ?_
  refine x_iadd B dX12_comes_49 ?_
  refine x_iload B dX12_comes_50 (lv_at hl 5 rfl) ?_
  obtain ⟨h12, hf⟩ := gd_some hf
  refine x_iastM B aM_108 h12 dX12_comes_52 (fun f13 e14 => ?_)
  have hf := lt_some hf e14
  refine x_aload_n B dX12_comes_53 rfl (lv_at hl 1 rfl) ?_
  refine y_getMr (C := RX12) (T := TX12) (NN := 34) (d := 0) (k2 := 108) B aM_107 inX12 rfl (j := 0) (by decide) q_1112 rfl rfl rfl dX12_comes_54 ?_
  refine x_bipush (v := (nI 8)) B dX12_comes_57 (by decide) ?_
  refine x_dup2 B dX12_comes_59 rfl rfl ?_
  refine x_ialdM B aM_108 (by decide) dX12_comes_60 ?_
  refine x_iconst (v := (nI 1)) B dX12_comes_61 (by decide) ?_
  refine x_iadd B dX12_comes_62 ?_
  refine x_iastM B aM_108 (by decide) dX12_comes_63 (fun f15 e16 => ?_)
  have hf := lt_some hf e16
  obtain rfl := rt1 hf
  exact x_vret B dX12_comes_64
def rmX12_draw : Room := { frames := 0, cells := 0, slots := 0, locals := 0 }
def fX12_draw (n : Nat)  (m : Mm) : Option (Int32 × Mm) :=
  lt (up m 108 (nI 0).toNatClampNeg (((m 108 (nI 0).toNatClampNeg) * (nI 1103515245)) + (nI 12345))) fun f1 =>
  some (ushr (f1 108 (nI 0).toNatClampNeg) (nI 8), f1)
set_option maxHeartbeats 4000000 in
set_option maxRecDepth 100000 in
theorem kX12_draw {l : Launch} {G : GE} {N : Nat} {f m : Mm} {n : Nat}  {r : Int32} {g : Mm}  (hf : fX12_draw n m = some (r, g)) : MT l G yX12_draw cX12_draw 1 (some .int) rmX12_draw [.ref (gz G + 107)] N f m (some (.int r)) N f g := by
  unfold fX12_draw at hf
  refine MT.of (by decide) (Nat.le_of_ble_eq_true rfl) (fun V ls hV hR B hl => ?_)
  have B : CX V G cX12_draw 1 "FluxWatchModel" (some .int) := B
  have hl : lv_has ls 1 [(0, .ref (gz G + 107))] := hl
  show WX V G N f m 0 0 (QQ V G (some (.int r)) N f g 0 0) 0 ls []
  refine x_aload_n B dX12_draw_0 rfl (lv_at hl 0 rfl) ?_
  refine y_getMr (C := RX12) (T := TX12) (NN := 34) (d := 0) (k2 := 108) B aM_107 inX12 rfl (j := 0) (by decide) q_1112 rfl rfl rfl dX12_draw_1 ?_
  refine x_iconst (v := (nI 0)) B dX12_draw_4 (by decide) ?_
  refine x_aload_n B dX12_draw_5 rfl (lv_at hl 0 rfl) ?_
  refine y_getMr (C := RX12) (T := TX12) (NN := 34) (d := 0) (k2 := 108) B aM_107 inX12 rfl (j := 0) (by decide) q_1112 rfl rfl rfl dX12_draw_6 ?_
  refine x_iconst (v := (nI 0)) B dX12_draw_9 (by decide) ?_
  refine x_ialdM B aM_108 (by decide) dX12_draw_10 ?_
  refine x_ldc (v := (nI 1103515245)) B q_1382 dX12_draw_11 ?_
  refine x_imul B dX12_draw_13 ?_
  refine x_sipush (v := (nI 12345)) B dX12_draw_14 (by decide) ?_
  refine x_iadd B dX12_draw_17 ?_
  refine x_iastM B aM_108 (by decide) dX12_draw_18 (fun f1 e2 => ?_)
  have hf := lt_some hf e2
  refine x_aload_n B dX12_draw_19 rfl (lv_at hl 0 rfl) ?_
  refine y_getMr (C := RX12) (T := TX12) (NN := 34) (d := 0) (k2 := 108) B aM_107 inX12 rfl (j := 0) (by decide) q_1112 rfl rfl rfl dX12_draw_20 ?_
  refine x_iconst (v := (nI 0)) B dX12_draw_23 (by decide) ?_
  refine x_ialdM B aM_108 (by decide) dX12_draw_24 ?_
  refine x_bipush (v := (nI 8)) B dX12_draw_25 (by decide) ?_
  refine y_iushr B dX12_draw_27 ?_
  obtain ⟨rfl, rfl⟩ := rt2 hf
  exact x_iret B dX12_draw_28
def rmX12_coil3 : Room := { frames := 0, cells := 0, slots := 0, locals := 0 }
def fX12_coil3 (n : Nat) (a1 : Int32) (a2 : Int32) (m : Mm) : Option (Int32) :=
  gd (ib (((nI 13) + ((nI 3) * a1)) + a2) 1719) <|
  some (m 108 (((nI 13) + ((nI 3) * a1)) + a2).toNatClampNeg)
set_option maxHeartbeats 4000000 in
set_option maxRecDepth 100000 in
theorem kX12_coil3 {l : Launch} {G : GE} {N : Nat} {f m : Mm} {n : Nat} {a1 : Int32} {a2 : Int32} {r : Int32}  (hf : fX12_coil3 n a1 a2 m = some r) : MT l G yX12_coil3 cX12_coil3 3 (some .int) rmX12_coil3 [.ref (gz G + 107), .int a1, .int a2] N f m (some (.int r)) N f m := by
  unfold fX12_coil3 at hf
  refine MT.of (by decide) (Nat.le_of_ble_eq_true rfl) (fun V ls hV hR B hl => ?_)
  have B : CX V G cX12_coil3 3 "FluxWatchModel" (some .int) := B
  have hl : lv_has ls 3 [(0, .ref (gz G + 107)), (1, .int a1), (2, .int a2)] := hl
  show WX V G N f m 0 0 (QQ V G (some (.int r)) N f m 0 0) 0 ls []
  refine x_aload_n B dX12_coil3_0 rfl (lv_at hl 0 rfl) ?_
  refine y_getMr (C := RX12) (T := TX12) (NN := 34) (d := 0) (k2 := 108) B aM_107 inX12 rfl (j := 0) (by decide) q_1112 rfl rfl rfl dX12_coil3_1 ?_
  refine x_bipush (v := (nI 13)) B dX12_coil3_4 (by decide) ?_
  refine x_iconst (v := (nI 3)) B dX12_coil3_6 (by decide) ?_
  refine x_iload_n B dX12_coil3_7 rfl (lv_at hl 1 rfl) ?_
  refine x_imul B dX12_coil3_8 ?_
  refine x_iadd B dX12_coil3_9 ?_
  refine x_iload_n B dX12_coil3_10 rfl (lv_at hl 2 rfl) ?_
  refine x_iadd B dX12_coil3_11 ?_
  obtain ⟨h1, hf⟩ := gd_some hf
  refine x_ialdM B aM_108 h1 dX12_coil3_12 ?_
  obtain rfl := rt1 hf
  exact x_iret B dX12_coil3_13
def rmX12_step4 : Room := { frames := 0, cells := 0, slots := 0, locals := 0 }
def fX12_step4 (n : Nat) (a1 : Int32) (a2 : Int32) (m : Mm) : Option (Int32) :=
  gd (ib (((nI 91) + ((nI 4) * a1)) + a2) 1719) <|
  some (m 108 (((nI 91) + ((nI 4) * a1)) + a2).toNatClampNeg)
set_option maxHeartbeats 4000000 in
set_option maxRecDepth 100000 in
theorem kX12_step4 {l : Launch} {G : GE} {N : Nat} {f m : Mm} {n : Nat} {a1 : Int32} {a2 : Int32} {r : Int32}  (hf : fX12_step4 n a1 a2 m = some r) : MT l G yX12_step4 cX12_step4 3 (some .int) rmX12_step4 [.ref (gz G + 107), .int a1, .int a2] N f m (some (.int r)) N f m := by
  unfold fX12_step4 at hf
  refine MT.of (by decide) (Nat.le_of_ble_eq_true rfl) (fun V ls hV hR B hl => ?_)
  have B : CX V G cX12_step4 3 "FluxWatchModel" (some .int) := B
  have hl : lv_has ls 3 [(0, .ref (gz G + 107)), (1, .int a1), (2, .int a2)] := hl
  show WX V G N f m 0 0 (QQ V G (some (.int r)) N f m 0 0) 0 ls []
  refine x_aload_n B dX12_step4_0 rfl (lv_at hl 0 rfl) ?_
  refine y_getMr (C := RX12) (T := TX12) (NN := 34) (d := 0) (k2 := 108) B aM_107 inX12 rfl (j := 0) (by decide) q_1112 rfl rfl rfl dX12_step4_1 ?_
  refine x_bipush (v := (nI 91)) B dX12_step4_4 (by decide) ?_
  refine x_iconst (v := (nI 4)) B dX12_step4_6 (by decide) ?_
  refine x_iload_n B dX12_step4_7 rfl (lv_at hl 1 rfl) ?_
  refine x_imul B dX12_step4_8 ?_
  refine x_iadd B dX12_step4_9 ?_
  refine x_iload_n B dX12_step4_10 rfl (lv_at hl 2 rfl) ?_
  refine x_iadd B dX12_step4_11 ?_
  obtain ⟨h1, hf⟩ := gd_some hf
  refine x_ialdM B aM_108 h1 dX12_step4_12 ?_
  obtain rfl := rt1 hf
  exact x_iret B dX12_step4_13
def rmX12_hasStep : Room := { frames := 1, cells := 0, slots := 0, locals := 22 }
set_option maxHeartbeats 4000000 in
set_option maxRecDepth 100000 in
theorem cw_X12_hasStep_X12_step4 : cwB rmX12_hasStep rmX12_step4 yX12_step4 cX12_step4 3 (some .int) 2 := ⟨q_1245, q_57, by decide, by decide⟩
def fX12_hasStep_35 (n : Nat)  (k2 : Int32 → Int32 → Int32 → Mm → Option (Int32)) (x1 : Int32) (x2 : Int32) (x3 : Int32) (m : Mm) : Option (Int32) :=
  k2 x1 x2 (x3 + (nI 1)) m
set_option maxHeartbeats 4000000 in
set_option maxRecDepth 100000 in
theorem fX12_hasStep_35_ok {V : VE} {G : GE} {N : Nat} {f m : Mm} {n : Nat} {ls : Array Slot} {r : Int32} (B : CX V G cX12_hasStep 4 "FluxWatchModel" (some .boolean)) (hR : V.2.2.2.1 = rmX12_hasStep)  {k2 : Int32 → Int32 → Int32 → Mm → Option (Int32)} (hk2 : ∀ (x1 : Int32) (x2 : Int32) (x3 : Int32) (mm : Mm) (ls : Array Slot),  lv_has ls 4 [(0, .ref (gz G + 107)), (1, .int x1), (2, .int x2), (3, .int x3)] → k2 x1 x2 x3 mm = some r → WX V G N f mm 0 0 (QQ V G (some (.int r)) N f mm 0 0) 2 ls []) {x1 : Int32} {x2 : Int32} {x3 : Int32}  (hl : lv_has ls 4 [(0, .ref (gz G + 107)), (1, .int x1), (2, .int x2), (3, .int x3)]) (hf : fX12_hasStep_35 n  k2 x1 x2 x3 m = some r) : WX V G N f m 0 0 (QQ V G (some (.int r)) N f m 0 0) 35 ls [] := by
  unfold fX12_hasStep_35 at hf
  refine x_iinc (k := 3) (v := (nI 1)) (lv' := [(3, .int (x3 + (nI 1))), (0, .ref (gz G + 107)), (1, .int x1), (2, .int x2)]) B dX12_hasStep_35 hl rfl (by decide) (by decide) rfl (fun ls hl => ?_)
  refine x_goto (tgt := 2) B dX12_hasStep_38 (by decide) ?_
  exact hk2 _ _ _ _ _ (lv_sub hl [1, 2, 3, 0] rfl) hf
def fX12_hasStep_2 (n : Nat)   (k2 : Int32 → Int32 → Int32 → Mm → Option (Int32)) (x1 : Int32) (x2 : Int32) (x3 : Int32) (m : Mm) : Option (Int32) :=
  if (m 108 (nI 8).toNatClampNeg) ≤ x3 then (
  some (nI 0)) else (
  bn (fX12_step4 n x3 (nI 1) m) fun r3 =>
  if r3 = x1 then (
  bn (fX12_step4 n x3 (nI 2) m) fun r6 =>
  if r6 = x2 then (
  some (nI 1)) else (
  fX12_hasStep_35 n k2 x1 x2 x3 m)) else (
  fX12_hasStep_35 n k2 x1 x2 x3 m))
def fX12_hasStep_2L (n : Nat)   : Nat → Int32 → Int32 → Int32 → Mm → Option (Int32)
  | 0 => fun _ _ _ _ => none
  | q + 1 => fX12_hasStep_2 n   (fX12_hasStep_2L n   q)
set_option maxHeartbeats 4000000 in
set_option maxRecDepth 100000 in
theorem fX12_hasStep_2_ok {V : VE} {G : GE} {N : Nat} {f m : Mm} {n : Nat} {ls : Array Slot} {r : Int32} (B : CX V G cX12_hasStep 4 "FluxWatchModel" (some .boolean)) (hR : V.2.2.2.1 = rmX12_hasStep)   {k2 : Int32 → Int32 → Int32 → Mm → Option (Int32)} (hk2 : ∀ (x1 : Int32) (x2 : Int32) (x3 : Int32) (mm : Mm) (ls : Array Slot),  lv_has ls 4 [(0, .ref (gz G + 107)), (1, .int x1), (2, .int x2), (3, .int x3)] → k2 x1 x2 x3 mm = some r → WX V G N f mm 0 0 (QQ V G (some (.int r)) N f mm 0 0) 2 ls []) {x1 : Int32} {x2 : Int32} {x3 : Int32}  (hl : lv_has ls 4 [(0, .ref (gz G + 107)), (1, .int x1), (2, .int x2), (3, .int x3)]) (hf : fX12_hasStep_2 n  k2 x1 x2 x3 m = some r) : WX V G N f m 0 0 (QQ V G (some (.int r)) N f m 0 0) 2 ls [] := by
  unfold fX12_hasStep_2 at hf
  refine x_iload_n B dX12_hasStep_2 rfl (lv_at hl 3 rfl) ?_
  refine x_aload_n B dX12_hasStep_3 rfl (lv_at hl 0 rfl) ?_
  refine y_getMr (C := RX12) (T := TX12) (NN := 34) (d := 0) (k2 := 108) B aM_107 inX12 rfl (j := 0) (by decide) q_1112 rfl rfl rfl dX12_hasStep_4 ?_
  refine x_bipush (v := (nI 8)) B dX12_hasStep_7 (by decide) ?_
  refine x_ialdM B aM_108 (by decide) dX12_hasStep_9 ?_
  refine x_icmp_ge (tgt := 41) B dX12_hasStep_10 (by decide) (fun h1 => ?_) (fun h1 => ?_)
  · have hf := ip h1 hf
    refine x_iconst (v := (nI 0)) B dX12_hasStep_41 (by decide) ?_
    obtain rfl := rt1 hf
    exact x_zret B (by decide) dX12_hasStep_42
  · have hf := iq h1 hf
    refine x_aload_n B dX12_hasStep_13 rfl (lv_at hl 0 rfl) ?_
    refine x_iload_n B dX12_hasStep_14 rfl (lv_at hl 3 rfl) ?_
    refine x_iconst (v := (nI 1)) B dX12_hasStep_15 (by decide) ?_
    obtain ⟨r3, c2, hf⟩ := bn_some hf
    refine x_callV0 (rest := []) B (kX12_step4 c2) ⟨rfl, rfl⟩ aM_107.lt aM_107.2 rfl (by decide) q_1242 q_1244 q_10 (by rw [hR]; exact cw_X12_hasStep_X12_step4) rfl rfl hl.1 (Nat.le_of_ble_eq_true rfl) dX12_hasStep_16 ⟨Nat.zero_le _, Nat.zero_le _⟩ ?_
    refine x_iload_n B dX12_hasStep_19 rfl (lv_at hl 1 rfl) ?_
    refine x_icmp_ne (tgt := 35) B dX12_hasStep_20 (by decide) (fun h4 => ?_) (fun h4 => ?_)
    · have hf := ip h4 hf
      refine x_aload_n B dX12_hasStep_23 rfl (lv_at hl 0 rfl) ?_
      refine x_iload_n B dX12_hasStep_24 rfl (lv_at hl 3 rfl) ?_
      refine x_iconst (v := (nI 2)) B dX12_hasStep_25 (by decide) ?_
      obtain ⟨r6, c5, hf⟩ := bn_some hf
      refine x_callV0 (rest := []) B (kX12_step4 c5) ⟨rfl, rfl⟩ aM_107.lt aM_107.2 rfl (by decide) q_1242 q_1244 q_10 (by rw [hR]; exact cw_X12_hasStep_X12_step4) rfl rfl hl.1 (Nat.le_of_ble_eq_true rfl) dX12_hasStep_26 ⟨Nat.zero_le _, Nat.zero_le _⟩ ?_
      refine x_iload_n B dX12_hasStep_29 rfl (lv_at hl 2 rfl) ?_
      refine x_icmp_ne (tgt := 35) B dX12_hasStep_30 (by decide) (fun h7 => ?_) (fun h7 => ?_)
      · have hf := ip h7 hf
        refine x_iconst (v := (nI 1)) B dX12_hasStep_33 (by decide) ?_
        obtain rfl := rt1 hf
        exact x_zret B (by decide) dX12_hasStep_34
      · have hf := iq h7 hf
        exact fX12_hasStep_35_ok B hR hk2 hl hf
    · have hf := iq h4 hf
      exact fX12_hasStep_35_ok B hR hk2 hl hf
set_option maxHeartbeats 4000000 in
set_option maxRecDepth 100000 in
theorem fX12_hasStep_2L_ok {V : VE} {G : GE} {N : Nat} {f : Mm} {n : Nat}  {r : Int32} (B : CX V G cX12_hasStep 4 "FluxWatchModel" (some .boolean)) (hR : V.2.2.2.1 = rmX12_hasStep)   : ∀ (q : Nat) (x1 : Int32) (x2 : Int32) (x3 : Int32) (mm : Mm) (ls : Array Slot),  lv_has ls 4 [(0, .ref (gz G + 107)), (1, .int x1), (2, .int x2), (3, .int x3)] → fX12_hasStep_2L n  q x1 x2 x3 mm = some r → WX V G N f mm 0 0 (QQ V G (some (.int r)) N f mm 0 0) 2 ls [] := by
  intro q
  induction q with
  | zero =>
    intro x1 x2 x3 mm ls hl hf
    cases hf
  | succ q ih =>
    intro x1 x2 x3 mm ls hl hf
    exact fX12_hasStep_2_ok B hR   ih  hl hf
def fX12_hasStep (n : Nat) (a1 : Int32) (a2 : Int32) (m : Mm) : Option (Int32) :=
  fX12_hasStep_2L n n a1 a2 (nI 0) m
set_option maxHeartbeats 4000000 in
set_option maxRecDepth 100000 in
theorem kX12_hasStep {l : Launch} {G : GE} {N : Nat} {f m : Mm} {n : Nat} {a1 : Int32} {a2 : Int32} {r : Int32}  (hf : fX12_hasStep n a1 a2 m = some r) : MT l G yX12_hasStep cX12_hasStep 4 (some .boolean) rmX12_hasStep [.ref (gz G + 107), .int a1, .int a2] N f m (some (.int r)) N f m := by
  unfold fX12_hasStep at hf
  refine MT.of (by decide) (Nat.le_of_ble_eq_true rfl) (fun V ls hV hR B hl => ?_)
  have B : CX V G cX12_hasStep 4 "FluxWatchModel" (some .boolean) := B
  have hl : lv_has ls 4 [(0, .ref (gz G + 107)), (1, .int a1), (2, .int a2)] := hl
  show WX V G N f m 0 0 (QQ V G (some (.int r)) N f m 0 0) 0 ls []
  refine x_iconst (v := (nI 0)) B dX12_hasStep_0 (by decide) ?_
  refine x_istore_n (lv' := [(3, .int (nI 0)), (0, .ref (gz G + 107)), (1, .int a1), (2, .int a2)]) B dX12_hasStep_1 rfl hl (by decide) rfl (fun ls hl => ?_)
  exact fX12_hasStep_2L_ok B hR  n _ _ _ _ _ (lv_sub hl [1, 2, 3, 0] rfl) hf
def rmX12_in : Room := { frames := 0, cells := 0, slots := 0, locals := 0 }
def fX12_in (n : Nat) (a1 : Int32) (a2 : Int32) (a3 : Int32)  : Option (Int32) :=
  if a1 < a2 then (
  some (nI 0)) else (
  if a3 < a1 then (
  some (nI 0)) else (
  some (nI 1)))
set_option maxHeartbeats 4000000 in
set_option maxRecDepth 100000 in
theorem kX12_in {l : Launch} {G : GE} {N : Nat} {f m : Mm} {n : Nat} {a1 : Int32} {a2 : Int32} {a3 : Int32} {r : Int32}  (hf : fX12_in n a1 a2 a3 = some r) : MT l G yX12_in cX12_in 3 (some .boolean) rmX12_in [.int a1, .int a2, .int a3] N f m (some (.int r)) N f m := by
  unfold fX12_in at hf
  refine MT.of (by decide) (Nat.le_of_ble_eq_true rfl) (fun V ls hV hR B hl => ?_)
  have B : CX V G cX12_in 3 "FluxWatchModel" (some .boolean) := B
  have hl : lv_has ls 3 [(0, .int a1), (1, .int a2), (2, .int a3)] := hl
  show WX V G N f m 0 0 (QQ V G (some (.int r)) N f m 0 0) 0 ls []
  refine x_iload_n B dX12_in_0 rfl (lv_at hl 0 rfl) ?_
  refine x_iload_n B dX12_in_1 rfl (lv_at hl 1 rfl) ?_
  refine x_icmp_lt (tgt := 14) B dX12_in_2 (by decide) (fun h1 => ?_) (fun h1 => ?_)
  · have hf := ip h1 hf
    refine x_iconst (v := (nI 0)) B dX12_in_14 (by decide) ?_
    obtain rfl := rt1 hf
    exact x_zret B (by decide) dX12_in_15
  · have hf := iq h1 hf
    refine x_iload_n B dX12_in_5 rfl (lv_at hl 0 rfl) ?_
    refine x_iload_n B dX12_in_6 rfl (lv_at hl 2 rfl) ?_
    refine x_icmp_gt (tgt := 14) B dX12_in_7 (by decide) (fun h2 => ?_) (fun h2 => ?_)
    · have hf := ip h2 hf
      refine x_iconst (v := (nI 0)) B dX12_in_14 (by decide) ?_
      obtain rfl := rt1 hf
      exact x_zret B (by decide) dX12_in_15
    · have hf := iq h2 hf
      refine x_iconst (v := (nI 1)) B dX12_in_10 (by decide) ?_
      refine x_goto (tgt := 15) B dX12_in_11 (by decide) ?_
      obtain rfl := rt1 hf
      exact x_zret B (by decide) dX12_in_15
def rmX12_size : Room := { frames := 0, cells := 0, slots := 0, locals := 0 }
def fX12_size (n : Nat) (a1 : Int32)  : Option (Int32) :=
  if 0 ≤ a1 then (
  some a1) else (
  some (-a1))
set_option maxHeartbeats 4000000 in
set_option maxRecDepth 100000 in
theorem kX12_size {l : Launch} {G : GE} {N : Nat} {f m : Mm} {n : Nat} {a1 : Int32} {r : Int32}  (hf : fX12_size n a1 = some r) : MT l G yX12_size cX12_size 1 (some .int) rmX12_size [.int a1] N f m (some (.int r)) N f m := by
  unfold fX12_size at hf
  refine MT.of (by decide) (Nat.le_of_ble_eq_true rfl) (fun V ls hV hR B hl => ?_)
  have B : CX V G cX12_size 1 "FluxWatchModel" (some .int) := B
  have hl : lv_has ls 1 [(0, .int a1)] := hl
  show WX V G N f m 0 0 (QQ V G (some (.int r)) N f m 0 0) 0 ls []
  refine x_iload_n B dX12_size_0 rfl (lv_at hl 0 rfl) ?_
  refine x_if_ge (tgt := 9) B dX12_size_1 (by decide) (fun h1 => ?_) (fun h1 => ?_)
  · have hf := ip h1 hf
    refine x_iload_n B dX12_size_9 rfl (lv_at hl 0 rfl) ?_
    obtain rfl := rt1 hf
    exact x_iret B dX12_size_10
  · have hf := iq h1 hf
    refine x_iload_n B dX12_size_4 rfl (lv_at hl 0 rfl) ?_
    refine x_ineg B dX12_size_5 ?_
    refine x_goto (tgt := 10) B dX12_size_6 (by decide) ?_
    obtain rfl := rt1 hf
    exact x_iret B dX12_size_10
def rmX12_isHeight : Room := { frames := 1, cells := 0, slots := 0, locals := 22 }
set_option maxHeartbeats 4000000 in
set_option maxRecDepth 100000 in
theorem cw_X12_isHeight_X12_in : cwB rmX12_isHeight rmX12_in yX12_in cX12_in 3 (some .boolean) 3 := ⟨q_1222, q_57, by decide, by decide⟩
set_option maxHeartbeats 4000000 in
set_option maxRecDepth 100000 in
theorem cw_X12_isHeight_X12_size : cwB rmX12_isHeight rmX12_size yX12_size cX12_size 1 (some .int) 1 := ⟨q_1311, q_57, by decide, by decide⟩
def fX12_isHeight (n : Nat) (a1 : Int32) (a2 : Int32) (m : Mm) : Option (Int32) :=
  bn (fX12_size n a1) fun r2 =>
  bn (fX12_in n r2 ((m 108 (nI 2).toNatClampNeg) - a2) ((m 108 (nI 2).toNatClampNeg) + a2)) fun r4 =>
  gd (zb r4) <|
  some r4
set_option maxHeartbeats 4000000 in
set_option maxRecDepth 100000 in
theorem kX12_isHeight {l : Launch} {G : GE} {N : Nat} {f m : Mm} {n : Nat} {a1 : Int32} {a2 : Int32} {r : Int32}  (hf : fX12_isHeight n a1 a2 m = some r) : MT l G yX12_isHeight cX12_isHeight 3 (some .boolean) rmX12_isHeight [.ref (gz G + 107), .int a1, .int a2] N f m (some (.int r)) N f m := by
  unfold fX12_isHeight at hf
  refine MT.of (by decide) (Nat.le_of_ble_eq_true rfl) (fun V ls hV hR B hl => ?_)
  have B : CX V G cX12_isHeight 3 "FluxWatchModel" (some .boolean) := B
  have hl : lv_has ls 3 [(0, .ref (gz G + 107)), (1, .int a1), (2, .int a2)] := hl
  show WX V G N f m 0 0 (QQ V G (some (.int r)) N f m 0 0) 0 ls []
  refine x_iload_n B dX12_isHeight_0 rfl (lv_at hl 1 rfl) ?_
  obtain ⟨r2, c1, hf⟩ := bn_some hf
  refine x_callS0 (rest := []) B (kX12_size c1) ⟨rfl, rfl⟩ q_1309 q_1310 (by rw [hR]; exact cw_X12_isHeight_X12_size) rfl rfl hl.1 (Nat.le_of_ble_eq_true rfl) dX12_isHeight_1 ⟨Nat.zero_le _, Nat.zero_le _⟩ ?_
  refine x_aload_n B dX12_isHeight_4 rfl (lv_at hl 0 rfl) ?_
  refine y_getMr (C := RX12) (T := TX12) (NN := 34) (d := 0) (k2 := 108) B aM_107 inX12 rfl (j := 0) (by decide) q_1112 rfl rfl rfl dX12_isHeight_5 ?_
  refine x_iconst (v := (nI 2)) B dX12_isHeight_8 (by decide) ?_
  refine x_ialdM B aM_108 (by decide) dX12_isHeight_9 ?_
  refine x_iload_n B dX12_isHeight_10 rfl (lv_at hl 2 rfl) ?_
  refine x_isub B dX12_isHeight_11 ?_
  refine x_aload_n B dX12_isHeight_12 rfl (lv_at hl 0 rfl) ?_
  refine y_getMr (C := RX12) (T := TX12) (NN := 34) (d := 0) (k2 := 108) B aM_107 inX12 rfl (j := 0) (by decide) q_1112 rfl rfl rfl dX12_isHeight_13 ?_
  refine x_iconst (v := (nI 2)) B dX12_isHeight_16 (by decide) ?_
  refine x_ialdM B aM_108 (by decide) dX12_isHeight_17 ?_
  refine x_iload_n B dX12_isHeight_18 rfl (lv_at hl 2 rfl) ?_
  refine x_iadd B dX12_isHeight_19 ?_
  obtain ⟨r4, c3, hf⟩ := bn_some hf
  refine x_callS0 (rest := []) B (kX12_in c3) ⟨rfl, rfl⟩ q_1220 q_1221 (by rw [hR]; exact cw_X12_isHeight_X12_in) rfl rfl hl.1 (Nat.le_of_ble_eq_true rfl) dX12_isHeight_20 ⟨Nat.zero_le _, Nat.zero_le _⟩ ?_
  obtain ⟨h5, hf⟩ := gd_some hf
  obtain rfl := rt1 hf
  exact x_zret B h5 dX12_isHeight_23
def rmX12_isWatched : Room := { frames := 1, cells := 0, slots := 0, locals := 22 }
set_option maxHeartbeats 4000000 in
set_option maxRecDepth 100000 in
theorem cw_X12_isWatched_X12_in : cwB rmX12_isWatched rmX12_in yX12_in cX12_in 3 (some .boolean) 3 := ⟨q_1222, q_57, by decide, by decide⟩
def fX12_isWatched_59 (n : Nat)  (k2 : Int32 → Int32 → Int32 → Mm → Option (Int32)) (x1 : Int32) (x2 : Int32) (x3 : Int32) (m : Mm) : Option (Int32) :=
  k2 x1 x2 (x3 + (nI 1)) m
set_option maxHeartbeats 4000000 in
set_option maxRecDepth 100000 in
theorem fX12_isWatched_59_ok {V : VE} {G : GE} {N : Nat} {f m : Mm} {n : Nat} {ls : Array Slot} {r : Int32} (B : CX V G cX12_isWatched 5 "FluxWatchModel" (some .boolean)) (hR : V.2.2.2.1 = rmX12_isWatched)  {k2 : Int32 → Int32 → Int32 → Mm → Option (Int32)} (hk2 : ∀ (x1 : Int32) (x2 : Int32) (x3 : Int32) (mm : Mm) (ls : Array Slot),  lv_has ls 5 [(0, .ref (gz G + 107)), (1, .int x1), (2, .int x2), (3, .int x3)] → k2 x1 x2 x3 mm = some r → WX V G N f mm 0 0 (QQ V G (some (.int r)) N f mm 0 0) 2 ls []) {x1 : Int32} {x2 : Int32} {x3 : Int32}  (hl : lv_has ls 5 [(0, .ref (gz G + 107)), (1, .int x1), (2, .int x2), (3, .int x3)]) (hf : fX12_isWatched_59 n  k2 x1 x2 x3 m = some r) : WX V G N f m 0 0 (QQ V G (some (.int r)) N f m 0 0) 59 ls [] := by
  unfold fX12_isWatched_59 at hf
  refine x_iinc (k := 3) (v := (nI 1)) (lv' := [(3, .int (x3 + (nI 1))), (0, .ref (gz G + 107)), (1, .int x1), (2, .int x2)]) B dX12_isWatched_59 hl rfl (by decide) (by decide) rfl (fun ls hl => ?_)
  refine x_goto (tgt := 2) B dX12_isWatched_62 (by decide) ?_
  exact hk2 _ _ _ _ _ (lv_sub hl [1, 2, 3, 0] rfl) hf
def fX12_isWatched_2 (n : Nat)   (k2 : Int32 → Int32 → Int32 → Mm → Option (Int32)) (x1 : Int32) (x2 : Int32) (x3 : Int32) (m : Mm) : Option (Int32) :=
  if (m 108 (nI 7).toNatClampNeg) ≤ x3 then (
  some (nI 0)) else (
  gd (ib ((nI 31) + ((nI 3) * x3)) 1719) <|
  if (m 108 ((nI 31) + ((nI 3) * x3)).toNatClampNeg) = x1 then (
  gd (ib (((nI 31) + ((nI 3) * x3)) + (nI 1)) 1719) <|
  gd (ib (((nI 31) + ((nI 3) * x3)) + (nI 2)) 1719) <|
  bn (fX12_in n x2 (m 108 (((nI 31) + ((nI 3) * x3)) + (nI 1)).toNatClampNeg) (m 108 (((nI 31) + ((nI 3) * x3)) + (nI 2)).toNatClampNeg)) fun r7 =>
  if r7 = 0 then (
  fX12_isWatched_59 n k2 x1 x2 x3 m) else (
  some (nI 1))) else (
  fX12_isWatched_59 n k2 x1 x2 x3 m))
def fX12_isWatched_2L (n : Nat)   : Nat → Int32 → Int32 → Int32 → Mm → Option (Int32)
  | 0 => fun _ _ _ _ => none
  | q + 1 => fX12_isWatched_2 n   (fX12_isWatched_2L n   q)
set_option maxHeartbeats 4000000 in
set_option maxRecDepth 100000 in
theorem fX12_isWatched_2_ok {V : VE} {G : GE} {N : Nat} {f m : Mm} {n : Nat} {ls : Array Slot} {r : Int32} (B : CX V G cX12_isWatched 5 "FluxWatchModel" (some .boolean)) (hR : V.2.2.2.1 = rmX12_isWatched)   {k2 : Int32 → Int32 → Int32 → Mm → Option (Int32)} (hk2 : ∀ (x1 : Int32) (x2 : Int32) (x3 : Int32) (mm : Mm) (ls : Array Slot),  lv_has ls 5 [(0, .ref (gz G + 107)), (1, .int x1), (2, .int x2), (3, .int x3)] → k2 x1 x2 x3 mm = some r → WX V G N f mm 0 0 (QQ V G (some (.int r)) N f mm 0 0) 2 ls []) {x1 : Int32} {x2 : Int32} {x3 : Int32}  (hl : lv_has ls 5 [(0, .ref (gz G + 107)), (1, .int x1), (2, .int x2), (3, .int x3)]) (hf : fX12_isWatched_2 n  k2 x1 x2 x3 m = some r) : WX V G N f m 0 0 (QQ V G (some (.int r)) N f m 0 0) 2 ls [] := by
  unfold fX12_isWatched_2 at hf
  refine x_iload_n B dX12_isWatched_2 rfl (lv_at hl 3 rfl) ?_
  refine x_aload_n B dX12_isWatched_3 rfl (lv_at hl 0 rfl) ?_
  refine y_getMr (C := RX12) (T := TX12) (NN := 34) (d := 0) (k2 := 108) B aM_107 inX12 rfl (j := 0) (by decide) q_1112 rfl rfl rfl dX12_isWatched_4 ?_
  refine x_bipush (v := (nI 7)) B dX12_isWatched_7 (by decide) ?_
  refine x_ialdM B aM_108 (by decide) dX12_isWatched_9 ?_
  refine x_icmp_ge (tgt := 65) B dX12_isWatched_10 (by decide) (fun h1 => ?_) (fun h1 => ?_)
  · have hf := ip h1 hf
    refine x_iconst (v := (nI 0)) B dX12_isWatched_65 (by decide) ?_
    obtain rfl := rt1 hf
    exact x_zret B (by decide) dX12_isWatched_66
  · have hf := iq h1 hf
    refine x_bipush (v := (nI 31)) B dX12_isWatched_13 (by decide) ?_
    refine x_iconst (v := (nI 3)) B dX12_isWatched_15 (by decide) ?_
    refine x_iload_n B dX12_isWatched_16 rfl (lv_at hl 3 rfl) ?_
    refine x_imul B dX12_isWatched_17 ?_
    refine x_iadd B dX12_isWatched_18 ?_
    refine x_istore (lv' := [(4, .int ((nI 31) + ((nI 3) * x3))), (0, .ref (gz G + 107)), (1, .int x1), (2, .int x2), (3, .int x3)]) B dX12_isWatched_19 hl (by decide) rfl (fun ls hl => ?_)
    refine x_aload_n B dX12_isWatched_21 rfl (lv_at hl 1 rfl) ?_
    refine y_getMr (C := RX12) (T := TX12) (NN := 34) (d := 0) (k2 := 108) B aM_107 inX12 rfl (j := 0) (by decide) q_1112 rfl rfl rfl dX12_isWatched_22 ?_
    refine x_iload B dX12_isWatched_25 (lv_at hl 0 rfl) ?_
    obtain ⟨h2, hf⟩ := gd_some hf
    refine x_ialdM B aM_108 h2 dX12_isWatched_27 ?_
    refine x_iload_n B dX12_isWatched_28 rfl (lv_at hl 2 rfl) ?_
    refine x_icmp_ne (tgt := 59) B dX12_isWatched_29 (by decide) (fun h3 => ?_) (fun h3 => ?_)
    · have hf := ip h3 hf
      refine x_iload_n B dX12_isWatched_32 rfl (lv_at hl 3 rfl) ?_
      refine x_aload_n B dX12_isWatched_33 rfl (lv_at hl 1 rfl) ?_
      refine y_getMr (C := RX12) (T := TX12) (NN := 34) (d := 0) (k2 := 108) B aM_107 inX12 rfl (j := 0) (by decide) q_1112 rfl rfl rfl dX12_isWatched_34 ?_
      refine x_iload B dX12_isWatched_37 (lv_at hl 0 rfl) ?_
      refine x_iconst (v := (nI 1)) B dX12_isWatched_39 (by decide) ?_
      refine x_iadd B dX12_isWatched_40 ?_
      obtain ⟨h4, hf⟩ := gd_some hf
      refine x_ialdM B aM_108 h4 dX12_isWatched_41 ?_
      refine x_aload_n B dX12_isWatched_42 rfl (lv_at hl 1 rfl) ?_
      refine y_getMr (C := RX12) (T := TX12) (NN := 34) (d := 0) (k2 := 108) B aM_107 inX12 rfl (j := 0) (by decide) q_1112 rfl rfl rfl dX12_isWatched_43 ?_
      refine x_iload B dX12_isWatched_46 (lv_at hl 0 rfl) ?_
      refine x_iconst (v := (nI 2)) B dX12_isWatched_48 (by decide) ?_
      refine x_iadd B dX12_isWatched_49 ?_
      obtain ⟨h5, hf⟩ := gd_some hf
      refine x_ialdM B aM_108 h5 dX12_isWatched_50 ?_
      obtain ⟨r7, c6, hf⟩ := bn_some hf
      refine x_callS0 (rest := []) B (kX12_in c6) ⟨rfl, rfl⟩ q_1220 q_1221 (by rw [hR]; exact cw_X12_isWatched_X12_in) rfl rfl hl.1 (Nat.le_of_ble_eq_true rfl) dX12_isWatched_51 ⟨Nat.zero_le _, Nat.zero_le _⟩ ?_
      refine x_if_eq (tgt := 59) B dX12_isWatched_54 (by decide) (fun h8 => ?_) (fun h8 => ?_)
      · have hf := ip h8 hf
        exact fX12_isWatched_59_ok B hR hk2 (lv_sub hl [1, 2, 3, 4] rfl) hf
      · have hf := iq h8 hf
        refine x_iconst (v := (nI 1)) B dX12_isWatched_57 (by decide) ?_
        obtain rfl := rt1 hf
        exact x_zret B (by decide) dX12_isWatched_58
    · have hf := iq h3 hf
      exact fX12_isWatched_59_ok B hR hk2 (lv_sub hl [1, 2, 3, 4] rfl) hf
set_option maxHeartbeats 4000000 in
set_option maxRecDepth 100000 in
theorem fX12_isWatched_2L_ok {V : VE} {G : GE} {N : Nat} {f : Mm} {n : Nat}  {r : Int32} (B : CX V G cX12_isWatched 5 "FluxWatchModel" (some .boolean)) (hR : V.2.2.2.1 = rmX12_isWatched)   : ∀ (q : Nat) (x1 : Int32) (x2 : Int32) (x3 : Int32) (mm : Mm) (ls : Array Slot),  lv_has ls 5 [(0, .ref (gz G + 107)), (1, .int x1), (2, .int x2), (3, .int x3)] → fX12_isWatched_2L n  q x1 x2 x3 mm = some r → WX V G N f mm 0 0 (QQ V G (some (.int r)) N f mm 0 0) 2 ls [] := by
  intro q
  induction q with
  | zero =>
    intro x1 x2 x3 mm ls hl hf
    cases hf
  | succ q ih =>
    intro x1 x2 x3 mm ls hl hf
    exact fX12_isWatched_2_ok B hR   ih  hl hf
def fX12_isWatched (n : Nat) (a1 : Int32) (a2 : Int32) (m : Mm) : Option (Int32) :=
  fX12_isWatched_2L n n a1 a2 (nI 0) m
set_option maxHeartbeats 4000000 in
set_option maxRecDepth 100000 in
theorem kX12_isWatched {l : Launch} {G : GE} {N : Nat} {f m : Mm} {n : Nat} {a1 : Int32} {a2 : Int32} {r : Int32}  (hf : fX12_isWatched n a1 a2 m = some r) : MT l G yX12_isWatched cX12_isWatched 5 (some .boolean) rmX12_isWatched [.ref (gz G + 107), .int a1, .int a2] N f m (some (.int r)) N f m := by
  unfold fX12_isWatched at hf
  refine MT.of (by decide) (Nat.le_of_ble_eq_true rfl) (fun V ls hV hR B hl => ?_)
  have B : CX V G cX12_isWatched 5 "FluxWatchModel" (some .boolean) := B
  have hl : lv_has ls 5 [(0, .ref (gz G + 107)), (1, .int a1), (2, .int a2)] := hl
  show WX V G N f m 0 0 (QQ V G (some (.int r)) N f m 0 0) 0 ls []
  refine x_iconst (v := (nI 0)) B dX12_isWatched_0 (by decide) ?_
  refine x_istore_n (lv' := [(3, .int (nI 0)), (0, .ref (gz G + 107)), (1, .int a1), (2, .int a2)]) B dX12_isWatched_1 rfl hl (by decide) rfl (fun ls hl => ?_)
  exact fX12_isWatched_2L_ok B hR  n _ _ _ _ _ (lv_sub hl [1, 2, 3, 0] rfl) hf
def rmX12_fits : Room := { frames := 2, cells := 0, slots := 0, locals := 46 }
set_option maxHeartbeats 4000000 in
set_option maxRecDepth 100000 in
theorem cw_X12_fits_X12_coil3 : cwB rmX12_fits rmX12_coil3 yX12_coil3 cX12_coil3 3 (some .int) 2 := ⟨q_1236, q_57, by decide, by decide⟩
set_option maxHeartbeats 4000000 in
set_option maxRecDepth 100000 in
theorem cw_X12_fits_X12_hasStep : cwB rmX12_fits rmX12_hasStep yX12_hasStep cX12_hasStep 4 (some .boolean) 2 := ⟨q_1315, q_57, by decide, by decide⟩
set_option maxHeartbeats 4000000 in
set_option maxRecDepth 100000 in
theorem cw_X12_fits_X12_isHeight : cwB rmX12_fits rmX12_isHeight yX12_isHeight cX12_isHeight 3 (some .boolean) 2 := ⟨q_1308, q_57, by decide, by decide⟩
set_option maxHeartbeats 4000000 in
set_option maxRecDepth 100000 in
theorem cw_X12_fits_X12_isWatched : cwB rmX12_fits rmX12_isWatched yX12_isWatched cX12_isWatched 5 (some .boolean) 2 := ⟨q_1241, q_57, by decide, by decide⟩
set_option maxHeartbeats 4000000 in
set_option maxRecDepth 100000 in
theorem cw_X12_fits_X12_step4 : cwB rmX12_fits rmX12_step4 yX12_step4 cX12_step4 3 (some .int) 2 := ⟨q_1245, q_57, by decide, by decide⟩
def fX12_fits (n : Nat) (a1 : Int32) (m : Mm) : Option (Int32) :=
  bn (fX12_step4 n a1 (nI 0) m) fun r2 =>
  bn (fX12_step4 n a1 (nI 1) m) fun r4 =>
  bn (fX12_step4 n a1 (nI 3) m) fun r6 =>
  if r2 = (nI 4) then (
  some (nI 0)) else (
  bn (fX12_isHeight n r6 (m 108 (nI 3).toNatClampNeg) m) fun r9 =>
  if r9 = 0 then (
  some (nI 0)) else (
  if r2 = (nI 5) then (
  bn (fX12_step4 n a1 (nI 2) m) fun r13 =>
  bn (fX12_isWatched n r4 r13 m) fun r15 =>
  if r15 = 0 then (
  some (nI 1)) else (
  some (nI 0))) else (
  if r2 = (nI 3) then (
  if r6 ≤ 0 then (
  some (nI 0)) else (
  bn (fX12_coil3 n r4 (nI 2) m) fun r20 =>
  if r20 < 0 then (
  some (nI 0)) else (
  bn (fX12_coil3 n r4 (nI 2) m) fun r23 =>
  bn (fX12_step4 n a1 (nI 2) m) fun r25 =>
  bn (fX12_hasStep n r23 r25 m) fun r27 =>
  if r27 = 0 then (
  some (nI 0)) else (
  some (nI 1))))) else (
  if r2 = (nI 1) then (
  if r6 ≤ 0 then (
  some (nI 0)) else (
  some (nI 1))) else (
  some (nI 1))))))
set_option maxHeartbeats 4000000 in
set_option maxRecDepth 100000 in
theorem kX12_fits {l : Launch} {G : GE} {N : Nat} {f m : Mm} {n : Nat} {a1 : Int32} {r : Int32}  (hf : fX12_fits n a1 m = some r) : MT l G yX12_fits cX12_fits 5 (some .boolean) rmX12_fits [.ref (gz G + 107), .int a1] N f m (some (.int r)) N f m := by
  unfold fX12_fits at hf
  refine MT.of (by decide) (Nat.le_of_ble_eq_true rfl) (fun V ls hV hR B hl => ?_)
  have B : CX V G cX12_fits 5 "FluxWatchModel" (some .boolean) := B
  have hl : lv_has ls 5 [(0, .ref (gz G + 107)), (1, .int a1)] := hl
  show WX V G N f m 0 0 (QQ V G (some (.int r)) N f m 0 0) 0 ls []
  refine x_aload_n B dX12_fits_0 rfl (lv_at hl 0 rfl) ?_
  refine x_iload_n B dX12_fits_1 rfl (lv_at hl 1 rfl) ?_
  refine x_iconst (v := (nI 0)) B dX12_fits_2 (by decide) ?_
  obtain ⟨r2, c1, hf⟩ := bn_some hf
  refine x_callV0 (rest := []) B (kX12_step4 c1) ⟨rfl, rfl⟩ aM_107.lt aM_107.2 rfl (by decide) q_1242 q_1244 q_10 (by rw [hR]; exact cw_X12_fits_X12_step4) rfl rfl hl.1 (Nat.le_of_ble_eq_true rfl) dX12_fits_3 ⟨Nat.zero_le _, Nat.zero_le _⟩ ?_
  refine x_istore_n (lv' := [(2, .int r2), (0, .ref (gz G + 107)), (1, .int a1)]) B dX12_fits_6 rfl hl (by decide) rfl (fun ls hl => ?_)
  refine x_aload_n B dX12_fits_7 rfl (lv_at hl 1 rfl) ?_
  refine x_iload_n B dX12_fits_8 rfl (lv_at hl 2 rfl) ?_
  refine x_iconst (v := (nI 1)) B dX12_fits_9 (by decide) ?_
  obtain ⟨r4, c3, hf⟩ := bn_some hf
  refine x_callV0 (rest := []) B (kX12_step4 c3) ⟨rfl, rfl⟩ aM_107.lt aM_107.2 rfl (by decide) q_1242 q_1244 q_10 (by rw [hR]; exact cw_X12_fits_X12_step4) rfl rfl hl.1 (Nat.le_of_ble_eq_true rfl) dX12_fits_10 ⟨Nat.zero_le _, Nat.zero_le _⟩ ?_
  refine x_istore_n (lv' := [(3, .int r4), (2, .int r2), (0, .ref (gz G + 107)), (1, .int a1)]) B dX12_fits_13 rfl hl (by decide) rfl (fun ls hl => ?_)
  refine x_aload_n B dX12_fits_14 rfl (lv_at hl 2 rfl) ?_
  refine x_iload_n B dX12_fits_15 rfl (lv_at hl 3 rfl) ?_
  refine x_iconst (v := (nI 3)) B dX12_fits_16 (by decide) ?_
  obtain ⟨r6, c5, hf⟩ := bn_some hf
  refine x_callV0 (rest := []) B (kX12_step4 c5) ⟨rfl, rfl⟩ aM_107.lt aM_107.2 rfl (by decide) q_1242 q_1244 q_10 (by rw [hR]; exact cw_X12_fits_X12_step4) rfl rfl hl.1 (Nat.le_of_ble_eq_true rfl) dX12_fits_17 ⟨Nat.zero_le _, Nat.zero_le _⟩ ?_
  refine x_istore (lv' := [(4, .int r6), (3, .int r4), (2, .int r2), (0, .ref (gz G + 107)), (1, .int a1)]) B dX12_fits_20 hl (by decide) rfl (fun ls hl => ?_)
  refine x_iload_n B dX12_fits_22 rfl (lv_at hl 2 rfl) ?_
  refine x_iconst (v := (nI 4)) B dX12_fits_23 (by decide) ?_
  refine x_icmp_eq (tgt := 42) B dX12_fits_24 (by decide) (fun h7 => ?_) (fun h7 => ?_)
  · have hf := ip h7 hf
    refine x_iconst (v := (nI 0)) B dX12_fits_42 (by decide) ?_
    obtain rfl := rt1 hf
    exact x_zret B (by decide) dX12_fits_43
  · have hf := iq h7 hf
    refine x_aload_n B dX12_fits_27 rfl (lv_at hl 3 rfl) ?_
    refine x_iload B dX12_fits_28 (lv_at hl 0 rfl) ?_
    refine x_aload_n B dX12_fits_30 rfl (lv_at hl 3 rfl) ?_
    refine y_getMr (C := RX12) (T := TX12) (NN := 34) (d := 0) (k2 := 108) B aM_107 inX12 rfl (j := 0) (by decide) q_1112 rfl rfl rfl dX12_fits_31 ?_
    refine x_iconst (v := (nI 3)) B dX12_fits_34 (by decide) ?_
    refine x_ialdM B aM_108 (by decide) dX12_fits_35 ?_
    obtain ⟨r9, c8, hf⟩ := bn_some hf
    refine x_callV0 (rest := []) B (kX12_isHeight c8) ⟨rfl, rfl⟩ aM_107.lt aM_107.2 rfl (by decide) q_1305 q_1307 q_16 (by rw [hR]; exact cw_X12_fits_X12_isHeight) rfl rfl hl.1 (Nat.le_of_ble_eq_true rfl) dX12_fits_36 ⟨Nat.zero_le _, Nat.zero_le _⟩ ?_
    refine x_if_ne (tgt := 44) B dX12_fits_39 (by decide) (fun h10 => ?_) (fun h10 => ?_)
    · have hf := ip h10 hf
      refine x_iconst (v := (nI 0)) B dX12_fits_42 (by decide) ?_
      obtain rfl := rt1 hf
      exact x_zret B (by decide) dX12_fits_43
    · have hf := iq h10 hf
      refine x_iload_n B dX12_fits_44 rfl (lv_at hl 2 rfl) ?_
      refine x_iconst (v := (nI 5)) B dX12_fits_45 (by decide) ?_
      refine x_icmp_ne (tgt := 69) B dX12_fits_46 (by decide) (fun h11 => ?_) (fun h11 => ?_)
      · have hf := ip h11 hf
        refine x_aload_n B dX12_fits_49 rfl (lv_at hl 3 rfl) ?_
        refine x_iload_n B dX12_fits_50 rfl (lv_at hl 1 rfl) ?_
        refine x_aload_n B dX12_fits_51 rfl (lv_at hl 3 rfl) ?_
        refine x_iload_n B dX12_fits_52 rfl (lv_at hl 4 rfl) ?_
        refine x_iconst (v := (nI 2)) B dX12_fits_53 (by decide) ?_
        obtain ⟨r13, c12, hf⟩ := bn_some hf
        refine x_callV0 (rest := [.int r4, .ref (gz G + 107)]) B (kX12_step4 c12) ⟨rfl, rfl⟩ aM_107.lt aM_107.2 rfl (by decide) q_1242 q_1244 q_10 (by rw [hR]; exact cw_X12_fits_X12_step4) rfl rfl hl.1 (Nat.le_of_ble_eq_true rfl) dX12_fits_54 ⟨Nat.zero_le _, Nat.zero_le _⟩ ?_
        obtain ⟨r15, c14, hf⟩ := bn_some hf
        refine x_callV0 (rest := []) B (kX12_isWatched c14) ⟨rfl, rfl⟩ aM_107.lt aM_107.2 rfl (by decide) q_1238 q_1240 q_9 (by rw [hR]; exact cw_X12_fits_X12_isWatched) rfl rfl hl.1 (Nat.le_of_ble_eq_true rfl) dX12_fits_57 ⟨Nat.zero_le _, Nat.zero_le _⟩ ?_
        refine x_if_ne (tgt := 67) B dX12_fits_60 (by decide) (fun h16 => ?_) (fun h16 => ?_)
        · have hf := ip h16 hf
          refine x_iconst (v := (nI 1)) B dX12_fits_63 (by decide) ?_
          refine x_goto (tgt := 68) B dX12_fits_64 (by decide) ?_
          obtain rfl := rt1 hf
          exact x_zret B (by decide) dX12_fits_68
        · have hf := iq h16 hf
          refine x_iconst (v := (nI 0)) B dX12_fits_67 (by decide) ?_
          obtain rfl := rt1 hf
          exact x_zret B (by decide) dX12_fits_68
      · have hf := iq h11 hf
        refine x_iload_n B dX12_fits_69 rfl (lv_at hl 2 rfl) ?_
        refine x_iconst (v := (nI 3)) B dX12_fits_70 (by decide) ?_
        refine x_icmp_ne (tgt := 113) B dX12_fits_71 (by decide) (fun h17 => ?_) (fun h17 => ?_)
        · have hf := ip h17 hf
          refine x_iload B dX12_fits_74 (lv_at hl 0 rfl) ?_
          refine x_if_le (tgt := 111) B dX12_fits_76 (by decide) (fun h18 => ?_) (fun h18 => ?_)
          · have hf := ip h18 hf
            refine x_iconst (v := (nI 0)) B dX12_fits_111 (by decide) ?_
            obtain rfl := rt1 hf
            exact x_zret B (by decide) dX12_fits_112
          · have hf := iq h18 hf
            refine x_aload_n B dX12_fits_79 rfl (lv_at hl 3 rfl) ?_
            refine x_iload_n B dX12_fits_80 rfl (lv_at hl 1 rfl) ?_
            refine x_iconst (v := (nI 2)) B dX12_fits_81 (by decide) ?_
            obtain ⟨r20, c19, hf⟩ := bn_some hf
            refine x_callV0 (rest := []) B (kX12_coil3 c19) ⟨rfl, rfl⟩ aM_107.lt aM_107.2 rfl (by decide) q_1233 q_1235 q_8 (by rw [hR]; exact cw_X12_fits_X12_coil3) rfl rfl hl.1 (Nat.le_of_ble_eq_true rfl) dX12_fits_82 ⟨Nat.zero_le _, Nat.zero_le _⟩ ?_
            refine x_if_lt (tgt := 111) B dX12_fits_85 (by decide) (fun h21 => ?_) (fun h21 => ?_)
            · have hf := ip h21 hf
              refine x_iconst (v := (nI 0)) B dX12_fits_111 (by decide) ?_
              obtain rfl := rt1 hf
              exact x_zret B (by decide) dX12_fits_112
            · have hf := iq h21 hf
              refine x_aload_n B dX12_fits_88 rfl (lv_at hl 3 rfl) ?_
              refine x_aload_n B dX12_fits_89 rfl (lv_at hl 3 rfl) ?_
              refine x_iload_n B dX12_fits_90 rfl (lv_at hl 1 rfl) ?_
              refine x_iconst (v := (nI 2)) B dX12_fits_91 (by decide) ?_
              obtain ⟨r23, c22, hf⟩ := bn_some hf
              refine x_callV0 (rest := [.ref (gz G + 107)]) B (kX12_coil3 c22) ⟨rfl, rfl⟩ aM_107.lt aM_107.2 rfl (by decide) q_1233 q_1235 q_8 (by rw [hR]; exact cw_X12_fits_X12_coil3) rfl rfl hl.1 (Nat.le_of_ble_eq_true rfl) dX12_fits_92 ⟨Nat.zero_le _, Nat.zero_le _⟩ ?_
              refine x_aload_n B dX12_fits_95 rfl (lv_at hl 3 rfl) ?_
              refine x_iload_n B dX12_fits_96 rfl (lv_at hl 4 rfl) ?_
              refine x_iconst (v := (nI 2)) B dX12_fits_97 (by decide) ?_
              obtain ⟨r25, c24, hf⟩ := bn_some hf
              refine x_callV0 (rest := [.int r23, .ref (gz G + 107)]) B (kX12_step4 c24) ⟨rfl, rfl⟩ aM_107.lt aM_107.2 rfl (by decide) q_1242 q_1244 q_10 (by rw [hR]; exact cw_X12_fits_X12_step4) rfl rfl hl.1 (Nat.le_of_ble_eq_true rfl) dX12_fits_98 ⟨Nat.zero_le _, Nat.zero_le _⟩ ?_
              obtain ⟨r27, c26, hf⟩ := bn_some hf
              refine x_callV0 (rest := []) B (kX12_hasStep c26) ⟨rfl, rfl⟩ aM_107.lt aM_107.2 rfl (by decide) q_1312 q_1314 q_17 (by rw [hR]; exact cw_X12_fits_X12_hasStep) rfl rfl hl.1 (Nat.le_of_ble_eq_true rfl) dX12_fits_101 ⟨Nat.zero_le _, Nat.zero_le _⟩ ?_
              refine x_if_eq (tgt := 111) B dX12_fits_104 (by decide) (fun h28 => ?_) (fun h28 => ?_)
              · have hf := ip h28 hf
                refine x_iconst (v := (nI 0)) B dX12_fits_111 (by decide) ?_
                obtain rfl := rt1 hf
                exact x_zret B (by decide) dX12_fits_112
              · have hf := iq h28 hf
                refine x_iconst (v := (nI 1)) B dX12_fits_107 (by decide) ?_
                refine x_goto (tgt := 112) B dX12_fits_108 (by decide) ?_
                obtain rfl := rt1 hf
                exact x_zret B (by decide) dX12_fits_112
        · have hf := iq h17 hf
          refine x_iload_n B dX12_fits_113 rfl (lv_at hl 2 rfl) ?_
          refine x_iconst (v := (nI 1)) B dX12_fits_114 (by decide) ?_
          refine x_icmp_ne (tgt := 123) B dX12_fits_115 (by decide) (fun h29 => ?_) (fun h29 => ?_)
          · have hf := ip h29 hf
            refine x_iload B dX12_fits_118 (lv_at hl 0 rfl) ?_
            refine x_if_le (tgt := 127) B dX12_fits_120 (by decide) (fun h30 => ?_) (fun h30 => ?_)
            · have hf := ip h30 hf
              refine x_iconst (v := (nI 0)) B dX12_fits_127 (by decide) ?_
              obtain rfl := rt1 hf
              exact x_zret B (by decide) dX12_fits_128
            · have hf := iq h30 hf
              refine x_iconst (v := (nI 1)) B dX12_fits_123 (by decide) ?_
              refine x_goto (tgt := 128) B dX12_fits_124 (by decide) ?_
              obtain rfl := rt1 hf
              exact x_zret B (by decide) dX12_fits_128
          · have hf := iq h29 hf
            refine x_iconst (v := (nI 1)) B dX12_fits_123 (by decide) ?_
            refine x_goto (tgt := 128) B dX12_fits_124 (by decide) ?_
            obtain rfl := rt1 hf
            exact x_zret B (by decide) dX12_fits_128
def rmX12_fitsOn : Room := { frames := 3, cells := 0, slots := 0, locals := 70 }
set_option maxHeartbeats 4000000 in
set_option maxRecDepth 100000 in
theorem cw_X12_fitsOn_X12_fits : cwB rmX12_fitsOn rmX12_fits yX12_fits cX12_fits 5 (some .boolean) 1 := ⟨q_1304, q_57, by decide, by decide⟩
set_option maxHeartbeats 4000000 in
set_option maxRecDepth 100000 in
theorem cw_X12_fitsOn_X12_step4 : cwB rmX12_fitsOn rmX12_step4 yX12_step4 cX12_step4 3 (some .int) 2 := ⟨q_1245, q_57, by decide, by decide⟩
def fX12_fitsOn_33 (n : Nat)  (k2 : Int32 → Int32 → Mm → Option (Int32)) (x1 : Int32) (x2 : Int32) (m : Mm) : Option (Int32) :=
  k2 x1 (x2 + (nI 1)) m
set_option maxHeartbeats 4000000 in
set_option maxRecDepth 100000 in
theorem fX12_fitsOn_33_ok {V : VE} {G : GE} {N : Nat} {f m : Mm} {n : Nat} {ls : Array Slot} {r : Int32} (B : CX V G cX12_fitsOn 3 "FluxWatchModel" (some .boolean)) (hR : V.2.2.2.1 = rmX12_fitsOn)  {k2 : Int32 → Int32 → Mm → Option (Int32)} (hk2 : ∀ (x1 : Int32) (x2 : Int32) (mm : Mm) (ls : Array Slot),  lv_has ls 3 [(0, .ref (gz G + 107)), (1, .int x1), (2, .int x2)] → k2 x1 x2 mm = some r → WX V G N f mm 0 0 (QQ V G (some (.int r)) N f mm 0 0) 2 ls []) {x1 : Int32} {x2 : Int32}  (hl : lv_has ls 3 [(0, .ref (gz G + 107)), (1, .int x1), (2, .int x2)]) (hf : fX12_fitsOn_33 n  k2 x1 x2 m = some r) : WX V G N f m 0 0 (QQ V G (some (.int r)) N f m 0 0) 33 ls [] := by
  unfold fX12_fitsOn_33 at hf
  refine x_iinc (k := 2) (v := (nI 1)) (lv' := [(2, .int (x2 + (nI 1))), (0, .ref (gz G + 107)), (1, .int x1)]) B dX12_fitsOn_33 hl rfl (by decide) (by decide) rfl (fun ls hl => ?_)
  refine x_goto (tgt := 2) B dX12_fitsOn_36 (by decide) ?_
  exact hk2 _ _ _ _ (lv_sub hl [1, 2, 0] rfl) hf
def fX12_fitsOn_2 (n : Nat)   (k2 : Int32 → Int32 → Mm → Option (Int32)) (x1 : Int32) (x2 : Int32) (m : Mm) : Option (Int32) :=
  if (m 108 (nI 8).toNatClampNeg) ≤ x2 then (
  some (nI 0)) else (
  bn (fX12_step4 n x2 (nI 2) m) fun r3 =>
  if r3 = x1 then (
  bn (fX12_fits n x2 m) fun r6 =>
  if r6 = 0 then (
  fX12_fitsOn_33 n k2 x1 x2 m) else (
  some (nI 1))) else (
  fX12_fitsOn_33 n k2 x1 x2 m))
def fX12_fitsOn_2L (n : Nat)   : Nat → Int32 → Int32 → Mm → Option (Int32)
  | 0 => fun _ _ _ => none
  | q + 1 => fX12_fitsOn_2 n   (fX12_fitsOn_2L n   q)
set_option maxHeartbeats 4000000 in
set_option maxRecDepth 100000 in
theorem fX12_fitsOn_2_ok {V : VE} {G : GE} {N : Nat} {f m : Mm} {n : Nat} {ls : Array Slot} {r : Int32} (B : CX V G cX12_fitsOn 3 "FluxWatchModel" (some .boolean)) (hR : V.2.2.2.1 = rmX12_fitsOn)   {k2 : Int32 → Int32 → Mm → Option (Int32)} (hk2 : ∀ (x1 : Int32) (x2 : Int32) (mm : Mm) (ls : Array Slot),  lv_has ls 3 [(0, .ref (gz G + 107)), (1, .int x1), (2, .int x2)] → k2 x1 x2 mm = some r → WX V G N f mm 0 0 (QQ V G (some (.int r)) N f mm 0 0) 2 ls []) {x1 : Int32} {x2 : Int32}  (hl : lv_has ls 3 [(0, .ref (gz G + 107)), (1, .int x1), (2, .int x2)]) (hf : fX12_fitsOn_2 n  k2 x1 x2 m = some r) : WX V G N f m 0 0 (QQ V G (some (.int r)) N f m 0 0) 2 ls [] := by
  unfold fX12_fitsOn_2 at hf
  refine x_iload_n B dX12_fitsOn_2 rfl (lv_at hl 2 rfl) ?_
  refine x_aload_n B dX12_fitsOn_3 rfl (lv_at hl 0 rfl) ?_
  refine y_getMr (C := RX12) (T := TX12) (NN := 34) (d := 0) (k2 := 108) B aM_107 inX12 rfl (j := 0) (by decide) q_1112 rfl rfl rfl dX12_fitsOn_4 ?_
  refine x_bipush (v := (nI 8)) B dX12_fitsOn_7 (by decide) ?_
  refine x_ialdM B aM_108 (by decide) dX12_fitsOn_9 ?_
  refine x_icmp_ge (tgt := 39) B dX12_fitsOn_10 (by decide) (fun h1 => ?_) (fun h1 => ?_)
  · have hf := ip h1 hf
    refine x_iconst (v := (nI 0)) B dX12_fitsOn_39 (by decide) ?_
    obtain rfl := rt1 hf
    exact x_zret B (by decide) dX12_fitsOn_40
  · have hf := iq h1 hf
    refine x_aload_n B dX12_fitsOn_13 rfl (lv_at hl 0 rfl) ?_
    refine x_iload_n B dX12_fitsOn_14 rfl (lv_at hl 2 rfl) ?_
    refine x_iconst (v := (nI 2)) B dX12_fitsOn_15 (by decide) ?_
    obtain ⟨r3, c2, hf⟩ := bn_some hf
    refine x_callV0 (rest := []) B (kX12_step4 c2) ⟨rfl, rfl⟩ aM_107.lt aM_107.2 rfl (by decide) q_1242 q_1244 q_10 (by rw [hR]; exact cw_X12_fitsOn_X12_step4) rfl rfl hl.1 (Nat.le_of_ble_eq_true rfl) dX12_fitsOn_16 ⟨Nat.zero_le _, Nat.zero_le _⟩ ?_
    refine x_iload_n B dX12_fitsOn_19 rfl (lv_at hl 1 rfl) ?_
    refine x_icmp_ne (tgt := 33) B dX12_fitsOn_20 (by decide) (fun h4 => ?_) (fun h4 => ?_)
    · have hf := ip h4 hf
      refine x_aload_n B dX12_fitsOn_23 rfl (lv_at hl 0 rfl) ?_
      refine x_iload_n B dX12_fitsOn_24 rfl (lv_at hl 2 rfl) ?_
      obtain ⟨r6, c5, hf⟩ := bn_some hf
      refine x_callV0 (rest := []) B (kX12_fits c5) ⟨rfl, rfl⟩ aM_107.lt aM_107.2 rfl (by decide) q_1301 q_1303 q_15 (by rw [hR]; exact cw_X12_fitsOn_X12_fits) rfl rfl hl.1 (Nat.le_of_ble_eq_true rfl) dX12_fitsOn_25 ⟨Nat.zero_le _, Nat.zero_le _⟩ ?_
      refine x_if_eq (tgt := 33) B dX12_fitsOn_28 (by decide) (fun h7 => ?_) (fun h7 => ?_)
      · have hf := ip h7 hf
        exact fX12_fitsOn_33_ok B hR hk2 hl hf
      · have hf := iq h7 hf
        refine x_iconst (v := (nI 1)) B dX12_fitsOn_31 (by decide) ?_
        obtain rfl := rt1 hf
        exact x_zret B (by decide) dX12_fitsOn_32
    · have hf := iq h4 hf
      exact fX12_fitsOn_33_ok B hR hk2 hl hf
set_option maxHeartbeats 4000000 in
set_option maxRecDepth 100000 in
theorem fX12_fitsOn_2L_ok {V : VE} {G : GE} {N : Nat} {f : Mm} {n : Nat}  {r : Int32} (B : CX V G cX12_fitsOn 3 "FluxWatchModel" (some .boolean)) (hR : V.2.2.2.1 = rmX12_fitsOn)   : ∀ (q : Nat) (x1 : Int32) (x2 : Int32) (mm : Mm) (ls : Array Slot),  lv_has ls 3 [(0, .ref (gz G + 107)), (1, .int x1), (2, .int x2)] → fX12_fitsOn_2L n  q x1 x2 mm = some r → WX V G N f mm 0 0 (QQ V G (some (.int r)) N f mm 0 0) 2 ls [] := by
  intro q
  induction q with
  | zero =>
    intro x1 x2 mm ls hl hf
    cases hf
  | succ q ih =>
    intro x1 x2 mm ls hl hf
    exact fX12_fitsOn_2_ok B hR   ih  hl hf
def fX12_fitsOn (n : Nat) (a1 : Int32) (m : Mm) : Option (Int32) :=
  fX12_fitsOn_2L n n a1 (nI 0) m
set_option maxHeartbeats 4000000 in
set_option maxRecDepth 100000 in
theorem kX12_fitsOn {l : Launch} {G : GE} {N : Nat} {f m : Mm} {n : Nat} {a1 : Int32} {r : Int32}  (hf : fX12_fitsOn n a1 m = some r) : MT l G yX12_fitsOn cX12_fitsOn 3 (some .boolean) rmX12_fitsOn [.ref (gz G + 107), .int a1] N f m (some (.int r)) N f m := by
  unfold fX12_fitsOn at hf
  refine MT.of (by decide) (Nat.le_of_ble_eq_true rfl) (fun V ls hV hR B hl => ?_)
  have B : CX V G cX12_fitsOn 3 "FluxWatchModel" (some .boolean) := B
  have hl : lv_has ls 3 [(0, .ref (gz G + 107)), (1, .int a1)] := hl
  show WX V G N f m 0 0 (QQ V G (some (.int r)) N f m 0 0) 0 ls []
  refine x_iconst (v := (nI 0)) B dX12_fitsOn_0 (by decide) ?_
  refine x_istore_n (lv' := [(2, .int (nI 0)), (0, .ref (gz G + 107)), (1, .int a1)]) B dX12_fitsOn_1 rfl hl (by decide) rfl (fun ls hl => ?_)
  exact fX12_fitsOn_2L_ok B hR  n _ _ _ _ (lv_sub hl [1, 2, 0] rfl) hf
def rmX12_counts : Room := { frames := 0, cells := 0, slots := 0, locals := 0 }
def fX12_counts_10 (n : Nat)   (k10 : Int32 → Int32 → Mm → Option (Int32)) (x1 : Int32) (x2 : Int32) (m : Mm) : Option (Int32) :=
  if x2 < 0 then (
  some (-1 : Int32)) else (
  gd (ib ((nI 347) + ((nI 2) * x2)) 1719) <|
  if ((m 108 ((nI 347) + ((nI 2) * x2)).toNatClampNeg) / (nI 1000)) = x1 then (
  some x2) else (
  k10 x1 (x2 + (-1 : Int32)) m))
def fX12_counts_10L (n : Nat)   : Nat → Int32 → Int32 → Mm → Option (Int32)
  | 0 => fun _ _ _ => none
  | q + 1 => fX12_counts_10 n   (fX12_counts_10L n   q)
set_option maxHeartbeats 4000000 in
set_option maxRecDepth 100000 in
theorem fX12_counts_10_ok {V : VE} {G : GE} {N : Nat} {f m : Mm} {n : Nat} {ls : Array Slot} {r : Int32} (B : CX V G cX12_counts 3 "FluxWatchModel" (some .int)) (hR : V.2.2.2.1 = rmX12_counts)   {k10 : Int32 → Int32 → Mm → Option (Int32)} (hk10 : ∀ (x1 : Int32) (x2 : Int32) (mm : Mm) (ls : Array Slot),  lv_has ls 3 [(0, .ref (gz G + 107)), (1, .int x1), (2, .int x2)] → k10 x1 x2 mm = some r → WX V G N f mm 0 0 (QQ V G (some (.int r)) N f mm 0 0) 10 ls []) {x1 : Int32} {x2 : Int32}  (hl : lv_has ls 3 [(0, .ref (gz G + 107)), (1, .int x1), (2, .int x2)]) (hf : fX12_counts_10 n  k10 x1 x2 m = some r) : WX V G N f m 0 0 (QQ V G (some (.int r)) N f m 0 0) 10 ls [] := by
  unfold fX12_counts_10 at hf
  refine x_iload_n B dX12_counts_10 rfl (lv_at hl 2 rfl) ?_
  refine x_if_lt (tgt := 42) B dX12_counts_11 (by decide) (fun h3 => ?_) (fun h3 => ?_)
  · have hf := ip h3 hf
    refine x_iconst (v := (-1 : Int32)) B dX12_counts_42 (by decide) ?_
    obtain rfl := rt1 hf
    exact x_iret B dX12_counts_43
  · have hf := iq h3 hf
    refine x_aload_n B dX12_counts_14 rfl (lv_at hl 0 rfl) ?_
    refine y_getMr (C := RX12) (T := TX12) (NN := 34) (d := 0) (k2 := 108) B aM_107 inX12 rfl (j := 0) (by decide) q_1112 rfl rfl rfl dX12_counts_15 ?_
    refine x_sipush (v := (nI 347)) B dX12_counts_18 (by decide) ?_
    refine x_iconst (v := (nI 2)) B dX12_counts_21 (by decide) ?_
    refine x_iload_n B dX12_counts_22 rfl (lv_at hl 2 rfl) ?_
    refine x_imul B dX12_counts_23 ?_
    refine x_iadd B dX12_counts_24 ?_
    obtain ⟨h4, hf⟩ := gd_some hf
    refine x_ialdM B aM_108 h4 dX12_counts_25 ?_
    refine x_sipush (v := (nI 1000)) B dX12_counts_26 (by decide) ?_
    refine x_idiv B dX12_counts_29 (by decide) ?_
    refine x_iload_n B dX12_counts_30 rfl (lv_at hl 1 rfl) ?_
    refine x_icmp_ne (tgt := 36) B dX12_counts_31 (by decide) (fun h5 => ?_) (fun h5 => ?_)
    · have hf := ip h5 hf
      refine x_iload_n B dX12_counts_34 rfl (lv_at hl 2 rfl) ?_
      obtain rfl := rt1 hf
      exact x_iret B dX12_counts_35
    · have hf := iq h5 hf
      refine x_iinc (k := 2) (v := (-1 : Int32)) (lv' := [(2, .int (x2 + (-1 : Int32))), (0, .ref (gz G + 107)), (1, .int x1)]) B dX12_counts_36 hl rfl (by decide) (by decide) rfl (fun ls hl => ?_)
      refine x_goto (tgt := 10) B dX12_counts_39 (by decide) ?_
      exact hk10 _ _ _ _ (lv_sub hl [1, 2, 0] rfl) hf
set_option maxHeartbeats 4000000 in
set_option maxRecDepth 100000 in
theorem fX12_counts_10L_ok {V : VE} {G : GE} {N : Nat} {f : Mm} {n : Nat}  {r : Int32} (B : CX V G cX12_counts 3 "FluxWatchModel" (some .int)) (hR : V.2.2.2.1 = rmX12_counts)   : ∀ (q : Nat) (x1 : Int32) (x2 : Int32) (mm : Mm) (ls : Array Slot),  lv_has ls 3 [(0, .ref (gz G + 107)), (1, .int x1), (2, .int x2)] → fX12_counts_10L n  q x1 x2 mm = some r → WX V G N f mm 0 0 (QQ V G (some (.int r)) N f mm 0 0) 10 ls [] := by
  intro q
  induction q with
  | zero =>
    intro x1 x2 mm ls hl hf
    cases hf
  | succ q ih =>
    intro x1 x2 mm ls hl hf
    exact fX12_counts_10_ok B hR   ih  hl hf
def fX12_counts (n : Nat) (a1 : Int32) (m : Mm) : Option (Int32) :=
  lt ((m 108 (nI 9).toNatClampNeg) - (nI 1)) fun v1 =>
  fX12_counts_10L n n a1 v1 m
set_option maxHeartbeats 4000000 in
set_option maxRecDepth 100000 in
theorem kX12_counts {l : Launch} {G : GE} {N : Nat} {f m : Mm} {n : Nat} {a1 : Int32} {r : Int32}  (hf : fX12_counts n a1 m = some r) : MT l G yX12_counts cX12_counts 3 (some .int) rmX12_counts [.ref (gz G + 107), .int a1] N f m (some (.int r)) N f m := by
  unfold fX12_counts at hf
  refine MT.of (by decide) (Nat.le_of_ble_eq_true rfl) (fun V ls hV hR B hl => ?_)
  have B : CX V G cX12_counts 3 "FluxWatchModel" (some .int) := B
  have hl : lv_has ls 3 [(0, .ref (gz G + 107)), (1, .int a1)] := hl
  show WX V G N f m 0 0 (QQ V G (some (.int r)) N f m 0 0) 0 ls []
  refine x_aload_n B dX12_counts_0 rfl (lv_at hl 0 rfl) ?_
  refine y_getMr (C := RX12) (T := TX12) (NN := 34) (d := 0) (k2 := 108) B aM_107 inX12 rfl (j := 0) (by decide) q_1112 rfl rfl rfl dX12_counts_1 ?_
  refine x_bipush (v := (nI 9)) B dX12_counts_4 (by decide) ?_
  refine x_ialdM B aM_108 (by decide) dX12_counts_6 ?_
  refine x_iconst (v := (nI 1)) B dX12_counts_7 (by decide) ?_
  refine x_isub B dX12_counts_8 ?_
  refine x_nm (fun v1 e2 => ?_)
  have hf := lt_some hf e2
  refine x_istore_n (lv' := [(2, .int v1), (0, .ref (gz G + 107)), (1, .int a1)]) B dX12_counts_9 rfl hl (by decide) rfl (fun ls hl => ?_)
  exact fX12_counts_10L_ok B hR  n _ _ _ _ (lv_sub hl [1, 2, 0] rfl) hf
def rmX12_within : Room := { frames := 0, cells := 0, slots := 0, locals := 0 }
def fX12_within (n : Nat) (a1 : Int32) (a2 : Int32) (a3 : Int32)  : Option (Int32) :=
  if a2 ≤ a1 then (
  if a1 ≤ a3 then (
  some a1) else (
  some a3)) else (
  some a2)
set_option maxHeartbeats 4000000 in
set_option maxRecDepth 100000 in
theorem kX12_within {l : Launch} {G : GE} {N : Nat} {f m : Mm} {n : Nat} {a1 : Int32} {a2 : Int32} {a3 : Int32} {r : Int32}  (hf : fX12_within n a1 a2 a3 = some r) : MT l G yX12_within cX12_within 3 (some .int) rmX12_within [.int a1, .int a2, .int a3] N f m (some (.int r)) N f m := by
  unfold fX12_within at hf
  refine MT.of (by decide) (Nat.le_of_ble_eq_true rfl) (fun V ls hV hR B hl => ?_)
  have B : CX V G cX12_within 3 "FluxWatchModel" (some .int) := B
  have hl : lv_has ls 3 [(0, .int a1), (1, .int a2), (2, .int a3)] := hl
  show WX V G N f m 0 0 (QQ V G (some (.int r)) N f m 0 0) 0 ls []
  refine x_iload_n B dX12_within_0 rfl (lv_at hl 0 rfl) ?_
  refine x_iload_n B dX12_within_1 rfl (lv_at hl 1 rfl) ?_
  refine x_icmp_ge (tgt := 9) B dX12_within_2 (by decide) (fun h1 => ?_) (fun h1 => ?_)
  · have hf := ip h1 hf
    refine x_iload_n B dX12_within_9 rfl (lv_at hl 0 rfl) ?_
    refine x_iload_n B dX12_within_10 rfl (lv_at hl 2 rfl) ?_
    refine x_icmp_le (tgt := 18) B dX12_within_11 (by decide) (fun h2 => ?_) (fun h2 => ?_)
    · have hf := ip h2 hf
      refine x_iload_n B dX12_within_18 rfl (lv_at hl 0 rfl) ?_
      obtain rfl := rt1 hf
      exact x_iret B dX12_within_19
    · have hf := iq h2 hf
      refine x_iload_n B dX12_within_14 rfl (lv_at hl 2 rfl) ?_
      refine x_goto (tgt := 19) B dX12_within_15 (by decide) ?_
      obtain rfl := rt1 hf
      exact x_iret B dX12_within_19
  · have hf := iq h1 hf
    refine x_iload_n B dX12_within_5 rfl (lv_at hl 1 rfl) ?_
    refine x_goto (tgt := 19) B dX12_within_6 (by decide) ?_
    obtain rfl := rt1 hf
    exact x_iret B dX12_within_19
def rmX12_two : Room := { frames := 0, cells := 0, slots := 0, locals := 0 }
def fX12_two (n : Nat) (a1 : Int32) (a2 : Int32) (a3 : Int32)  : Option (Int32) :=
  if a1 = (-8 : Int32) then (
  some (a2 * a3)) else (
  if a1 = (-7 : Int32) then (
  some (a2 - a3)) else (
  if a1 = (-6 : Int32) then (
  some (a2 + a3)) else (
  if a1 = (-5 : Int32) then (
  if a2 ≤ a3 then (
  some (nI 0)) else (
  some (nI 1))) else (
  if a1 = (-4 : Int32) then (
  if a2 = a3 then (
  some (nI 1)) else (
  some (nI 0))) else (
  if a1 = (-3 : Int32) then (
  if a3 ≤ a2 then (
  some (nI 0)) else (
  some (nI 1))) else (
  if a1 = (-2 : Int32) then (
  if a2 = 0 then (
  some (nI 0)) else (
  if a3 = 0 then (
  some (nI 0)) else (
  some (nI 1)))) else (
  if a1 = (-1 : Int32) then (
  if a2 = 0 then (
  if a3 = 0 then (
  some (nI 0)) else (
  some (nI 1))) else (
  some (nI 1))) else (
  if a3 = 0 then (
  some (nI 0)) else (
  gd (nz a3) <|
  some (a2 / a3))))))))))
set_option maxHeartbeats 4000000 in
set_option maxRecDepth 100000 in
theorem kX12_two {l : Launch} {G : GE} {N : Nat} {f m : Mm} {n : Nat} {a1 : Int32} {a2 : Int32} {a3 : Int32} {r : Int32}  (hf : fX12_two n a1 a2 a3 = some r) : MT l G yX12_two cX12_two 3 (some .int) rmX12_two [.int a1, .int a2, .int a3] N f m (some (.int r)) N f m := by
  unfold fX12_two at hf
  refine MT.of (by decide) (Nat.le_of_ble_eq_true rfl) (fun V ls hV hR B hl => ?_)
  have B : CX V G cX12_two 3 "FluxWatchModel" (some .int) := B
  have hl : lv_has ls 3 [(0, .int a1), (1, .int a2), (2, .int a3)] := hl
  show WX V G N f m 0 0 (QQ V G (some (.int r)) N f m 0 0) 0 ls []
  refine x_iload_n B dX12_two_0 rfl (lv_at hl 0 rfl) ?_
  by_cases h1 : a1 = (-8 : Int32)
  · have hf := ip h1 hf
    refine x_tabIn (a := -8) (tgt := 117) B dX12_two_1 (by rw [h1]; rfl) (by decide) (by decide) rfl (by decide) ?_
    refine x_iload_n B dX12_two_117 rfl (lv_at hl 1 rfl) ?_
    refine x_iload_n B dX12_two_118 rfl (lv_at hl 2 rfl) ?_
    refine x_imul B dX12_two_119 ?_
    obtain rfl := rt1 hf
    exact x_iret B dX12_two_120
  · have hf := iq h1 hf
    by_cases h2 : a1 = (-7 : Int32)
    · have hf := ip h2 hf
      refine x_tabIn (a := -7) (tgt := 113) B dX12_two_1 (by rw [h2]; rfl) (by decide) (by decide) rfl (by decide) ?_
      refine x_iload_n B dX12_two_113 rfl (lv_at hl 1 rfl) ?_
      refine x_iload_n B dX12_two_114 rfl (lv_at hl 2 rfl) ?_
      refine x_isub B dX12_two_115 ?_
      obtain rfl := rt1 hf
      exact x_iret B dX12_two_116
    · have hf := iq h2 hf
      by_cases h3 : a1 = (-6 : Int32)
      · have hf := ip h3 hf
        refine x_tabIn (a := -6) (tgt := 109) B dX12_two_1 (by rw [h3]; rfl) (by decide) (by decide) rfl (by decide) ?_
        refine x_iload_n B dX12_two_109 rfl (lv_at hl 1 rfl) ?_
        refine x_iload_n B dX12_two_110 rfl (lv_at hl 2 rfl) ?_
        refine x_iadd B dX12_two_111 ?_
        obtain rfl := rt1 hf
        exact x_iret B dX12_two_112
      · have hf := iq h3 hf
        by_cases h4 : a1 = (-5 : Int32)
        · have hf := ip h4 hf
          refine x_tabIn (a := -5) (tgt := 98) B dX12_two_1 (by rw [h4]; rfl) (by decide) (by decide) rfl (by decide) ?_
          refine x_iload_n B dX12_two_98 rfl (lv_at hl 1 rfl) ?_
          refine x_iload_n B dX12_two_99 rfl (lv_at hl 2 rfl) ?_
          refine x_icmp_le (tgt := 107) B dX12_two_100 (by decide) (fun h5 => ?_) (fun h5 => ?_)
          · have hf := ip h5 hf
            refine x_iconst (v := (nI 0)) B dX12_two_107 (by decide) ?_
            obtain rfl := rt1 hf
            exact x_iret B dX12_two_108
          · have hf := iq h5 hf
            refine x_iconst (v := (nI 1)) B dX12_two_103 (by decide) ?_
            refine x_goto (tgt := 108) B dX12_two_104 (by decide) ?_
            obtain rfl := rt1 hf
            exact x_iret B dX12_two_108
        · have hf := iq h4 hf
          by_cases h6 : a1 = (-4 : Int32)
          · have hf := ip h6 hf
            refine x_tabIn (a := -4) (tgt := 87) B dX12_two_1 (by rw [h6]; rfl) (by decide) (by decide) rfl (by decide) ?_
            refine x_iload_n B dX12_two_87 rfl (lv_at hl 1 rfl) ?_
            refine x_iload_n B dX12_two_88 rfl (lv_at hl 2 rfl) ?_
            refine x_icmp_ne (tgt := 96) B dX12_two_89 (by decide) (fun h7 => ?_) (fun h7 => ?_)
            · have hf := ip h7 hf
              refine x_iconst (v := (nI 1)) B dX12_two_92 (by decide) ?_
              refine x_goto (tgt := 97) B dX12_two_93 (by decide) ?_
              obtain rfl := rt1 hf
              exact x_iret B dX12_two_97
            · have hf := iq h7 hf
              refine x_iconst (v := (nI 0)) B dX12_two_96 (by decide) ?_
              obtain rfl := rt1 hf
              exact x_iret B dX12_two_97
          · have hf := iq h6 hf
            by_cases h8 : a1 = (-3 : Int32)
            · have hf := ip h8 hf
              refine x_tabIn (a := -3) (tgt := 76) B dX12_two_1 (by rw [h8]; rfl) (by decide) (by decide) rfl (by decide) ?_
              refine x_iload_n B dX12_two_76 rfl (lv_at hl 1 rfl) ?_
              refine x_iload_n B dX12_two_77 rfl (lv_at hl 2 rfl) ?_
              refine x_icmp_ge (tgt := 85) B dX12_two_78 (by decide) (fun h9 => ?_) (fun h9 => ?_)
              · have hf := ip h9 hf
                refine x_iconst (v := (nI 0)) B dX12_two_85 (by decide) ?_
                obtain rfl := rt1 hf
                exact x_iret B dX12_two_86
              · have hf := iq h9 hf
                refine x_iconst (v := (nI 1)) B dX12_two_81 (by decide) ?_
                refine x_goto (tgt := 86) B dX12_two_82 (by decide) ?_
                obtain rfl := rt1 hf
                exact x_iret B dX12_two_86
            · have hf := iq h8 hf
              by_cases h10 : a1 = (-2 : Int32)
              · have hf := ip h10 hf
                refine x_tabIn (a := -2) (tgt := 62) B dX12_two_1 (by rw [h10]; rfl) (by decide) (by decide) rfl (by decide) ?_
                refine x_iload_n B dX12_two_62 rfl (lv_at hl 1 rfl) ?_
                refine x_if_eq (tgt := 74) B dX12_two_63 (by decide) (fun h11 => ?_) (fun h11 => ?_)
                · have hf := ip h11 hf
                  refine x_iconst (v := (nI 0)) B dX12_two_74 (by decide) ?_
                  obtain rfl := rt1 hf
                  exact x_iret B dX12_two_75
                · have hf := iq h11 hf
                  refine x_iload_n B dX12_two_66 rfl (lv_at hl 2 rfl) ?_
                  refine x_if_eq (tgt := 74) B dX12_two_67 (by decide) (fun h12 => ?_) (fun h12 => ?_)
                  · have hf := ip h12 hf
                    refine x_iconst (v := (nI 0)) B dX12_two_74 (by decide) ?_
                    obtain rfl := rt1 hf
                    exact x_iret B dX12_two_75
                  · have hf := iq h12 hf
                    refine x_iconst (v := (nI 1)) B dX12_two_70 (by decide) ?_
                    refine x_goto (tgt := 75) B dX12_two_71 (by decide) ?_
                    obtain rfl := rt1 hf
                    exact x_iret B dX12_two_75
              · have hf := iq h10 hf
                by_cases h13 : a1 = (-1 : Int32)
                · have hf := ip h13 hf
                  refine x_tabIn (a := -1) (tgt := 48) B dX12_two_1 (by rw [h13]; rfl) (by decide) (by decide) rfl (by decide) ?_
                  refine x_iload_n B dX12_two_48 rfl (lv_at hl 1 rfl) ?_
                  refine x_if_ne (tgt := 56) B dX12_two_49 (by decide) (fun h14 => ?_) (fun h14 => ?_)
                  · have hf := ip h14 hf
                    refine x_iload_n B dX12_two_52 rfl (lv_at hl 2 rfl) ?_
                    refine x_if_eq (tgt := 60) B dX12_two_53 (by decide) (fun h15 => ?_) (fun h15 => ?_)
                    · have hf := ip h15 hf
                      refine x_iconst (v := (nI 0)) B dX12_two_60 (by decide) ?_
                      obtain rfl := rt1 hf
                      exact x_iret B dX12_two_61
                    · have hf := iq h15 hf
                      refine x_iconst (v := (nI 1)) B dX12_two_56 (by decide) ?_
                      refine x_goto (tgt := 61) B dX12_two_57 (by decide) ?_
                      obtain rfl := rt1 hf
                      exact x_iret B dX12_two_61
                  · have hf := iq h14 hf
                    refine x_iconst (v := (nI 1)) B dX12_two_56 (by decide) ?_
                    refine x_goto (tgt := 61) B dX12_two_57 (by decide) ?_
                    obtain rfl := rt1 hf
                    exact x_iret B dX12_two_61
                · have hf := iq h13 hf
                  have h1t := lv_neT h1 (show ((-8 : Int32)).toInt = -8 from rfl)
                  have h2t := lv_neT h2 (show ((-7 : Int32)).toInt = -7 from rfl)
                  have h3t := lv_neT h3 (show ((-6 : Int32)).toInt = -6 from rfl)
                  have h4t := lv_neT h4 (show ((-5 : Int32)).toInt = -5 from rfl)
                  have h6t := lv_neT h6 (show ((-4 : Int32)).toInt = -4 from rfl)
                  have h8t := lv_neT h8 (show ((-3 : Int32)).toInt = -3 from rfl)
                  have h10t := lv_neT h10 (show ((-2 : Int32)).toInt = -2 from rfl)
                  have h13t := lv_neT h13 (show ((-1 : Int32)).toInt = -1 from rfl)
                  refine x_tabOut (tgt := 121) B dX12_two_1 (by omega) (by decide) ?_
                  refine x_iload_n B dX12_two_121 rfl (lv_at hl 2 rfl) ?_
                  refine x_if_ne (tgt := 129) B dX12_two_122 (by decide) (fun h16 => ?_) (fun h16 => ?_)
                  · have hf := ip h16 hf
                    refine x_iconst (v := (nI 0)) B dX12_two_125 (by decide) ?_
                    refine x_goto (tgt := 132) B dX12_two_126 (by decide) ?_
                    obtain rfl := rt1 hf
                    exact x_iret B dX12_two_132
                  · have hf := iq h16 hf
                    refine x_iload_n B dX12_two_129 rfl (lv_at hl 1 rfl) ?_
                    refine x_iload_n B dX12_two_130 rfl (lv_at hl 2 rfl) ?_
                    obtain ⟨h17, hf⟩ := gd_some hf
                    refine x_idiv B dX12_two_131 (nz_ne h17) ?_
                    obtain rfl := rt1 hf
                    exact x_iret B dX12_two_132
def rmX12_worksOut : Room := { frames := 1, cells := 0, slots := 0, locals := 22 }
set_option maxHeartbeats 4000000 in
set_option maxRecDepth 100000 in
theorem cw_X12_worksOut_X12_two : cwB rmX12_worksOut rmX12_two yX12_two cX12_two 3 (some .int) 3 := ⟨q_1366, q_57, by decide, by decide⟩
def fX12_worksOut_151 (n : Nat)  (k22 : Int32 → Int32 → Int32 → Int32 → Mm → Option (Int32 × Mm)) (x1 : Int32) (x2 : Int32) (x3 : Int32) (x4 : Int32) (m : Mm) : Option (Int32 × Mm) :=
  k22 x1 x2 x3 (x4 + (nI 1)) m
set_option maxHeartbeats 4000000 in
set_option maxRecDepth 100000 in
theorem fX12_worksOut_151_ok {V : VE} {G : GE} {N : Nat} {f m : Mm} {n : Nat} {ls : Array Slot} {r : Int32} {g : Mm} (B : CX V G cX12_worksOut 6 "FluxWatchModel" (some .int)) (hR : V.2.2.2.1 = rmX12_worksOut)  {k22 : Int32 → Int32 → Int32 → Int32 → Mm → Option (Int32 × Mm)} (hk22 : ∀ (x1 : Int32) (x2 : Int32) (x3 : Int32) (x4 : Int32) (mm : Mm) (ls : Array Slot),  lv_has ls 6 [(0, .ref (gz G + 107)), (1, .int x1), (2, .int x2), (3, .int x3), (4, .int x4)] → k22 x1 x2 x3 x4 mm = some (r, g) → WX V G N f mm 0 0 (QQ V G (some (.int r)) N f g 0 0) 22 ls []) {x1 : Int32} {x2 : Int32} {x3 : Int32} {x4 : Int32}  (hl : lv_has ls 6 [(0, .ref (gz G + 107)), (1, .int x1), (2, .int x2), (3, .int x3), (4, .int x4)]) (hf : fX12_worksOut_151 n  k22 x1 x2 x3 x4 m = some (r, g)) : WX V G N f m 0 0 (QQ V G (some (.int r)) N f g 0 0) 151 ls [] := by
  unfold fX12_worksOut_151 at hf
  refine x_iinc (k := 4) (v := (nI 1)) (lv' := [(4, .int (x4 + (nI 1))), (0, .ref (gz G + 107)), (1, .int x1), (2, .int x2), (3, .int x3)]) B dX12_worksOut_151 hl rfl (by decide) (by decide) rfl (fun ls hl => ?_)
  refine x_goto (tgt := 22) B dX12_worksOut_154 (by decide) ?_
  exact hk22 _ _ _ _ _ _ (lv_sub hl [1, 2, 3, 4, 0] rfl) hf
def fX12_worksOut_117 (n : Nat)  (k22 : Int32 → Int32 → Int32 → Int32 → Mm → Option (Int32 × Mm)) (x1 : Int32) (x2 : Int32) (x3 : Int32) (x4 : Int32) (s0 : Int32) (s1 : Int32) (m : Mm) : Option (Int32 × Mm) :=
  gd (ib s1 96) <|
  lt (up m 117 s1.toNatClampNeg s0) fun f13 =>
  fX12_worksOut_151 n k22 x1 x2 x3 x4 f13
set_option maxHeartbeats 4000000 in
set_option maxRecDepth 100000 in
theorem fX12_worksOut_117_ok {V : VE} {G : GE} {N : Nat} {f m : Mm} {n : Nat} {ls : Array Slot} {r : Int32} {g : Mm} (B : CX V G cX12_worksOut 6 "FluxWatchModel" (some .int)) (hR : V.2.2.2.1 = rmX12_worksOut)  {k22 : Int32 → Int32 → Int32 → Int32 → Mm → Option (Int32 × Mm)} (hk22 : ∀ (x1 : Int32) (x2 : Int32) (x3 : Int32) (x4 : Int32) (mm : Mm) (ls : Array Slot),  lv_has ls 6 [(0, .ref (gz G + 107)), (1, .int x1), (2, .int x2), (3, .int x3), (4, .int x4)] → k22 x1 x2 x3 x4 mm = some (r, g) → WX V G N f mm 0 0 (QQ V G (some (.int r)) N f g 0 0) 22 ls []) {x1 : Int32} {x2 : Int32} {x3 : Int32} {x4 : Int32} {s0 : Int32} {s1 : Int32}  (hl : lv_has ls 6 [(0, .ref (gz G + 107)), (1, .int x1), (2, .int x2), (3, .int x3), (4, .int x4)]) (hf : fX12_worksOut_117 n  k22 x1 x2 x3 x4 s0 s1 m = some (r, g)) : WX V G N f m 0 0 (QQ V G (some (.int r)) N f g 0 0) 117 ls [.int s0, .int s1, .ref (gz G + 117)] := by
  unfold fX12_worksOut_117 at hf
  obtain ⟨h12, hf⟩ := gd_some hf
  refine x_iastM B aM_117 h12 dX12_worksOut_117 (fun f13 e14 => ?_)
  have hf := lt_some hf e14
  refine x_goto (tgt := 151) B dX12_worksOut_118 (by decide) ?_
  exact fX12_worksOut_151_ok B hR hk22 hl hf
def fX12_worksOut_80 (n : Nat)  (k22 : Int32 → Int32 → Int32 → Int32 → Mm → Option (Int32 × Mm)) (x1 : Int32) (x2 : Int32) (x3 : Int32) (x4 : Int32) (s0 : Int32) (s1 : Int32) (m : Mm) : Option (Int32 × Mm) :=
  gd (ib s1 96) <|
  lt (up m 117 s1.toNatClampNeg s0) fun f25 =>
  fX12_worksOut_151 n k22 x1 (x2 + (nI 1)) x3 x4 f25
set_option maxHeartbeats 4000000 in
set_option maxRecDepth 100000 in
theorem fX12_worksOut_80_ok {V : VE} {G : GE} {N : Nat} {f m : Mm} {n : Nat} {ls : Array Slot} {r : Int32} {g : Mm} (B : CX V G cX12_worksOut 6 "FluxWatchModel" (some .int)) (hR : V.2.2.2.1 = rmX12_worksOut)  {k22 : Int32 → Int32 → Int32 → Int32 → Mm → Option (Int32 × Mm)} (hk22 : ∀ (x1 : Int32) (x2 : Int32) (x3 : Int32) (x4 : Int32) (mm : Mm) (ls : Array Slot),  lv_has ls 6 [(0, .ref (gz G + 107)), (1, .int x1), (2, .int x2), (3, .int x3), (4, .int x4)] → k22 x1 x2 x3 x4 mm = some (r, g) → WX V G N f mm 0 0 (QQ V G (some (.int r)) N f g 0 0) 22 ls []) {x1 : Int32} {x2 : Int32} {x3 : Int32} {x4 : Int32} {s0 : Int32} {s1 : Int32}  (hl : lv_has ls 6 [(0, .ref (gz G + 107)), (1, .int x1), (2, .int x2), (3, .int x3), (4, .int x4)]) (hf : fX12_worksOut_80 n  k22 x1 x2 x3 x4 s0 s1 m = some (r, g)) : WX V G N f m 0 0 (QQ V G (some (.int r)) N f g 0 0) 80 ls [.int s0, .int s1, .ref (gz G + 117)] := by
  unfold fX12_worksOut_80 at hf
  obtain ⟨h24, hf⟩ := gd_some hf
  refine x_iastM B aM_117 h24 dX12_worksOut_80 (fun f25 e26 => ?_)
  have hf := lt_some hf e26
  refine x_iinc (k := 2) (v := (nI 1)) (lv' := [(2, .int (x2 + (nI 1))), (0, .ref (gz G + 107)), (1, .int x1), (3, .int x3), (4, .int x4)]) B dX12_worksOut_81 hl rfl (by decide) (by decide) rfl (fun ls hl => ?_)
  refine x_goto (tgt := 151) B dX12_worksOut_84 (by decide) ?_
  exact fX12_worksOut_151_ok B hR hk22 (lv_sub hl [1, 2, 0, 3, 4] rfl) hf
def fX12_worksOut_22 (n : Nat)   (k22 : Int32 → Int32 → Int32 → Int32 → Mm → Option (Int32 × Mm)) (x1 : Int32) (x2 : Int32) (x3 : Int32) (x4 : Int32) (m : Mm) : Option (Int32 × Mm) :=
  if x3 ≤ x4 then (
  some (m 117 (nI 0).toNatClampNeg, m)) else (
  gd (ib (((nI 375) + ((nI 96) * x1)) + x4) 1719) <|
  lt (m 108 (((nI 375) + ((nI 96) * x1)) + x4).toNatClampNeg) fun v6 =>
  if v6 < 0 then (
  if v6 = (-10 : Int32) then (
  gd (ib (x2 - (nI 1)) 96) <|
  if (m 117 (x2 - (nI 1)).toNatClampNeg) = 0 then (
  fX12_worksOut_117 n k22 x1 x2 x3 x4 (nI 1) (x2 - (nI 1)) m) else (
  fX12_worksOut_117 n k22 x1 x2 x3 x4 (nI 0) (x2 - (nI 1)) m)) else (
  gd (ib ((x2 + (-1 : Int32)) - (nI 1)) 96) <|
  gd (ib (x2 + (-1 : Int32)) 96) <|
  bn (fX12_two n v6 (m 117 ((x2 + (-1 : Int32)) - (nI 1)).toNatClampNeg) (m 117 (x2 + (-1 : Int32)).toNatClampNeg)) fun r18 =>
  gd (ib ((x2 + (-1 : Int32)) - (nI 1)) 96) <|
  lt (up m 117 ((x2 + (-1 : Int32)) - (nI 1)).toNatClampNeg r18) fun f20 =>
  fX12_worksOut_151 n k22 x1 (x2 + (-1 : Int32)) x3 x4 f20)) else (
  if (nI 10000) ≤ v6 then (
  gd (ib (v6 - (nI 10000)) 4) <|
  fX12_worksOut_80 n k22 x1 x2 x3 x4 (m 118 (v6 - (nI 10000)).toNatClampNeg) x2 m) else (
  fX12_worksOut_80 n k22 x1 x2 x3 x4 v6 x2 m)))
def fX12_worksOut_22L (n : Nat)   : Nat → Int32 → Int32 → Int32 → Int32 → Mm → Option (Int32 × Mm)
  | 0 => fun _ _ _ _ _ => none
  | q + 1 => fX12_worksOut_22 n   (fX12_worksOut_22L n   q)
set_option maxHeartbeats 4000000 in
set_option maxRecDepth 100000 in
theorem fX12_worksOut_22_ok {V : VE} {G : GE} {N : Nat} {f m : Mm} {n : Nat} {ls : Array Slot} {r : Int32} {g : Mm} (B : CX V G cX12_worksOut 6 "FluxWatchModel" (some .int)) (hR : V.2.2.2.1 = rmX12_worksOut)   {k22 : Int32 → Int32 → Int32 → Int32 → Mm → Option (Int32 × Mm)} (hk22 : ∀ (x1 : Int32) (x2 : Int32) (x3 : Int32) (x4 : Int32) (mm : Mm) (ls : Array Slot),  lv_has ls 6 [(0, .ref (gz G + 107)), (1, .int x1), (2, .int x2), (3, .int x3), (4, .int x4)] → k22 x1 x2 x3 x4 mm = some (r, g) → WX V G N f mm 0 0 (QQ V G (some (.int r)) N f g 0 0) 22 ls []) {x1 : Int32} {x2 : Int32} {x3 : Int32} {x4 : Int32}  (hl : lv_has ls 6 [(0, .ref (gz G + 107)), (1, .int x1), (2, .int x2), (3, .int x3), (4, .int x4)]) (hf : fX12_worksOut_22 n  k22 x1 x2 x3 x4 m = some (r, g)) : WX V G N f m 0 0 (QQ V G (some (.int r)) N f g 0 0) 22 ls [] := by
  unfold fX12_worksOut_22 at hf
  refine x_iload B dX12_worksOut_22 (lv_at hl 4 rfl) ?_
  refine x_iload_n B dX12_worksOut_24 rfl (lv_at hl 3 rfl) ?_
  refine x_icmp_ge (tgt := 157) B dX12_worksOut_25 (by decide) (fun h4 => ?_) (fun h4 => ?_)
  · have hf := ip h4 hf
    refine x_aload_n B dX12_worksOut_157 rfl (lv_at hl 0 rfl) ?_
    refine y_getMr (C := RX12) (T := TX12) (NN := 34) (d := 9) (k2 := 117) B aM_107 inX12 rfl (j := 20) (by decide) q_1132 rfl rfl rfl dX12_worksOut_158 ?_
    refine x_iconst (v := (nI 0)) B dX12_worksOut_161 (by decide) ?_
    refine x_ialdM B aM_117 (by decide) dX12_worksOut_162 ?_
    obtain ⟨rfl, rfl⟩ := rt2 hf
    exact x_iret B dX12_worksOut_163
  · have hf := iq h4 hf
    refine x_aload_n B dX12_worksOut_28 rfl (lv_at hl 0 rfl) ?_
    refine y_getMr (C := RX12) (T := TX12) (NN := 34) (d := 0) (k2 := 108) B aM_107 inX12 rfl (j := 0) (by decide) q_1112 rfl rfl rfl dX12_worksOut_29 ?_
    refine x_sipush (v := (nI 375)) B dX12_worksOut_32 (by decide) ?_
    refine x_bipush (v := (nI 96)) B dX12_worksOut_35 (by decide) ?_
    refine x_iload_n B dX12_worksOut_37 rfl (lv_at hl 1 rfl) ?_
    refine x_imul B dX12_worksOut_38 ?_
    refine x_iadd B dX12_worksOut_39 ?_
    refine x_iload B dX12_worksOut_40 (lv_at hl 4 rfl) ?_
    refine x_iadd B dX12_worksOut_42 ?_
    obtain ⟨h5, hf⟩ := gd_some hf
    refine x_ialdM B aM_108 h5 dX12_worksOut_43 ?_
    refine x_nm (fun v6 e7 => ?_)
    have hf := lt_some hf e7
    refine x_istore (lv' := [(5, .int v6), (0, .ref (gz G + 107)), (1, .int x1), (2, .int x2), (3, .int x3), (4, .int x4)]) B dX12_worksOut_44 hl (by decide) rfl (fun ls hl => ?_)
    refine x_iload B dX12_worksOut_46 (lv_at hl 0 rfl) ?_
    refine x_if_lt (tgt := 87) B dX12_worksOut_48 (by decide) (fun h8 => ?_) (fun h8 => ?_)
    · have hf := ip h8 hf
      refine x_iload B dX12_worksOut_87 (lv_at hl 0 rfl) ?_
      refine x_bipush (v := (-10 : Int32)) B dX12_worksOut_89 (by decide) ?_
      refine x_icmp_ne (tgt := 121) B dX12_worksOut_91 (by decide) (fun h9 => ?_) (fun h9 => ?_)
      · have hf := ip h9 hf
        refine x_aload_n B dX12_worksOut_94 rfl (lv_at hl 1 rfl) ?_
        refine y_getMr (C := RX12) (T := TX12) (NN := 34) (d := 9) (k2 := 117) B aM_107 inX12 rfl (j := 20) (by decide) q_1132 rfl rfl rfl dX12_worksOut_95 ?_
        refine x_iload_n B dX12_worksOut_98 rfl (lv_at hl 3 rfl) ?_
        refine x_iconst (v := (nI 1)) B dX12_worksOut_99 (by decide) ?_
        refine x_isub B dX12_worksOut_100 ?_
        refine x_aload_n B dX12_worksOut_101 rfl (lv_at hl 1 rfl) ?_
        refine y_getMr (C := RX12) (T := TX12) (NN := 34) (d := 9) (k2 := 117) B aM_107 inX12 rfl (j := 20) (by decide) q_1132 rfl rfl rfl dX12_worksOut_102 ?_
        refine x_iload_n B dX12_worksOut_105 rfl (lv_at hl 3 rfl) ?_
        refine x_iconst (v := (nI 1)) B dX12_worksOut_106 (by decide) ?_
        refine x_isub B dX12_worksOut_107 ?_
        obtain ⟨h10, hf⟩ := gd_some hf
        refine x_ialdM B aM_117 h10 dX12_worksOut_108 ?_
        refine x_if_ne (tgt := 116) B dX12_worksOut_109 (by decide) (fun h11 => ?_) (fun h11 => ?_)
        · have hf := ip h11 hf
          refine x_iconst (v := (nI 1)) B dX12_worksOut_112 (by decide) ?_
          refine x_goto (tgt := 117) B dX12_worksOut_113 (by decide) ?_
          exact fX12_worksOut_117_ok B hR hk22 (lv_sub hl [1, 2, 3, 4, 5] rfl) hf
        · have hf := iq h11 hf
          refine x_iconst (v := (nI 0)) B dX12_worksOut_116 (by decide) ?_
          exact fX12_worksOut_117_ok B hR hk22 (lv_sub hl [1, 2, 3, 4, 5] rfl) hf
      · have hf := iq h9 hf
        refine x_iinc (k := 3) (v := (-1 : Int32)) (lv' := [(2, .int (x2 + (-1 : Int32))), (5, .int v6), (0, .ref (gz G + 107)), (1, .int x1), (3, .int x3), (4, .int x4)]) B dX12_worksOut_121 hl rfl (by decide) (by decide) rfl (fun ls hl => ?_)
        refine x_aload_n B dX12_worksOut_124 rfl (lv_at hl 2 rfl) ?_
        refine y_getMr (C := RX12) (T := TX12) (NN := 34) (d := 9) (k2 := 117) B aM_107 inX12 rfl (j := 20) (by decide) q_1132 rfl rfl rfl dX12_worksOut_125 ?_
        refine x_iload_n B dX12_worksOut_128 rfl (lv_at hl 0 rfl) ?_
        refine x_iconst (v := (nI 1)) B dX12_worksOut_129 (by decide) ?_
        refine x_isub B dX12_worksOut_130 ?_
        refine x_iload B dX12_worksOut_131 (lv_at hl 1 rfl) ?_
        refine x_aload_n B dX12_worksOut_133 rfl (lv_at hl 2 rfl) ?_
        refine y_getMr (C := RX12) (T := TX12) (NN := 34) (d := 9) (k2 := 117) B aM_107 inX12 rfl (j := 20) (by decide) q_1132 rfl rfl rfl dX12_worksOut_134 ?_
        refine x_iload_n B dX12_worksOut_137 rfl (lv_at hl 0 rfl) ?_
        refine x_iconst (v := (nI 1)) B dX12_worksOut_138 (by decide) ?_
        refine x_isub B dX12_worksOut_139 ?_
        obtain ⟨h15, hf⟩ := gd_some hf
        refine x_ialdM B aM_117 h15 dX12_worksOut_140 ?_
        refine x_aload_n B dX12_worksOut_141 rfl (lv_at hl 2 rfl) ?_
        refine y_getMr (C := RX12) (T := TX12) (NN := 34) (d := 9) (k2 := 117) B aM_107 inX12 rfl (j := 20) (by decide) q_1132 rfl rfl rfl dX12_worksOut_142 ?_
        refine x_iload_n B dX12_worksOut_145 rfl (lv_at hl 0 rfl) ?_
        obtain ⟨h16, hf⟩ := gd_some hf
        refine x_ialdM B aM_117 h16 dX12_worksOut_146 ?_
        obtain ⟨r18, c17, hf⟩ := bn_some hf
        refine x_callS0 (rest := [.int ((x2 + (-1 : Int32)) - (nI 1)), .ref (gz G + 117)]) B (kX12_two c17) ⟨rfl, rfl⟩ q_1364 q_1365 (by rw [hR]; exact cw_X12_worksOut_X12_two) rfl rfl hl.1 (Nat.le_of_ble_eq_true rfl) dX12_worksOut_147 ⟨Nat.zero_le _, Nat.zero_le _⟩ ?_
        obtain ⟨h19, hf⟩ := gd_some hf
        refine x_iastM B aM_117 h19 dX12_worksOut_150 (fun f20 e21 => ?_)
        have hf := lt_some hf e21
        exact fX12_worksOut_151_ok B hR hk22 (lv_sub hl [2, 3, 0, 4, 5] rfl) hf
    · have hf := iq h8 hf
      refine x_aload_n B dX12_worksOut_51 rfl (lv_at hl 1 rfl) ?_
      refine y_getMr (C := RX12) (T := TX12) (NN := 34) (d := 9) (k2 := 117) B aM_107 inX12 rfl (j := 20) (by decide) q_1132 rfl rfl rfl dX12_worksOut_52 ?_
      refine x_iload_n B dX12_worksOut_55 rfl (lv_at hl 3 rfl) ?_
      refine x_iload B dX12_worksOut_56 (lv_at hl 0 rfl) ?_
      refine x_sipush (v := (nI 10000)) B dX12_worksOut_58 (by decide) ?_
      refine x_icmp_ge (tgt := 69) B dX12_worksOut_61 (by decide) (fun h22 => ?_) (fun h22 => ?_)
      · have hf := ip h22 hf
        refine x_aload_n B dX12_worksOut_69 rfl (lv_at hl 1 rfl) ?_
        refine y_getMr (C := RX12) (T := TX12) (NN := 34) (d := 10) (k2 := 118) B aM_107 inX12 rfl (j := 21) (by decide) q_1133 rfl rfl rfl dX12_worksOut_70 ?_
        refine x_iload B dX12_worksOut_73 (lv_at hl 0 rfl) ?_
        refine x_sipush (v := (nI 10000)) B dX12_worksOut_75 (by decide) ?_
        refine x_isub B dX12_worksOut_78 ?_
        obtain ⟨h23, hf⟩ := gd_some hf
        refine x_ialdM B aM_118 h23 dX12_worksOut_79 ?_
        exact fX12_worksOut_80_ok B hR hk22 (lv_sub hl [1, 2, 3, 4, 5] rfl) hf
      · have hf := iq h22 hf
        refine x_iload B dX12_worksOut_64 (lv_at hl 0 rfl) ?_
        refine x_goto (tgt := 80) B dX12_worksOut_66 (by decide) ?_
        exact fX12_worksOut_80_ok B hR hk22 (lv_sub hl [1, 2, 3, 4, 5] rfl) hf
set_option maxHeartbeats 4000000 in
set_option maxRecDepth 100000 in
theorem fX12_worksOut_22L_ok {V : VE} {G : GE} {N : Nat} {f : Mm} {n : Nat}  {r : Int32} {g : Mm} (B : CX V G cX12_worksOut 6 "FluxWatchModel" (some .int)) (hR : V.2.2.2.1 = rmX12_worksOut)   : ∀ (q : Nat) (x1 : Int32) (x2 : Int32) (x3 : Int32) (x4 : Int32) (mm : Mm) (ls : Array Slot),  lv_has ls 6 [(0, .ref (gz G + 107)), (1, .int x1), (2, .int x2), (3, .int x3), (4, .int x4)] → fX12_worksOut_22L n  q x1 x2 x3 x4 mm = some (r, g) → WX V G N f mm 0 0 (QQ V G (some (.int r)) N f g 0 0) 22 ls [] := by
  intro q
  induction q with
  | zero =>
    intro x1 x2 x3 x4 mm ls hl hf
    cases hf
  | succ q ih =>
    intro x1 x2 x3 x4 mm ls hl hf
    exact fX12_worksOut_22_ok B hR   ih  hl hf
def fX12_worksOut (n : Nat) (a1 : Int32) (m : Mm) : Option (Int32 × Mm) :=
  gd (ib ((nI 347) + ((nI 2) * a1)) 1719) <|
  lt (irm (m 108 ((nI 347) + ((nI 2) * a1)).toNatClampNeg) (nI 1000)) fun v2 =>
  fX12_worksOut_22L n n a1 (nI 0) v2 (nI 0) m
set_option maxHeartbeats 4000000 in
set_option maxRecDepth 100000 in
theorem kX12_worksOut {l : Launch} {G : GE} {N : Nat} {f m : Mm} {n : Nat} {a1 : Int32} {r : Int32} {g : Mm}  (hf : fX12_worksOut n a1 m = some (r, g)) : MT l G yX12_worksOut cX12_worksOut 6 (some .int) rmX12_worksOut [.ref (gz G + 107), .int a1] N f m (some (.int r)) N f g := by
  unfold fX12_worksOut at hf
  refine MT.of (by decide) (Nat.le_of_ble_eq_true rfl) (fun V ls hV hR B hl => ?_)
  have B : CX V G cX12_worksOut 6 "FluxWatchModel" (some .int) := B
  have hl : lv_has ls 6 [(0, .ref (gz G + 107)), (1, .int a1)] := hl
  show WX V G N f m 0 0 (QQ V G (some (.int r)) N f g 0 0) 0 ls []
  refine x_iconst (v := (nI 0)) B dX12_worksOut_0 (by decide) ?_
  refine x_istore_n (lv' := [(2, .int (nI 0)), (0, .ref (gz G + 107)), (1, .int a1)]) B dX12_worksOut_1 rfl hl (by decide) rfl (fun ls hl => ?_)
  refine x_aload_n B dX12_worksOut_2 rfl (lv_at hl 1 rfl) ?_
  refine y_getMr (C := RX12) (T := TX12) (NN := 34) (d := 0) (k2 := 108) B aM_107 inX12 rfl (j := 0) (by decide) q_1112 rfl rfl rfl dX12_worksOut_3 ?_
  refine x_sipush (v := (nI 347)) B dX12_worksOut_6 (by decide) ?_
  refine x_iconst (v := (nI 2)) B dX12_worksOut_9 (by decide) ?_
  refine x_iload_n B dX12_worksOut_10 rfl (lv_at hl 2 rfl) ?_
  refine x_imul B dX12_worksOut_11 ?_
  refine x_iadd B dX12_worksOut_12 ?_
  obtain ⟨h1, hf⟩ := gd_some hf
  refine x_ialdM B aM_108 h1 dX12_worksOut_13 ?_
  refine x_sipush (v := (nI 1000)) B dX12_worksOut_14 (by decide) ?_
  refine y_irem B dX12_worksOut_17 (by decide) ?_
  refine x_nm (fun v2 e3 => ?_)
  have hf := lt_some hf e3
  refine x_istore_n (lv' := [(3, .int v2), (2, .int (nI 0)), (0, .ref (gz G + 107)), (1, .int a1)]) B dX12_worksOut_18 rfl hl (by decide) rfl (fun ls hl => ?_)
  refine x_iconst (v := (nI 0)) B dX12_worksOut_19 (by decide) ?_
  refine x_istore (lv' := [(4, .int (nI 0)), (3, .int v2), (2, .int (nI 0)), (0, .ref (gz G + 107)), (1, .int a1)]) B dX12_worksOut_20 hl (by decide) rfl (fun ls hl => ?_)
  exact fX12_worksOut_22L_ok B hR  n _ _ _ _ _ _ (lv_sub hl [3, 4, 2, 1, 0] rfl) hf
def rmX12_knockBy : Room := { frames := 2, cells := 0, slots := 0, locals := 47 }
set_option maxHeartbeats 4000000 in
set_option maxRecDepth 100000 in
theorem cw_X12_knockBy_X12_counts : cwB rmX12_knockBy rmX12_counts yX12_counts cX12_counts 3 (some .int) 1 := ⟨q_1359, q_57, by decide, by decide⟩
set_option maxHeartbeats 4000000 in
set_option maxRecDepth 100000 in
theorem cw_X12_knockBy_X12_within : cwB rmX12_knockBy rmX12_within yX12_within cX12_within 3 (some .int) 3 := ⟨q_1369, q_57, by decide, by decide⟩
set_option maxHeartbeats 4000000 in
set_option maxRecDepth 100000 in
theorem cw_X12_knockBy_X12_worksOut : cwB rmX12_knockBy rmX12_worksOut yX12_worksOut cX12_worksOut 6 (some .int) 1 := ⟨q_1363, q_57, by decide, by decide⟩
def fX12_knockBy (n : Nat) (a1 : Int32) (a2 : Int32) (m : Mm) : Option (Int32 × Mm) :=
  bn (fX12_counts n (nI 1) m) fun r2 =>
  lt (up m 118 (nI 0).toNatClampNeg a1) fun f3 =>
  lt (up f3 118 (nI 1).toNatClampNeg a2) fun f5 =>
  lt (up f5 118 (nI 2).toNatClampNeg (f5 108 (nI 3).toNatClampNeg)) fun f7 =>
  if 0 ≤ r2 then (
  bn2 (fX12_worksOut n r2 f7) fun r12 f11 =>
  bn (fX12_within n r12 (nI 0) (nI 999)) fun r14 =>
  some (r14, f11)) else (
  some ((nI 1), f7))
set_option maxHeartbeats 4000000 in
set_option maxRecDepth 100000 in
theorem kX12_knockBy {l : Launch} {G : GE} {N : Nat} {f m : Mm} {n : Nat} {a1 : Int32} {a2 : Int32} {r : Int32} {g : Mm}  (hf : fX12_knockBy n a1 a2 m = some (r, g)) : MT l G yX12_knockBy cX12_knockBy 4 (some .int) rmX12_knockBy [.ref (gz G + 107), .int a1, .int a2] N f m (some (.int r)) N f g := by
  unfold fX12_knockBy at hf
  refine MT.of (by decide) (Nat.le_of_ble_eq_true rfl) (fun V ls hV hR B hl => ?_)
  have B : CX V G cX12_knockBy 4 "FluxWatchModel" (some .int) := B
  have hl : lv_has ls 4 [(0, .ref (gz G + 107)), (1, .int a1), (2, .int a2)] := hl
  show WX V G N f m 0 0 (QQ V G (some (.int r)) N f g 0 0) 0 ls []
  refine x_aload_n B dX12_knockBy_0 rfl (lv_at hl 0 rfl) ?_
  refine x_iconst (v := (nI 1)) B dX12_knockBy_1 (by decide) ?_
  obtain ⟨r2, c1, hf⟩ := bn_some hf
  refine x_callV0 (rest := []) B (kX12_counts c1) ⟨rfl, rfl⟩ aM_107.lt aM_107.2 rfl (by decide) q_1356 q_1358 q_21 (by rw [hR]; exact cw_X12_knockBy_X12_counts) rfl rfl hl.1 (Nat.le_of_ble_eq_true rfl) dX12_knockBy_2 ⟨Nat.zero_le _, Nat.zero_le _⟩ ?_
  refine x_istore_n (lv' := [(3, .int r2), (0, .ref (gz G + 107)), (1, .int a1), (2, .int a2)]) B dX12_knockBy_5 rfl hl (by decide) rfl (fun ls hl => ?_)
  refine x_aload_n B dX12_knockBy_6 rfl (lv_at hl 1 rfl) ?_
  refine y_getMr (C := RX12) (T := TX12) (NN := 34) (d := 10) (k2 := 118) B aM_107 inX12 rfl (j := 21) (by decide) q_1133 rfl rfl rfl dX12_knockBy_7 ?_
  refine x_iconst (v := (nI 0)) B dX12_knockBy_10 (by decide) ?_
  refine x_iload_n B dX12_knockBy_11 rfl (lv_at hl 2 rfl) ?_
  refine x_iastM B aM_118 (by decide) dX12_knockBy_12 (fun f3 e4 => ?_)
  have hf := lt_some hf e4
  refine x_aload_n B dX12_knockBy_13 rfl (lv_at hl 1 rfl) ?_
  refine y_getMr (C := RX12) (T := TX12) (NN := 34) (d := 10) (k2 := 118) B aM_107 inX12 rfl (j := 21) (by decide) q_1133 rfl rfl rfl dX12_knockBy_14 ?_
  refine x_iconst (v := (nI 1)) B dX12_knockBy_17 (by decide) ?_
  refine x_iload_n B dX12_knockBy_18 rfl (lv_at hl 3 rfl) ?_
  refine x_iastM B aM_118 (by decide) dX12_knockBy_19 (fun f5 e6 => ?_)
  have hf := lt_some hf e6
  refine x_aload_n B dX12_knockBy_20 rfl (lv_at hl 1 rfl) ?_
  refine y_getMr (C := RX12) (T := TX12) (NN := 34) (d := 10) (k2 := 118) B aM_107 inX12 rfl (j := 21) (by decide) q_1133 rfl rfl rfl dX12_knockBy_21 ?_
  refine x_iconst (v := (nI 2)) B dX12_knockBy_24 (by decide) ?_
  refine x_aload_n B dX12_knockBy_25 rfl (lv_at hl 1 rfl) ?_
  refine y_getMr (C := RX12) (T := TX12) (NN := 34) (d := 0) (k2 := 108) B aM_107 inX12 rfl (j := 0) (by decide) q_1112 rfl rfl rfl dX12_knockBy_26 ?_
  refine x_iconst (v := (nI 3)) B dX12_knockBy_29 (by decide) ?_
  refine x_ialdM B aM_108 (by decide) dX12_knockBy_30 ?_
  refine x_iastM B aM_118 (by decide) dX12_knockBy_31 (fun f7 e8 => ?_)
  have hf := lt_some hf e8
  refine x_iload_n B dX12_knockBy_32 rfl (lv_at hl 0 rfl) ?_
  refine x_if_ge (tgt := 40) B dX12_knockBy_33 (by decide) (fun h9 => ?_) (fun h9 => ?_)
  · have hf := ip h9 hf
    refine x_aload_n B dX12_knockBy_40 rfl (lv_at hl 1 rfl) ?_
    refine x_iload_n B dX12_knockBy_41 rfl (lv_at hl 0 rfl) ?_
    obtain ⟨r12, f11, c10, hf⟩ := bn2_some hf
    refine x_callV0 (rest := []) B (kX12_worksOut c10) ⟨rfl, rfl⟩ aM_107.lt aM_107.2 rfl (by decide) q_1360 q_1362 q_22 (by rw [hR]; exact cw_X12_knockBy_X12_worksOut) rfl rfl hl.1 (Nat.le_of_ble_eq_true rfl) dX12_knockBy_42 ⟨Nat.zero_le _, Nat.zero_le _⟩ ?_
    refine x_iconst (v := (nI 0)) B dX12_knockBy_45 (by decide) ?_
    refine x_sipush (v := (nI 999)) B dX12_knockBy_46 (by decide) ?_
    obtain ⟨r14, c13, hf⟩ := bn_some hf
    refine x_callS0 (rest := []) B (kX12_within c13) ⟨rfl, rfl⟩ q_1367 q_1368 (by rw [hR]; exact cw_X12_knockBy_X12_within) rfl rfl hl.1 (Nat.le_of_ble_eq_true rfl) dX12_knockBy_49 ⟨Nat.zero_le _, Nat.zero_le _⟩ ?_
    obtain ⟨rfl, rfl⟩ := rt2 hf
    exact x_iret B dX12_knockBy_52
  · have hf := iq h9 hf
    refine x_iconst (v := (nI 1)) B dX12_knockBy_36 (by decide) ?_
    refine x_goto (tgt := 52) B dX12_knockBy_37 (by decide) ?_
    obtain ⟨rfl, rfl⟩ := rt2 hf
    exact x_iret B dX12_knockBy_52
def rmX12_rateBy : Room := { frames := 2, cells := 0, slots := 0, locals := 47 }
set_option maxHeartbeats 4000000 in
set_option maxRecDepth 100000 in
theorem cw_X12_rateBy_X12_counts : cwB rmX12_rateBy rmX12_counts yX12_counts cX12_counts 3 (some .int) 1 := ⟨q_1359, q_57, by decide, by decide⟩
set_option maxHeartbeats 4000000 in
set_option maxRecDepth 100000 in
theorem cw_X12_rateBy_X12_within : cwB rmX12_rateBy rmX12_within yX12_within cX12_within 3 (some .int) 3 := ⟨q_1369, q_57, by decide, by decide⟩
set_option maxHeartbeats 4000000 in
set_option maxRecDepth 100000 in
theorem cw_X12_rateBy_X12_worksOut : cwB rmX12_rateBy rmX12_worksOut yX12_worksOut cX12_worksOut 6 (some .int) 1 := ⟨q_1363, q_57, by decide, by decide⟩
def fX12_rateBy_45 (n : Nat)   (s0 : Int32) (m : Mm) : Option (Int32 × Mm) :=
  bn (fX12_within n s0 (nI 0) (nI 999)) fun r14 =>
  some (r14, m)
set_option maxHeartbeats 4000000 in
set_option maxRecDepth 100000 in
theorem fX12_rateBy_45_ok {V : VE} {G : GE} {N : Nat} {f m : Mm} {n : Nat} {ls : Array Slot} {r : Int32} {g : Mm} (B : CX V G cX12_rateBy 4 "FluxWatchModel" (some .int)) (hR : V.2.2.2.1 = rmX12_rateBy)   {s0 : Int32}  (hl : lv_has ls 4 []) (hf : fX12_rateBy_45 n  s0 m = some (r, g)) : WX V G N f m 0 0 (QQ V G (some (.int r)) N f g 0 0) 45 ls [.int s0] := by
  unfold fX12_rateBy_45 at hf
  refine x_iconst (v := (nI 0)) B dX12_rateBy_45 (by decide) ?_
  refine x_sipush (v := (nI 999)) B dX12_rateBy_46 (by decide) ?_
  obtain ⟨r14, c13, hf⟩ := bn_some hf
  refine x_callS0 (rest := []) B (kX12_within c13) ⟨rfl, rfl⟩ q_1367 q_1368 (by rw [hR]; exact cw_X12_rateBy_X12_within) rfl rfl hl.1 (Nat.le_of_ble_eq_true rfl) dX12_rateBy_49 ⟨Nat.zero_le _, Nat.zero_le _⟩ ?_
  obtain ⟨rfl, rfl⟩ := rt2 hf
  exact x_iret B dX12_rateBy_52
def fX12_rateBy (n : Nat) (a1 : Int32) (a2 : Int32) (m : Mm) : Option (Int32 × Mm) :=
  bn (fX12_counts n (nI 0) m) fun r2 =>
  lt (up m 118 (nI 0).toNatClampNeg a1) fun f3 =>
  lt (up f3 118 (nI 1).toNatClampNeg a2) fun f5 =>
  lt (up f5 118 (nI 2).toNatClampNeg (f5 108 (nI 2).toNatClampNeg)) fun f7 =>
  if 0 ≤ r2 then (
  bn2 (fX12_worksOut n r2 f7) fun r12 f11 =>
  fX12_rateBy_45 n r12 f11) else (
  fX12_rateBy_45 n a1 f7)
set_option maxHeartbeats 4000000 in
set_option maxRecDepth 100000 in
theorem kX12_rateBy {l : Launch} {G : GE} {N : Nat} {f m : Mm} {n : Nat} {a1 : Int32} {a2 : Int32} {r : Int32} {g : Mm}  (hf : fX12_rateBy n a1 a2 m = some (r, g)) : MT l G yX12_rateBy cX12_rateBy 4 (some .int) rmX12_rateBy [.ref (gz G + 107), .int a1, .int a2] N f m (some (.int r)) N f g := by
  unfold fX12_rateBy at hf
  refine MT.of (by decide) (Nat.le_of_ble_eq_true rfl) (fun V ls hV hR B hl => ?_)
  have B : CX V G cX12_rateBy 4 "FluxWatchModel" (some .int) := B
  have hl : lv_has ls 4 [(0, .ref (gz G + 107)), (1, .int a1), (2, .int a2)] := hl
  show WX V G N f m 0 0 (QQ V G (some (.int r)) N f g 0 0) 0 ls []
  refine x_aload_n B dX12_rateBy_0 rfl (lv_at hl 0 rfl) ?_
  refine x_iconst (v := (nI 0)) B dX12_rateBy_1 (by decide) ?_
  obtain ⟨r2, c1, hf⟩ := bn_some hf
  refine x_callV0 (rest := []) B (kX12_counts c1) ⟨rfl, rfl⟩ aM_107.lt aM_107.2 rfl (by decide) q_1356 q_1358 q_21 (by rw [hR]; exact cw_X12_rateBy_X12_counts) rfl rfl hl.1 (Nat.le_of_ble_eq_true rfl) dX12_rateBy_2 ⟨Nat.zero_le _, Nat.zero_le _⟩ ?_
  refine x_istore_n (lv' := [(3, .int r2), (0, .ref (gz G + 107)), (1, .int a1), (2, .int a2)]) B dX12_rateBy_5 rfl hl (by decide) rfl (fun ls hl => ?_)
  refine x_aload_n B dX12_rateBy_6 rfl (lv_at hl 1 rfl) ?_
  refine y_getMr (C := RX12) (T := TX12) (NN := 34) (d := 10) (k2 := 118) B aM_107 inX12 rfl (j := 21) (by decide) q_1133 rfl rfl rfl dX12_rateBy_7 ?_
  refine x_iconst (v := (nI 0)) B dX12_rateBy_10 (by decide) ?_
  refine x_iload_n B dX12_rateBy_11 rfl (lv_at hl 2 rfl) ?_
  refine x_iastM B aM_118 (by decide) dX12_rateBy_12 (fun f3 e4 => ?_)
  have hf := lt_some hf e4
  refine x_aload_n B dX12_rateBy_13 rfl (lv_at hl 1 rfl) ?_
  refine y_getMr (C := RX12) (T := TX12) (NN := 34) (d := 10) (k2 := 118) B aM_107 inX12 rfl (j := 21) (by decide) q_1133 rfl rfl rfl dX12_rateBy_14 ?_
  refine x_iconst (v := (nI 1)) B dX12_rateBy_17 (by decide) ?_
  refine x_iload_n B dX12_rateBy_18 rfl (lv_at hl 3 rfl) ?_
  refine x_iastM B aM_118 (by decide) dX12_rateBy_19 (fun f5 e6 => ?_)
  have hf := lt_some hf e6
  refine x_aload_n B dX12_rateBy_20 rfl (lv_at hl 1 rfl) ?_
  refine y_getMr (C := RX12) (T := TX12) (NN := 34) (d := 10) (k2 := 118) B aM_107 inX12 rfl (j := 21) (by decide) q_1133 rfl rfl rfl dX12_rateBy_21 ?_
  refine x_iconst (v := (nI 2)) B dX12_rateBy_24 (by decide) ?_
  refine x_aload_n B dX12_rateBy_25 rfl (lv_at hl 1 rfl) ?_
  refine y_getMr (C := RX12) (T := TX12) (NN := 34) (d := 0) (k2 := 108) B aM_107 inX12 rfl (j := 0) (by decide) q_1112 rfl rfl rfl dX12_rateBy_26 ?_
  refine x_iconst (v := (nI 2)) B dX12_rateBy_29 (by decide) ?_
  refine x_ialdM B aM_108 (by decide) dX12_rateBy_30 ?_
  refine x_iastM B aM_118 (by decide) dX12_rateBy_31 (fun f7 e8 => ?_)
  have hf := lt_some hf e8
  refine x_iload_n B dX12_rateBy_32 rfl (lv_at hl 0 rfl) ?_
  refine x_if_ge (tgt := 40) B dX12_rateBy_33 (by decide) (fun h9 => ?_) (fun h9 => ?_)
  · have hf := ip h9 hf
    refine x_aload_n B dX12_rateBy_40 rfl (lv_at hl 1 rfl) ?_
    refine x_iload_n B dX12_rateBy_41 rfl (lv_at hl 0 rfl) ?_
    obtain ⟨r12, f11, c10, hf⟩ := bn2_some hf
    refine x_callV0 (rest := []) B (kX12_worksOut c10) ⟨rfl, rfl⟩ aM_107.lt aM_107.2 rfl (by decide) q_1360 q_1362 q_22 (by rw [hR]; exact cw_X12_rateBy_X12_worksOut) rfl rfl hl.1 (Nat.le_of_ble_eq_true rfl) dX12_rateBy_42 ⟨Nat.zero_le _, Nat.zero_le _⟩ ?_
    exact fX12_rateBy_45_ok B hR  (lv_sub hl [] rfl) hf
  · have hf := iq h9 hf
    refine x_iload_n B dX12_rateBy_36 rfl (lv_at hl 2 rfl) ?_
    refine x_goto (tgt := 45) B dX12_rateBy_37 (by decide) ?_
    exact fX12_rateBy_45_ok B hR  (lv_sub hl [] rfl) hf
def rmX12_seenOn : Room := { frames := 2, cells := 0, slots := 0, locals := 46 }
set_option maxHeartbeats 4000000 in
set_option maxRecDepth 100000 in
theorem cw_X12_seenOn_X12_coil3 : cwB rmX12_seenOn rmX12_coil3 yX12_coil3 cX12_coil3 3 (some .int) 2 := ⟨q_1236, q_57, by decide, by decide⟩
set_option maxHeartbeats 4000000 in
set_option maxRecDepth 100000 in
theorem cw_X12_seenOn_X12_isWatched : cwB rmX12_seenOn rmX12_isWatched yX12_isWatched cX12_isWatched 5 (some .boolean) 2 := ⟨q_1241, q_57, by decide, by decide⟩
def fX12_seenOn_35 (n : Nat)  (k4 : Int32 → Int32 → Int32 → Mm → Option (Int32)) (x1 : Int32) (x3 : Int32) (s0 : Int32) (s1 : Int32) (m : Mm) : Option (Int32) :=
  k4 x1 (s1 + s0) (x3 + (nI 1)) m
set_option maxHeartbeats 4000000 in
set_option maxRecDepth 100000 in
theorem fX12_seenOn_35_ok {V : VE} {G : GE} {N : Nat} {f m : Mm} {n : Nat} {ls : Array Slot} {r : Int32} (B : CX V G cX12_seenOn 4 "FluxWatchModel" (some .int)) (hR : V.2.2.2.1 = rmX12_seenOn)  {k4 : Int32 → Int32 → Int32 → Mm → Option (Int32)} (hk4 : ∀ (x1 : Int32) (x2 : Int32) (x3 : Int32) (mm : Mm) (ls : Array Slot),  lv_has ls 4 [(0, .ref (gz G + 107)), (1, .int x1), (2, .int x2), (3, .int x3)] → k4 x1 x2 x3 mm = some r → WX V G N f mm 0 0 (QQ V G (some (.int r)) N f mm 0 0) 4 ls []) {x1 : Int32} {x3 : Int32} {s0 : Int32} {s1 : Int32}  (hl : lv_has ls 4 [(0, .ref (gz G + 107)), (1, .int x1), (3, .int x3)]) (hf : fX12_seenOn_35 n  k4 x1 x3 s0 s1 m = some r) : WX V G N f m 0 0 (QQ V G (some (.int r)) N f m 0 0) 35 ls [.int s0, .int s1] := by
  unfold fX12_seenOn_35 at hf
  refine x_iadd B dX12_seenOn_35 ?_
  refine x_istore_n (lv' := [(2, .int (s1 + s0)), (0, .ref (gz G + 107)), (1, .int x1), (3, .int x3)]) B dX12_seenOn_36 rfl hl (by decide) rfl (fun ls hl => ?_)
  refine x_iinc (k := 3) (v := (nI 1)) (lv' := [(3, .int (x3 + (nI 1))), (2, .int (s1 + s0)), (0, .ref (gz G + 107)), (1, .int x1)]) B dX12_seenOn_37 hl rfl (by decide) (by decide) rfl (fun ls hl => ?_)
  refine x_goto (tgt := 4) B dX12_seenOn_40 (by decide) ?_
  exact hk4 _ _ _ _ _ (lv_sub hl [2, 3, 1, 0] rfl) hf
def fX12_seenOn_4 (n : Nat)   (k4 : Int32 → Int32 → Int32 → Mm → Option (Int32)) (x1 : Int32) (x2 : Int32) (x3 : Int32) (m : Mm) : Option (Int32) :=
  if (m 108 (nI 6).toNatClampNeg) ≤ x3 then (
  some x2) else (
  bn (fX12_isWatched n x3 x1 m) fun r3 =>
  if r3 = 0 then (
  fX12_seenOn_35 n k4 x1 x3 (nI 0) x2 m) else (
  bn (fX12_coil3 n x3 (nI 0) m) fun r6 =>
  fX12_seenOn_35 n k4 x1 x3 r6 x2 m))
def fX12_seenOn_4L (n : Nat)   : Nat → Int32 → Int32 → Int32 → Mm → Option (Int32)
  | 0 => fun _ _ _ _ => none
  | q + 1 => fX12_seenOn_4 n   (fX12_seenOn_4L n   q)
set_option maxHeartbeats 4000000 in
set_option maxRecDepth 100000 in
theorem fX12_seenOn_4_ok {V : VE} {G : GE} {N : Nat} {f m : Mm} {n : Nat} {ls : Array Slot} {r : Int32} (B : CX V G cX12_seenOn 4 "FluxWatchModel" (some .int)) (hR : V.2.2.2.1 = rmX12_seenOn)   {k4 : Int32 → Int32 → Int32 → Mm → Option (Int32)} (hk4 : ∀ (x1 : Int32) (x2 : Int32) (x3 : Int32) (mm : Mm) (ls : Array Slot),  lv_has ls 4 [(0, .ref (gz G + 107)), (1, .int x1), (2, .int x2), (3, .int x3)] → k4 x1 x2 x3 mm = some r → WX V G N f mm 0 0 (QQ V G (some (.int r)) N f mm 0 0) 4 ls []) {x1 : Int32} {x2 : Int32} {x3 : Int32}  (hl : lv_has ls 4 [(0, .ref (gz G + 107)), (1, .int x1), (2, .int x2), (3, .int x3)]) (hf : fX12_seenOn_4 n  k4 x1 x2 x3 m = some r) : WX V G N f m 0 0 (QQ V G (some (.int r)) N f m 0 0) 4 ls [] := by
  unfold fX12_seenOn_4 at hf
  refine x_iload_n B dX12_seenOn_4 rfl (lv_at hl 3 rfl) ?_
  refine x_aload_n B dX12_seenOn_5 rfl (lv_at hl 0 rfl) ?_
  refine y_getMr (C := RX12) (T := TX12) (NN := 34) (d := 0) (k2 := 108) B aM_107 inX12 rfl (j := 0) (by decide) q_1112 rfl rfl rfl dX12_seenOn_6 ?_
  refine x_bipush (v := (nI 6)) B dX12_seenOn_9 (by decide) ?_
  refine x_ialdM B aM_108 (by decide) dX12_seenOn_11 ?_
  refine x_icmp_ge (tgt := 43) B dX12_seenOn_12 (by decide) (fun h1 => ?_) (fun h1 => ?_)
  · have hf := ip h1 hf
    refine x_iload_n B dX12_seenOn_43 rfl (lv_at hl 2 rfl) ?_
    obtain rfl := rt1 hf
    exact x_iret B dX12_seenOn_44
  · have hf := iq h1 hf
    refine x_iload_n B dX12_seenOn_15 rfl (lv_at hl 2 rfl) ?_
    refine x_aload_n B dX12_seenOn_16 rfl (lv_at hl 0 rfl) ?_
    refine x_iload_n B dX12_seenOn_17 rfl (lv_at hl 3 rfl) ?_
    refine x_iload_n B dX12_seenOn_18 rfl (lv_at hl 1 rfl) ?_
    obtain ⟨r3, c2, hf⟩ := bn_some hf
    refine x_callV0 (rest := [.int x2]) B (kX12_isWatched c2) ⟨rfl, rfl⟩ aM_107.lt aM_107.2 rfl (by decide) q_1238 q_1240 q_9 (by rw [hR]; exact cw_X12_seenOn_X12_isWatched) rfl rfl hl.1 (Nat.le_of_ble_eq_true rfl) dX12_seenOn_19 ⟨Nat.zero_le _, Nat.zero_le _⟩ ?_
    refine x_if_eq (tgt := 34) B dX12_seenOn_22 (by decide) (fun h4 => ?_) (fun h4 => ?_)
    · have hf := ip h4 hf
      refine x_iconst (v := (nI 0)) B dX12_seenOn_34 (by decide) ?_
      exact fX12_seenOn_35_ok B hR hk4 (lv_sub hl [0, 1, 3] rfl) hf
    · have hf := iq h4 hf
      refine x_aload_n B dX12_seenOn_25 rfl (lv_at hl 0 rfl) ?_
      refine x_iload_n B dX12_seenOn_26 rfl (lv_at hl 3 rfl) ?_
      refine x_iconst (v := (nI 0)) B dX12_seenOn_27 (by decide) ?_
      obtain ⟨r6, c5, hf⟩ := bn_some hf
      refine x_callV0 (rest := [.int x2]) B (kX12_coil3 c5) ⟨rfl, rfl⟩ aM_107.lt aM_107.2 rfl (by decide) q_1233 q_1235 q_8 (by rw [hR]; exact cw_X12_seenOn_X12_coil3) rfl rfl hl.1 (Nat.le_of_ble_eq_true rfl) dX12_seenOn_28 ⟨Nat.zero_le _, Nat.zero_le _⟩ ?_
      refine x_goto (tgt := 35) B dX12_seenOn_31 (by decide) ?_
      exact fX12_seenOn_35_ok B hR hk4 (lv_sub hl [0, 1, 3] rfl) hf
set_option maxHeartbeats 4000000 in
set_option maxRecDepth 100000 in
theorem fX12_seenOn_4L_ok {V : VE} {G : GE} {N : Nat} {f : Mm} {n : Nat}  {r : Int32} (B : CX V G cX12_seenOn 4 "FluxWatchModel" (some .int)) (hR : V.2.2.2.1 = rmX12_seenOn)   : ∀ (q : Nat) (x1 : Int32) (x2 : Int32) (x3 : Int32) (mm : Mm) (ls : Array Slot),  lv_has ls 4 [(0, .ref (gz G + 107)), (1, .int x1), (2, .int x2), (3, .int x3)] → fX12_seenOn_4L n  q x1 x2 x3 mm = some r → WX V G N f mm 0 0 (QQ V G (some (.int r)) N f mm 0 0) 4 ls [] := by
  intro q
  induction q with
  | zero =>
    intro x1 x2 x3 mm ls hl hf
    cases hf
  | succ q ih =>
    intro x1 x2 x3 mm ls hl hf
    exact fX12_seenOn_4_ok B hR   ih  hl hf
def fX12_seenOn (n : Nat) (a1 : Int32) (m : Mm) : Option (Int32) :=
  fX12_seenOn_4L n n a1 (nI 0) (nI 0) m
set_option maxHeartbeats 4000000 in
set_option maxRecDepth 100000 in
theorem kX12_seenOn {l : Launch} {G : GE} {N : Nat} {f m : Mm} {n : Nat} {a1 : Int32} {r : Int32}  (hf : fX12_seenOn n a1 m = some r) : MT l G yX12_seenOn cX12_seenOn 4 (some .int) rmX12_seenOn [.ref (gz G + 107), .int a1] N f m (some (.int r)) N f m := by
  unfold fX12_seenOn at hf
  refine MT.of (by decide) (Nat.le_of_ble_eq_true rfl) (fun V ls hV hR B hl => ?_)
  have B : CX V G cX12_seenOn 4 "FluxWatchModel" (some .int) := B
  have hl : lv_has ls 4 [(0, .ref (gz G + 107)), (1, .int a1)] := hl
  show WX V G N f m 0 0 (QQ V G (some (.int r)) N f m 0 0) 0 ls []
  refine x_iconst (v := (nI 0)) B dX12_seenOn_0 (by decide) ?_
  refine x_istore_n (lv' := [(2, .int (nI 0)), (0, .ref (gz G + 107)), (1, .int a1)]) B dX12_seenOn_1 rfl hl (by decide) rfl (fun ls hl => ?_)
  refine x_iconst (v := (nI 0)) B dX12_seenOn_2 (by decide) ?_
  refine x_istore_n (lv' := [(3, .int (nI 0)), (2, .int (nI 0)), (0, .ref (gz G + 107)), (1, .int a1)]) B dX12_seenOn_3 rfl hl (by decide) rfl (fun ls hl => ?_)
  exact fX12_seenOn_4L_ok B hR  n _ _ _ _ _ (lv_sub hl [2, 3, 1, 0] rfl) hf
def rmX12_watchedMany : Room := { frames := 2, cells := 0, slots := 0, locals := 46 }
set_option maxHeartbeats 4000000 in
set_option maxRecDepth 100000 in
theorem cw_X12_watchedMany_X12_isWatched : cwB rmX12_watchedMany rmX12_isWatched yX12_isWatched cX12_isWatched 5 (some .boolean) 2 := ⟨q_1241, q_57, by decide, by decide⟩
def fX12_watchedMany_30 (n : Nat)  (k4 : Int32 → Int32 → Int32 → Mm → Option (Int32)) (x1 : Int32) (x3 : Int32) (s0 : Int32) (s1 : Int32) (m : Mm) : Option (Int32) :=
  k4 x1 (s1 + s0) (x3 + (nI 1)) m
set_option maxHeartbeats 4000000 in
set_option maxRecDepth 100000 in
theorem fX12_watchedMany_30_ok {V : VE} {G : GE} {N : Nat} {f m : Mm} {n : Nat} {ls : Array Slot} {r : Int32} (B : CX V G cX12_watchedMany 4 "FluxWatchModel" (some .int)) (hR : V.2.2.2.1 = rmX12_watchedMany)  {k4 : Int32 → Int32 → Int32 → Mm → Option (Int32)} (hk4 : ∀ (x1 : Int32) (x2 : Int32) (x3 : Int32) (mm : Mm) (ls : Array Slot),  lv_has ls 4 [(0, .ref (gz G + 107)), (1, .int x1), (2, .int x2), (3, .int x3)] → k4 x1 x2 x3 mm = some r → WX V G N f mm 0 0 (QQ V G (some (.int r)) N f mm 0 0) 4 ls []) {x1 : Int32} {x3 : Int32} {s0 : Int32} {s1 : Int32}  (hl : lv_has ls 4 [(0, .ref (gz G + 107)), (1, .int x1), (3, .int x3)]) (hf : fX12_watchedMany_30 n  k4 x1 x3 s0 s1 m = some r) : WX V G N f m 0 0 (QQ V G (some (.int r)) N f m 0 0) 30 ls [.int s0, .int s1] := by
  unfold fX12_watchedMany_30 at hf
  refine x_iadd B dX12_watchedMany_30 ?_
  refine x_istore_n (lv' := [(2, .int (s1 + s0)), (0, .ref (gz G + 107)), (1, .int x1), (3, .int x3)]) B dX12_watchedMany_31 rfl hl (by decide) rfl (fun ls hl => ?_)
  refine x_iinc (k := 3) (v := (nI 1)) (lv' := [(3, .int (x3 + (nI 1))), (2, .int (s1 + s0)), (0, .ref (gz G + 107)), (1, .int x1)]) B dX12_watchedMany_32 hl rfl (by decide) (by decide) rfl (fun ls hl => ?_)
  refine x_goto (tgt := 4) B dX12_watchedMany_35 (by decide) ?_
  exact hk4 _ _ _ _ _ (lv_sub hl [2, 3, 1, 0] rfl) hf
def fX12_watchedMany_4 (n : Nat)   (k4 : Int32 → Int32 → Int32 → Mm → Option (Int32)) (x1 : Int32) (x2 : Int32) (x3 : Int32) (m : Mm) : Option (Int32) :=
  if (m 108 (nI 6).toNatClampNeg) ≤ x3 then (
  some x2) else (
  bn (fX12_isWatched n x3 x1 m) fun r3 =>
  if r3 = 0 then (
  fX12_watchedMany_30 n k4 x1 x3 (nI 0) x2 m) else (
  fX12_watchedMany_30 n k4 x1 x3 (nI 1) x2 m))
def fX12_watchedMany_4L (n : Nat)   : Nat → Int32 → Int32 → Int32 → Mm → Option (Int32)
  | 0 => fun _ _ _ _ => none
  | q + 1 => fX12_watchedMany_4 n   (fX12_watchedMany_4L n   q)
set_option maxHeartbeats 4000000 in
set_option maxRecDepth 100000 in
theorem fX12_watchedMany_4_ok {V : VE} {G : GE} {N : Nat} {f m : Mm} {n : Nat} {ls : Array Slot} {r : Int32} (B : CX V G cX12_watchedMany 4 "FluxWatchModel" (some .int)) (hR : V.2.2.2.1 = rmX12_watchedMany)   {k4 : Int32 → Int32 → Int32 → Mm → Option (Int32)} (hk4 : ∀ (x1 : Int32) (x2 : Int32) (x3 : Int32) (mm : Mm) (ls : Array Slot),  lv_has ls 4 [(0, .ref (gz G + 107)), (1, .int x1), (2, .int x2), (3, .int x3)] → k4 x1 x2 x3 mm = some r → WX V G N f mm 0 0 (QQ V G (some (.int r)) N f mm 0 0) 4 ls []) {x1 : Int32} {x2 : Int32} {x3 : Int32}  (hl : lv_has ls 4 [(0, .ref (gz G + 107)), (1, .int x1), (2, .int x2), (3, .int x3)]) (hf : fX12_watchedMany_4 n  k4 x1 x2 x3 m = some r) : WX V G N f m 0 0 (QQ V G (some (.int r)) N f m 0 0) 4 ls [] := by
  unfold fX12_watchedMany_4 at hf
  refine x_iload_n B dX12_watchedMany_4 rfl (lv_at hl 3 rfl) ?_
  refine x_aload_n B dX12_watchedMany_5 rfl (lv_at hl 0 rfl) ?_
  refine y_getMr (C := RX12) (T := TX12) (NN := 34) (d := 0) (k2 := 108) B aM_107 inX12 rfl (j := 0) (by decide) q_1112 rfl rfl rfl dX12_watchedMany_6 ?_
  refine x_bipush (v := (nI 6)) B dX12_watchedMany_9 (by decide) ?_
  refine x_ialdM B aM_108 (by decide) dX12_watchedMany_11 ?_
  refine x_icmp_ge (tgt := 38) B dX12_watchedMany_12 (by decide) (fun h1 => ?_) (fun h1 => ?_)
  · have hf := ip h1 hf
    refine x_iload_n B dX12_watchedMany_38 rfl (lv_at hl 2 rfl) ?_
    obtain rfl := rt1 hf
    exact x_iret B dX12_watchedMany_39
  · have hf := iq h1 hf
    refine x_iload_n B dX12_watchedMany_15 rfl (lv_at hl 2 rfl) ?_
    refine x_aload_n B dX12_watchedMany_16 rfl (lv_at hl 0 rfl) ?_
    refine x_iload_n B dX12_watchedMany_17 rfl (lv_at hl 3 rfl) ?_
    refine x_iload_n B dX12_watchedMany_18 rfl (lv_at hl 1 rfl) ?_
    obtain ⟨r3, c2, hf⟩ := bn_some hf
    refine x_callV0 (rest := [.int x2]) B (kX12_isWatched c2) ⟨rfl, rfl⟩ aM_107.lt aM_107.2 rfl (by decide) q_1238 q_1240 q_9 (by rw [hR]; exact cw_X12_watchedMany_X12_isWatched) rfl rfl hl.1 (Nat.le_of_ble_eq_true rfl) dX12_watchedMany_19 ⟨Nat.zero_le _, Nat.zero_le _⟩ ?_
    refine x_if_eq (tgt := 29) B dX12_watchedMany_22 (by decide) (fun h4 => ?_) (fun h4 => ?_)
    · have hf := ip h4 hf
      refine x_iconst (v := (nI 0)) B dX12_watchedMany_29 (by decide) ?_
      exact fX12_watchedMany_30_ok B hR hk4 (lv_sub hl [0, 1, 3] rfl) hf
    · have hf := iq h4 hf
      refine x_iconst (v := (nI 1)) B dX12_watchedMany_25 (by decide) ?_
      refine x_goto (tgt := 30) B dX12_watchedMany_26 (by decide) ?_
      exact fX12_watchedMany_30_ok B hR hk4 (lv_sub hl [0, 1, 3] rfl) hf
set_option maxHeartbeats 4000000 in
set_option maxRecDepth 100000 in
theorem fX12_watchedMany_4L_ok {V : VE} {G : GE} {N : Nat} {f : Mm} {n : Nat}  {r : Int32} (B : CX V G cX12_watchedMany 4 "FluxWatchModel" (some .int)) (hR : V.2.2.2.1 = rmX12_watchedMany)   : ∀ (q : Nat) (x1 : Int32) (x2 : Int32) (x3 : Int32) (mm : Mm) (ls : Array Slot),  lv_has ls 4 [(0, .ref (gz G + 107)), (1, .int x1), (2, .int x2), (3, .int x3)] → fX12_watchedMany_4L n  q x1 x2 x3 mm = some r → WX V G N f mm 0 0 (QQ V G (some (.int r)) N f mm 0 0) 4 ls [] := by
  intro q
  induction q with
  | zero =>
    intro x1 x2 x3 mm ls hl hf
    cases hf
  | succ q ih =>
    intro x1 x2 x3 mm ls hl hf
    exact fX12_watchedMany_4_ok B hR   ih  hl hf
def fX12_watchedMany (n : Nat) (a1 : Int32) (m : Mm) : Option (Int32) :=
  fX12_watchedMany_4L n n a1 (nI 0) (nI 0) m
set_option maxHeartbeats 4000000 in
set_option maxRecDepth 100000 in
theorem kX12_watchedMany {l : Launch} {G : GE} {N : Nat} {f m : Mm} {n : Nat} {a1 : Int32} {r : Int32}  (hf : fX12_watchedMany n a1 m = some r) : MT l G yX12_watchedMany cX12_watchedMany 4 (some .int) rmX12_watchedMany [.ref (gz G + 107), .int a1] N f m (some (.int r)) N f m := by
  unfold fX12_watchedMany at hf
  refine MT.of (by decide) (Nat.le_of_ble_eq_true rfl) (fun V ls hV hR B hl => ?_)
  have B : CX V G cX12_watchedMany 4 "FluxWatchModel" (some .int) := B
  have hl : lv_has ls 4 [(0, .ref (gz G + 107)), (1, .int a1)] := hl
  show WX V G N f m 0 0 (QQ V G (some (.int r)) N f m 0 0) 0 ls []
  refine x_iconst (v := (nI 0)) B dX12_watchedMany_0 (by decide) ?_
  refine x_istore_n (lv' := [(2, .int (nI 0)), (0, .ref (gz G + 107)), (1, .int a1)]) B dX12_watchedMany_1 rfl hl (by decide) rfl (fun ls hl => ?_)
  refine x_iconst (v := (nI 0)) B dX12_watchedMany_2 (by decide) ?_
  refine x_istore_n (lv' := [(3, .int (nI 0)), (2, .int (nI 0)), (0, .ref (gz G + 107)), (1, .int a1)]) B dX12_watchedMany_3 rfl hl (by decide) rfl (fun ls hl => ?_)
  exact fX12_watchedMany_4L_ok B hR  n _ _ _ _ _ (lv_sub hl [2, 3, 1, 0] rfl) hf
def rmX12_watchedOne : Room := { frames := 2, cells := 0, slots := 0, locals := 46 }
set_option maxHeartbeats 4000000 in
set_option maxRecDepth 100000 in
theorem cw_X12_watchedOne_X12_isWatched : cwB rmX12_watchedOne rmX12_isWatched yX12_isWatched cX12_isWatched 5 (some .boolean) 2 := ⟨q_1241, q_57, by decide, by decide⟩
def fX12_watchedOne_35 (n : Nat)  (k5 : Int32 → Int32 → Int32 → Mm → Option (Int32)) (x1 : Int32) (x4 : Int32) (s0 : Int32) (s1 : Int32) (m : Mm) : Option (Int32) :=
  k5 x1 (s1 - s0) (x4 + (nI 1)) m
set_option maxHeartbeats 4000000 in
set_option maxRecDepth 100000 in
theorem fX12_watchedOne_35_ok {V : VE} {G : GE} {N : Nat} {f m : Mm} {n : Nat} {ls : Array Slot} {r : Int32} (B : CX V G cX12_watchedOne 5 "FluxWatchModel" (some .int)) (hR : V.2.2.2.1 = rmX12_watchedOne)  {k5 : Int32 → Int32 → Int32 → Mm → Option (Int32)} (hk5 : ∀ (x1 : Int32) (x3 : Int32) (x4 : Int32) (mm : Mm) (ls : Array Slot),  lv_has ls 5 [(0, .ref (gz G + 107)), (1, .int x1), (3, .int x3), (4, .int x4)] → k5 x1 x3 x4 mm = some r → WX V G N f mm 0 0 (QQ V G (some (.int r)) N f mm 0 0) 5 ls []) {x1 : Int32} {x4 : Int32} {s0 : Int32} {s1 : Int32}  (hl : lv_has ls 5 [(0, .ref (gz G + 107)), (1, .int x1), (4, .int x4)]) (hf : fX12_watchedOne_35 n  k5 x1 x4 s0 s1 m = some r) : WX V G N f m 0 0 (QQ V G (some (.int r)) N f m 0 0) 35 ls [.int s0, .int s1] := by
  unfold fX12_watchedOne_35 at hf
  refine x_isub B dX12_watchedOne_35 ?_
  refine x_istore_n (lv' := [(3, .int (s1 - s0)), (0, .ref (gz G + 107)), (1, .int x1), (4, .int x4)]) B dX12_watchedOne_36 rfl hl (by decide) rfl (fun ls hl => ?_)
  refine x_iinc (k := 3) (v := (nI 1)) (lv' := [(4, .int (x4 + (nI 1))), (3, .int (s1 - s0)), (0, .ref (gz G + 107)), (1, .int x1)]) B dX12_watchedOne_37 hl rfl (by decide) (by decide) rfl (fun ls hl => ?_)
  refine x_goto (tgt := 5) B dX12_watchedOne_40 (by decide) ?_
  exact hk5 _ _ _ _ _ (lv_sub hl [2, 3, 1, 0] rfl) hf
def fX12_watchedOne_19 (n : Nat)  (k5 : Int32 → Int32 → Int32 → Mm → Option (Int32)) (x1 : Int32) (x3 : Int32) (x4 : Int32) (m : Mm) : Option (Int32) :=
  bn (fX12_isWatched n x4 x1 m) fun r5 =>
  if r5 = 0 then (
  fX12_watchedOne_35 n k5 x1 x4 (nI 0) x3 m) else (
  fX12_watchedOne_35 n k5 x1 x4 (nI 1) x3 m)
set_option maxHeartbeats 4000000 in
set_option maxRecDepth 100000 in
theorem fX12_watchedOne_19_ok {V : VE} {G : GE} {N : Nat} {f m : Mm} {n : Nat} {ls : Array Slot} {r : Int32} (B : CX V G cX12_watchedOne 5 "FluxWatchModel" (some .int)) (hR : V.2.2.2.1 = rmX12_watchedOne)  {k5 : Int32 → Int32 → Int32 → Mm → Option (Int32)} (hk5 : ∀ (x1 : Int32) (x3 : Int32) (x4 : Int32) (mm : Mm) (ls : Array Slot),  lv_has ls 5 [(0, .ref (gz G + 107)), (1, .int x1), (3, .int x3), (4, .int x4)] → k5 x1 x3 x4 mm = some r → WX V G N f mm 0 0 (QQ V G (some (.int r)) N f mm 0 0) 5 ls []) {x1 : Int32} {x3 : Int32} {x4 : Int32}  (hl : lv_has ls 5 [(0, .ref (gz G + 107)), (1, .int x1), (3, .int x3), (4, .int x4)]) (hf : fX12_watchedOne_19 n  k5 x1 x3 x4 m = some r) : WX V G N f m 0 0 (QQ V G (some (.int r)) N f m 0 0) 19 ls [] := by
  unfold fX12_watchedOne_19 at hf
  refine x_iload_n B dX12_watchedOne_19 rfl (lv_at hl 2 rfl) ?_
  refine x_aload_n B dX12_watchedOne_20 rfl (lv_at hl 0 rfl) ?_
  refine x_iload B dX12_watchedOne_21 (lv_at hl 3 rfl) ?_
  refine x_iload_n B dX12_watchedOne_23 rfl (lv_at hl 1 rfl) ?_
  obtain ⟨r5, c4, hf⟩ := bn_some hf
  refine x_callV0 (rest := [.int x3]) B (kX12_isWatched c4) ⟨rfl, rfl⟩ aM_107.lt aM_107.2 rfl (by decide) q_1238 q_1240 q_9 (by rw [hR]; exact cw_X12_watchedOne_X12_isWatched) rfl rfl hl.1 (Nat.le_of_ble_eq_true rfl) dX12_watchedOne_24 ⟨Nat.zero_le _, Nat.zero_le _⟩ ?_
  refine x_if_eq (tgt := 34) B dX12_watchedOne_27 (by decide) (fun h6 => ?_) (fun h6 => ?_)
  · have hf := ip h6 hf
    refine x_iconst (v := (nI 0)) B dX12_watchedOne_34 (by decide) ?_
    exact fX12_watchedOne_35_ok B hR hk5 (lv_sub hl [0, 1, 3] rfl) hf
  · have hf := iq h6 hf
    refine x_iconst (v := (nI 1)) B dX12_watchedOne_30 (by decide) ?_
    refine x_goto (tgt := 35) B dX12_watchedOne_31 (by decide) ?_
    exact fX12_watchedOne_35_ok B hR hk5 (lv_sub hl [0, 1, 3] rfl) hf
def fX12_watchedOne_5 (n : Nat)   (k5 : Int32 → Int32 → Int32 → Mm → Option (Int32)) (x1 : Int32) (x3 : Int32) (x4 : Int32) (m : Mm) : Option (Int32) :=
  bn (fX12_isWatched n x4 x1 m) fun r2 =>
  if r2 = 0 then (
  fX12_watchedOne_19 n k5 x1 x3 x4 m) else (
  if x3 ≤ 0 then (
  some x4) else (
  fX12_watchedOne_19 n k5 x1 x3 x4 m))
def fX12_watchedOne_5L (n : Nat)   : Nat → Int32 → Int32 → Int32 → Mm → Option (Int32)
  | 0 => fun _ _ _ _ => none
  | q + 1 => fX12_watchedOne_5 n   (fX12_watchedOne_5L n   q)
set_option maxHeartbeats 4000000 in
set_option maxRecDepth 100000 in
theorem fX12_watchedOne_5_ok {V : VE} {G : GE} {N : Nat} {f m : Mm} {n : Nat} {ls : Array Slot} {r : Int32} (B : CX V G cX12_watchedOne 5 "FluxWatchModel" (some .int)) (hR : V.2.2.2.1 = rmX12_watchedOne)   {k5 : Int32 → Int32 → Int32 → Mm → Option (Int32)} (hk5 : ∀ (x1 : Int32) (x3 : Int32) (x4 : Int32) (mm : Mm) (ls : Array Slot),  lv_has ls 5 [(0, .ref (gz G + 107)), (1, .int x1), (3, .int x3), (4, .int x4)] → k5 x1 x3 x4 mm = some r → WX V G N f mm 0 0 (QQ V G (some (.int r)) N f mm 0 0) 5 ls []) {x1 : Int32} {x3 : Int32} {x4 : Int32}  (hl : lv_has ls 5 [(0, .ref (gz G + 107)), (1, .int x1), (3, .int x3), (4, .int x4)]) (hf : fX12_watchedOne_5 n  k5 x1 x3 x4 m = some r) : WX V G N f m 0 0 (QQ V G (some (.int r)) N f m 0 0) 5 ls [] := by
  unfold fX12_watchedOne_5 at hf
  refine x_aload_n B dX12_watchedOne_5 rfl (lv_at hl 0 rfl) ?_
  refine x_iload B dX12_watchedOne_6 (lv_at hl 3 rfl) ?_
  refine x_iload_n B dX12_watchedOne_8 rfl (lv_at hl 1 rfl) ?_
  obtain ⟨r2, c1, hf⟩ := bn_some hf
  refine x_callV0 (rest := []) B (kX12_isWatched c1) ⟨rfl, rfl⟩ aM_107.lt aM_107.2 rfl (by decide) q_1238 q_1240 q_9 (by rw [hR]; exact cw_X12_watchedOne_X12_isWatched) rfl rfl hl.1 (Nat.le_of_ble_eq_true rfl) dX12_watchedOne_9 ⟨Nat.zero_le _, Nat.zero_le _⟩ ?_
  refine x_if_eq (tgt := 19) B dX12_watchedOne_12 (by decide) (fun h3 => ?_) (fun h3 => ?_)
  · have hf := ip h3 hf
    exact fX12_watchedOne_19_ok B hR hk5 hl hf
  · have hf := iq h3 hf
    refine x_iload_n B dX12_watchedOne_15 rfl (lv_at hl 2 rfl) ?_
    refine x_if_le (tgt := 43) B dX12_watchedOne_16 (by decide) (fun h7 => ?_) (fun h7 => ?_)
    · have hf := ip h7 hf
      refine x_iload B dX12_watchedOne_43 (lv_at hl 3 rfl) ?_
      obtain rfl := rt1 hf
      exact x_iret B dX12_watchedOne_45
    · have hf := iq h7 hf
      exact fX12_watchedOne_19_ok B hR hk5 hl hf
set_option maxHeartbeats 4000000 in
set_option maxRecDepth 100000 in
theorem fX12_watchedOne_5L_ok {V : VE} {G : GE} {N : Nat} {f : Mm} {n : Nat}  {r : Int32} (B : CX V G cX12_watchedOne 5 "FluxWatchModel" (some .int)) (hR : V.2.2.2.1 = rmX12_watchedOne)   : ∀ (q : Nat) (x1 : Int32) (x3 : Int32) (x4 : Int32) (mm : Mm) (ls : Array Slot),  lv_has ls 5 [(0, .ref (gz G + 107)), (1, .int x1), (3, .int x3), (4, .int x4)] → fX12_watchedOne_5L n  q x1 x3 x4 mm = some r → WX V G N f mm 0 0 (QQ V G (some (.int r)) N f mm 0 0) 5 ls [] := by
  intro q
  induction q with
  | zero =>
    intro x1 x3 x4 mm ls hl hf
    cases hf
  | succ q ih =>
    intro x1 x3 x4 mm ls hl hf
    exact fX12_watchedOne_5_ok B hR   ih  hl hf
def fX12_watchedOne (n : Nat) (a1 : Int32) (a2 : Int32) (m : Mm) : Option (Int32) :=
  fX12_watchedOne_5L n n a1 a2 (nI 0) m
set_option maxHeartbeats 4000000 in
set_option maxRecDepth 100000 in
theorem kX12_watchedOne {l : Launch} {G : GE} {N : Nat} {f m : Mm} {n : Nat} {a1 : Int32} {a2 : Int32} {r : Int32}  (hf : fX12_watchedOne n a1 a2 m = some r) : MT l G yX12_watchedOne cX12_watchedOne 5 (some .int) rmX12_watchedOne [.ref (gz G + 107), .int a1, .int a2] N f m (some (.int r)) N f m := by
  unfold fX12_watchedOne at hf
  refine MT.of (by decide) (Nat.le_of_ble_eq_true rfl) (fun V ls hV hR B hl => ?_)
  have B : CX V G cX12_watchedOne 5 "FluxWatchModel" (some .int) := B
  have hl : lv_has ls 5 [(0, .ref (gz G + 107)), (1, .int a1), (2, .int a2)] := hl
  show WX V G N f m 0 0 (QQ V G (some (.int r)) N f m 0 0) 0 ls []
  refine x_iload_n B dX12_watchedOne_0 rfl (lv_at hl 2 rfl) ?_
  refine x_istore_n (lv' := [(3, .int a2), (0, .ref (gz G + 107)), (1, .int a1), (2, .int a2)]) B dX12_watchedOne_1 rfl hl (by decide) rfl (fun ls hl => ?_)
  refine x_iconst (v := (nI 0)) B dX12_watchedOne_2 (by decide) ?_
  refine x_istore (lv' := [(4, .int (nI 0)), (3, .int a2), (0, .ref (gz G + 107)), (1, .int a1), (2, .int a2)]) B dX12_watchedOne_3 hl (by decide) rfl (fun ls hl => ?_)
  exact fX12_watchedOne_5L_ok B hR  n _ _ _ _ _ (lv_sub hl [2, 3, 1, 0] rfl) hf
def rmX12_aDay : Room := { frames := 4, cells := 0, slots := 0, locals := 92 }
set_option maxHeartbeats 4000000 in
set_option maxRecDepth 100000 in
theorem cw_X12_aDay_X12_believed : cwB rmX12_aDay rmX12_believed yX12_believed cX12_believed 8 (some .int) 4 := ⟨q_1393, q_57, by decide, by decide⟩
set_option maxHeartbeats 4000000 in
set_option maxRecDepth 100000 in
theorem cw_X12_aDay_X12_comes : cwB rmX12_aDay rmX12_comes yX12_comes cX12_comes 6 none 4 := ⟨q_1292, q_57, by decide, by decide⟩
set_option maxHeartbeats 4000000 in
set_option maxRecDepth 100000 in
theorem cw_X12_aDay_X12_draw : cwB rmX12_aDay rmX12_draw yX12_draw cX12_draw 1 (some .int) 0 := ⟨q_1381, q_57, by decide, by decide⟩
set_option maxHeartbeats 4000000 in
set_option maxRecDepth 100000 in
theorem cw_X12_aDay_X12_fitsOn : cwB rmX12_aDay rmX12_fitsOn yX12_fitsOn cX12_fitsOn 3 (some .boolean) 1 := ⟨q_1390, q_57, by decide, by decide⟩
set_option maxHeartbeats 4000000 in
set_option maxRecDepth 100000 in
theorem cw_X12_aDay_X12_knockBy : cwB rmX12_aDay rmX12_knockBy yX12_knockBy cX12_knockBy 4 (some .int) 2 := ⟨q_1373, q_57, by decide, by decide⟩
set_option maxHeartbeats 4000000 in
set_option maxRecDepth 100000 in
theorem cw_X12_aDay_X12_rateBy : cwB rmX12_aDay rmX12_rateBy yX12_rateBy cX12_rateBy 4 (some .int) 2 := ⟨q_1355, q_57, by decide, by decide⟩
set_option maxHeartbeats 4000000 in
set_option maxRecDepth 100000 in
theorem cw_X12_aDay_X12_seenOn : cwB rmX12_aDay rmX12_seenOn yX12_seenOn cX12_seenOn 4 (some .int) 1 := ⟨q_1276, q_57, by decide, by decide⟩
set_option maxHeartbeats 4000000 in
set_option maxRecDepth 100000 in
theorem cw_X12_aDay_X12_watchedMany : cwB rmX12_aDay rmX12_watchedMany yX12_watchedMany cX12_watchedMany 4 (some .int) 1 := ⟨q_1377, q_57, by decide, by decide⟩
set_option maxHeartbeats 4000000 in
set_option maxRecDepth 100000 in
theorem cw_X12_aDay_X12_watchedOne : cwB rmX12_aDay rmX12_watchedOne yX12_watchedOne cX12_watchedOne 5 (some .int) 2 := ⟨q_1386, q_57, by decide, by decide⟩
def fX12_aDay_191 (n : Nat)   (x1 : Int32) (x3 : Int32) (x4 : Int32) (m : Mm) : Option (Mm) :=
  bn (fX12_fitsOn n x1 m) fun r23 =>
  bn (fX12_believed n (m 108 (nI 4).toNatClampNeg) x3 x4 r23) fun r25 =>
  lt (up m 108 (nI 4).toNatClampNeg r25) fun f26 =>
  lt (up f26 108 (nI 1).toNatClampNeg ((f26 108 (nI 1).toNatClampNeg) + (nI 1))) fun f28 =>
  some f28
set_option maxHeartbeats 4000000 in
set_option maxRecDepth 100000 in
theorem fX12_aDay_191_ok {V : VE} {G : GE} {N : Nat} {f m : Mm} {n : Nat} {ls : Array Slot} {g : Mm} (B : CX V G cX12_aDay 8 "FluxWatchModel" none) (hR : V.2.2.2.1 = rmX12_aDay)   {x1 : Int32} {x3 : Int32} {x4 : Int32}  (hl : lv_has ls 8 [(0, .ref (gz G + 107)), (1, .int x1), (3, .int x3), (4, .int x4)]) (hf : fX12_aDay_191 n  x1 x3 x4 m = some g) : WX V G N f m 0 0 (QQ V G none N f g 0 0) 191 ls [] := by
  unfold fX12_aDay_191 at hf
  refine x_aload_n B dX12_aDay_191 rfl (lv_at hl 0 rfl) ?_
  refine y_getMr (C := RX12) (T := TX12) (NN := 34) (d := 0) (k2 := 108) B aM_107 inX12 rfl (j := 0) (by decide) q_1112 rfl rfl rfl dX12_aDay_192 ?_
  refine x_iconst (v := (nI 4)) B dX12_aDay_195 (by decide) ?_
  refine x_aload_n B dX12_aDay_196 rfl (lv_at hl 0 rfl) ?_
  refine y_getMr (C := RX12) (T := TX12) (NN := 34) (d := 0) (k2 := 108) B aM_107 inX12 rfl (j := 0) (by decide) q_1112 rfl rfl rfl dX12_aDay_197 ?_
  refine x_iconst (v := (nI 4)) B dX12_aDay_200 (by decide) ?_
  refine x_ialdM B aM_108 (by decide) dX12_aDay_201 ?_
  refine x_iload_n B dX12_aDay_202 rfl (lv_at hl 2 rfl) ?_
  refine x_iload B dX12_aDay_203 (lv_at hl 3 rfl) ?_
  refine x_aload_n B dX12_aDay_205 rfl (lv_at hl 0 rfl) ?_
  refine x_iload_n B dX12_aDay_206 rfl (lv_at hl 1 rfl) ?_
  obtain ⟨r23, c22, hf⟩ := bn_some hf
  refine x_callV0 (rest := [.int x4, .int x3, .int (m 108 (nI 4).toNatClampNeg), .int (nI 4), .ref (gz G + 108)]) B (kX12_fitsOn c22) ⟨rfl, rfl⟩ aM_107.lt aM_107.2 rfl (by decide) q_1387 q_1389 q_27 (by rw [hR]; exact cw_X12_aDay_X12_fitsOn) rfl rfl hl.1 (Nat.le_of_ble_eq_true rfl) dX12_aDay_207 ⟨Nat.zero_le _, Nat.zero_le _⟩ ?_
  obtain ⟨r25, c24, hf⟩ := bn_some hf
  refine x_callS0 (rest := [.int (nI 4), .ref (gz G + 108)]) B (kX12_believed c24) ⟨rfl, rfl⟩ q_1391 q_1392 (by rw [hR]; exact cw_X12_aDay_X12_believed) rfl rfl hl.1 (Nat.le_of_ble_eq_true rfl) dX12_aDay_210 ⟨Nat.zero_le _, Nat.zero_le _⟩ ?_
  refine x_iastM B aM_108 (by decide) dX12_aDay_213 (fun f26 e27 => ?_)
  have hf := lt_some hf e27
  refine x_aload_n B dX12_aDay_214 rfl (lv_at hl 0 rfl) ?_
  refine y_getMr (C := RX12) (T := TX12) (NN := 34) (d := 0) (k2 := 108) B aM_107 inX12 rfl (j := 0) (by decide) q_1112 rfl rfl rfl dX12_aDay_215 ?_
  refine x_iconst (v := (nI 1)) B dX12_aDay_218 (by decide) ?_
  refine x_dup2 B dX12_aDay_219 rfl rfl ?_
  refine x_ialdM B aM_108 (by decide) dX12_aDay_220 ?_
  refine x_iconst (v := (nI 1)) B dX12_aDay_221 (by decide) ?_
  refine x_iadd B dX12_aDay_222 ?_
  refine x_iastM B aM_108 (by decide) dX12_aDay_223 (fun f28 e29 => ?_)
  have hf := lt_some hf e29
  obtain rfl := rt1 hf
  exact x_vret B dX12_aDay_224
def fX12_aDay_179 (n : Nat)   (x1 : Int32) (x3 : Int32) (x4 : Int32) (x6 : Int32) (s0 : Int32) (m : Mm) : Option (Mm) :=
  bn (fX12_comes n (nI 2) x6 x1 s0 m) fun f43 =>
  fX12_aDay_191 n x1 x3 x4 f43
set_option maxHeartbeats 4000000 in
set_option maxRecDepth 100000 in
theorem fX12_aDay_179_ok {V : VE} {G : GE} {N : Nat} {f m : Mm} {n : Nat} {ls : Array Slot} {g : Mm} (B : CX V G cX12_aDay 8 "FluxWatchModel" none) (hR : V.2.2.2.1 = rmX12_aDay)   {x1 : Int32} {x3 : Int32} {x4 : Int32} {x6 : Int32} {s0 : Int32}  (hl : lv_has ls 8 [(0, .ref (gz G + 107)), (1, .int x1), (3, .int x3), (4, .int x4), (6, .int x6)]) (hf : fX12_aDay_179 n  x1 x3 x4 x6 s0 m = some g) : WX V G N f m 0 0 (QQ V G none N f g 0 0) 179 ls [.int s0] := by
  unfold fX12_aDay_179 at hf
  refine x_istore (lv' := [(7, .int s0), (0, .ref (gz G + 107)), (1, .int x1), (3, .int x3), (4, .int x4), (6, .int x6)]) B dX12_aDay_179 hl (by decide) rfl (fun ls hl => ?_)
  refine x_aload_n B dX12_aDay_181 rfl (lv_at hl 1 rfl) ?_
  refine x_iconst (v := (nI 2)) B dX12_aDay_182 (by decide) ?_
  refine x_iload B dX12_aDay_183 (lv_at hl 5 rfl) ?_
  refine x_iload_n B dX12_aDay_185 rfl (lv_at hl 2 rfl) ?_
  refine x_iload B dX12_aDay_186 (lv_at hl 0 rfl) ?_
  obtain ⟨f43, c42, hf⟩ := bn_some hf
  refine x_callV0 (rest := []) B (kX12_comes c42) ⟨rfl, rfl⟩ aM_107.lt aM_107.2 rfl (by decide) q_1289 q_1291 q_13 (by rw [hR]; exact cw_X12_aDay_X12_comes) rfl rfl hl.1 (Nat.le_of_ble_eq_true rfl) dX12_aDay_188 ⟨Nat.zero_le _, Nat.zero_le _⟩ ?_
  exact fX12_aDay_191_ok B hR  (lv_sub hl [1, 2, 3, 4] rfl) hf
def fX12_aDay_92 (n : Nat)   (x1 : Int32) (x3 : Int32) (x4 : Int32) (x5 : Int32) (m : Mm) : Option (Mm) :=
  bn2 (fX12_draw n m) fun r20 f19 =>
  if x4 ≤ (irm r20 (nI 1000)) then (
  fX12_aDay_191 n x1 x3 x4 f19) else (
  if x5 ≤ 0 then (
  fX12_aDay_191 n x1 x3 x4 f19) else (
  if (nI 40) ≤ (f19 108 (nI 8).toNatClampNeg) then (
  fX12_aDay_191 n x1 x3 x4 f19) else (
  bn2 (fX12_draw n f19) fun r34 f33 =>
  gd (nz x5) <|
  bn (fX12_watchedOne n x1 (irm r34 x5) f33) fun r37 =>
  if (f33 108 (nI 10).toNatClampNeg) = 0 then (
  bn2 (fX12_draw n f33) fun r41 f40 =>
  fX12_aDay_179 n x1 x3 x4 r37 ((nI 1) + (irm r41 (nI 99))) f40) else (
  bn2 (fX12_draw n f33) fun r46 f45 =>
  gd (nz (f45 108 (nI 10).toNatClampNeg)) <|
  gd (ib ((nI 251) + (irm r46 (f45 108 (nI 10).toNatClampNeg))) 1719) <|
  fX12_aDay_179 n x1 x3 x4 r37 (f45 108 ((nI 251) + (irm r46 (f45 108 (nI 10).toNatClampNeg))).toNatClampNeg) f45))))
set_option maxHeartbeats 4000000 in
set_option maxRecDepth 100000 in
theorem fX12_aDay_92_ok {V : VE} {G : GE} {N : Nat} {f m : Mm} {n : Nat} {ls : Array Slot} {g : Mm} (B : CX V G cX12_aDay 8 "FluxWatchModel" none) (hR : V.2.2.2.1 = rmX12_aDay)   {x1 : Int32} {x3 : Int32} {x4 : Int32} {x5 : Int32}  (hl : lv_has ls 8 [(0, .ref (gz G + 107)), (1, .int x1), (3, .int x3), (4, .int x4), (5, .int x5)]) (hf : fX12_aDay_92 n  x1 x3 x4 x5 m = some g) : WX V G N f m 0 0 (QQ V G none N f g 0 0) 92 ls [] := by
  unfold fX12_aDay_92 at hf
  refine x_aload_n B dX12_aDay_92 rfl (lv_at hl 0 rfl) ?_
  obtain ⟨r20, f19, c18, hf⟩ := bn2_some hf
  refine x_callV0 (rest := []) B (kX12_draw c18) ⟨rfl, rfl⟩ aM_107.lt aM_107.2 rfl (by decide) q_1378 q_1380 q_25 (by rw [hR]; exact cw_X12_aDay_X12_draw) rfl rfl hl.1 (Nat.le_of_ble_eq_true rfl) dX12_aDay_93 ⟨Nat.zero_le _, Nat.zero_le _⟩ ?_
  refine x_sipush (v := (nI 1000)) B dX12_aDay_96 (by decide) ?_
  refine y_irem B dX12_aDay_99 (by decide) ?_
  refine x_iload B dX12_aDay_100 (lv_at hl 3 rfl) ?_
  refine x_icmp_ge (tgt := 191) B dX12_aDay_102 (by decide) (fun h21 => ?_) (fun h21 => ?_)
  · have hf := ip h21 hf
    exact fX12_aDay_191_ok B hR  (lv_sub hl [0, 1, 2, 3] rfl) hf
  · have hf := iq h21 hf
    refine x_iload B dX12_aDay_105 (lv_at hl 4 rfl) ?_
    refine x_if_le (tgt := 191) B dX12_aDay_107 (by decide) (fun h30 => ?_) (fun h30 => ?_)
    · have hf := ip h30 hf
      exact fX12_aDay_191_ok B hR  (lv_sub hl [0, 1, 2, 3] rfl) hf
    · have hf := iq h30 hf
      refine x_aload_n B dX12_aDay_110 rfl (lv_at hl 0 rfl) ?_
      refine y_getMr (C := RX12) (T := TX12) (NN := 34) (d := 0) (k2 := 108) B aM_107 inX12 rfl (j := 0) (by decide) q_1112 rfl rfl rfl dX12_aDay_111 ?_
      refine x_bipush (v := (nI 8)) B dX12_aDay_114 (by decide) ?_
      refine x_ialdM B aM_108 (by decide) dX12_aDay_116 ?_
      refine x_bipush (v := (nI 40)) B dX12_aDay_117 (by decide) ?_
      refine x_icmp_ge (tgt := 191) B dX12_aDay_119 (by decide) (fun h31 => ?_) (fun h31 => ?_)
      · have hf := ip h31 hf
        exact fX12_aDay_191_ok B hR  (lv_sub hl [0, 1, 2, 3] rfl) hf
      · have hf := iq h31 hf
        refine x_aload_n B dX12_aDay_122 rfl (lv_at hl 0 rfl) ?_
        refine x_iload_n B dX12_aDay_123 rfl (lv_at hl 1 rfl) ?_
        refine x_aload_n B dX12_aDay_124 rfl (lv_at hl 0 rfl) ?_
        obtain ⟨r34, f33, c32, hf⟩ := bn2_some hf
        refine x_callV0 (rest := [.int x1, .ref (gz G + 107)]) B (kX12_draw c32) ⟨rfl, rfl⟩ aM_107.lt aM_107.2 rfl (by decide) q_1378 q_1380 q_25 (by rw [hR]; exact cw_X12_aDay_X12_draw) rfl rfl hl.1 (Nat.le_of_ble_eq_true rfl) dX12_aDay_125 ⟨Nat.zero_le _, Nat.zero_le _⟩ ?_
        refine x_iload B dX12_aDay_128 (lv_at hl 4 rfl) ?_
        obtain ⟨h35, hf⟩ := gd_some hf
        refine y_irem B dX12_aDay_130 (nz_ne h35) ?_
        obtain ⟨r37, c36, hf⟩ := bn_some hf
        refine x_callV0 (rest := []) B (kX12_watchedOne c36) ⟨rfl, rfl⟩ aM_107.lt aM_107.2 rfl (by decide) q_1383 q_1385 q_26 (by rw [hR]; exact cw_X12_aDay_X12_watchedOne) rfl rfl hl.1 (Nat.le_of_ble_eq_true rfl) dX12_aDay_131 ⟨Nat.zero_le _, Nat.zero_le _⟩ ?_
        refine x_istore (lv' := [(6, .int r37), (0, .ref (gz G + 107)), (1, .int x1), (3, .int x3), (4, .int x4), (5, .int x5)]) B dX12_aDay_134 hl (by decide) rfl (fun ls hl => ?_)
        refine x_aload_n B dX12_aDay_136 rfl (lv_at hl 1 rfl) ?_
        refine y_getMr (C := RX12) (T := TX12) (NN := 34) (d := 0) (k2 := 108) B aM_107 inX12 rfl (j := 0) (by decide) q_1112 rfl rfl rfl dX12_aDay_137 ?_
        refine x_bipush (v := (nI 10)) B dX12_aDay_140 (by decide) ?_
        refine x_ialdM B aM_108 (by decide) dX12_aDay_142 ?_
        refine x_if_ne (tgt := 158) B dX12_aDay_143 (by decide) (fun h38 => ?_) (fun h38 => ?_)
        · have hf := ip h38 hf
          refine x_iconst (v := (nI 1)) B dX12_aDay_146 (by decide) ?_
          refine x_aload_n B dX12_aDay_147 rfl (lv_at hl 1 rfl) ?_
          obtain ⟨r41, f40, c39, hf⟩ := bn2_some hf
          refine x_callV0 (rest := [.int (nI 1)]) B (kX12_draw c39) ⟨rfl, rfl⟩ aM_107.lt aM_107.2 rfl (by decide) q_1378 q_1380 q_25 (by rw [hR]; exact cw_X12_aDay_X12_draw) rfl rfl hl.1 (Nat.le_of_ble_eq_true rfl) dX12_aDay_148 ⟨Nat.zero_le _, Nat.zero_le _⟩ ?_
          refine x_bipush (v := (nI 99)) B dX12_aDay_151 (by decide) ?_
          refine y_irem B dX12_aDay_153 (by decide) ?_
          refine x_iadd B dX12_aDay_154 ?_
          refine x_goto (tgt := 179) B dX12_aDay_155 (by decide) ?_
          exact fX12_aDay_179_ok B hR  (lv_sub hl [1, 2, 3, 4, 0] rfl) hf
        · have hf := iq h38 hf
          refine x_aload_n B dX12_aDay_158 rfl (lv_at hl 1 rfl) ?_
          refine y_getMr (C := RX12) (T := TX12) (NN := 34) (d := 0) (k2 := 108) B aM_107 inX12 rfl (j := 0) (by decide) q_1112 rfl rfl rfl dX12_aDay_159 ?_
          refine x_sipush (v := (nI 251)) B dX12_aDay_162 (by decide) ?_
          refine x_aload_n B dX12_aDay_165 rfl (lv_at hl 1 rfl) ?_
          obtain ⟨r46, f45, c44, hf⟩ := bn2_some hf
          refine x_callV0 (rest := [.int (nI 251), .ref (gz G + 108)]) B (kX12_draw c44) ⟨rfl, rfl⟩ aM_107.lt aM_107.2 rfl (by decide) q_1378 q_1380 q_25 (by rw [hR]; exact cw_X12_aDay_X12_draw) rfl rfl hl.1 (Nat.le_of_ble_eq_true rfl) dX12_aDay_166 ⟨Nat.zero_le _, Nat.zero_le _⟩ ?_
          refine x_aload_n B dX12_aDay_169 rfl (lv_at hl 1 rfl) ?_
          refine y_getMr (C := RX12) (T := TX12) (NN := 34) (d := 0) (k2 := 108) B aM_107 inX12 rfl (j := 0) (by decide) q_1112 rfl rfl rfl dX12_aDay_170 ?_
          refine x_bipush (v := (nI 10)) B dX12_aDay_173 (by decide) ?_
          refine x_ialdM B aM_108 (by decide) dX12_aDay_175 ?_
          obtain ⟨h47, hf⟩ := gd_some hf
          refine y_irem B dX12_aDay_176 (nz_ne h47) ?_
          refine x_iadd B dX12_aDay_177 ?_
          obtain ⟨h48, hf⟩ := gd_some hf
          refine x_ialdM B aM_108 h48 dX12_aDay_178 ?_
          exact fX12_aDay_179_ok B hR  (lv_sub hl [1, 2, 3, 4, 0] rfl) hf
def fX12_aDay (n : Nat)  (m : Mm) : Option (Mm) :=
  lt (m 108 (nI 1).toNatClampNeg) fun v1 =>
  bn (fX12_seenOn n v1 m) fun r4 =>
  bn2 (fX12_rateBy n r4 v1 m) fun r7 f6 =>
  bn2 (fX12_knockBy n r4 v1 f6) fun r10 f9 =>
  bn (fX12_watchedMany n v1 f9) fun r12 =>
  if (f9 108 (nI 5).toNatClampNeg) = (nI 1) then (
  bn2 (fX12_draw n f9) fun r16 f15 =>
  if r7 ≤ (irm r16 (nI 1000)) then (
  fX12_aDay_92 n v1 r7 r10 r12 f15) else (
  if r12 ≤ 0 then (
  fX12_aDay_92 n v1 r7 r10 r12 f15) else (
  if (nI 40) ≤ (f15 108 (nI 8).toNatClampNeg) then (
  fX12_aDay_92 n v1 r7 r10 r12 f15) else (
  bn (fX12_watchedOne n v1 (nI 0) f15) fun r52 =>
  bn (fX12_comes n (nI 1) r52 v1 (f15 108 (nI 2).toNatClampNeg) f15) fun f54 =>
  fX12_aDay_92 n v1 r7 r10 r12 f54)))) else (
  fX12_aDay_92 n v1 r7 r10 r12 f9)
set_option maxHeartbeats 4000000 in
set_option maxRecDepth 100000 in
theorem kX12_aDay {l : Launch} {G : GE} {N : Nat} {f m : Mm} {n : Nat}  {g : Mm}  (hf : fX12_aDay n m = some g) : MT l G yX12_aDay cX12_aDay 8 none rmX12_aDay [.ref (gz G + 107)] N f m none N f g := by
  unfold fX12_aDay at hf
  refine MT.of (by decide) (Nat.le_of_ble_eq_true rfl) (fun V ls hV hR B hl => ?_)
  have B : CX V G cX12_aDay 8 "FluxWatchModel" none := B
  have hl : lv_has ls 8 [(0, .ref (gz G + 107))] := hl
  show WX V G N f m 0 0 (QQ V G none N f g 0 0) 0 ls []
  refine x_aload_n B dX12_aDay_0 rfl (lv_at hl 0 rfl) ?_
  refine y_getMr (C := RX12) (T := TX12) (NN := 34) (d := 0) (k2 := 108) B aM_107 inX12 rfl (j := 0) (by decide) q_1112 rfl rfl rfl dX12_aDay_1 ?_
  refine x_iconst (v := (nI 1)) B dX12_aDay_4 (by decide) ?_
  refine x_ialdM B aM_108 (by decide) dX12_aDay_5 ?_
  refine x_nm (fun v1 e2 => ?_)
  have hf := lt_some hf e2
  refine x_istore_n (lv' := [(1, .int v1), (0, .ref (gz G + 107))]) B dX12_aDay_6 rfl hl (by decide) rfl (fun ls hl => ?_)
  refine x_aload_n B dX12_aDay_7 rfl (lv_at hl 1 rfl) ?_
  refine x_iload_n B dX12_aDay_8 rfl (lv_at hl 0 rfl) ?_
  obtain ⟨r4, c3, hf⟩ := bn_some hf
  refine x_callV0 (rest := []) B (kX12_seenOn c3) ⟨rfl, rfl⟩ aM_107.lt aM_107.2 rfl (by decide) q_1273 q_1275 q_11 (by rw [hR]; exact cw_X12_aDay_X12_seenOn) rfl rfl hl.1 (Nat.le_of_ble_eq_true rfl) dX12_aDay_9 ⟨Nat.zero_le _, Nat.zero_le _⟩ ?_
  refine x_istore_n (lv' := [(2, .int r4), (1, .int v1), (0, .ref (gz G + 107))]) B dX12_aDay_12 rfl hl (by decide) rfl (fun ls hl => ?_)
  refine x_aload_n B dX12_aDay_13 rfl (lv_at hl 2 rfl) ?_
  refine x_iload_n B dX12_aDay_14 rfl (lv_at hl 0 rfl) ?_
  refine x_iload_n B dX12_aDay_15 rfl (lv_at hl 1 rfl) ?_
  obtain ⟨r7, f6, c5, hf⟩ := bn2_some hf
  refine x_callV0 (rest := []) B (kX12_rateBy c5) ⟨rfl, rfl⟩ aM_107.lt aM_107.2 rfl (by decide) q_1352 q_1354 q_20 (by rw [hR]; exact cw_X12_aDay_X12_rateBy) rfl rfl hl.1 (Nat.le_of_ble_eq_true rfl) dX12_aDay_16 ⟨Nat.zero_le _, Nat.zero_le _⟩ ?_
  refine x_istore_n (lv' := [(3, .int r7), (2, .int r4), (1, .int v1), (0, .ref (gz G + 107))]) B dX12_aDay_19 rfl hl (by decide) rfl (fun ls hl => ?_)
  refine x_aload_n B dX12_aDay_20 rfl (lv_at hl 3 rfl) ?_
  refine x_iload_n B dX12_aDay_21 rfl (lv_at hl 1 rfl) ?_
  refine x_iload_n B dX12_aDay_22 rfl (lv_at hl 2 rfl) ?_
  obtain ⟨r10, f9, c8, hf⟩ := bn2_some hf
  refine x_callV0 (rest := []) B (kX12_knockBy c8) ⟨rfl, rfl⟩ aM_107.lt aM_107.2 rfl (by decide) q_1370 q_1372 q_23 (by rw [hR]; exact cw_X12_aDay_X12_knockBy) rfl rfl hl.1 (Nat.le_of_ble_eq_true rfl) dX12_aDay_23 ⟨Nat.zero_le _, Nat.zero_le _⟩ ?_
  refine x_istore (lv' := [(4, .int r10), (3, .int r7), (2, .int r4), (1, .int v1), (0, .ref (gz G + 107))]) B dX12_aDay_26 hl (by decide) rfl (fun ls hl => ?_)
  refine x_aload_n B dX12_aDay_28 rfl (lv_at hl 4 rfl) ?_
  refine x_iload_n B dX12_aDay_29 rfl (lv_at hl 3 rfl) ?_
  obtain ⟨r12, c11, hf⟩ := bn_some hf
  refine x_callV0 (rest := []) B (kX12_watchedMany c11) ⟨rfl, rfl⟩ aM_107.lt aM_107.2 rfl (by decide) q_1374 q_1376 q_24 (by rw [hR]; exact cw_X12_aDay_X12_watchedMany) rfl rfl hl.1 (Nat.le_of_ble_eq_true rfl) dX12_aDay_30 ⟨Nat.zero_le _, Nat.zero_le _⟩ ?_
  refine x_istore (lv' := [(5, .int r12), (4, .int r10), (3, .int r7), (2, .int r4), (1, .int v1), (0, .ref (gz G + 107))]) B dX12_aDay_33 hl (by decide) rfl (fun ls hl => ?_)
  refine x_aload_n B dX12_aDay_35 rfl (lv_at hl 5 rfl) ?_
  refine y_getMr (C := RX12) (T := TX12) (NN := 34) (d := 0) (k2 := 108) B aM_107 inX12 rfl (j := 0) (by decide) q_1112 rfl rfl rfl dX12_aDay_36 ?_
  refine x_iconst (v := (nI 5)) B dX12_aDay_39 (by decide) ?_
  refine x_ialdM B aM_108 (by decide) dX12_aDay_40 ?_
  refine x_iconst (v := (nI 1)) B dX12_aDay_41 (by decide) ?_
  refine x_icmp_ne (tgt := 92) B dX12_aDay_42 (by decide) (fun h13 => ?_) (fun h13 => ?_)
  · have hf := ip h13 hf
    refine x_aload_n B dX12_aDay_45 rfl (lv_at hl 5 rfl) ?_
    obtain ⟨r16, f15, c14, hf⟩ := bn2_some hf
    refine x_callV0 (rest := []) B (kX12_draw c14) ⟨rfl, rfl⟩ aM_107.lt aM_107.2 rfl (by decide) q_1378 q_1380 q_25 (by rw [hR]; exact cw_X12_aDay_X12_draw) rfl rfl hl.1 (Nat.le_of_ble_eq_true rfl) dX12_aDay_46 ⟨Nat.zero_le _, Nat.zero_le _⟩ ?_
    refine x_sipush (v := (nI 1000)) B dX12_aDay_49 (by decide) ?_
    refine y_irem B dX12_aDay_52 (by decide) ?_
    refine x_iload_n B dX12_aDay_53 rfl (lv_at hl 2 rfl) ?_
    refine x_icmp_ge (tgt := 92) B dX12_aDay_54 (by decide) (fun h17 => ?_) (fun h17 => ?_)
    · have hf := ip h17 hf
      exact fX12_aDay_92_ok B hR  (lv_sub hl [5, 4, 2, 1, 0] rfl) hf
    · have hf := iq h17 hf
      refine x_iload B dX12_aDay_57 (lv_at hl 0 rfl) ?_
      refine x_if_le (tgt := 92) B dX12_aDay_59 (by decide) (fun h49 => ?_) (fun h49 => ?_)
      · have hf := ip h49 hf
        exact fX12_aDay_92_ok B hR  (lv_sub hl [5, 4, 2, 1, 0] rfl) hf
      · have hf := iq h49 hf
        refine x_aload_n B dX12_aDay_62 rfl (lv_at hl 5 rfl) ?_
        refine y_getMr (C := RX12) (T := TX12) (NN := 34) (d := 0) (k2 := 108) B aM_107 inX12 rfl (j := 0) (by decide) q_1112 rfl rfl rfl dX12_aDay_63 ?_
        refine x_bipush (v := (nI 8)) B dX12_aDay_66 (by decide) ?_
        refine x_ialdM B aM_108 (by decide) dX12_aDay_68 ?_
        refine x_bipush (v := (nI 40)) B dX12_aDay_69 (by decide) ?_
        refine x_icmp_ge (tgt := 92) B dX12_aDay_71 (by decide) (fun h50 => ?_) (fun h50 => ?_)
        · have hf := ip h50 hf
          exact fX12_aDay_92_ok B hR  (lv_sub hl [5, 4, 2, 1, 0] rfl) hf
        · have hf := iq h50 hf
          refine x_aload_n B dX12_aDay_74 rfl (lv_at hl 5 rfl) ?_
          refine x_iconst (v := (nI 1)) B dX12_aDay_75 (by decide) ?_
          refine x_aload_n B dX12_aDay_76 rfl (lv_at hl 5 rfl) ?_
          refine x_iload_n B dX12_aDay_77 rfl (lv_at hl 4 rfl) ?_
          refine x_iconst (v := (nI 0)) B dX12_aDay_78 (by decide) ?_
          obtain ⟨r52, c51, hf⟩ := bn_some hf
          refine x_callV0 (rest := [.int (nI 1), .ref (gz G + 107)]) B (kX12_watchedOne c51) ⟨rfl, rfl⟩ aM_107.lt aM_107.2 rfl (by decide) q_1383 q_1385 q_26 (by rw [hR]; exact cw_X12_aDay_X12_watchedOne) rfl rfl hl.1 (Nat.le_of_ble_eq_true rfl) dX12_aDay_79 ⟨Nat.zero_le _, Nat.zero_le _⟩ ?_
          refine x_iload_n B dX12_aDay_82 rfl (lv_at hl 4 rfl) ?_
          refine x_aload_n B dX12_aDay_83 rfl (lv_at hl 5 rfl) ?_
          refine y_getMr (C := RX12) (T := TX12) (NN := 34) (d := 0) (k2 := 108) B aM_107 inX12 rfl (j := 0) (by decide) q_1112 rfl rfl rfl dX12_aDay_84 ?_
          refine x_iconst (v := (nI 2)) B dX12_aDay_87 (by decide) ?_
          refine x_ialdM B aM_108 (by decide) dX12_aDay_88 ?_
          obtain ⟨f54, c53, hf⟩ := bn_some hf
          refine x_callV0 (rest := []) B (kX12_comes c53) ⟨rfl, rfl⟩ aM_107.lt aM_107.2 rfl (by decide) q_1289 q_1291 q_13 (by rw [hR]; exact cw_X12_aDay_X12_comes) rfl rfl hl.1 (Nat.le_of_ble_eq_true rfl) dX12_aDay_89 ⟨Nat.zero_le _, Nat.zero_le _⟩ ?_
          exact fX12_aDay_92_ok B hR  (lv_sub hl [5, 4, 2, 1, 0] rfl) hf
  · have hf := iq h13 hf
    exact fX12_aDay_92_ok B hR  (lv_sub hl [5, 4, 2, 1, 0] rfl) hf
def rmX12_isStep : Room := { frames := 1, cells := 0, slots := 0, locals := 22 }
set_option maxHeartbeats 4000000 in
set_option maxRecDepth 100000 in
theorem cw_X12_isStep_X12_in : cwB rmX12_isStep rmX12_in yX12_in cX12_in 3 (some .boolean) 3 := ⟨q_1222, q_57, by decide, by decide⟩
def fX12_isStep (n : Nat) (a1 : Int32) (m : Mm) : Option (Int32) :=
  bn (fX12_in n a1 (nI 0) ((m 108 (nI 8).toNatClampNeg) - (nI 1))) fun r2 =>
  gd (zb r2) <|
  some r2
set_option maxHeartbeats 4000000 in
set_option maxRecDepth 100000 in
theorem kX12_isStep {l : Launch} {G : GE} {N : Nat} {f m : Mm} {n : Nat} {a1 : Int32} {r : Int32}  (hf : fX12_isStep n a1 m = some r) : MT l G yX12_isStep cX12_isStep 2 (some .boolean) rmX12_isStep [.ref (gz G + 107), .int a1] N f m (some (.int r)) N f m := by
  unfold fX12_isStep at hf
  refine MT.of (by decide) (Nat.le_of_ble_eq_true rfl) (fun V ls hV hR B hl => ?_)
  have B : CX V G cX12_isStep 2 "FluxWatchModel" (some .boolean) := B
  have hl : lv_has ls 2 [(0, .ref (gz G + 107)), (1, .int a1)] := hl
  show WX V G N f m 0 0 (QQ V G (some (.int r)) N f m 0 0) 0 ls []
  refine x_iload_n B dX12_isStep_0 rfl (lv_at hl 1 rfl) ?_
  refine x_iconst (v := (nI 0)) B dX12_isStep_1 (by decide) ?_
  refine x_aload_n B dX12_isStep_2 rfl (lv_at hl 0 rfl) ?_
  refine y_getMr (C := RX12) (T := TX12) (NN := 34) (d := 0) (k2 := 108) B aM_107 inX12 rfl (j := 0) (by decide) q_1112 rfl rfl rfl dX12_isStep_3 ?_
  refine x_bipush (v := (nI 8)) B dX12_isStep_6 (by decide) ?_
  refine x_ialdM B aM_108 (by decide) dX12_isStep_8 ?_
  refine x_iconst (v := (nI 1)) B dX12_isStep_9 (by decide) ?_
  refine x_isub B dX12_isStep_10 ?_
  obtain ⟨r2, c1, hf⟩ := bn_some hf
  refine x_callS0 (rest := []) B (kX12_in c1) ⟨rfl, rfl⟩ q_1220 q_1221 (by rw [hR]; exact cw_X12_isStep_X12_in) rfl rfl hl.1 (Nat.le_of_ble_eq_true rfl) dX12_isStep_11 ⟨Nat.zero_le _, Nat.zero_le _⟩ ?_
  obtain ⟨h3, hf⟩ := gd_some hf
  obtain rfl := rt1 hf
  exact x_zret B h3 dX12_isStep_14
def rmX12_isUnder : Room := { frames := 0, cells := 0, slots := 0, locals := 0 }
def fX12_isUnder_19 (n : Nat)   (x0 : Int32) (x1 : Int32)  : Option (Int32) :=
  if x1 = (nI 2) then (
  if x0 = (nI 4) then (
  some (nI 1)) else (
  some (nI 0))) else (
  some (nI 0))
set_option maxHeartbeats 4000000 in
set_option maxRecDepth 100000 in
theorem fX12_isUnder_19_ok {V : VE} {G : GE} {N : Nat} {f m : Mm} {n : Nat} {ls : Array Slot} {r : Int32} (B : CX V G cX12_isUnder 2 "FluxWatchModel" (some .boolean)) (hR : V.2.2.2.1 = rmX12_isUnder)   {x0 : Int32} {x1 : Int32}  (hl : lv_has ls 2 [(0, .int x0), (1, .int x1)]) (hf : fX12_isUnder_19 n  x0 x1 = some r) : WX V G N f m 0 0 (QQ V G (some (.int r)) N f m 0 0) 19 ls [] := by
  unfold fX12_isUnder_19 at hf
  refine x_iload_n B dX12_isUnder_19 rfl (lv_at hl 1 rfl) ?_
  refine x_iconst (v := (nI 2)) B dX12_isUnder_20 (by decide) ?_
  refine x_icmp_ne (tgt := 33) B dX12_isUnder_21 (by decide) (fun h5 => ?_) (fun h5 => ?_)
  · have hf := ip h5 hf
    refine x_iload_n B dX12_isUnder_24 rfl (lv_at hl 0 rfl) ?_
    refine x_iconst (v := (nI 4)) B dX12_isUnder_25 (by decide) ?_
    refine x_icmp_ne (tgt := 33) B dX12_isUnder_26 (by decide) (fun h6 => ?_) (fun h6 => ?_)
    · have hf := ip h6 hf
      refine x_iconst (v := (nI 1)) B dX12_isUnder_29 (by decide) ?_
      refine x_goto (tgt := 34) B dX12_isUnder_30 (by decide) ?_
      obtain rfl := rt1 hf
      exact x_zret B (by decide) dX12_isUnder_34
    · have hf := iq h6 hf
      refine x_iconst (v := (nI 0)) B dX12_isUnder_33 (by decide) ?_
      obtain rfl := rt1 hf
      exact x_zret B (by decide) dX12_isUnder_34
  · have hf := iq h5 hf
    refine x_iconst (v := (nI 0)) B dX12_isUnder_33 (by decide) ?_
    obtain rfl := rt1 hf
    exact x_zret B (by decide) dX12_isUnder_34
def fX12_isUnder (n : Nat) (a1 : Int32) (a2 : Int32)  : Option (Int32) :=
  if a2 = 0 then (
  some (nI 1)) else (
  if a1 = a2 then (
  some (nI 1)) else (
  if a2 = (nI 1) then (
  if a1 = (nI 3) then (
  some (nI 1)) else (
  fX12_isUnder_19 n a1 a2)) else (
  fX12_isUnder_19 n a1 a2)))
set_option maxHeartbeats 4000000 in
set_option maxRecDepth 100000 in
theorem kX12_isUnder {l : Launch} {G : GE} {N : Nat} {f m : Mm} {n : Nat} {a1 : Int32} {a2 : Int32} {r : Int32}  (hf : fX12_isUnder n a1 a2 = some r) : MT l G yX12_isUnder cX12_isUnder 2 (some .boolean) rmX12_isUnder [.int a1, .int a2] N f m (some (.int r)) N f m := by
  unfold fX12_isUnder at hf
  refine MT.of (by decide) (Nat.le_of_ble_eq_true rfl) (fun V ls hV hR B hl => ?_)
  have B : CX V G cX12_isUnder 2 "FluxWatchModel" (some .boolean) := B
  have hl : lv_has ls 2 [(0, .int a1), (1, .int a2)] := hl
  show WX V G N f m 0 0 (QQ V G (some (.int r)) N f m 0 0) 0 ls []
  refine x_iload_n B dX12_isUnder_0 rfl (lv_at hl 1 rfl) ?_
  refine x_if_eq (tgt := 29) B dX12_isUnder_1 (by decide) (fun h1 => ?_) (fun h1 => ?_)
  · have hf := ip h1 hf
    refine x_iconst (v := (nI 1)) B dX12_isUnder_29 (by decide) ?_
    refine x_goto (tgt := 34) B dX12_isUnder_30 (by decide) ?_
    obtain rfl := rt1 hf
    exact x_zret B (by decide) dX12_isUnder_34
  · have hf := iq h1 hf
    refine x_iload_n B dX12_isUnder_4 rfl (lv_at hl 0 rfl) ?_
    refine x_iload_n B dX12_isUnder_5 rfl (lv_at hl 1 rfl) ?_
    refine x_icmp_eq (tgt := 29) B dX12_isUnder_6 (by decide) (fun h2 => ?_) (fun h2 => ?_)
    · have hf := ip h2 hf
      refine x_iconst (v := (nI 1)) B dX12_isUnder_29 (by decide) ?_
      refine x_goto (tgt := 34) B dX12_isUnder_30 (by decide) ?_
      obtain rfl := rt1 hf
      exact x_zret B (by decide) dX12_isUnder_34
    · have hf := iq h2 hf
      refine x_iload_n B dX12_isUnder_9 rfl (lv_at hl 1 rfl) ?_
      refine x_iconst (v := (nI 1)) B dX12_isUnder_10 (by decide) ?_
      refine x_icmp_ne (tgt := 19) B dX12_isUnder_11 (by decide) (fun h3 => ?_) (fun h3 => ?_)
      · have hf := ip h3 hf
        refine x_iload_n B dX12_isUnder_14 rfl (lv_at hl 0 rfl) ?_
        refine x_iconst (v := (nI 3)) B dX12_isUnder_15 (by decide) ?_
        refine x_icmp_eq (tgt := 29) B dX12_isUnder_16 (by decide) (fun h4 => ?_) (fun h4 => ?_)
        · have hf := ip h4 hf
          refine x_iconst (v := (nI 1)) B dX12_isUnder_29 (by decide) ?_
          refine x_goto (tgt := 34) B dX12_isUnder_30 (by decide) ?_
          obtain rfl := rt1 hf
          exact x_zret B (by decide) dX12_isUnder_34
        · have hf := iq h4 hf
          exact fX12_isUnder_19_ok B hR  hl hf
      · have hf := iq h3 hf
        exact fX12_isUnder_19_ok B hR  hl hf
def rmX12_as : Room := { frames := 2, cells := 0, slots := 0, locals := 43 }
set_option maxHeartbeats 4000000 in
set_option maxRecDepth 100000 in
theorem cw_X12_as_X12_in : cwB rmX12_as rmX12_in yX12_in cX12_in 3 (some .boolean) 3 := ⟨q_1222, q_57, by decide, by decide⟩
set_option maxHeartbeats 4000000 in
set_option maxRecDepth 100000 in
theorem cw_X12_as_X12_isStep : cwB rmX12_as rmX12_isStep yX12_isStep cX12_isStep 2 (some .boolean) 1 := ⟨q_1300, q_57, by decide, by decide⟩
set_option maxHeartbeats 4000000 in
set_option maxRecDepth 100000 in
theorem cw_X12_as_X12_isUnder : cwB rmX12_as rmX12_isUnder yX12_isUnder cX12_isUnder 2 (some .boolean) 2 := ⟨q_1326, q_57, by decide, by decide⟩
set_option maxHeartbeats 4000000 in
set_option maxRecDepth 100000 in
theorem cw_X12_as_X12_step4 : cwB rmX12_as rmX12_step4 yX12_step4 cX12_step4 3 (some .int) 2 := ⟨q_1245, q_57, by decide, by decide⟩
def fX12_as (n : Nat) (a1 : Int32) (a2 : Int32) (m : Mm) : Option (Int32) :=
  bn (fX12_isStep n a1 m) fun r2 =>
  if r2 = 0 then (
  some (-1000000001 : Int32)) else (
  bn (fX12_in n a2 (nI 0) (nI 5)) fun r5 =>
  if r5 = 0 then (
  some (-1000000001 : Int32)) else (
  bn (fX12_step4 n a1 (nI 0) m) fun r8 =>
  bn (fX12_isUnder n r8 a2) fun r10 =>
  if r10 = 0 then (
  some (-1000000012 : Int32)) else (
  bn (fX12_step4 n a1 (nI 3) m) fun r13 =>
  some r13)))
set_option maxHeartbeats 4000000 in
set_option maxRecDepth 100000 in
theorem kX12_as {l : Launch} {G : GE} {N : Nat} {f m : Mm} {n : Nat} {a1 : Int32} {a2 : Int32} {r : Int32}  (hf : fX12_as n a1 a2 m = some r) : MT l G yX12_as cX12_as 3 (some .int) rmX12_as [.ref (gz G + 107), .int a1, .int a2] N f m (some (.int r)) N f m := by
  unfold fX12_as at hf
  refine MT.of (by decide) (Nat.le_of_ble_eq_true rfl) (fun V ls hV hR B hl => ?_)
  have B : CX V G cX12_as 3 "FluxWatchModel" (some .int) := B
  have hl : lv_has ls 3 [(0, .ref (gz G + 107)), (1, .int a1), (2, .int a2)] := hl
  show WX V G N f m 0 0 (QQ V G (some (.int r)) N f m 0 0) 0 ls []
  refine x_aload_n B dX12_as_0 rfl (lv_at hl 0 rfl) ?_
  refine x_iload_n B dX12_as_1 rfl (lv_at hl 1 rfl) ?_
  obtain ⟨r2, c1, hf⟩ := bn_some hf
  refine x_callV0 (rest := []) B (kX12_isStep c1) ⟨rfl, rfl⟩ aM_107.lt aM_107.2 rfl (by decide) q_1297 q_1299 q_14 (by rw [hR]; exact cw_X12_as_X12_isStep) rfl rfl hl.1 (Nat.le_of_ble_eq_true rfl) dX12_as_2 ⟨Nat.zero_le _, Nat.zero_le _⟩ ?_
  refine x_if_eq (tgt := 17) B dX12_as_5 (by decide) (fun h3 => ?_) (fun h3 => ?_)
  · have hf := ip h3 hf
    refine x_ldc (v := (-1000000001 : Int32)) B q_1223 dX12_as_17 ?_
    obtain rfl := rt1 hf
    exact x_iret B dX12_as_19
  · have hf := iq h3 hf
    refine x_iload_n B dX12_as_8 rfl (lv_at hl 2 rfl) ?_
    refine x_iconst (v := (nI 0)) B dX12_as_9 (by decide) ?_
    refine x_iconst (v := (nI 5)) B dX12_as_10 (by decide) ?_
    obtain ⟨r5, c4, hf⟩ := bn_some hf
    refine x_callS0 (rest := []) B (kX12_in c4) ⟨rfl, rfl⟩ q_1220 q_1221 (by rw [hR]; exact cw_X12_as_X12_in) rfl rfl hl.1 (Nat.le_of_ble_eq_true rfl) dX12_as_11 ⟨Nat.zero_le _, Nat.zero_le _⟩ ?_
    refine x_if_ne (tgt := 20) B dX12_as_14 (by decide) (fun h6 => ?_) (fun h6 => ?_)
    · have hf := ip h6 hf
      refine x_ldc (v := (-1000000001 : Int32)) B q_1223 dX12_as_17 ?_
      obtain rfl := rt1 hf
      exact x_iret B dX12_as_19
    · have hf := iq h6 hf
      refine x_aload_n B dX12_as_20 rfl (lv_at hl 0 rfl) ?_
      refine x_iload_n B dX12_as_21 rfl (lv_at hl 1 rfl) ?_
      refine x_iconst (v := (nI 0)) B dX12_as_22 (by decide) ?_
      obtain ⟨r8, c7, hf⟩ := bn_some hf
      refine x_callV0 (rest := []) B (kX12_step4 c7) ⟨rfl, rfl⟩ aM_107.lt aM_107.2 rfl (by decide) q_1242 q_1244 q_10 (by rw [hR]; exact cw_X12_as_X12_step4) rfl rfl hl.1 (Nat.le_of_ble_eq_true rfl) dX12_as_23 ⟨Nat.zero_le _, Nat.zero_le _⟩ ?_
      refine x_iload_n B dX12_as_26 rfl (lv_at hl 2 rfl) ?_
      obtain ⟨r10, c9, hf⟩ := bn_some hf
      refine x_callS0 (rest := []) B (kX12_isUnder c9) ⟨rfl, rfl⟩ q_1324 q_1325 (by rw [hR]; exact cw_X12_as_X12_isUnder) rfl rfl hl.1 (Nat.le_of_ble_eq_true rfl) dX12_as_27 ⟨Nat.zero_le _, Nat.zero_le _⟩ ?_
      refine x_if_eq (tgt := 42) B dX12_as_30 (by decide) (fun h11 => ?_) (fun h11 => ?_)
      · have hf := ip h11 hf
        refine x_ldc (v := (-1000000012 : Int32)) B q_1327 dX12_as_42 ?_
        obtain rfl := rt1 hf
        exact x_iret B dX12_as_44
      · have hf := iq h11 hf
        refine x_aload_n B dX12_as_33 rfl (lv_at hl 0 rfl) ?_
        refine x_iload_n B dX12_as_34 rfl (lv_at hl 1 rfl) ?_
        refine x_iconst (v := (nI 3)) B dX12_as_35 (by decide) ?_
        obtain ⟨r13, c12, hf⟩ := bn_some hf
        refine x_callV0 (rest := []) B (kX12_step4 c12) ⟨rfl, rfl⟩ aM_107.lt aM_107.2 rfl (by decide) q_1242 q_1244 q_10 (by rw [hR]; exact cw_X12_as_X12_step4) rfl rfl hl.1 (Nat.le_of_ble_eq_true rfl) dX12_as_36 ⟨Nat.zero_le _, Nat.zero_le _⟩ ?_
        refine x_goto (tgt := 44) B dX12_as_39 (by decide) ?_
        obtain rfl := rt1 hf
        exact x_iret B dX12_as_44
def rmX12_isSlot : Room := { frames := 1, cells := 0, slots := 0, locals := 22 }
set_option maxHeartbeats 4000000 in
set_option maxRecDepth 100000 in
theorem cw_X12_isSlot_X12_in : cwB rmX12_isSlot rmX12_in yX12_in cX12_in 3 (some .boolean) 3 := ⟨q_1222, q_57, by decide, by decide⟩
def fX12_isSlot (n : Nat) (a1 : Int32)  : Option (Int32) :=
  bn (fX12_in n a1 (nI 0) (nI 4)) fun r2 =>
  gd (zb r2) <|
  some r2
set_option maxHeartbeats 4000000 in
set_option maxRecDepth 100000 in
theorem kX12_isSlot {l : Launch} {G : GE} {N : Nat} {f m : Mm} {n : Nat} {a1 : Int32} {r : Int32}  (hf : fX12_isSlot n a1 = some r) : MT l G yX12_isSlot cX12_isSlot 1 (some .boolean) rmX12_isSlot [.int a1] N f m (some (.int r)) N f m := by
  unfold fX12_isSlot at hf
  refine MT.of (by decide) (Nat.le_of_ble_eq_true rfl) (fun V ls hV hR B hl => ?_)
  have B : CX V G cX12_isSlot 1 "FluxWatchModel" (some .boolean) := B
  have hl : lv_has ls 1 [(0, .int a1)] := hl
  show WX V G N f m 0 0 (QQ V G (some (.int r)) N f m 0 0) 0 ls []
  refine x_iload_n B dX12_isSlot_0 rfl (lv_at hl 0 rfl) ?_
  refine x_iconst (v := (nI 0)) B dX12_isSlot_1 (by decide) ?_
  refine x_iconst (v := (nI 4)) B dX12_isSlot_2 (by decide) ?_
  obtain ⟨r2, c1, hf⟩ := bn_some hf
  refine x_callS0 (rest := []) B (kX12_in c1) ⟨rfl, rfl⟩ q_1220 q_1221 (by rw [hR]; exact cw_X12_isSlot_X12_in) rfl rfl hl.1 (Nat.le_of_ble_eq_true rfl) dX12_isSlot_3 ⟨Nat.zero_le _, Nat.zero_le _⟩ ?_
  obtain ⟨h3, hf⟩ := gd_some hf
  obtain rfl := rt1 hf
  exact x_zret B h3 dX12_isSlot_6
def rmX12_worthBy : Room := { frames := 1, cells := 0, slots := 0, locals := 20 }
set_option maxHeartbeats 4000000 in
set_option maxRecDepth 100000 in
theorem cw_X12_worthBy_X12_size : cwB rmX12_worthBy rmX12_size yX12_size cX12_size 1 (some .int) 1 := ⟨q_1311, q_57, by decide, by decide⟩
def fX12_worthBy (n : Nat) (a1 : Int32) (a2 : Int32) (m : Mm) : Option (Int32) :=
  bn (fX12_size n a2) fun r2 =>
  if a1 = (nI 1) then (
  some (r2 + (m 108 (nI 2).toNatClampNeg))) else (
  if a1 = (nI 2) then (
  some (r2 / (nI 2))) else (
  if a1 = (nI 3) then (
  some ((nI 2) * (r2 + (m 108 (nI 2).toNatClampNeg)))) else (
  if a1 = (nI 4) then (
  some ((r2 / (nI 2)) - (nI 1))) else (
  if a1 = (nI 5) then (
  some (nI 0)) else (
  some r2)))))
set_option maxHeartbeats 4000000 in
set_option maxRecDepth 100000 in
theorem kX12_worthBy {l : Launch} {G : GE} {N : Nat} {f m : Mm} {n : Nat} {a1 : Int32} {a2 : Int32} {r : Int32}  (hf : fX12_worthBy n a1 a2 m = some r) : MT l G yX12_worthBy cX12_worthBy 4 (some .int) rmX12_worthBy [.ref (gz G + 107), .int a1, .int a2] N f m (some (.int r)) N f m := by
  unfold fX12_worthBy at hf
  refine MT.of (by decide) (Nat.le_of_ble_eq_true rfl) (fun V ls hV hR B hl => ?_)
  have B : CX V G cX12_worthBy 4 "FluxWatchModel" (some .int) := B
  have hl : lv_has ls 4 [(0, .ref (gz G + 107)), (1, .int a1), (2, .int a2)] := hl
  show WX V G N f m 0 0 (QQ V G (some (.int r)) N f m 0 0) 0 ls []
  refine x_iload_n B dX12_worthBy_0 rfl (lv_at hl 2 rfl) ?_
  obtain ⟨r2, c1, hf⟩ := bn_some hf
  refine x_callS0 (rest := []) B (kX12_size c1) ⟨rfl, rfl⟩ q_1309 q_1310 (by rw [hR]; exact cw_X12_worthBy_X12_size) rfl rfl hl.1 (Nat.le_of_ble_eq_true rfl) dX12_worthBy_1 ⟨Nat.zero_le _, Nat.zero_le _⟩ ?_
  refine x_istore_n (lv' := [(3, .int r2), (0, .ref (gz G + 107)), (1, .int a1), (2, .int a2)]) B dX12_worthBy_4 rfl hl (by decide) rfl (fun ls hl => ?_)
  refine x_iload_n B dX12_worthBy_5 rfl (lv_at hl 2 rfl) ?_
  by_cases h3 : a1 = (nI 1)
  · have hf := ip h3 hf
    refine x_tabIn (a := 1) (tgt := 40) B dX12_worthBy_6 (by rw [h3]; rfl) (by decide) (by decide) rfl (by decide) ?_
    refine x_iload_n B dX12_worthBy_40 rfl (lv_at hl 0 rfl) ?_
    refine x_aload_n B dX12_worthBy_41 rfl (lv_at hl 1 rfl) ?_
    refine y_getMr (C := RX12) (T := TX12) (NN := 34) (d := 0) (k2 := 108) B aM_107 inX12 rfl (j := 0) (by decide) q_1112 rfl rfl rfl dX12_worthBy_42 ?_
    refine x_iconst (v := (nI 2)) B dX12_worthBy_45 (by decide) ?_
    refine x_ialdM B aM_108 (by decide) dX12_worthBy_46 ?_
    refine x_iadd B dX12_worthBy_47 ?_
    obtain rfl := rt1 hf
    exact x_iret B dX12_worthBy_48
  · have hf := iq h3 hf
    by_cases h4 : a1 = (nI 2)
    · have hf := ip h4 hf
      refine x_tabIn (a := 2) (tgt := 49) B dX12_worthBy_6 (by rw [h4]; rfl) (by decide) (by decide) rfl (by decide) ?_
      refine x_iload_n B dX12_worthBy_49 rfl (lv_at hl 0 rfl) ?_
      refine x_iconst (v := (nI 2)) B dX12_worthBy_50 (by decide) ?_
      refine x_idiv B dX12_worthBy_51 (by decide) ?_
      obtain rfl := rt1 hf
      exact x_iret B dX12_worthBy_52
    · have hf := iq h4 hf
      by_cases h5 : a1 = (nI 3)
      · have hf := ip h5 hf
        refine x_tabIn (a := 3) (tgt := 53) B dX12_worthBy_6 (by rw [h5]; rfl) (by decide) (by decide) rfl (by decide) ?_
        refine x_iconst (v := (nI 2)) B dX12_worthBy_53 (by decide) ?_
        refine x_iload_n B dX12_worthBy_54 rfl (lv_at hl 0 rfl) ?_
        refine x_aload_n B dX12_worthBy_55 rfl (lv_at hl 1 rfl) ?_
        refine y_getMr (C := RX12) (T := TX12) (NN := 34) (d := 0) (k2 := 108) B aM_107 inX12 rfl (j := 0) (by decide) q_1112 rfl rfl rfl dX12_worthBy_56 ?_
        refine x_iconst (v := (nI 2)) B dX12_worthBy_59 (by decide) ?_
        refine x_ialdM B aM_108 (by decide) dX12_worthBy_60 ?_
        refine x_iadd B dX12_worthBy_61 ?_
        refine x_imul B dX12_worthBy_62 ?_
        obtain rfl := rt1 hf
        exact x_iret B dX12_worthBy_63
      · have hf := iq h5 hf
        by_cases h6 : a1 = (nI 4)
        · have hf := ip h6 hf
          refine x_tabIn (a := 4) (tgt := 64) B dX12_worthBy_6 (by rw [h6]; rfl) (by decide) (by decide) rfl (by decide) ?_
          refine x_iload_n B dX12_worthBy_64 rfl (lv_at hl 0 rfl) ?_
          refine x_iconst (v := (nI 2)) B dX12_worthBy_65 (by decide) ?_
          refine x_idiv B dX12_worthBy_66 (by decide) ?_
          refine x_iconst (v := (nI 1)) B dX12_worthBy_67 (by decide) ?_
          refine x_isub B dX12_worthBy_68 ?_
          obtain rfl := rt1 hf
          exact x_iret B dX12_worthBy_69
        · have hf := iq h6 hf
          by_cases h7 : a1 = (nI 5)
          · have hf := ip h7 hf
            refine x_tabIn (a := 5) (tgt := 70) B dX12_worthBy_6 (by rw [h7]; rfl) (by decide) (by decide) rfl (by decide) ?_
            refine x_iconst (v := (nI 0)) B dX12_worthBy_70 (by decide) ?_
            obtain rfl := rt1 hf
            exact x_iret B dX12_worthBy_71
          · have hf := iq h7 hf
            have h3t := lv_neT h3 (show ((nI 1)).toInt = 1 from rfl)
            have h4t := lv_neT h4 (show ((nI 2)).toInt = 2 from rfl)
            have h5t := lv_neT h5 (show ((nI 3)).toInt = 3 from rfl)
            have h6t := lv_neT h6 (show ((nI 4)).toInt = 4 from rfl)
            have h7t := lv_neT h7 (show ((nI 5)).toInt = 5 from rfl)
            refine x_tabOut (tgt := 72) B dX12_worthBy_6 (by omega) (by decide) ?_
            refine x_iload_n B dX12_worthBy_72 rfl (lv_at hl 0 rfl) ?_
            obtain rfl := rt1 hf
            exact x_iret B dX12_worthBy_73
def rmX12_ask : Room := { frames := 2, cells := 0, slots := 0, locals := 43 }
set_option maxHeartbeats 4000000 in
set_option maxRecDepth 100000 in
theorem cw_X12_ask_X12_in : cwB rmX12_ask rmX12_in yX12_in cX12_in 3 (some .boolean) 3 := ⟨q_1222, q_57, by decide, by decide⟩
set_option maxHeartbeats 4000000 in
set_option maxRecDepth 100000 in
theorem cw_X12_ask_X12_isSlot : cwB rmX12_ask rmX12_isSlot yX12_isSlot cX12_isSlot 1 (some .boolean) 1 := ⟨q_1578, q_57, by decide, by decide⟩
set_option maxHeartbeats 4000000 in
set_option maxRecDepth 100000 in
theorem cw_X12_ask_X12_isUnder : cwB rmX12_ask rmX12_isUnder yX12_isUnder cX12_isUnder 2 (some .boolean) 2 := ⟨q_1326, q_57, by decide, by decide⟩
set_option maxHeartbeats 4000000 in
set_option maxRecDepth 100000 in
theorem cw_X12_ask_X12_worthBy : cwB rmX12_ask rmX12_worthBy yX12_worthBy cX12_worthBy 4 (some .int) 2 := ⟨q_1319, q_57, by decide, by decide⟩
def fX12_ask (n : Nat) (a1 : Int32) (a2 : Int32) (m : Mm) : Option (Int32) :=
  bn (fX12_isSlot n a1) fun r2 =>
  if r2 = 0 then (
  some (-1000000001 : Int32)) else (
  bn (fX12_in n a2 (nI 0) (nI 5)) fun r5 =>
  if r5 = 0 then (
  some (-1000000001 : Int32)) else (
  gd (ib a1 5) <|
  if (m 124 a1.toNatClampNeg) = 0 then (
  some (-1000000011 : Int32)) else (
  gd (ib a1 5) <|
  if (m 124 a1.toNatClampNeg) = (nI 1) then (
  gd (ib a1 5) <|
  bn (fX12_isUnder n (m 125 a1.toNatClampNeg) a2) fun r13 =>
  if r13 = 0 then (
  some (-1000000012 : Int32)) else (
  gd (ib a1 5) <|
  gd (ib a1 5) <|
  bn (fX12_worthBy n (m 125 a1.toNatClampNeg) (m 126 a1.toNatClampNeg) m) fun r18 =>
  some r18)) else (
  some (-1000000012 : Int32)))))
set_option maxHeartbeats 4000000 in
set_option maxRecDepth 100000 in
theorem kX12_ask {l : Launch} {G : GE} {N : Nat} {f m : Mm} {n : Nat} {a1 : Int32} {a2 : Int32} {r : Int32}  (hf : fX12_ask n a1 a2 m = some r) : MT l G yX12_ask cX12_ask 3 (some .int) rmX12_ask [.ref (gz G + 107), .int a1, .int a2] N f m (some (.int r)) N f m := by
  unfold fX12_ask at hf
  refine MT.of (by decide) (Nat.le_of_ble_eq_true rfl) (fun V ls hV hR B hl => ?_)
  have B : CX V G cX12_ask 3 "FluxWatchModel" (some .int) := B
  have hl : lv_has ls 3 [(0, .ref (gz G + 107)), (1, .int a1), (2, .int a2)] := hl
  show WX V G N f m 0 0 (QQ V G (some (.int r)) N f m 0 0) 0 ls []
  refine x_iload_n B dX12_ask_0 rfl (lv_at hl 1 rfl) ?_
  obtain ⟨r2, c1, hf⟩ := bn_some hf
  refine x_callS0 (rest := []) B (kX12_isSlot c1) ⟨rfl, rfl⟩ q_1576 q_1577 (by rw [hR]; exact cw_X12_ask_X12_isSlot) rfl rfl hl.1 (Nat.le_of_ble_eq_true rfl) dX12_ask_1 ⟨Nat.zero_le _, Nat.zero_le _⟩ ?_
  refine x_if_eq (tgt := 16) B dX12_ask_4 (by decide) (fun h3 => ?_) (fun h3 => ?_)
  · have hf := ip h3 hf
    refine x_ldc (v := (-1000000001 : Int32)) B q_1223 dX12_ask_16 ?_
    obtain rfl := rt1 hf
    exact x_iret B dX12_ask_18
  · have hf := iq h3 hf
    refine x_iload_n B dX12_ask_7 rfl (lv_at hl 2 rfl) ?_
    refine x_iconst (v := (nI 0)) B dX12_ask_8 (by decide) ?_
    refine x_iconst (v := (nI 5)) B dX12_ask_9 (by decide) ?_
    obtain ⟨r5, c4, hf⟩ := bn_some hf
    refine x_callS0 (rest := []) B (kX12_in c4) ⟨rfl, rfl⟩ q_1220 q_1221 (by rw [hR]; exact cw_X12_ask_X12_in) rfl rfl hl.1 (Nat.le_of_ble_eq_true rfl) dX12_ask_10 ⟨Nat.zero_le _, Nat.zero_le _⟩ ?_
    refine x_if_ne (tgt := 19) B dX12_ask_13 (by decide) (fun h6 => ?_) (fun h6 => ?_)
    · have hf := ip h6 hf
      refine x_ldc (v := (-1000000001 : Int32)) B q_1223 dX12_ask_16 ?_
      obtain rfl := rt1 hf
      exact x_iret B dX12_ask_18
    · have hf := iq h6 hf
      refine x_aload_n B dX12_ask_19 rfl (lv_at hl 0 rfl) ?_
      refine y_getMr (C := RX12) (T := TX12) (NN := 34) (d := 16) (k2 := 124) B aM_107 inX12 rfl (j := 27) (by decide) q_1139 rfl rfl rfl dX12_ask_20 ?_
      refine x_iload_n B dX12_ask_23 rfl (lv_at hl 1 rfl) ?_
      obtain ⟨h7, hf⟩ := gd_some hf
      refine x_ialdM B aM_124 h7 dX12_ask_24 ?_
      refine x_if_ne (tgt := 32) B dX12_ask_25 (by decide) (fun h8 => ?_) (fun h8 => ?_)
      · have hf := ip h8 hf
        refine x_ldc_w (v := (-1000000011 : Int32)) B q_1556 dX12_ask_28 ?_
        obtain rfl := rt1 hf
        exact x_iret B dX12_ask_31
      · have hf := iq h8 hf
        refine x_aload_n B dX12_ask_32 rfl (lv_at hl 0 rfl) ?_
        refine y_getMr (C := RX12) (T := TX12) (NN := 34) (d := 16) (k2 := 124) B aM_107 inX12 rfl (j := 27) (by decide) q_1139 rfl rfl rfl dX12_ask_33 ?_
        refine x_iload_n B dX12_ask_36 rfl (lv_at hl 1 rfl) ?_
        obtain ⟨h9, hf⟩ := gd_some hf
        refine x_ialdM B aM_124 h9 dX12_ask_37 ?_
        refine x_iconst (v := (nI 1)) B dX12_ask_38 (by decide) ?_
        refine x_icmp_ne (tgt := 74) B dX12_ask_39 (by decide) (fun h10 => ?_) (fun h10 => ?_)
        · have hf := ip h10 hf
          refine x_aload_n B dX12_ask_42 rfl (lv_at hl 0 rfl) ?_
          refine y_getMr (C := RX12) (T := TX12) (NN := 34) (d := 17) (k2 := 125) B aM_107 inX12 rfl (j := 28) (by decide) q_1140 rfl rfl rfl dX12_ask_43 ?_
          refine x_iload_n B dX12_ask_46 rfl (lv_at hl 1 rfl) ?_
          obtain ⟨h11, hf⟩ := gd_some hf
          refine x_ialdM B aM_125 h11 dX12_ask_47 ?_
          refine x_iload_n B dX12_ask_48 rfl (lv_at hl 2 rfl) ?_
          obtain ⟨r13, c12, hf⟩ := bn_some hf
          refine x_callS0 (rest := []) B (kX12_isUnder c12) ⟨rfl, rfl⟩ q_1324 q_1325 (by rw [hR]; exact cw_X12_ask_X12_isUnder) rfl rfl hl.1 (Nat.le_of_ble_eq_true rfl) dX12_ask_49 ⟨Nat.zero_le _, Nat.zero_le _⟩ ?_
          refine x_if_eq (tgt := 74) B dX12_ask_52 (by decide) (fun h14 => ?_) (fun h14 => ?_)
          · have hf := ip h14 hf
            refine x_ldc (v := (-1000000012 : Int32)) B q_1327 dX12_ask_74 ?_
            obtain rfl := rt1 hf
            exact x_iret B dX12_ask_76
          · have hf := iq h14 hf
            refine x_aload_n B dX12_ask_55 rfl (lv_at hl 0 rfl) ?_
            refine x_aload_n B dX12_ask_56 rfl (lv_at hl 0 rfl) ?_
            refine y_getMr (C := RX12) (T := TX12) (NN := 34) (d := 17) (k2 := 125) B aM_107 inX12 rfl (j := 28) (by decide) q_1140 rfl rfl rfl dX12_ask_57 ?_
            refine x_iload_n B dX12_ask_60 rfl (lv_at hl 1 rfl) ?_
            obtain ⟨h15, hf⟩ := gd_some hf
            refine x_ialdM B aM_125 h15 dX12_ask_61 ?_
            refine x_aload_n B dX12_ask_62 rfl (lv_at hl 0 rfl) ?_
            refine y_getMr (C := RX12) (T := TX12) (NN := 34) (d := 18) (k2 := 126) B aM_107 inX12 rfl (j := 29) (by decide) q_1141 rfl rfl rfl dX12_ask_63 ?_
            refine x_iload_n B dX12_ask_66 rfl (lv_at hl 1 rfl) ?_
            obtain ⟨h16, hf⟩ := gd_some hf
            refine x_ialdM B aM_126 h16 dX12_ask_67 ?_
            obtain ⟨r18, c17, hf⟩ := bn_some hf
            refine x_callV0 (rest := []) B (kX12_worthBy c17) ⟨rfl, rfl⟩ aM_107.lt aM_107.2 rfl (by decide) q_1316 q_1318 q_18 (by rw [hR]; exact cw_X12_ask_X12_worthBy) rfl rfl hl.1 (Nat.le_of_ble_eq_true rfl) dX12_ask_68 ⟨Nat.zero_le _, Nat.zero_le _⟩ ?_
            refine x_goto (tgt := 76) B dX12_ask_71 (by decide) ?_
            obtain rfl := rt1 hf
            exact x_iret B dX12_ask_76
        · have hf := iq h10 hf
          refine x_ldc (v := (-1000000012 : Int32)) B q_1327 dX12_ask_74 ?_
          obtain rfl := rt1 hf
          exact x_iret B dX12_ask_76
def rmX12_await : Room := { frames := 3, cells := 0, slots := 0, locals := 70 }
set_option maxHeartbeats 4000000 in
set_option maxRecDepth 100000 in
theorem cw_X12_await_X12_rateBy : cwB rmX12_await rmX12_rateBy yX12_rateBy cX12_rateBy 4 (some .int) 2 := ⟨q_1355, q_57, by decide, by decide⟩
set_option maxHeartbeats 4000000 in
set_option maxRecDepth 100000 in
theorem cw_X12_await_X12_seenOn : cwB rmX12_await rmX12_seenOn yX12_seenOn cX12_seenOn 4 (some .int) 1 := ⟨q_1276, q_57, by decide, by decide⟩
def fX12_await_10 (n : Nat)   (k10 : Int32 → Int32 → Mm → Option (Int32 × Mm)) (x1 : Int32) (x2 : Int32) (m : Mm) : Option (Int32 × Mm) :=
  if ((m 108 (nI 1).toNatClampNeg) + (nI 200)) ≤ x2 then (
  some ((-1000000005 : Int32), m)) else (
  bn (fX12_seenOn n x2 m) fun r5 =>
  bn2 (fX12_rateBy n r5 x2 m) fun r8 f7 =>
  lt ((x1 * ((nI 1000) - r8)) / (nI 1000)) fun v9 =>
  if (nI 500000) < v9 then (
  k10 v9 (x2 + (nI 1)) f7) else (
  some (x2, f7)))
def fX12_await_10L (n : Nat)   : Nat → Int32 → Int32 → Mm → Option (Int32 × Mm)
  | 0 => fun _ _ _ => none
  | q + 1 => fX12_await_10 n   (fX12_await_10L n   q)
set_option maxHeartbeats 4000000 in
set_option maxRecDepth 100000 in
theorem fX12_await_10_ok {V : VE} {G : GE} {N : Nat} {f m : Mm} {n : Nat} {ls : Array Slot} {r : Int32} {g : Mm} (B : CX V G cX12_await 3 "FluxWatchModel" (some .int)) (hR : V.2.2.2.1 = rmX12_await)   {k10 : Int32 → Int32 → Mm → Option (Int32 × Mm)} (hk10 : ∀ (x1 : Int32) (x2 : Int32) (mm : Mm) (ls : Array Slot),  lv_has ls 3 [(0, .ref (gz G + 107)), (1, .int x1), (2, .int x2)] → k10 x1 x2 mm = some (r, g) → WX V G N f mm 0 0 (QQ V G (some (.int r)) N f g 0 0) 10 ls []) {x1 : Int32} {x2 : Int32}  (hl : lv_has ls 3 [(0, .ref (gz G + 107)), (1, .int x1), (2, .int x2)]) (hf : fX12_await_10 n  k10 x1 x2 m = some (r, g)) : WX V G N f m 0 0 (QQ V G (some (.int r)) N f g 0 0) 10 ls [] := by
  unfold fX12_await_10 at hf
  refine x_iload_n B dX12_await_10 rfl (lv_at hl 2 rfl) ?_
  refine x_aload_n B dX12_await_11 rfl (lv_at hl 0 rfl) ?_
  refine y_getMr (C := RX12) (T := TX12) (NN := 34) (d := 0) (k2 := 108) B aM_107 inX12 rfl (j := 0) (by decide) q_1112 rfl rfl rfl dX12_await_12 ?_
  refine x_iconst (v := (nI 1)) B dX12_await_15 (by decide) ?_
  refine x_ialdM B aM_108 (by decide) dX12_await_16 ?_
  refine x_sipush (v := (nI 200)) B dX12_await_17 (by decide) ?_
  refine x_iadd B dX12_await_20 ?_
  refine x_icmp_ge (tgt := 59) B dX12_await_21 (by decide) (fun h3 => ?_) (fun h3 => ?_)
  · have hf := ip h3 hf
    refine x_ldc (v := (-1000000005 : Int32)) B q_1237 dX12_await_59 ?_
    obtain ⟨rfl, rfl⟩ := rt2 hf
    exact x_iret B dX12_await_61
  · have hf := iq h3 hf
    refine x_iload_n B dX12_await_24 rfl (lv_at hl 1 rfl) ?_
    refine x_sipush (v := (nI 1000)) B dX12_await_25 (by decide) ?_
    refine x_aload_n B dX12_await_28 rfl (lv_at hl 0 rfl) ?_
    refine x_aload_n B dX12_await_29 rfl (lv_at hl 0 rfl) ?_
    refine x_iload_n B dX12_await_30 rfl (lv_at hl 2 rfl) ?_
    obtain ⟨r5, c4, hf⟩ := bn_some hf
    refine x_callV0 (rest := [.ref (gz G + 107), .int (nI 1000), .int x1]) B (kX12_seenOn c4) ⟨rfl, rfl⟩ aM_107.lt aM_107.2 rfl (by decide) q_1273 q_1275 q_11 (by rw [hR]; exact cw_X12_await_X12_seenOn) rfl rfl hl.1 (Nat.le_of_ble_eq_true rfl) dX12_await_31 ⟨Nat.zero_le _, Nat.zero_le _⟩ ?_
    refine x_iload_n B dX12_await_34 rfl (lv_at hl 2 rfl) ?_
    obtain ⟨r8, f7, c6, hf⟩ := bn2_some hf
    refine x_callV0 (rest := [.int (nI 1000), .int x1]) B (kX12_rateBy c6) ⟨rfl, rfl⟩ aM_107.lt aM_107.2 rfl (by decide) q_1352 q_1354 q_20 (by rw [hR]; exact cw_X12_await_X12_rateBy) rfl rfl hl.1 (Nat.le_of_ble_eq_true rfl) dX12_await_35 ⟨Nat.zero_le _, Nat.zero_le _⟩ ?_
    refine x_isub B dX12_await_38 ?_
    refine x_imul B dX12_await_39 ?_
    refine x_sipush (v := (nI 1000)) B dX12_await_40 (by decide) ?_
    refine x_idiv B dX12_await_43 (by decide) ?_
    refine x_nm (fun v9 e10 => ?_)
    have hf := lt_some hf e10
    refine x_istore_n (lv' := [(1, .int v9), (0, .ref (gz G + 107)), (2, .int x2)]) B dX12_await_44 rfl hl (by decide) rfl (fun ls hl => ?_)
    refine x_iload_n B dX12_await_45 rfl (lv_at hl 0 rfl) ?_
    refine x_ldc (v := (nI 500000)) B q_1416 dX12_await_46 ?_
    refine x_icmp_gt (tgt := 53) B dX12_await_48 (by decide) (fun h11 => ?_) (fun h11 => ?_)
    · have hf := ip h11 hf
      refine x_iinc (k := 2) (v := (nI 1)) (lv' := [(2, .int (x2 + (nI 1))), (1, .int v9), (0, .ref (gz G + 107))]) B dX12_await_53 hl rfl (by decide) (by decide) rfl (fun ls hl => ?_)
      refine x_goto (tgt := 10) B dX12_await_56 (by decide) ?_
      exact hk10 _ _ _ _ (lv_sub hl [2, 1, 0] rfl) hf
    · have hf := iq h11 hf
      refine x_iload_n B dX12_await_51 rfl (lv_at hl 2 rfl) ?_
      obtain ⟨rfl, rfl⟩ := rt2 hf
      exact x_iret B dX12_await_52
set_option maxHeartbeats 4000000 in
set_option maxRecDepth 100000 in
theorem fX12_await_10L_ok {V : VE} {G : GE} {N : Nat} {f : Mm} {n : Nat}  {r : Int32} {g : Mm} (B : CX V G cX12_await 3 "FluxWatchModel" (some .int)) (hR : V.2.2.2.1 = rmX12_await)   : ∀ (q : Nat) (x1 : Int32) (x2 : Int32) (mm : Mm) (ls : Array Slot),  lv_has ls 3 [(0, .ref (gz G + 107)), (1, .int x1), (2, .int x2)] → fX12_await_10L n  q x1 x2 mm = some (r, g) → WX V G N f mm 0 0 (QQ V G (some (.int r)) N f g 0 0) 10 ls [] := by
  intro q
  induction q with
  | zero =>
    intro x1 x2 mm ls hl hf
    cases hf
  | succ q ih =>
    intro x1 x2 mm ls hl hf
    exact fX12_await_10_ok B hR   ih  hl hf
def fX12_await (n : Nat)  (m : Mm) : Option (Int32 × Mm) :=
  lt (m 108 (nI 1).toNatClampNeg) fun v1 =>
  fX12_await_10L n n (nI 1000000) v1 m
set_option maxHeartbeats 4000000 in
set_option maxRecDepth 100000 in
theorem kX12_await {l : Launch} {G : GE} {N : Nat} {f m : Mm} {n : Nat}  {r : Int32} {g : Mm}  (hf : fX12_await n m = some (r, g)) : MT l G yX12_await cX12_await 3 (some .int) rmX12_await [.ref (gz G + 107)] N f m (some (.int r)) N f g := by
  unfold fX12_await at hf
  refine MT.of (by decide) (Nat.le_of_ble_eq_true rfl) (fun V ls hV hR B hl => ?_)
  have B : CX V G cX12_await 3 "FluxWatchModel" (some .int) := B
  have hl : lv_has ls 3 [(0, .ref (gz G + 107))] := hl
  show WX V G N f m 0 0 (QQ V G (some (.int r)) N f g 0 0) 0 ls []
  refine x_ldc (v := (nI 1000000)) B q_1415 dX12_await_0 ?_
  refine x_istore_n (lv' := [(1, .int (nI 1000000)), (0, .ref (gz G + 107))]) B dX12_await_2 rfl hl (by decide) rfl (fun ls hl => ?_)
  refine x_aload_n B dX12_await_3 rfl (lv_at hl 1 rfl) ?_
  refine y_getMr (C := RX12) (T := TX12) (NN := 34) (d := 0) (k2 := 108) B aM_107 inX12 rfl (j := 0) (by decide) q_1112 rfl rfl rfl dX12_await_4 ?_
  refine x_iconst (v := (nI 1)) B dX12_await_7 (by decide) ?_
  refine x_ialdM B aM_108 (by decide) dX12_await_8 ?_
  refine x_nm (fun v1 e2 => ?_)
  have hf := lt_some hf e2
  refine x_istore_n (lv' := [(2, .int v1), (1, .int (nI 1000000)), (0, .ref (gz G + 107))]) B dX12_await_9 rfl hl (by decide) rfl (fun ls hl => ?_)
  exact fX12_await_10L_ok B hR  n _ _ _ _ (lv_sub hl [2, 1, 0] rfl) hf
def rmX12_copyAll : Room := { frames := 0, cells := 0, slots := 0, locals := 0 }
def fX12_copyAll_2 (n : Nat) (b1 : Nat) (b2 : Nat)  (k2 : Int32 → Mm → Option (Mm)) (x2 : Int32) (m : Mm) : Option (Mm) :=
  if (nI 1719) ≤ x2 then (
  some m) else (
  gd (ib x2 1719) <|
  gd (ib x2 1719) <|
  lt (up m b2 x2.toNatClampNeg (m b1 x2.toNatClampNeg)) fun f4 =>
  k2 (x2 + (nI 1)) f4)
def fX12_copyAll_2L (n : Nat) (b1 : Nat) (b2 : Nat)  : Nat → Int32 → Mm → Option (Mm)
  | 0 => fun _ _ => none
  | q + 1 => fX12_copyAll_2 n b1 b2  (fX12_copyAll_2L n b1 b2  q)
set_option maxHeartbeats 4000000 in
set_option maxRecDepth 100000 in
theorem fX12_copyAll_2_ok {V : VE} {G : GE} {N : Nat} {f m : Mm} {n : Nat} {ls : Array Slot} {b1 : Nat} {b2 : Nat} {g : Mm} (B : CX V G cX12_copyAll 3 "FluxWatchModel" none) (hR : V.2.2.2.1 = rmX12_copyAll) (hb1 : AM b1 (20, 1719)) (hb2 : AM b2 (20, 1719))  {k2 : Int32 → Mm → Option (Mm)} (hk2 : ∀ (x2 : Int32) (mm : Mm) (ls : Array Slot),  lv_has ls 3 [(0, .ref (gz G + b1)), (1, .ref (gz G + b2)), (2, .int x2)] → k2 x2 mm = some g → WX V G N f mm 0 0 (QQ V G none N f g 0 0) 2 ls []) {x2 : Int32}  (hl : lv_has ls 3 [(0, .ref (gz G + b1)), (1, .ref (gz G + b2)), (2, .int x2)]) (hf : fX12_copyAll_2 n b1 b2 k2 x2 m = some g) : WX V G N f m 0 0 (QQ V G none N f g 0 0) 2 ls [] := by
  unfold fX12_copyAll_2 at hf
  refine x_iload_n B dX12_copyAll_2 rfl (lv_at hl 2 rfl) ?_
  refine x_sipush (v := (nI 1719)) B dX12_copyAll_3 (by decide) ?_
  refine x_icmp_ge (tgt := 21) B dX12_copyAll_6 (by decide) (fun h1 => ?_) (fun h1 => ?_)
  · have hf := ip h1 hf
    obtain rfl := rt1 hf
    exact x_vret B dX12_copyAll_21
  · have hf := iq h1 hf
    refine x_aload_n B dX12_copyAll_9 rfl (lv_at hl 1 rfl) ?_
    refine x_iload_n B dX12_copyAll_10 rfl (lv_at hl 2 rfl) ?_
    refine x_aload_n B dX12_copyAll_11 rfl (lv_at hl 0 rfl) ?_
    refine x_iload_n B dX12_copyAll_12 rfl (lv_at hl 2 rfl) ?_
    obtain ⟨h2, hf⟩ := gd_some hf
    refine x_ialdM B hb1 h2 dX12_copyAll_13 ?_
    obtain ⟨h3, hf⟩ := gd_some hf
    refine x_iastM B hb2 h3 dX12_copyAll_14 (fun f4 e5 => ?_)
    have hf := lt_some hf e5
    refine x_iinc (k := 2) (v := (nI 1)) (lv' := [(2, .int (x2 + (nI 1))), (0, .ref (gz G + b1)), (1, .ref (gz G + b2))]) B dX12_copyAll_15 hl rfl (by decide) (by decide) rfl (fun ls hl => ?_)
    refine x_goto (tgt := 2) B dX12_copyAll_18 (by decide) ?_
    exact hk2 _ _ _ (lv_sub hl [1, 2, 0] rfl) hf
set_option maxHeartbeats 4000000 in
set_option maxRecDepth 100000 in
theorem fX12_copyAll_2L_ok {V : VE} {G : GE} {N : Nat} {f : Mm} {n : Nat}  {b1 : Nat} {b2 : Nat} {g : Mm} (B : CX V G cX12_copyAll 3 "FluxWatchModel" none) (hR : V.2.2.2.1 = rmX12_copyAll) (hb1 : AM b1 (20, 1719)) (hb2 : AM b2 (20, 1719))  : ∀ (q : Nat) (x2 : Int32) (mm : Mm) (ls : Array Slot),  lv_has ls 3 [(0, .ref (gz G + b1)), (1, .ref (gz G + b2)), (2, .int x2)] → fX12_copyAll_2L n b1 b2 q x2 mm = some g → WX V G N f mm 0 0 (QQ V G none N f g 0 0) 2 ls [] := by
  intro q
  induction q with
  | zero =>
    intro x2 mm ls hl hf
    cases hf
  | succ q ih =>
    intro x2 mm ls hl hf
    exact fX12_copyAll_2_ok B hR hb1 hb2  ih  hl hf
def fX12_copyAll (n : Nat) (b1 : Nat) (b2 : Nat) (m : Mm) : Option (Mm) :=
  fX12_copyAll_2L n b1 b2 n (nI 0) m
set_option maxHeartbeats 4000000 in
set_option maxRecDepth 100000 in
theorem kX12_copyAll {l : Launch} {G : GE} {N : Nat} {f m : Mm} {n : Nat} {b1 : Nat} {b2 : Nat} {g : Mm} (hb1 : AM b1 (20, 1719)) (hb2 : AM b2 (20, 1719)) (hf : fX12_copyAll n b1 b2 m = some g) : MT l G yX12_copyAll cX12_copyAll 3 none rmX12_copyAll [.ref (gz G + b1), .ref (gz G + b2)] N f m none N f g := by
  unfold fX12_copyAll at hf
  refine MT.of (by decide) (Nat.le_of_ble_eq_true rfl) (fun V ls hV hR B hl => ?_)
  have B : CX V G cX12_copyAll 3 "FluxWatchModel" none := B
  have hl : lv_has ls 3 [(0, .ref (gz G + b1)), (1, .ref (gz G + b2))] := hl
  show WX V G N f m 0 0 (QQ V G none N f g 0 0) 0 ls []
  refine x_iconst (v := (nI 0)) B dX12_copyAll_0 (by decide) ?_
  refine x_istore_n (lv' := [(2, .int (nI 0)), (0, .ref (gz G + b1)), (1, .ref (gz G + b2))]) B dX12_copyAll_1 rfl hl (by decide) rfl (fun ls hl => ?_)
  exact fX12_copyAll_2L_ok B hR hb1 hb2  n _ _ _ (lv_sub hl [1, 2, 0] rfl) hf
def rmX12_back : Room := { frames := 1, cells := 0, slots := 0, locals := 22 }
set_option maxHeartbeats 4000000 in
set_option maxRecDepth 100000 in
theorem cw_X12_back_X12_copyAll : cwB rmX12_back rmX12_copyAll yX12_copyAll cX12_copyAll 3 none 2 := ⟨q_1601, q_57, by decide, by decide⟩
def fX12_back (n : Nat)  (m : Mm) : Option (Int32 × Mm) :=
  if (m 107 3) = 0 then (
  some ((-1000000002 : Int32), m)) else (
  bn (fX12_copyAll n 109 108 m) fun f3 =>
  some (f3 108 (nI 1).toNatClampNeg, f3))
set_option maxHeartbeats 4000000 in
set_option maxRecDepth 100000 in
theorem kX12_back {l : Launch} {G : GE} {N : Nat} {f m : Mm} {n : Nat}  {r : Int32} {g : Mm}  (hf : fX12_back n m = some (r, g)) : MT l G yX12_back cX12_back 1 (some .int) rmX12_back [.ref (gz G + 107)] N f m (some (.int r)) N f g := by
  unfold fX12_back at hf
  refine MT.of (by decide) (Nat.le_of_ble_eq_true rfl) (fun V ls hV hR B hl => ?_)
  have B : CX V G cX12_back 1 "FluxWatchModel" (some .int) := B
  have hl : lv_has ls 1 [(0, .ref (gz G + 107))] := hl
  show WX V G N f m 0 0 (QQ V G (some (.int r)) N f g 0 0) 0 ls []
  refine x_aload_n B dX12_back_0 rfl (lv_at hl 0 rfl) ?_
  refine y_getMi (C := RX12) (T := TX12) (NN := 34) B aM_107 inX12 rfl (j := 3) (by decide) q_1115 rfl rfl dX12_back_1 ?_
  refine x_if_ne (tgt := 10) B dX12_back_4 (by decide) (fun h1 => ?_) (fun h1 => ?_)
  · have hf := ip h1 hf
    refine x_ldc (v := (-1000000002 : Int32)) B q_1254 dX12_back_7 ?_
    obtain ⟨rfl, rfl⟩ := rt2 hf
    exact x_iret B dX12_back_9
  · have hf := iq h1 hf
    refine x_aload_n B dX12_back_10 rfl (lv_at hl 0 rfl) ?_
    refine y_getMr (C := RX12) (T := TX12) (NN := 34) (d := 1) (k2 := 109) B aM_107 inX12 rfl (j := 1) (by decide) q_1113 rfl rfl rfl dX12_back_11 ?_
    refine x_aload_n B dX12_back_14 rfl (lv_at hl 0 rfl) ?_
    refine y_getMr (C := RX12) (T := TX12) (NN := 34) (d := 0) (k2 := 108) B aM_107 inX12 rfl (j := 0) (by decide) q_1112 rfl rfl rfl dX12_back_15 ?_
    obtain ⟨f3, c2, hf⟩ := bn_some hf
    refine x_callS0 (rest := []) B (kX12_copyAll aM_109 aM_108 c2) ⟨rfl, rfl⟩ q_1599 q_1600 (by rw [hR]; exact cw_X12_back_X12_copyAll) rfl rfl hl.1 (Nat.le_of_ble_eq_true rfl) dX12_back_18 ⟨Nat.zero_le _, Nat.zero_le _⟩ ?_
    refine x_aload_n B dX12_back_21 rfl (lv_at hl 0 rfl) ?_
    refine y_getMr (C := RX12) (T := TX12) (NN := 34) (d := 0) (k2 := 108) B aM_107 inX12 rfl (j := 0) (by decide) q_1112 rfl rfl rfl dX12_back_22 ?_
    refine x_iconst (v := (nI 1)) B dX12_back_25 (by decide) ?_
    refine x_ialdM B aM_108 (by decide) dX12_back_26 ?_
    obtain ⟨rfl, rfl⟩ := rt2 hf
    exact x_iret B dX12_back_27
def rmX12_sumOf : Room := { frames := 0, cells := 0, slots := 0, locals := 0 }
def fX12_sumOf_47 (n : Nat)  (k5 : Int32 → Int32 → Int32 → Int32 → Mm → Option (Int32)) (x1 : Int32) (x2 : Int32) (x4 : Int32) (s0 : Int32) (s1 : Int32) (m : Mm) : Option (Int32) :=
  k5 x1 x2 (s1 + s0) (x4 + (nI 1)) m
set_option maxHeartbeats 4000000 in
set_option maxRecDepth 100000 in
theorem fX12_sumOf_47_ok {V : VE} {G : GE} {N : Nat} {f m : Mm} {n : Nat} {ls : Array Slot} {r : Int32} (B : CX V G cX12_sumOf 5 "FluxWatchModel" (some .int)) (hR : V.2.2.2.1 = rmX12_sumOf)  {k5 : Int32 → Int32 → Int32 → Int32 → Mm → Option (Int32)} (hk5 : ∀ (x1 : Int32) (x2 : Int32) (x3 : Int32) (x4 : Int32) (mm : Mm) (ls : Array Slot),  lv_has ls 5 [(0, .ref (gz G + 107)), (1, .int x1), (2, .int x2), (3, .int x3), (4, .int x4)] → k5 x1 x2 x3 x4 mm = some r → WX V G N f mm 0 0 (QQ V G (some (.int r)) N f mm 0 0) 5 ls []) {x1 : Int32} {x2 : Int32} {x4 : Int32} {s0 : Int32} {s1 : Int32}  (hl : lv_has ls 5 [(0, .ref (gz G + 107)), (1, .int x1), (2, .int x2), (4, .int x4)]) (hf : fX12_sumOf_47 n  k5 x1 x2 x4 s0 s1 m = some r) : WX V G N f m 0 0 (QQ V G (some (.int r)) N f m 0 0) 47 ls [.int s0, .int s1] := by
  unfold fX12_sumOf_47 at hf
  refine x_iadd B dX12_sumOf_47 ?_
  refine x_istore_n (lv' := [(3, .int (s1 + s0)), (0, .ref (gz G + 107)), (1, .int x1), (2, .int x2), (4, .int x4)]) B dX12_sumOf_48 rfl hl (by decide) rfl (fun ls hl => ?_)
  refine x_iinc (k := 4) (v := (nI 1)) (lv' := [(4, .int (x4 + (nI 1))), (3, .int (s1 + s0)), (0, .ref (gz G + 107)), (1, .int x1), (2, .int x2)]) B dX12_sumOf_49 hl rfl (by decide) (by decide) rfl (fun ls hl => ?_)
  refine x_goto (tgt := 5) B dX12_sumOf_52 (by decide) ?_
  exact hk5 _ _ _ _ _ _ (lv_sub hl [2, 3, 4, 1, 0] rfl) hf
def fX12_sumOf_5 (n : Nat)   (k5 : Int32 → Int32 → Int32 → Int32 → Mm → Option (Int32)) (x1 : Int32) (x2 : Int32) (x3 : Int32) (x4 : Int32) (m : Mm) : Option (Int32) :=
  if (m 108 (nI 12).toNatClampNeg) ≤ x4 then (
  some x3) else (
  if ((shrI x1 x4) &&& (nI 1)) = (nI 1) then (
  gd (ib (((nI 331) + ((nI 2) * x4)) + x2) 1719) <|
  fX12_sumOf_47 n k5 x1 x2 x4 (m 108 (((nI 331) + ((nI 2) * x4)) + x2).toNatClampNeg) x3 m) else (
  fX12_sumOf_47 n k5 x1 x2 x4 (nI 0) x3 m))
def fX12_sumOf_5L (n : Nat)   : Nat → Int32 → Int32 → Int32 → Int32 → Mm → Option (Int32)
  | 0 => fun _ _ _ _ _ => none
  | q + 1 => fX12_sumOf_5 n   (fX12_sumOf_5L n   q)
set_option maxHeartbeats 4000000 in
set_option maxRecDepth 100000 in
theorem fX12_sumOf_5_ok {V : VE} {G : GE} {N : Nat} {f m : Mm} {n : Nat} {ls : Array Slot} {r : Int32} (B : CX V G cX12_sumOf 5 "FluxWatchModel" (some .int)) (hR : V.2.2.2.1 = rmX12_sumOf)   {k5 : Int32 → Int32 → Int32 → Int32 → Mm → Option (Int32)} (hk5 : ∀ (x1 : Int32) (x2 : Int32) (x3 : Int32) (x4 : Int32) (mm : Mm) (ls : Array Slot),  lv_has ls 5 [(0, .ref (gz G + 107)), (1, .int x1), (2, .int x2), (3, .int x3), (4, .int x4)] → k5 x1 x2 x3 x4 mm = some r → WX V G N f mm 0 0 (QQ V G (some (.int r)) N f mm 0 0) 5 ls []) {x1 : Int32} {x2 : Int32} {x3 : Int32} {x4 : Int32}  (hl : lv_has ls 5 [(0, .ref (gz G + 107)), (1, .int x1), (2, .int x2), (3, .int x3), (4, .int x4)]) (hf : fX12_sumOf_5 n  k5 x1 x2 x3 x4 m = some r) : WX V G N f m 0 0 (QQ V G (some (.int r)) N f m 0 0) 5 ls [] := by
  unfold fX12_sumOf_5 at hf
  refine x_iload B dX12_sumOf_5 (lv_at hl 4 rfl) ?_
  refine x_aload_n B dX12_sumOf_7 rfl (lv_at hl 0 rfl) ?_
  refine y_getMr (C := RX12) (T := TX12) (NN := 34) (d := 0) (k2 := 108) B aM_107 inX12 rfl (j := 0) (by decide) q_1112 rfl rfl rfl dX12_sumOf_8 ?_
  refine x_bipush (v := (nI 12)) B dX12_sumOf_11 (by decide) ?_
  refine x_ialdM B aM_108 (by decide) dX12_sumOf_13 ?_
  refine x_icmp_ge (tgt := 55) B dX12_sumOf_14 (by decide) (fun h1 => ?_) (fun h1 => ?_)
  · have hf := ip h1 hf
    refine x_iload_n B dX12_sumOf_55 rfl (lv_at hl 3 rfl) ?_
    obtain rfl := rt1 hf
    exact x_iret B dX12_sumOf_56
  · have hf := iq h1 hf
    refine x_iload_n B dX12_sumOf_17 rfl (lv_at hl 3 rfl) ?_
    refine x_iload_n B dX12_sumOf_18 rfl (lv_at hl 1 rfl) ?_
    refine x_iload B dX12_sumOf_19 (lv_at hl 4 rfl) ?_
    refine y_ishr B dX12_sumOf_21 ?_
    refine x_iconst (v := (nI 1)) B dX12_sumOf_22 (by decide) ?_
    refine x_iand B dX12_sumOf_23 ?_
    refine x_iconst (v := (nI 1)) B dX12_sumOf_24 (by decide) ?_
    refine x_icmp_ne (tgt := 46) B dX12_sumOf_25 (by decide) (fun h2 => ?_) (fun h2 => ?_)
    · have hf := ip h2 hf
      refine x_aload_n B dX12_sumOf_28 rfl (lv_at hl 0 rfl) ?_
      refine y_getMr (C := RX12) (T := TX12) (NN := 34) (d := 0) (k2 := 108) B aM_107 inX12 rfl (j := 0) (by decide) q_1112 rfl rfl rfl dX12_sumOf_29 ?_
      refine x_sipush (v := (nI 331)) B dX12_sumOf_32 (by decide) ?_
      refine x_iconst (v := (nI 2)) B dX12_sumOf_35 (by decide) ?_
      refine x_iload B dX12_sumOf_36 (lv_at hl 4 rfl) ?_
      refine x_imul B dX12_sumOf_38 ?_
      refine x_iadd B dX12_sumOf_39 ?_
      refine x_iload_n B dX12_sumOf_40 rfl (lv_at hl 2 rfl) ?_
      refine x_iadd B dX12_sumOf_41 ?_
      obtain ⟨h3, hf⟩ := gd_some hf
      refine x_ialdM B aM_108 h3 dX12_sumOf_42 ?_
      refine x_goto (tgt := 47) B dX12_sumOf_43 (by decide) ?_
      exact fX12_sumOf_47_ok B hR hk5 (lv_sub hl [0, 1, 2, 4] rfl) hf
    · have hf := iq h2 hf
      refine x_iconst (v := (nI 0)) B dX12_sumOf_46 (by decide) ?_
      exact fX12_sumOf_47_ok B hR hk5 (lv_sub hl [0, 1, 2, 4] rfl) hf
set_option maxHeartbeats 4000000 in
set_option maxRecDepth 100000 in
theorem fX12_sumOf_5L_ok {V : VE} {G : GE} {N : Nat} {f : Mm} {n : Nat}  {r : Int32} (B : CX V G cX12_sumOf 5 "FluxWatchModel" (some .int)) (hR : V.2.2.2.1 = rmX12_sumOf)   : ∀ (q : Nat) (x1 : Int32) (x2 : Int32) (x3 : Int32) (x4 : Int32) (mm : Mm) (ls : Array Slot),  lv_has ls 5 [(0, .ref (gz G + 107)), (1, .int x1), (2, .int x2), (3, .int x3), (4, .int x4)] → fX12_sumOf_5L n  q x1 x2 x3 x4 mm = some r → WX V G N f mm 0 0 (QQ V G (some (.int r)) N f mm 0 0) 5 ls [] := by
  intro q
  induction q with
  | zero =>
    intro x1 x2 x3 x4 mm ls hl hf
    cases hf
  | succ q ih =>
    intro x1 x2 x3 x4 mm ls hl hf
    exact fX12_sumOf_5_ok B hR   ih  hl hf
def fX12_sumOf (n : Nat) (a1 : Int32) (a2 : Int32) (m : Mm) : Option (Int32) :=
  fX12_sumOf_5L n n a1 a2 (nI 0) (nI 0) m
set_option maxHeartbeats 4000000 in
set_option maxRecDepth 100000 in
theorem kX12_sumOf {l : Launch} {G : GE} {N : Nat} {f m : Mm} {n : Nat} {a1 : Int32} {a2 : Int32} {r : Int32}  (hf : fX12_sumOf n a1 a2 m = some r) : MT l G yX12_sumOf cX12_sumOf 5 (some .int) rmX12_sumOf [.ref (gz G + 107), .int a1, .int a2] N f m (some (.int r)) N f m := by
  unfold fX12_sumOf at hf
  refine MT.of (by decide) (Nat.le_of_ble_eq_true rfl) (fun V ls hV hR B hl => ?_)
  have B : CX V G cX12_sumOf 5 "FluxWatchModel" (some .int) := B
  have hl : lv_has ls 5 [(0, .ref (gz G + 107)), (1, .int a1), (2, .int a2)] := hl
  show WX V G N f m 0 0 (QQ V G (some (.int r)) N f m 0 0) 0 ls []
  refine x_iconst (v := (nI 0)) B dX12_sumOf_0 (by decide) ?_
  refine x_istore_n (lv' := [(3, .int (nI 0)), (0, .ref (gz G + 107)), (1, .int a1), (2, .int a2)]) B dX12_sumOf_1 rfl hl (by decide) rfl (fun ls hl => ?_)
  refine x_iconst (v := (nI 0)) B dX12_sumOf_2 (by decide) ?_
  refine x_istore (lv' := [(4, .int (nI 0)), (3, .int (nI 0)), (0, .ref (gz G + 107)), (1, .int a1), (2, .int a2)]) B dX12_sumOf_3 hl (by decide) rfl (fun ls hl => ?_)
  exact fX12_sumOf_5L_ok B hR  n _ _ _ _ _ _ (lv_sub hl [2, 3, 4, 1, 0] rfl) hf
def rmX12_best : Room := { frames := 1, cells := 0, slots := 0, locals := 24 }
set_option maxHeartbeats 4000000 in
set_option maxRecDepth 100000 in
theorem cw_X12_best_X12_in : cwB rmX12_best rmX12_in yX12_in cX12_in 3 (some .boolean) 3 := ⟨q_1222, q_57, by decide, by decide⟩
set_option maxHeartbeats 4000000 in
set_option maxRecDepth 100000 in
theorem cw_X12_best_X12_sumOf : cwB rmX12_best rmX12_sumOf yX12_sumOf cX12_sumOf 5 (some .int) 2 := ⟨q_1535, q_57, by decide, by decide⟩
def fX12_best_102 (n : Nat)  (k28 : Int32 → Int32 → Int32 → Int32 → Mm → Option (Int32)) (x1 : Int32) (x2 : Int32) (x3 : Int32) (x4 : Int32) (m : Mm) : Option (Int32) :=
  k28 x1 x2 x3 (x4 + (nI 1)) m
set_option maxHeartbeats 4000000 in
set_option maxRecDepth 100000 in
theorem fX12_best_102_ok {V : VE} {G : GE} {N : Nat} {f m : Mm} {n : Nat} {ls : Array Slot} {r : Int32} (B : CX V G cX12_best 6 "FluxWatchModel" (some .int)) (hR : V.2.2.2.1 = rmX12_best)  {k28 : Int32 → Int32 → Int32 → Int32 → Mm → Option (Int32)} (hk28 : ∀ (x1 : Int32) (x2 : Int32) (x3 : Int32) (x4 : Int32) (mm : Mm) (ls : Array Slot),  lv_has ls 6 [(0, .ref (gz G + 107)), (1, .int x1), (2, .int x2), (3, .int x3), (4, .int x4)] → k28 x1 x2 x3 x4 mm = some r → WX V G N f mm 0 0 (QQ V G (some (.int r)) N f mm 0 0) 28 ls []) {x1 : Int32} {x2 : Int32} {x3 : Int32} {x4 : Int32}  (hl : lv_has ls 6 [(0, .ref (gz G + 107)), (1, .int x1), (2, .int x2), (3, .int x3), (4, .int x4)]) (hf : fX12_best_102 n  k28 x1 x2 x3 x4 m = some r) : WX V G N f m 0 0 (QQ V G (some (.int r)) N f m 0 0) 102 ls [] := by
  unfold fX12_best_102 at hf
  refine x_iinc (k := 4) (v := (nI 1)) (lv' := [(4, .int (x4 + (nI 1))), (0, .ref (gz G + 107)), (1, .int x1), (2, .int x2), (3, .int x3)]) B dX12_best_102 hl rfl (by decide) (by decide) rfl (fun ls hl => ?_)
  refine x_goto (tgt := 28) B dX12_best_105 (by decide) ?_
  exact hk28 _ _ _ _ _ _ (lv_sub hl [1, 2, 3, 4, 0] rfl) hf
def fX12_best_101 (n : Nat)  (k28 : Int32 → Int32 → Int32 → Int32 → Mm → Option (Int32)) (x1 : Int32) (x2 : Int32) (x4 : Int32) (s0 : Int32) (m : Mm) : Option (Int32) :=
  fX12_best_102 n k28 x1 x2 s0 x4 m
set_option maxHeartbeats 4000000 in
set_option maxRecDepth 100000 in
theorem fX12_best_101_ok {V : VE} {G : GE} {N : Nat} {f m : Mm} {n : Nat} {ls : Array Slot} {r : Int32} (B : CX V G cX12_best 6 "FluxWatchModel" (some .int)) (hR : V.2.2.2.1 = rmX12_best)  {k28 : Int32 → Int32 → Int32 → Int32 → Mm → Option (Int32)} (hk28 : ∀ (x1 : Int32) (x2 : Int32) (x3 : Int32) (x4 : Int32) (mm : Mm) (ls : Array Slot),  lv_has ls 6 [(0, .ref (gz G + 107)), (1, .int x1), (2, .int x2), (3, .int x3), (4, .int x4)] → k28 x1 x2 x3 x4 mm = some r → WX V G N f mm 0 0 (QQ V G (some (.int r)) N f mm 0 0) 28 ls []) {x1 : Int32} {x2 : Int32} {x4 : Int32} {s0 : Int32}  (hl : lv_has ls 6 [(0, .ref (gz G + 107)), (1, .int x1), (2, .int x2), (4, .int x4)]) (hf : fX12_best_101 n  k28 x1 x2 x4 s0 m = some r) : WX V G N f m 0 0 (QQ V G (some (.int r)) N f m 0 0) 101 ls [.int s0] := by
  unfold fX12_best_101 at hf
  refine x_istore_n (lv' := [(3, .int s0), (0, .ref (gz G + 107)), (1, .int x1), (2, .int x2), (4, .int x4)]) B dX12_best_101 rfl hl (by decide) rfl (fun ls hl => ?_)
  exact fX12_best_102_ok B hR hk28 (lv_sub hl [1, 2, 3, 0, 4] rfl) hf
def fX12_best_95 (n : Nat)  (k28 : Int32 → Int32 → Int32 → Int32 → Mm → Option (Int32)) (x1 : Int32) (x2 : Int32) (x4 : Int32) (m : Mm) : Option (Int32) :=
  fX12_best_101 n k28 x1 x2 x4 x4 m
set_option maxHeartbeats 4000000 in
set_option maxRecDepth 100000 in
theorem fX12_best_95_ok {V : VE} {G : GE} {N : Nat} {f m : Mm} {n : Nat} {ls : Array Slot} {r : Int32} (B : CX V G cX12_best 6 "FluxWatchModel" (some .int)) (hR : V.2.2.2.1 = rmX12_best)  {k28 : Int32 → Int32 → Int32 → Int32 → Mm → Option (Int32)} (hk28 : ∀ (x1 : Int32) (x2 : Int32) (x3 : Int32) (x4 : Int32) (mm : Mm) (ls : Array Slot),  lv_has ls 6 [(0, .ref (gz G + 107)), (1, .int x1), (2, .int x2), (3, .int x3), (4, .int x4)] → k28 x1 x2 x3 x4 mm = some r → WX V G N f mm 0 0 (QQ V G (some (.int r)) N f mm 0 0) 28 ls []) {x1 : Int32} {x2 : Int32} {x4 : Int32}  (hl : lv_has ls 6 [(0, .ref (gz G + 107)), (1, .int x1), (2, .int x2), (4, .int x4)]) (hf : fX12_best_95 n  k28 x1 x2 x4 m = some r) : WX V G N f m 0 0 (QQ V G (some (.int r)) N f m 0 0) 95 ls [] := by
  unfold fX12_best_95 at hf
  refine x_iload B dX12_best_95 (lv_at hl 3 rfl) ?_
  refine x_goto (tgt := 101) B dX12_best_97 (by decide) ?_
  exact fX12_best_101_ok B hR hk28 hl hf
def fX12_best_100 (n : Nat)  (k28 : Int32 → Int32 → Int32 → Int32 → Mm → Option (Int32)) (x1 : Int32) (x2 : Int32) (x3 : Int32) (x4 : Int32) (m : Mm) : Option (Int32) :=
  fX12_best_101 n k28 x1 x2 x4 x3 m
set_option maxHeartbeats 4000000 in
set_option maxRecDepth 100000 in
theorem fX12_best_100_ok {V : VE} {G : GE} {N : Nat} {f m : Mm} {n : Nat} {ls : Array Slot} {r : Int32} (B : CX V G cX12_best 6 "FluxWatchModel" (some .int)) (hR : V.2.2.2.1 = rmX12_best)  {k28 : Int32 → Int32 → Int32 → Int32 → Mm → Option (Int32)} (hk28 : ∀ (x1 : Int32) (x2 : Int32) (x3 : Int32) (x4 : Int32) (mm : Mm) (ls : Array Slot),  lv_has ls 6 [(0, .ref (gz G + 107)), (1, .int x1), (2, .int x2), (3, .int x3), (4, .int x4)] → k28 x1 x2 x3 x4 mm = some r → WX V G N f mm 0 0 (QQ V G (some (.int r)) N f mm 0 0) 28 ls []) {x1 : Int32} {x2 : Int32} {x3 : Int32} {x4 : Int32}  (hl : lv_has ls 6 [(0, .ref (gz G + 107)), (1, .int x1), (2, .int x2), (3, .int x3), (4, .int x4)]) (hf : fX12_best_100 n  k28 x1 x2 x3 x4 m = some r) : WX V G N f m 0 0 (QQ V G (some (.int r)) N f m 0 0) 100 ls [] := by
  unfold fX12_best_100 at hf
  refine x_iload_n B dX12_best_100 rfl (lv_at hl 3 rfl) ?_
  exact fX12_best_101_ok B hR hk28 (lv_sub hl [0, 1, 2, 4] rfl) hf
def fX12_best_28 (n : Nat)   (k28 : Int32 → Int32 → Int32 → Int32 → Mm → Option (Int32)) (x1 : Int32) (x2 : Int32) (x3 : Int32) (x4 : Int32) (m : Mm) : Option (Int32) :=
  if (shlI (nI 1) (m 108 (nI 12).toNatClampNeg)) ≤ x4 then (
  if x2 = 0 then (
  some x3) else (
  bn (fX12_sumOf n x3 (x2 - (nI 1)) m) fun r10 =>
  some r10)) else (
  bn (fX12_sumOf n x4 (nI 1) m) fun r12 =>
  if x1 < r12 then (
  fX12_best_102 n k28 x1 x2 x3 x4 m) else (
  bn (fX12_sumOf n x4 (nI 0) m) fun r15 =>
  bn (fX12_sumOf n x3 (nI 0) m) fun r17 =>
  if 0 < (r15 - r17) then (
  fX12_best_95 n k28 x1 x2 x4 m) else (
  if (r15 - r17) = 0 then (
  bn (fX12_sumOf n x4 (nI 1) m) fun r21 =>
  bn (fX12_sumOf n x3 (nI 1) m) fun r23 =>
  if r23 ≤ r21 then (
  fX12_best_100 n k28 x1 x2 x3 x4 m) else (
  fX12_best_95 n k28 x1 x2 x4 m)) else (
  fX12_best_100 n k28 x1 x2 x3 x4 m))))
def fX12_best_28L (n : Nat)   : Nat → Int32 → Int32 → Int32 → Int32 → Mm → Option (Int32)
  | 0 => fun _ _ _ _ _ => none
  | q + 1 => fX12_best_28 n   (fX12_best_28L n   q)
set_option maxHeartbeats 4000000 in
set_option maxRecDepth 100000 in
theorem fX12_best_28_ok {V : VE} {G : GE} {N : Nat} {f m : Mm} {n : Nat} {ls : Array Slot} {r : Int32} (B : CX V G cX12_best 6 "FluxWatchModel" (some .int)) (hR : V.2.2.2.1 = rmX12_best)   {k28 : Int32 → Int32 → Int32 → Int32 → Mm → Option (Int32)} (hk28 : ∀ (x1 : Int32) (x2 : Int32) (x3 : Int32) (x4 : Int32) (mm : Mm) (ls : Array Slot),  lv_has ls 6 [(0, .ref (gz G + 107)), (1, .int x1), (2, .int x2), (3, .int x3), (4, .int x4)] → k28 x1 x2 x3 x4 mm = some r → WX V G N f mm 0 0 (QQ V G (some (.int r)) N f mm 0 0) 28 ls []) {x1 : Int32} {x2 : Int32} {x3 : Int32} {x4 : Int32}  (hl : lv_has ls 6 [(0, .ref (gz G + 107)), (1, .int x1), (2, .int x2), (3, .int x3), (4, .int x4)]) (hf : fX12_best_28 n  k28 x1 x2 x3 x4 m = some r) : WX V G N f m 0 0 (QQ V G (some (.int r)) N f m 0 0) 28 ls [] := by
  unfold fX12_best_28 at hf
  refine x_iload B dX12_best_28 (lv_at hl 4 rfl) ?_
  refine x_iconst (v := (nI 1)) B dX12_best_30 (by decide) ?_
  refine x_aload_n B dX12_best_31 rfl (lv_at hl 0 rfl) ?_
  refine y_getMr (C := RX12) (T := TX12) (NN := 34) (d := 0) (k2 := 108) B aM_107 inX12 rfl (j := 0) (by decide) q_1112 rfl rfl rfl dX12_best_32 ?_
  refine x_bipush (v := (nI 12)) B dX12_best_35 (by decide) ?_
  refine x_ialdM B aM_108 (by decide) dX12_best_37 ?_
  refine y_ishl B dX12_best_38 ?_
  refine x_icmp_ge (tgt := 108) B dX12_best_39 (by decide) (fun h7 => ?_) (fun h7 => ?_)
  · have hf := ip h7 hf
    refine x_iload_n B dX12_best_108 rfl (lv_at hl 2 rfl) ?_
    refine x_if_ne (tgt := 116) B dX12_best_109 (by decide) (fun h8 => ?_) (fun h8 => ?_)
    · have hf := ip h8 hf
      refine x_iload_n B dX12_best_112 rfl (lv_at hl 3 rfl) ?_
      refine x_goto (tgt := 124) B dX12_best_113 (by decide) ?_
      obtain rfl := rt1 hf
      exact x_iret B dX12_best_124
    · have hf := iq h8 hf
      refine x_aload_n B dX12_best_116 rfl (lv_at hl 0 rfl) ?_
      refine x_iload_n B dX12_best_117 rfl (lv_at hl 3 rfl) ?_
      refine x_iload_n B dX12_best_118 rfl (lv_at hl 2 rfl) ?_
      refine x_iconst (v := (nI 1)) B dX12_best_119 (by decide) ?_
      refine x_isub B dX12_best_120 ?_
      obtain ⟨r10, c9, hf⟩ := bn_some hf
      refine x_callV0 (rest := []) B (kX12_sumOf c9) ⟨rfl, rfl⟩ aM_107.lt aM_107.2 rfl (by decide) q_1532 q_1534 q_41 (by rw [hR]; exact cw_X12_best_X12_sumOf) rfl rfl hl.1 (Nat.le_of_ble_eq_true rfl) dX12_best_121 ⟨Nat.zero_le _, Nat.zero_le _⟩ ?_
      obtain rfl := rt1 hf
      exact x_iret B dX12_best_124
  · have hf := iq h7 hf
    refine x_aload_n B dX12_best_42 rfl (lv_at hl 0 rfl) ?_
    refine x_iload B dX12_best_43 (lv_at hl 4 rfl) ?_
    refine x_iconst (v := (nI 1)) B dX12_best_45 (by decide) ?_
    obtain ⟨r12, c11, hf⟩ := bn_some hf
    refine x_callV0 (rest := []) B (kX12_sumOf c11) ⟨rfl, rfl⟩ aM_107.lt aM_107.2 rfl (by decide) q_1532 q_1534 q_41 (by rw [hR]; exact cw_X12_best_X12_sumOf) rfl rfl hl.1 (Nat.le_of_ble_eq_true rfl) dX12_best_46 ⟨Nat.zero_le _, Nat.zero_le _⟩ ?_
    refine x_iload_n B dX12_best_49 rfl (lv_at hl 1 rfl) ?_
    refine x_icmp_gt (tgt := 102) B dX12_best_50 (by decide) (fun h13 => ?_) (fun h13 => ?_)
    · have hf := ip h13 hf
      exact fX12_best_102_ok B hR hk28 hl hf
    · have hf := iq h13 hf
      refine x_aload_n B dX12_best_53 rfl (lv_at hl 0 rfl) ?_
      refine x_iload B dX12_best_54 (lv_at hl 4 rfl) ?_
      refine x_iconst (v := (nI 0)) B dX12_best_56 (by decide) ?_
      obtain ⟨r15, c14, hf⟩ := bn_some hf
      refine x_callV0 (rest := []) B (kX12_sumOf c14) ⟨rfl, rfl⟩ aM_107.lt aM_107.2 rfl (by decide) q_1532 q_1534 q_41 (by rw [hR]; exact cw_X12_best_X12_sumOf) rfl rfl hl.1 (Nat.le_of_ble_eq_true rfl) dX12_best_57 ⟨Nat.zero_le _, Nat.zero_le _⟩ ?_
      refine x_aload_n B dX12_best_60 rfl (lv_at hl 0 rfl) ?_
      refine x_iload_n B dX12_best_61 rfl (lv_at hl 3 rfl) ?_
      refine x_iconst (v := (nI 0)) B dX12_best_62 (by decide) ?_
      obtain ⟨r17, c16, hf⟩ := bn_some hf
      refine x_callV0 (rest := [.int r15]) B (kX12_sumOf c16) ⟨rfl, rfl⟩ aM_107.lt aM_107.2 rfl (by decide) q_1532 q_1534 q_41 (by rw [hR]; exact cw_X12_best_X12_sumOf) rfl rfl hl.1 (Nat.le_of_ble_eq_true rfl) dX12_best_63 ⟨Nat.zero_le _, Nat.zero_le _⟩ ?_
      refine x_isub B dX12_best_66 ?_
      refine x_istore (lv' := [(5, .int (r15 - r17)), (0, .ref (gz G + 107)), (1, .int x1), (2, .int x2), (3, .int x3), (4, .int x4)]) B dX12_best_67 hl (by decide) rfl (fun ls hl => ?_)
      refine x_iload B dX12_best_69 (lv_at hl 0 rfl) ?_
      refine x_if_gt (tgt := 95) B dX12_best_71 (by decide) (fun h18 => ?_) (fun h18 => ?_)
      · have hf := ip h18 hf
        exact fX12_best_95_ok B hR hk28 (lv_sub hl [1, 2, 3, 5] rfl) hf
      · have hf := iq h18 hf
        refine x_iload B dX12_best_74 (lv_at hl 0 rfl) ?_
        refine x_if_ne (tgt := 100) B dX12_best_76 (by decide) (fun h19 => ?_) (fun h19 => ?_)
        · have hf := ip h19 hf
          refine x_aload_n B dX12_best_79 rfl (lv_at hl 1 rfl) ?_
          refine x_iload B dX12_best_80 (lv_at hl 5 rfl) ?_
          refine x_iconst (v := (nI 1)) B dX12_best_82 (by decide) ?_
          obtain ⟨r21, c20, hf⟩ := bn_some hf
          refine x_callV0 (rest := []) B (kX12_sumOf c20) ⟨rfl, rfl⟩ aM_107.lt aM_107.2 rfl (by decide) q_1532 q_1534 q_41 (by rw [hR]; exact cw_X12_best_X12_sumOf) rfl rfl hl.1 (Nat.le_of_ble_eq_true rfl) dX12_best_83 ⟨Nat.zero_le _, Nat.zero_le _⟩ ?_
          refine x_aload_n B dX12_best_86 rfl (lv_at hl 1 rfl) ?_
          refine x_iload_n B dX12_best_87 rfl (lv_at hl 4 rfl) ?_
          refine x_iconst (v := (nI 1)) B dX12_best_88 (by decide) ?_
          obtain ⟨r23, c22, hf⟩ := bn_some hf
          refine x_callV0 (rest := [.int r21]) B (kX12_sumOf c22) ⟨rfl, rfl⟩ aM_107.lt aM_107.2 rfl (by decide) q_1532 q_1534 q_41 (by rw [hR]; exact cw_X12_best_X12_sumOf) rfl rfl hl.1 (Nat.le_of_ble_eq_true rfl) dX12_best_89 ⟨Nat.zero_le _, Nat.zero_le _⟩ ?_
          refine x_icmp_ge (tgt := 100) B dX12_best_92 (by decide) (fun h24 => ?_) (fun h24 => ?_)
          · have hf := ip h24 hf
            exact fX12_best_100_ok B hR hk28 (lv_sub hl [1, 2, 3, 4, 5] rfl) hf
          · have hf := iq h24 hf
            exact fX12_best_95_ok B hR hk28 (lv_sub hl [1, 2, 3, 5] rfl) hf
        · have hf := iq h19 hf
          exact fX12_best_100_ok B hR hk28 (lv_sub hl [1, 2, 3, 4, 5] rfl) hf
set_option maxHeartbeats 4000000 in
set_option maxRecDepth 100000 in
theorem fX12_best_28L_ok {V : VE} {G : GE} {N : Nat} {f : Mm} {n : Nat}  {r : Int32} (B : CX V G cX12_best 6 "FluxWatchModel" (some .int)) (hR : V.2.2.2.1 = rmX12_best)   : ∀ (q : Nat) (x1 : Int32) (x2 : Int32) (x3 : Int32) (x4 : Int32) (mm : Mm) (ls : Array Slot),  lv_has ls 6 [(0, .ref (gz G + 107)), (1, .int x1), (2, .int x2), (3, .int x3), (4, .int x4)] → fX12_best_28L n  q x1 x2 x3 x4 mm = some r → WX V G N f mm 0 0 (QQ V G (some (.int r)) N f mm 0 0) 28 ls [] := by
  intro q
  induction q with
  | zero =>
    intro x1 x2 x3 x4 mm ls hl hf
    cases hf
  | succ q ih =>
    intro x1 x2 x3 x4 mm ls hl hf
    exact fX12_best_28_ok B hR   ih  hl hf
def fX12_best (n : Nat) (a1 : Int32) (a2 : Int32) (m : Mm) : Option (Int32) :=
  bn (fX12_in n a1 (nI 0) (nI 9999)) fun r2 =>
  if r2 = 0 then (
  some (-1000000001 : Int32)) else (
  bn (fX12_in n a2 (nI 0) (nI 2)) fun r5 =>
  if r5 = 0 then (
  some (-1000000001 : Int32)) else (
  fX12_best_28L n n a1 a2 (nI 0) (nI 1) m))
set_option maxHeartbeats 4000000 in
set_option maxRecDepth 100000 in
theorem kX12_best {l : Launch} {G : GE} {N : Nat} {f m : Mm} {n : Nat} {a1 : Int32} {a2 : Int32} {r : Int32}  (hf : fX12_best n a1 a2 m = some r) : MT l G yX12_best cX12_best 6 (some .int) rmX12_best [.ref (gz G + 107), .int a1, .int a2] N f m (some (.int r)) N f m := by
  unfold fX12_best at hf
  refine MT.of (by decide) (Nat.le_of_ble_eq_true rfl) (fun V ls hV hR B hl => ?_)
  have B : CX V G cX12_best 6 "FluxWatchModel" (some .int) := B
  have hl : lv_has ls 6 [(0, .ref (gz G + 107)), (1, .int a1), (2, .int a2)] := hl
  show WX V G N f m 0 0 (QQ V G (some (.int r)) N f m 0 0) 0 ls []
  refine x_iload_n B dX12_best_0 rfl (lv_at hl 1 rfl) ?_
  refine x_iconst (v := (nI 0)) B dX12_best_1 (by decide) ?_
  refine x_sipush (v := (nI 9999)) B dX12_best_2 (by decide) ?_
  obtain ⟨r2, c1, hf⟩ := bn_some hf
  refine x_callS0 (rest := []) B (kX12_in c1) ⟨rfl, rfl⟩ q_1220 q_1221 (by rw [hR]; exact cw_X12_best_X12_in) rfl rfl hl.1 (Nat.le_of_ble_eq_true rfl) dX12_best_5 ⟨Nat.zero_le _, Nat.zero_le _⟩ ?_
  refine x_if_eq (tgt := 20) B dX12_best_8 (by decide) (fun h3 => ?_) (fun h3 => ?_)
  · have hf := ip h3 hf
    refine x_ldc (v := (-1000000001 : Int32)) B q_1223 dX12_best_20 ?_
    obtain rfl := rt1 hf
    exact x_iret B dX12_best_22
  · have hf := iq h3 hf
    refine x_iload_n B dX12_best_11 rfl (lv_at hl 2 rfl) ?_
    refine x_iconst (v := (nI 0)) B dX12_best_12 (by decide) ?_
    refine x_iconst (v := (nI 2)) B dX12_best_13 (by decide) ?_
    obtain ⟨r5, c4, hf⟩ := bn_some hf
    refine x_callS0 (rest := []) B (kX12_in c4) ⟨rfl, rfl⟩ q_1220 q_1221 (by rw [hR]; exact cw_X12_best_X12_in) rfl rfl hl.1 (Nat.le_of_ble_eq_true rfl) dX12_best_14 ⟨Nat.zero_le _, Nat.zero_le _⟩ ?_
    refine x_if_ne (tgt := 23) B dX12_best_17 (by decide) (fun h6 => ?_) (fun h6 => ?_)
    · have hf := ip h6 hf
      refine x_ldc (v := (-1000000001 : Int32)) B q_1223 dX12_best_20 ?_
      obtain rfl := rt1 hf
      exact x_iret B dX12_best_22
    · have hf := iq h6 hf
      refine x_iconst (v := (nI 0)) B dX12_best_23 (by decide) ?_
      refine x_istore_n (lv' := [(3, .int (nI 0)), (0, .ref (gz G + 107)), (1, .int a1), (2, .int a2)]) B dX12_best_24 rfl hl (by decide) rfl (fun ls hl => ?_)
      refine x_iconst (v := (nI 1)) B dX12_best_25 (by decide) ?_
      refine x_istore (lv' := [(4, .int (nI 1)), (3, .int (nI 0)), (0, .ref (gz G + 107)), (1, .int a1), (2, .int a2)]) B dX12_best_26 hl (by decide) rfl (fun ls hl => ?_)
      exact fX12_best_28L_ok B hR  n _ _ _ _ _ _ (lv_sub hl [2, 3, 4, 1, 0] rfl) hf
def rmX12_beyond : Room := { frames := 3, cells := 0, slots := 0, locals := 70 }
set_option maxHeartbeats 4000000 in
set_option maxRecDepth 100000 in
theorem cw_X12_beyond_X12_counts : cwB rmX12_beyond rmX12_counts yX12_counts cX12_counts 3 (some .int) 1 := ⟨q_1359, q_57, by decide, by decide⟩
set_option maxHeartbeats 4000000 in
set_option maxRecDepth 100000 in
theorem cw_X12_beyond_X12_rateBy : cwB rmX12_beyond rmX12_rateBy yX12_rateBy cX12_rateBy 4 (some .int) 2 := ⟨q_1355, q_57, by decide, by decide⟩
set_option maxHeartbeats 4000000 in
set_option maxRecDepth 100000 in
theorem cw_X12_beyond_X12_seenOn : cwB rmX12_beyond rmX12_seenOn yX12_seenOn cX12_seenOn 4 (some .int) 1 := ⟨q_1276, q_57, by decide, by decide⟩
set_option maxHeartbeats 4000000 in
set_option maxRecDepth 100000 in
theorem cw_X12_beyond_X12_worksOut : cwB rmX12_beyond rmX12_worksOut yX12_worksOut cX12_worksOut 6 (some .int) 1 := ⟨q_1363, q_57, by decide, by decide⟩
def fX12_beyond_13 (n : Nat)   (k13 : Int32 → Int32 → Mm → Option (Int32 × Mm)) (x1 : Int32) (x2 : Int32) (m : Mm) : Option (Int32 × Mm) :=
  if ((m 108 (nI 1).toNatClampNeg) + (nI 200)) ≤ x2 then (
  some ((-1000000005 : Int32), m)) else (
  if x1 < 0 then (
  some ((-1000000005 : Int32), m)) else (
  bn (fX12_seenOn n x2 m) fun r8 =>
  bn2 (fX12_rateBy n r8 x2 m) fun r11 f10 =>
  lt (up f10 118 (nI 0).toNatClampNeg r8) fun f12 =>
  lt (up f12 118 (nI 1).toNatClampNeg x2) fun f14 =>
  bn2 (fX12_worksOut n x1 f14) fun r18 f17 =>
  if r11 ≤ r18 then (
  k13 x1 (x2 + (nI 1)) f17) else (
  some (x2, f17))))
def fX12_beyond_13L (n : Nat)   : Nat → Int32 → Int32 → Mm → Option (Int32 × Mm)
  | 0 => fun _ _ _ => none
  | q + 1 => fX12_beyond_13 n   (fX12_beyond_13L n   q)
set_option maxHeartbeats 4000000 in
set_option maxRecDepth 100000 in
theorem fX12_beyond_13_ok {V : VE} {G : GE} {N : Nat} {f m : Mm} {n : Nat} {ls : Array Slot} {r : Int32} {g : Mm} (B : CX V G cX12_beyond 5 "FluxWatchModel" (some .int)) (hR : V.2.2.2.1 = rmX12_beyond)   {k13 : Int32 → Int32 → Mm → Option (Int32 × Mm)} (hk13 : ∀ (x1 : Int32) (x2 : Int32) (mm : Mm) (ls : Array Slot),  lv_has ls 5 [(0, .ref (gz G + 107)), (1, .int x1), (2, .int x2)] → k13 x1 x2 mm = some (r, g) → WX V G N f mm 0 0 (QQ V G (some (.int r)) N f g 0 0) 13 ls []) {x1 : Int32} {x2 : Int32}  (hl : lv_has ls 5 [(0, .ref (gz G + 107)), (1, .int x1), (2, .int x2)]) (hf : fX12_beyond_13 n  k13 x1 x2 m = some (r, g)) : WX V G N f m 0 0 (QQ V G (some (.int r)) N f g 0 0) 13 ls [] := by
  unfold fX12_beyond_13 at hf
  refine x_iload_n B dX12_beyond_13 rfl (lv_at hl 2 rfl) ?_
  refine x_aload_n B dX12_beyond_14 rfl (lv_at hl 0 rfl) ?_
  refine y_getMr (C := RX12) (T := TX12) (NN := 34) (d := 0) (k2 := 108) B aM_107 inX12 rfl (j := 0) (by decide) q_1112 rfl rfl rfl dX12_beyond_15 ?_
  refine x_iconst (v := (nI 1)) B dX12_beyond_18 (by decide) ?_
  refine x_ialdM B aM_108 (by decide) dX12_beyond_19 ?_
  refine x_sipush (v := (nI 200)) B dX12_beyond_20 (by decide) ?_
  refine x_iadd B dX12_beyond_23 ?_
  refine x_icmp_ge (tgt := 77) B dX12_beyond_24 (by decide) (fun h5 => ?_) (fun h5 => ?_)
  · have hf := ip h5 hf
    refine x_ldc (v := (-1000000005 : Int32)) B q_1237 dX12_beyond_77 ?_
    obtain ⟨rfl, rfl⟩ := rt2 hf
    exact x_iret B dX12_beyond_79
  · have hf := iq h5 hf
    refine x_iload_n B dX12_beyond_27 rfl (lv_at hl 1 rfl) ?_
    refine x_if_lt (tgt := 77) B dX12_beyond_28 (by decide) (fun h6 => ?_) (fun h6 => ?_)
    · have hf := ip h6 hf
      refine x_ldc (v := (-1000000005 : Int32)) B q_1237 dX12_beyond_77 ?_
      obtain ⟨rfl, rfl⟩ := rt2 hf
      exact x_iret B dX12_beyond_79
    · have hf := iq h6 hf
      refine x_aload_n B dX12_beyond_31 rfl (lv_at hl 0 rfl) ?_
      refine x_iload_n B dX12_beyond_32 rfl (lv_at hl 2 rfl) ?_
      obtain ⟨r8, c7, hf⟩ := bn_some hf
      refine x_callV0 (rest := []) B (kX12_seenOn c7) ⟨rfl, rfl⟩ aM_107.lt aM_107.2 rfl (by decide) q_1273 q_1275 q_11 (by rw [hR]; exact cw_X12_beyond_X12_seenOn) rfl rfl hl.1 (Nat.le_of_ble_eq_true rfl) dX12_beyond_33 ⟨Nat.zero_le _, Nat.zero_le _⟩ ?_
      refine x_istore_n (lv' := [(3, .int r8), (0, .ref (gz G + 107)), (1, .int x1), (2, .int x2)]) B dX12_beyond_36 rfl hl (by decide) rfl (fun ls hl => ?_)
      refine x_aload_n B dX12_beyond_37 rfl (lv_at hl 1 rfl) ?_
      refine x_iload_n B dX12_beyond_38 rfl (lv_at hl 0 rfl) ?_
      refine x_iload_n B dX12_beyond_39 rfl (lv_at hl 3 rfl) ?_
      obtain ⟨r11, f10, c9, hf⟩ := bn2_some hf
      refine x_callV0 (rest := []) B (kX12_rateBy c9) ⟨rfl, rfl⟩ aM_107.lt aM_107.2 rfl (by decide) q_1352 q_1354 q_20 (by rw [hR]; exact cw_X12_beyond_X12_rateBy) rfl rfl hl.1 (Nat.le_of_ble_eq_true rfl) dX12_beyond_40 ⟨Nat.zero_le _, Nat.zero_le _⟩ ?_
      refine x_istore (lv' := [(4, .int r11), (3, .int r8), (0, .ref (gz G + 107)), (1, .int x1), (2, .int x2)]) B dX12_beyond_43 hl (by decide) rfl (fun ls hl => ?_)
      refine x_aload_n B dX12_beyond_45 rfl (lv_at hl 2 rfl) ?_
      refine y_getMr (C := RX12) (T := TX12) (NN := 34) (d := 10) (k2 := 118) B aM_107 inX12 rfl (j := 21) (by decide) q_1133 rfl rfl rfl dX12_beyond_46 ?_
      refine x_iconst (v := (nI 0)) B dX12_beyond_49 (by decide) ?_
      refine x_iload_n B dX12_beyond_50 rfl (lv_at hl 1 rfl) ?_
      refine x_iastM B aM_118 (by decide) dX12_beyond_51 (fun f12 e13 => ?_)
      have hf := lt_some hf e13
      refine x_aload_n B dX12_beyond_52 rfl (lv_at hl 2 rfl) ?_
      refine y_getMr (C := RX12) (T := TX12) (NN := 34) (d := 10) (k2 := 118) B aM_107 inX12 rfl (j := 21) (by decide) q_1133 rfl rfl rfl dX12_beyond_53 ?_
      refine x_iconst (v := (nI 1)) B dX12_beyond_56 (by decide) ?_
      refine x_iload_n B dX12_beyond_57 rfl (lv_at hl 4 rfl) ?_
      refine x_iastM B aM_118 (by decide) dX12_beyond_58 (fun f14 e15 => ?_)
      have hf := lt_some hf e15
      refine x_iload B dX12_beyond_59 (lv_at hl 0 rfl) ?_
      refine x_aload_n B dX12_beyond_61 rfl (lv_at hl 2 rfl) ?_
      refine x_iload_n B dX12_beyond_62 rfl (lv_at hl 3 rfl) ?_
      obtain ⟨r18, f17, c16, hf⟩ := bn2_some hf
      refine x_callV0 (rest := [.int r11]) B (kX12_worksOut c16) ⟨rfl, rfl⟩ aM_107.lt aM_107.2 rfl (by decide) q_1360 q_1362 q_22 (by rw [hR]; exact cw_X12_beyond_X12_worksOut) rfl rfl hl.1 (Nat.le_of_ble_eq_true rfl) dX12_beyond_63 ⟨Nat.zero_le _, Nat.zero_le _⟩ ?_
      refine x_icmp_le (tgt := 71) B dX12_beyond_66 (by decide) (fun h19 => ?_) (fun h19 => ?_)
      · have hf := ip h19 hf
        refine x_iinc (k := 4) (v := (nI 1)) (lv' := [(2, .int (x2 + (nI 1))), (4, .int r11), (3, .int r8), (0, .ref (gz G + 107)), (1, .int x1)]) B dX12_beyond_71 hl rfl (by decide) (by decide) rfl (fun ls hl => ?_)
        refine x_goto (tgt := 13) B dX12_beyond_74 (by decide) ?_
        exact hk13 _ _ _ _ (lv_sub hl [3, 4, 0] rfl) hf
      · have hf := iq h19 hf
        refine x_iload_n B dX12_beyond_69 rfl (lv_at hl 4 rfl) ?_
        obtain ⟨rfl, rfl⟩ := rt2 hf
        exact x_iret B dX12_beyond_70
set_option maxHeartbeats 4000000 in
set_option maxRecDepth 100000 in
theorem fX12_beyond_13L_ok {V : VE} {G : GE} {N : Nat} {f : Mm} {n : Nat}  {r : Int32} {g : Mm} (B : CX V G cX12_beyond 5 "FluxWatchModel" (some .int)) (hR : V.2.2.2.1 = rmX12_beyond)   : ∀ (q : Nat) (x1 : Int32) (x2 : Int32) (mm : Mm) (ls : Array Slot),  lv_has ls 5 [(0, .ref (gz G + 107)), (1, .int x1), (2, .int x2)] → fX12_beyond_13L n  q x1 x2 mm = some (r, g) → WX V G N f mm 0 0 (QQ V G (some (.int r)) N f g 0 0) 13 ls [] := by
  intro q
  induction q with
  | zero =>
    intro x1 x2 mm ls hl hf
    cases hf
  | succ q ih =>
    intro x1 x2 mm ls hl hf
    exact fX12_beyond_13_ok B hR   ih  hl hf
def fX12_beyond (n : Nat)  (m : Mm) : Option (Int32 × Mm) :=
  bn (fX12_counts n (nI 2) m) fun r2 =>
  lt (m 108 (nI 1).toNatClampNeg) fun v3 =>
  fX12_beyond_13L n n r2 v3 m
set_option maxHeartbeats 4000000 in
set_option maxRecDepth 100000 in
theorem kX12_beyond {l : Launch} {G : GE} {N : Nat} {f m : Mm} {n : Nat}  {r : Int32} {g : Mm}  (hf : fX12_beyond n m = some (r, g)) : MT l G yX12_beyond cX12_beyond 5 (some .int) rmX12_beyond [.ref (gz G + 107)] N f m (some (.int r)) N f g := by
  unfold fX12_beyond at hf
  refine MT.of (by decide) (Nat.le_of_ble_eq_true rfl) (fun V ls hV hR B hl => ?_)
  have B : CX V G cX12_beyond 5 "FluxWatchModel" (some .int) := B
  have hl : lv_has ls 5 [(0, .ref (gz G + 107))] := hl
  show WX V G N f m 0 0 (QQ V G (some (.int r)) N f g 0 0) 0 ls []
  refine x_aload_n B dX12_beyond_0 rfl (lv_at hl 0 rfl) ?_
  refine x_iconst (v := (nI 2)) B dX12_beyond_1 (by decide) ?_
  obtain ⟨r2, c1, hf⟩ := bn_some hf
  refine x_callV0 (rest := []) B (kX12_counts c1) ⟨rfl, rfl⟩ aM_107.lt aM_107.2 rfl (by decide) q_1356 q_1358 q_21 (by rw [hR]; exact cw_X12_beyond_X12_counts) rfl rfl hl.1 (Nat.le_of_ble_eq_true rfl) dX12_beyond_2 ⟨Nat.zero_le _, Nat.zero_le _⟩ ?_
  refine x_istore_n (lv' := [(1, .int r2), (0, .ref (gz G + 107))]) B dX12_beyond_5 rfl hl (by decide) rfl (fun ls hl => ?_)
  refine x_aload_n B dX12_beyond_6 rfl (lv_at hl 1 rfl) ?_
  refine y_getMr (C := RX12) (T := TX12) (NN := 34) (d := 0) (k2 := 108) B aM_107 inX12 rfl (j := 0) (by decide) q_1112 rfl rfl rfl dX12_beyond_7 ?_
  refine x_iconst (v := (nI 1)) B dX12_beyond_10 (by decide) ?_
  refine x_ialdM B aM_108 (by decide) dX12_beyond_11 ?_
  refine x_nm (fun v3 e4 => ?_)
  have hf := lt_some hf e4
  refine x_istore_n (lv' := [(2, .int v3), (1, .int r2), (0, .ref (gz G + 107))]) B dX12_beyond_12 rfl hl (by decide) rfl (fun ls hl => ?_)
  exact fX12_beyond_13L_ok B hR  n _ _ _ _ (lv_sub hl [2, 1, 0] rfl) hf
def rmX12_fitting : Room := { frames := 2, cells := 0, slots := 0, locals := 44 }
set_option maxHeartbeats 4000000 in
set_option maxRecDepth 100000 in
theorem cw_X12_fitting_X12_isHeight : cwB rmX12_fitting rmX12_isHeight yX12_isHeight cX12_isHeight 3 (some .boolean) 2 := ⟨q_1308, q_57, by decide, by decide⟩
def fX12_fitting_39 (n : Nat)  (k4 : Int32 → Int32 → Int32 → Mm → Option (Int32)) (x1 : Int32) (x3 : Int32) (s0 : Int32) (s1 : Int32) (m : Mm) : Option (Int32) :=
  k4 x1 (s1 + s0) (x3 + (nI 1)) m
set_option maxHeartbeats 4000000 in
set_option maxRecDepth 100000 in
theorem fX12_fitting_39_ok {V : VE} {G : GE} {N : Nat} {f m : Mm} {n : Nat} {ls : Array Slot} {r : Int32} (B : CX V G cX12_fitting 4 "FluxWatchModel" (some .int)) (hR : V.2.2.2.1 = rmX12_fitting)  {k4 : Int32 → Int32 → Int32 → Mm → Option (Int32)} (hk4 : ∀ (x1 : Int32) (x2 : Int32) (x3 : Int32) (mm : Mm) (ls : Array Slot),  lv_has ls 4 [(0, .ref (gz G + 107)), (1, .int x1), (2, .int x2), (3, .int x3)] → k4 x1 x2 x3 mm = some r → WX V G N f mm 0 0 (QQ V G (some (.int r)) N f mm 0 0) 4 ls []) {x1 : Int32} {x3 : Int32} {s0 : Int32} {s1 : Int32}  (hl : lv_has ls 4 [(0, .ref (gz G + 107)), (1, .int x1), (3, .int x3)]) (hf : fX12_fitting_39 n  k4 x1 x3 s0 s1 m = some r) : WX V G N f m 0 0 (QQ V G (some (.int r)) N f m 0 0) 39 ls [.int s0, .int s1] := by
  unfold fX12_fitting_39 at hf
  refine x_iadd B dX12_fitting_39 ?_
  refine x_istore_n (lv' := [(2, .int (s1 + s0)), (0, .ref (gz G + 107)), (1, .int x1), (3, .int x3)]) B dX12_fitting_40 rfl hl (by decide) rfl (fun ls hl => ?_)
  refine x_iinc (k := 3) (v := (nI 1)) (lv' := [(3, .int (x3 + (nI 1))), (2, .int (s1 + s0)), (0, .ref (gz G + 107)), (1, .int x1)]) B dX12_fitting_41 hl rfl (by decide) (by decide) rfl (fun ls hl => ?_)
  refine x_goto (tgt := 4) B dX12_fitting_44 (by decide) ?_
  exact hk4 _ _ _ _ _ (lv_sub hl [2, 3, 1, 0] rfl) hf
def fX12_fitting_4 (n : Nat)   (k4 : Int32 → Int32 → Int32 → Mm → Option (Int32)) (x1 : Int32) (x2 : Int32) (x3 : Int32) (m : Mm) : Option (Int32) :=
  if (m 108 (nI 10).toNatClampNeg) ≤ x3 then (
  some x2) else (
  gd (ib ((nI 251) + x3) 1719) <|
  bn (fX12_isHeight n (m 108 ((nI 251) + x3).toNatClampNeg) x1 m) fun r4 =>
  if r4 = 0 then (
  fX12_fitting_39 n k4 x1 x3 (nI 0) x2 m) else (
  fX12_fitting_39 n k4 x1 x3 (nI 1) x2 m))
def fX12_fitting_4L (n : Nat)   : Nat → Int32 → Int32 → Int32 → Mm → Option (Int32)
  | 0 => fun _ _ _ _ => none
  | q + 1 => fX12_fitting_4 n   (fX12_fitting_4L n   q)
set_option maxHeartbeats 4000000 in
set_option maxRecDepth 100000 in
theorem fX12_fitting_4_ok {V : VE} {G : GE} {N : Nat} {f m : Mm} {n : Nat} {ls : Array Slot} {r : Int32} (B : CX V G cX12_fitting 4 "FluxWatchModel" (some .int)) (hR : V.2.2.2.1 = rmX12_fitting)   {k4 : Int32 → Int32 → Int32 → Mm → Option (Int32)} (hk4 : ∀ (x1 : Int32) (x2 : Int32) (x3 : Int32) (mm : Mm) (ls : Array Slot),  lv_has ls 4 [(0, .ref (gz G + 107)), (1, .int x1), (2, .int x2), (3, .int x3)] → k4 x1 x2 x3 mm = some r → WX V G N f mm 0 0 (QQ V G (some (.int r)) N f mm 0 0) 4 ls []) {x1 : Int32} {x2 : Int32} {x3 : Int32}  (hl : lv_has ls 4 [(0, .ref (gz G + 107)), (1, .int x1), (2, .int x2), (3, .int x3)]) (hf : fX12_fitting_4 n  k4 x1 x2 x3 m = some r) : WX V G N f m 0 0 (QQ V G (some (.int r)) N f m 0 0) 4 ls [] := by
  unfold fX12_fitting_4 at hf
  refine x_iload_n B dX12_fitting_4 rfl (lv_at hl 3 rfl) ?_
  refine x_aload_n B dX12_fitting_5 rfl (lv_at hl 0 rfl) ?_
  refine y_getMr (C := RX12) (T := TX12) (NN := 34) (d := 0) (k2 := 108) B aM_107 inX12 rfl (j := 0) (by decide) q_1112 rfl rfl rfl dX12_fitting_6 ?_
  refine x_bipush (v := (nI 10)) B dX12_fitting_9 (by decide) ?_
  refine x_ialdM B aM_108 (by decide) dX12_fitting_11 ?_
  refine x_icmp_ge (tgt := 47) B dX12_fitting_12 (by decide) (fun h1 => ?_) (fun h1 => ?_)
  · have hf := ip h1 hf
    refine x_iload_n B dX12_fitting_47 rfl (lv_at hl 2 rfl) ?_
    obtain rfl := rt1 hf
    exact x_iret B dX12_fitting_48
  · have hf := iq h1 hf
    refine x_iload_n B dX12_fitting_15 rfl (lv_at hl 2 rfl) ?_
    refine x_aload_n B dX12_fitting_16 rfl (lv_at hl 0 rfl) ?_
    refine x_aload_n B dX12_fitting_17 rfl (lv_at hl 0 rfl) ?_
    refine y_getMr (C := RX12) (T := TX12) (NN := 34) (d := 0) (k2 := 108) B aM_107 inX12 rfl (j := 0) (by decide) q_1112 rfl rfl rfl dX12_fitting_18 ?_
    refine x_sipush (v := (nI 251)) B dX12_fitting_21 (by decide) ?_
    refine x_iload_n B dX12_fitting_24 rfl (lv_at hl 3 rfl) ?_
    refine x_iadd B dX12_fitting_25 ?_
    obtain ⟨h2, hf⟩ := gd_some hf
    refine x_ialdM B aM_108 h2 dX12_fitting_26 ?_
    refine x_iload_n B dX12_fitting_27 rfl (lv_at hl 1 rfl) ?_
    obtain ⟨r4, c3, hf⟩ := bn_some hf
    refine x_callV0 (rest := [.int x2]) B (kX12_isHeight c3) ⟨rfl, rfl⟩ aM_107.lt aM_107.2 rfl (by decide) q_1305 q_1307 q_16 (by rw [hR]; exact cw_X12_fitting_X12_isHeight) rfl rfl hl.1 (Nat.le_of_ble_eq_true rfl) dX12_fitting_28 ⟨Nat.zero_le _, Nat.zero_le _⟩ ?_
    refine x_if_eq (tgt := 38) B dX12_fitting_31 (by decide) (fun h5 => ?_) (fun h5 => ?_)
    · have hf := ip h5 hf
      refine x_iconst (v := (nI 0)) B dX12_fitting_38 (by decide) ?_
      exact fX12_fitting_39_ok B hR hk4 (lv_sub hl [0, 1, 3] rfl) hf
    · have hf := iq h5 hf
      refine x_iconst (v := (nI 1)) B dX12_fitting_34 (by decide) ?_
      refine x_goto (tgt := 39) B dX12_fitting_35 (by decide) ?_
      exact fX12_fitting_39_ok B hR hk4 (lv_sub hl [0, 1, 3] rfl) hf
set_option maxHeartbeats 4000000 in
set_option maxRecDepth 100000 in
theorem fX12_fitting_4L_ok {V : VE} {G : GE} {N : Nat} {f : Mm} {n : Nat}  {r : Int32} (B : CX V G cX12_fitting 4 "FluxWatchModel" (some .int)) (hR : V.2.2.2.1 = rmX12_fitting)   : ∀ (q : Nat) (x1 : Int32) (x2 : Int32) (x3 : Int32) (mm : Mm) (ls : Array Slot),  lv_has ls 4 [(0, .ref (gz G + 107)), (1, .int x1), (2, .int x2), (3, .int x3)] → fX12_fitting_4L n  q x1 x2 x3 mm = some r → WX V G N f mm 0 0 (QQ V G (some (.int r)) N f mm 0 0) 4 ls [] := by
  intro q
  induction q with
  | zero =>
    intro x1 x2 x3 mm ls hl hf
    cases hf
  | succ q ih =>
    intro x1 x2 x3 mm ls hl hf
    exact fX12_fitting_4_ok B hR   ih  hl hf
def fX12_fitting (n : Nat) (a1 : Int32) (m : Mm) : Option (Int32) :=
  fX12_fitting_4L n n a1 (nI 0) (nI 0) m
set_option maxHeartbeats 4000000 in
set_option maxRecDepth 100000 in
theorem kX12_fitting {l : Launch} {G : GE} {N : Nat} {f m : Mm} {n : Nat} {a1 : Int32} {r : Int32}  (hf : fX12_fitting n a1 m = some r) : MT l G yX12_fitting cX12_fitting 4 (some .int) rmX12_fitting [.ref (gz G + 107), .int a1] N f m (some (.int r)) N f m := by
  unfold fX12_fitting at hf
  refine MT.of (by decide) (Nat.le_of_ble_eq_true rfl) (fun V ls hV hR B hl => ?_)
  have B : CX V G cX12_fitting 4 "FluxWatchModel" (some .int) := B
  have hl : lv_has ls 4 [(0, .ref (gz G + 107)), (1, .int a1)] := hl
  show WX V G N f m 0 0 (QQ V G (some (.int r)) N f m 0 0) 0 ls []
  refine x_iconst (v := (nI 0)) B dX12_fitting_0 (by decide) ?_
  refine x_istore_n (lv' := [(2, .int (nI 0)), (0, .ref (gz G + 107)), (1, .int a1)]) B dX12_fitting_1 rfl hl (by decide) rfl (fun ls hl => ?_)
  refine x_iconst (v := (nI 0)) B dX12_fitting_2 (by decide) ?_
  refine x_istore_n (lv' := [(3, .int (nI 0)), (2, .int (nI 0)), (0, .ref (gz G + 107)), (1, .int a1)]) B dX12_fitting_3 rfl hl (by decide) rfl (fun ls hl => ?_)
  exact fX12_fitting_4L_ok B hR  n _ _ _ _ _ (lv_sub hl [2, 3, 1, 0] rfl) hf
def rmX12_chance : Room := { frames := 3, cells := 0, slots := 0, locals := 67 }
set_option maxHeartbeats 4000000 in
set_option maxRecDepth 100000 in
theorem cw_X12_chance_X12_fitting : cwB rmX12_chance rmX12_fitting yX12_fitting cX12_fitting 4 (some .int) 1 := ⟨q_1499, q_57, by decide, by decide⟩
def fX12_chance (n : Nat)  (m : Mm) : Option (Int32) :=
  bn (fX12_fitting n (m 108 (nI 3).toNatClampNeg) m) fun r2 =>
  some r2
set_option maxHeartbeats 4000000 in
set_option maxRecDepth 100000 in
theorem kX12_chance {l : Launch} {G : GE} {N : Nat} {f m : Mm} {n : Nat}  {r : Int32}  (hf : fX12_chance n m = some r) : MT l G yX12_chance cX12_chance 1 (some .int) rmX12_chance [.ref (gz G + 107)] N f m (some (.int r)) N f m := by
  unfold fX12_chance at hf
  refine MT.of (by decide) (Nat.le_of_ble_eq_true rfl) (fun V ls hV hR B hl => ?_)
  have B : CX V G cX12_chance 1 "FluxWatchModel" (some .int) := B
  have hl : lv_has ls 1 [(0, .ref (gz G + 107))] := hl
  show WX V G N f m 0 0 (QQ V G (some (.int r)) N f m 0 0) 0 ls []
  refine x_aload_n B dX12_chance_0 rfl (lv_at hl 0 rfl) ?_
  refine x_aload_n B dX12_chance_1 rfl (lv_at hl 0 rfl) ?_
  refine y_getMr (C := RX12) (T := TX12) (NN := 34) (d := 0) (k2 := 108) B aM_107 inX12 rfl (j := 0) (by decide) q_1112 rfl rfl rfl dX12_chance_2 ?_
  refine x_iconst (v := (nI 3)) B dX12_chance_5 (by decide) ?_
  refine x_ialdM B aM_108 (by decide) dX12_chance_6 ?_
  obtain ⟨r2, c1, hf⟩ := bn_some hf
  refine x_callV0 (rest := []) B (kX12_fitting c1) ⟨rfl, rfl⟩ aM_107.lt aM_107.2 rfl (by decide) q_1496 q_1498 q_39 (by rw [hR]; exact cw_X12_chance_X12_fitting) rfl rfl hl.1 (Nat.le_of_ble_eq_true rfl) dX12_chance_7 ⟨Nat.zero_le _, Nat.zero_le _⟩ ?_
  obtain rfl := rt1 hf
  exact x_iret B dX12_chance_10
def rmX12_check : Room := { frames := 5, cells := 0, slots := 0, locals := 119 }
set_option maxHeartbeats 4000000 in
set_option maxRecDepth 100000 in
theorem cw_X12_check_X12_aDay : cwB rmX12_check rmX12_aDay yX12_aDay cX12_aDay 8 none 0 := ⟨q_1351, q_57, by decide, by decide⟩
set_option maxHeartbeats 4000000 in
set_option maxRecDepth 100000 in
theorem cw_X12_check_X12_copyAll : cwB rmX12_check rmX12_copyAll yX12_copyAll cX12_copyAll 3 none 2 := ⟨q_1601, q_57, by decide, by decide⟩
set_option maxHeartbeats 4000000 in
set_option maxRecDepth 100000 in
theorem cw_X12_check_X12_in : cwB rmX12_check rmX12_in yX12_in cX12_in 3 (some .boolean) 3 := ⟨q_1222, q_57, by decide, by decide⟩
def fX12_check_151 (n : Nat)   (x1 : Int32) (x2 : Int32) (x3 : Int32) (m : Mm) : Option (Int32 × Mm) :=
  bn (fX12_copyAll n 110 108 m) fun f13 =>
  if x3 = x2 then (
  if x3 = ((nI 2) * x1) then (
  some ((nI 0), f13)) else (
  some ((nI 1) + x3, f13))) else (
  some ((nI 1) + x3, f13))
set_option maxHeartbeats 4000000 in
set_option maxRecDepth 100000 in
theorem fX12_check_151_ok {V : VE} {G : GE} {N : Nat} {f m : Mm} {n : Nat} {ls : Array Slot} {r : Int32} {g : Mm} (B : CX V G cX12_check 5 "FluxWatchModel" (some .int)) (hR : V.2.2.2.1 = rmX12_check)   {x1 : Int32} {x2 : Int32} {x3 : Int32}  (hl : lv_has ls 5 [(0, .ref (gz G + 107)), (1, .int x1), (2, .int x2), (3, .int x3)]) (hf : fX12_check_151 n  x1 x2 x3 m = some (r, g)) : WX V G N f m 0 0 (QQ V G (some (.int r)) N f g 0 0) 151 ls [] := by
  unfold fX12_check_151 at hf
  refine x_aload_n B dX12_check_151 rfl (lv_at hl 0 rfl) ?_
  refine y_getMr (C := RX12) (T := TX12) (NN := 34) (d := 2) (k2 := 110) B aM_107 inX12 rfl (j := 2) (by decide) q_1114 rfl rfl rfl dX12_check_152 ?_
  refine x_aload_n B dX12_check_155 rfl (lv_at hl 0 rfl) ?_
  refine y_getMr (C := RX12) (T := TX12) (NN := 34) (d := 0) (k2 := 108) B aM_107 inX12 rfl (j := 0) (by decide) q_1112 rfl rfl rfl dX12_check_156 ?_
  obtain ⟨f13, c12, hf⟩ := bn_some hf
  refine x_callS0 (rest := []) B (kX12_copyAll aM_110 aM_108 c12) ⟨rfl, rfl⟩ q_1599 q_1600 (by rw [hR]; exact cw_X12_check_X12_copyAll) rfl rfl hl.1 (Nat.le_of_ble_eq_true rfl) dX12_check_159 ⟨Nat.zero_le _, Nat.zero_le _⟩ ?_
  refine x_iload_n B dX12_check_162 rfl (lv_at hl 3 rfl) ?_
  refine x_iload_n B dX12_check_163 rfl (lv_at hl 2 rfl) ?_
  refine x_icmp_ne (tgt := 178) B dX12_check_164 (by decide) (fun h14 => ?_) (fun h14 => ?_)
  · have hf := ip h14 hf
    refine x_iload_n B dX12_check_167 rfl (lv_at hl 3 rfl) ?_
    refine x_iconst (v := (nI 2)) B dX12_check_168 (by decide) ?_
    refine x_iload_n B dX12_check_169 rfl (lv_at hl 1 rfl) ?_
    refine x_imul B dX12_check_170 ?_
    refine x_icmp_ne (tgt := 178) B dX12_check_171 (by decide) (fun h15 => ?_) (fun h15 => ?_)
    · have hf := ip h15 hf
      refine x_iconst (v := (nI 0)) B dX12_check_174 (by decide) ?_
      refine x_goto (tgt := 181) B dX12_check_175 (by decide) ?_
      obtain ⟨rfl, rfl⟩ := rt2 hf
      exact x_iret B dX12_check_181
    · have hf := iq h15 hf
      refine x_iconst (v := (nI 1)) B dX12_check_178 (by decide) ?_
      refine x_iload_n B dX12_check_179 rfl (lv_at hl 3 rfl) ?_
      refine x_iadd B dX12_check_180 ?_
      obtain ⟨rfl, rfl⟩ := rt2 hf
      exact x_iret B dX12_check_181
  · have hf := iq h14 hf
    refine x_iconst (v := (nI 1)) B dX12_check_178 (by decide) ?_
    refine x_iload_n B dX12_check_179 rfl (lv_at hl 3 rfl) ?_
    refine x_iadd B dX12_check_180 ?_
    obtain ⟨rfl, rfl⟩ := rt2 hf
    exact x_iret B dX12_check_181
def fX12_check_143 (n : Nat)  (k60 : Int32 → Int32 → Int32 → Int32 → Mm → Option (Int32 × Mm)) (x1 : Int32) (x2 : Int32) (x4 : Int32) (s0 : Int32) (s1 : Int32) (m : Mm) : Option (Int32 × Mm) :=
  k60 x1 x2 (s1 + s0) (x4 + (nI 1)) m
set_option maxHeartbeats 4000000 in
set_option maxRecDepth 100000 in
theorem fX12_check_143_ok {V : VE} {G : GE} {N : Nat} {f m : Mm} {n : Nat} {ls : Array Slot} {r : Int32} {g : Mm} (B : CX V G cX12_check 5 "FluxWatchModel" (some .int)) (hR : V.2.2.2.1 = rmX12_check)  {k60 : Int32 → Int32 → Int32 → Int32 → Mm → Option (Int32 × Mm)} (hk60 : ∀ (x1 : Int32) (x2 : Int32) (x3 : Int32) (x4 : Int32) (mm : Mm) (ls : Array Slot),  lv_has ls 5 [(0, .ref (gz G + 107)), (1, .int x1), (2, .int x2), (3, .int x3), (4, .int x4)] → k60 x1 x2 x3 x4 mm = some (r, g) → WX V G N f mm 0 0 (QQ V G (some (.int r)) N f g 0 0) 60 ls []) {x1 : Int32} {x2 : Int32} {x4 : Int32} {s0 : Int32} {s1 : Int32}  (hl : lv_has ls 5 [(0, .ref (gz G + 107)), (1, .int x1), (2, .int x2), (4, .int x4)]) (hf : fX12_check_143 n  k60 x1 x2 x4 s0 s1 m = some (r, g)) : WX V G N f m 0 0 (QQ V G (some (.int r)) N f g 0 0) 143 ls [.int s0, .int s1] := by
  unfold fX12_check_143 at hf
  refine x_iadd B dX12_check_143 ?_
  refine x_istore_n (lv' := [(3, .int (s1 + s0)), (0, .ref (gz G + 107)), (1, .int x1), (2, .int x2), (4, .int x4)]) B dX12_check_144 rfl hl (by decide) rfl (fun ls hl => ?_)
  refine x_iinc (k := 4) (v := (nI 1)) (lv' := [(4, .int (x4 + (nI 1))), (3, .int (s1 + s0)), (0, .ref (gz G + 107)), (1, .int x1), (2, .int x2)]) B dX12_check_145 hl rfl (by decide) (by decide) rfl (fun ls hl => ?_)
  refine x_goto (tgt := 60) B dX12_check_148 (by decide) ?_
  exact hk60 _ _ _ _ _ _ (lv_sub hl [2, 3, 4, 1, 0] rfl) hf
def fX12_check_142 (n : Nat)  (k60 : Int32 → Int32 → Int32 → Int32 → Mm → Option (Int32 × Mm)) (x1 : Int32) (x2 : Int32) (x4 : Int32) (s0 : Int32) (m : Mm) : Option (Int32 × Mm) :=
  fX12_check_143 n k60 x1 x2 x4 (nI 0) s0 m
set_option maxHeartbeats 4000000 in
set_option maxRecDepth 100000 in
theorem fX12_check_142_ok {V : VE} {G : GE} {N : Nat} {f m : Mm} {n : Nat} {ls : Array Slot} {r : Int32} {g : Mm} (B : CX V G cX12_check 5 "FluxWatchModel" (some .int)) (hR : V.2.2.2.1 = rmX12_check)  {k60 : Int32 → Int32 → Int32 → Int32 → Mm → Option (Int32 × Mm)} (hk60 : ∀ (x1 : Int32) (x2 : Int32) (x3 : Int32) (x4 : Int32) (mm : Mm) (ls : Array Slot),  lv_has ls 5 [(0, .ref (gz G + 107)), (1, .int x1), (2, .int x2), (3, .int x3), (4, .int x4)] → k60 x1 x2 x3 x4 mm = some (r, g) → WX V G N f mm 0 0 (QQ V G (some (.int r)) N f g 0 0) 60 ls []) {x1 : Int32} {x2 : Int32} {x4 : Int32} {s0 : Int32}  (hl : lv_has ls 5 [(0, .ref (gz G + 107)), (1, .int x1), (2, .int x2), (4, .int x4)]) (hf : fX12_check_142 n  k60 x1 x2 x4 s0 m = some (r, g)) : WX V G N f m 0 0 (QQ V G (some (.int r)) N f g 0 0) 142 ls [.int s0] := by
  unfold fX12_check_142 at hf
  refine x_iconst (v := (nI 0)) B dX12_check_142 (by decide) ?_
  exact fX12_check_143_ok B hR hk60 hl hf
def fX12_check_104 (n : Nat)  (k60 : Int32 → Int32 → Int32 → Int32 → Mm → Option (Int32 × Mm)) (x1 : Int32) (x2 : Int32) (x4 : Int32) (s0 : Int32) (s1 : Int32) (m : Mm) : Option (Int32 × Mm) :=
  if (s1 + s0) = (((nI 2) * x4) + (nI 1)) then (
  if x2 ≤ (s1 + s0) then (
  fX12_check_142 n k60 x1 x2 x4 (s1 + s0) m) else (
  gd (ib (s1 + s0) 60) <|
  if (m 129 (s1 + s0).toNatClampNeg) = (m 108 (nI 8).toNatClampNeg) then (
  fX12_check_143 n k60 x1 x2 x4 (nI 1) (s1 + s0) m) else (
  fX12_check_142 n k60 x1 x2 x4 (s1 + s0) m))) else (
  fX12_check_142 n k60 x1 x2 x4 (s1 + s0) m)
set_option maxHeartbeats 4000000 in
set_option maxRecDepth 100000 in
theorem fX12_check_104_ok {V : VE} {G : GE} {N : Nat} {f m : Mm} {n : Nat} {ls : Array Slot} {r : Int32} {g : Mm} (B : CX V G cX12_check 5 "FluxWatchModel" (some .int)) (hR : V.2.2.2.1 = rmX12_check)  {k60 : Int32 → Int32 → Int32 → Int32 → Mm → Option (Int32 × Mm)} (hk60 : ∀ (x1 : Int32) (x2 : Int32) (x3 : Int32) (x4 : Int32) (mm : Mm) (ls : Array Slot),  lv_has ls 5 [(0, .ref (gz G + 107)), (1, .int x1), (2, .int x2), (3, .int x3), (4, .int x4)] → k60 x1 x2 x3 x4 mm = some (r, g) → WX V G N f mm 0 0 (QQ V G (some (.int r)) N f g 0 0) 60 ls []) {x1 : Int32} {x2 : Int32} {x4 : Int32} {s0 : Int32} {s1 : Int32}  (hl : lv_has ls 5 [(0, .ref (gz G + 107)), (1, .int x1), (2, .int x2), (4, .int x4)]) (hf : fX12_check_104 n  k60 x1 x2 x4 s0 s1 m = some (r, g)) : WX V G N f m 0 0 (QQ V G (some (.int r)) N f g 0 0) 104 ls [.int s0, .int s1] := by
  unfold fX12_check_104 at hf
  refine x_iadd B dX12_check_104 ?_
  refine x_istore_n (lv' := [(3, .int (s1 + s0)), (0, .ref (gz G + 107)), (1, .int x1), (2, .int x2), (4, .int x4)]) B dX12_check_105 rfl hl (by decide) rfl (fun ls hl => ?_)
  refine x_iload_n B dX12_check_106 rfl (lv_at hl 0 rfl) ?_
  refine x_iload_n B dX12_check_107 rfl (lv_at hl 0 rfl) ?_
  refine x_iconst (v := (nI 2)) B dX12_check_108 (by decide) ?_
  refine x_iload B dX12_check_109 (lv_at hl 4 rfl) ?_
  refine x_imul B dX12_check_111 ?_
  refine x_iconst (v := (nI 1)) B dX12_check_112 (by decide) ?_
  refine x_iadd B dX12_check_113 ?_
  refine x_icmp_ne (tgt := 142) B dX12_check_114 (by decide) (fun h20 => ?_) (fun h20 => ?_)
  · have hf := ip h20 hf
    refine x_iload_n B dX12_check_117 rfl (lv_at hl 0 rfl) ?_
    refine x_iload_n B dX12_check_118 rfl (lv_at hl 3 rfl) ?_
    refine x_icmp_ge (tgt := 142) B dX12_check_119 (by decide) (fun h21 => ?_) (fun h21 => ?_)
    · have hf := ip h21 hf
      exact fX12_check_142_ok B hR hk60 (lv_sub hl [1, 2, 3, 4] rfl) hf
    · have hf := iq h21 hf
      refine x_aload_n B dX12_check_122 rfl (lv_at hl 1 rfl) ?_
      refine y_getMr (C := RX12) (T := TX12) (NN := 34) (d := 21) (k2 := 129) B aM_107 inX12 rfl (j := 32) (by decide) q_1144 rfl rfl rfl dX12_check_123 ?_
      refine x_iload_n B dX12_check_126 rfl (lv_at hl 0 rfl) ?_
      obtain ⟨h22, hf⟩ := gd_some hf
      refine x_ialdM B aM_129 h22 dX12_check_127 ?_
      refine x_aload_n B dX12_check_128 rfl (lv_at hl 1 rfl) ?_
      refine y_getMr (C := RX12) (T := TX12) (NN := 34) (d := 0) (k2 := 108) B aM_107 inX12 rfl (j := 0) (by decide) q_1112 rfl rfl rfl dX12_check_129 ?_
      refine x_bipush (v := (nI 8)) B dX12_check_132 (by decide) ?_
      refine x_ialdM B aM_108 (by decide) dX12_check_134 ?_
      refine x_icmp_ne (tgt := 142) B dX12_check_135 (by decide) (fun h23 => ?_) (fun h23 => ?_)
      · have hf := ip h23 hf
        refine x_iconst (v := (nI 1)) B dX12_check_138 (by decide) ?_
        refine x_goto (tgt := 143) B dX12_check_139 (by decide) ?_
        exact fX12_check_143_ok B hR hk60 (lv_sub hl [1, 2, 3, 4] rfl) hf
      · have hf := iq h23 hf
        exact fX12_check_142_ok B hR hk60 (lv_sub hl [1, 2, 3, 4] rfl) hf
  · have hf := iq h20 hf
    exact fX12_check_142_ok B hR hk60 (lv_sub hl [1, 2, 3, 4] rfl) hf
def fX12_check_103 (n : Nat)  (k60 : Int32 → Int32 → Int32 → Int32 → Mm → Option (Int32 × Mm)) (x1 : Int32) (x2 : Int32) (x4 : Int32) (s0 : Int32) (m : Mm) : Option (Int32 × Mm) :=
  fX12_check_104 n k60 x1 x2 x4 (nI 0) s0 m
set_option maxHeartbeats 4000000 in
set_option maxRecDepth 100000 in
theorem fX12_check_103_ok {V : VE} {G : GE} {N : Nat} {f m : Mm} {n : Nat} {ls : Array Slot} {r : Int32} {g : Mm} (B : CX V G cX12_check 5 "FluxWatchModel" (some .int)) (hR : V.2.2.2.1 = rmX12_check)  {k60 : Int32 → Int32 → Int32 → Int32 → Mm → Option (Int32 × Mm)} (hk60 : ∀ (x1 : Int32) (x2 : Int32) (x3 : Int32) (x4 : Int32) (mm : Mm) (ls : Array Slot),  lv_has ls 5 [(0, .ref (gz G + 107)), (1, .int x1), (2, .int x2), (3, .int x3), (4, .int x4)] → k60 x1 x2 x3 x4 mm = some (r, g) → WX V G N f mm 0 0 (QQ V G (some (.int r)) N f g 0 0) 60 ls []) {x1 : Int32} {x2 : Int32} {x4 : Int32} {s0 : Int32}  (hl : lv_has ls 5 [(0, .ref (gz G + 107)), (1, .int x1), (2, .int x2), (4, .int x4)]) (hf : fX12_check_103 n  k60 x1 x2 x4 s0 m = some (r, g)) : WX V G N f m 0 0 (QQ V G (some (.int r)) N f g 0 0) 103 ls [.int s0] := by
  unfold fX12_check_103 at hf
  refine x_iconst (v := (nI 0)) B dX12_check_103 (by decide) ?_
  exact fX12_check_104_ok B hR hk60 hl hf
def fX12_check_60 (n : Nat)   (k60 : Int32 → Int32 → Int32 → Int32 → Mm → Option (Int32 × Mm)) (x1 : Int32) (x2 : Int32) (x3 : Int32) (x4 : Int32) (m : Mm) : Option (Int32 × Mm) :=
  if x1 ≤ x4 then (
  fX12_check_151 n x1 x2 x3 m) else (
  if x3 = ((nI 2) * x4) then (
  bn (fX12_aDay n m) fun f18 =>
  if x2 ≤ x3 then (
  fX12_check_103 n k60 x1 x2 x4 x3 f18) else (
  gd (ib x3 60) <|
  if (f18 129 x3.toNatClampNeg) = (f18 108 (nI 4).toNatClampNeg) then (
  fX12_check_104 n k60 x1 x2 x4 (nI 1) x3 f18) else (
  fX12_check_103 n k60 x1 x2 x4 x3 f18))) else (
  fX12_check_151 n x1 x2 x3 m))
def fX12_check_60L (n : Nat)   : Nat → Int32 → Int32 → Int32 → Int32 → Mm → Option (Int32 × Mm)
  | 0 => fun _ _ _ _ _ => none
  | q + 1 => fX12_check_60 n   (fX12_check_60L n   q)
set_option maxHeartbeats 4000000 in
set_option maxRecDepth 100000 in
theorem fX12_check_60_ok {V : VE} {G : GE} {N : Nat} {f m : Mm} {n : Nat} {ls : Array Slot} {r : Int32} {g : Mm} (B : CX V G cX12_check 5 "FluxWatchModel" (some .int)) (hR : V.2.2.2.1 = rmX12_check)   {k60 : Int32 → Int32 → Int32 → Int32 → Mm → Option (Int32 × Mm)} (hk60 : ∀ (x1 : Int32) (x2 : Int32) (x3 : Int32) (x4 : Int32) (mm : Mm) (ls : Array Slot),  lv_has ls 5 [(0, .ref (gz G + 107)), (1, .int x1), (2, .int x2), (3, .int x3), (4, .int x4)] → k60 x1 x2 x3 x4 mm = some (r, g) → WX V G N f mm 0 0 (QQ V G (some (.int r)) N f g 0 0) 60 ls []) {x1 : Int32} {x2 : Int32} {x3 : Int32} {x4 : Int32}  (hl : lv_has ls 5 [(0, .ref (gz G + 107)), (1, .int x1), (2, .int x2), (3, .int x3), (4, .int x4)]) (hf : fX12_check_60 n  k60 x1 x2 x3 x4 m = some (r, g)) : WX V G N f m 0 0 (QQ V G (some (.int r)) N f g 0 0) 60 ls [] := by
  unfold fX12_check_60 at hf
  refine x_iload B dX12_check_60 (lv_at hl 4 rfl) ?_
  refine x_iload_n B dX12_check_62 rfl (lv_at hl 1 rfl) ?_
  refine x_icmp_ge (tgt := 151) B dX12_check_63 (by decide) (fun h11 => ?_) (fun h11 => ?_)
  · have hf := ip h11 hf
    exact fX12_check_151_ok B hR  (lv_sub hl [0, 1, 2, 3] rfl) hf
  · have hf := iq h11 hf
    refine x_iload_n B dX12_check_66 rfl (lv_at hl 3 rfl) ?_
    refine x_iconst (v := (nI 2)) B dX12_check_67 (by decide) ?_
    refine x_iload B dX12_check_68 (lv_at hl 4 rfl) ?_
    refine x_imul B dX12_check_70 ?_
    refine x_icmp_ne (tgt := 151) B dX12_check_71 (by decide) (fun h16 => ?_) (fun h16 => ?_)
    · have hf := ip h16 hf
      refine x_aload_n B dX12_check_74 rfl (lv_at hl 0 rfl) ?_
      obtain ⟨f18, c17, hf⟩ := bn_some hf
      refine x_callV0 (rest := []) B (kX12_aDay c17) ⟨rfl, rfl⟩ aM_107.lt aM_107.2 rfl (by decide) q_1348 q_1350 q_19 (by rw [hR]; exact cw_X12_check_X12_aDay) rfl rfl hl.1 (Nat.le_of_ble_eq_true rfl) dX12_check_75 ⟨Nat.zero_le _, Nat.zero_le _⟩ ?_
      refine x_iload_n B dX12_check_78 rfl (lv_at hl 3 rfl) ?_
      refine x_iload_n B dX12_check_79 rfl (lv_at hl 3 rfl) ?_
      refine x_iload_n B dX12_check_80 rfl (lv_at hl 2 rfl) ?_
      refine x_icmp_ge (tgt := 103) B dX12_check_81 (by decide) (fun h19 => ?_) (fun h19 => ?_)
      · have hf := ip h19 hf
        exact fX12_check_103_ok B hR hk60 (lv_sub hl [0, 1, 2, 4] rfl) hf
      · have hf := iq h19 hf
        refine x_aload_n B dX12_check_84 rfl (lv_at hl 0 rfl) ?_
        refine y_getMr (C := RX12) (T := TX12) (NN := 34) (d := 21) (k2 := 129) B aM_107 inX12 rfl (j := 32) (by decide) q_1144 rfl rfl rfl dX12_check_85 ?_
        refine x_iload_n B dX12_check_88 rfl (lv_at hl 3 rfl) ?_
        obtain ⟨h24, hf⟩ := gd_some hf
        refine x_ialdM B aM_129 h24 dX12_check_89 ?_
        refine x_aload_n B dX12_check_90 rfl (lv_at hl 0 rfl) ?_
        refine y_getMr (C := RX12) (T := TX12) (NN := 34) (d := 0) (k2 := 108) B aM_107 inX12 rfl (j := 0) (by decide) q_1112 rfl rfl rfl dX12_check_91 ?_
        refine x_iconst (v := (nI 4)) B dX12_check_94 (by decide) ?_
        refine x_ialdM B aM_108 (by decide) dX12_check_95 ?_
        refine x_icmp_ne (tgt := 103) B dX12_check_96 (by decide) (fun h25 => ?_) (fun h25 => ?_)
        · have hf := ip h25 hf
          refine x_iconst (v := (nI 1)) B dX12_check_99 (by decide) ?_
          refine x_goto (tgt := 104) B dX12_check_100 (by decide) ?_
          exact fX12_check_104_ok B hR hk60 (lv_sub hl [0, 1, 2, 4] rfl) hf
        · have hf := iq h25 hf
          exact fX12_check_103_ok B hR hk60 (lv_sub hl [0, 1, 2, 4] rfl) hf
    · have hf := iq h16 hf
      exact fX12_check_151_ok B hR  (lv_sub hl [0, 1, 2, 3] rfl) hf
set_option maxHeartbeats 4000000 in
set_option maxRecDepth 100000 in
theorem fX12_check_60L_ok {V : VE} {G : GE} {N : Nat} {f : Mm} {n : Nat}  {r : Int32} {g : Mm} (B : CX V G cX12_check 5 "FluxWatchModel" (some .int)) (hR : V.2.2.2.1 = rmX12_check)   : ∀ (q : Nat) (x1 : Int32) (x2 : Int32) (x3 : Int32) (x4 : Int32) (mm : Mm) (ls : Array Slot),  lv_has ls 5 [(0, .ref (gz G + 107)), (1, .int x1), (2, .int x2), (3, .int x3), (4, .int x4)] → fX12_check_60L n  q x1 x2 x3 x4 mm = some (r, g) → WX V G N f mm 0 0 (QQ V G (some (.int r)) N f g 0 0) 60 ls [] := by
  intro q
  induction q with
  | zero =>
    intro x1 x2 x3 x4 mm ls hl hf
    cases hf
  | succ q ih =>
    intro x1 x2 x3 x4 mm ls hl hf
    exact fX12_check_60_ok B hR   ih  hl hf
def fX12_check (n : Nat) (a1 : Int32) (m : Mm) : Option (Int32 × Mm) :=
  lt (up m 107 33 (nI 0)) fun f1 =>
  bn (fX12_in n a1 (nI 1) (nI 30)) fun r4 =>
  if r4 = 0 then (
  some ((-1000000001 : Int32), f1)) else (
  if (f1 107 3) = 0 then (
  some ((-1000000002 : Int32), f1)) else (
  bn (fX12_copyAll n 108 110 f1) fun f8 =>
  bn (fX12_copyAll n 109 108 f8) fun f10 =>
  fX12_check_60L n n a1 (m 107 33) (nI 0) (nI 0) f10))
set_option maxHeartbeats 4000000 in
set_option maxRecDepth 100000 in
theorem kX12_check {l : Launch} {G : GE} {N : Nat} {f m : Mm} {n : Nat} {a1 : Int32} {r : Int32} {g : Mm}  (hf : fX12_check n a1 m = some (r, g)) : MT l G yX12_check cX12_check 5 (some .int) rmX12_check [.ref (gz G + 107), .int a1] N f m (some (.int r)) N f g := by
  unfold fX12_check at hf
  refine MT.of (by decide) (Nat.le_of_ble_eq_true rfl) (fun V ls hV hR B hl => ?_)
  have B : CX V G cX12_check 5 "FluxWatchModel" (some .int) := B
  have hl : lv_has ls 5 [(0, .ref (gz G + 107)), (1, .int a1)] := hl
  show WX V G N f m 0 0 (QQ V G (some (.int r)) N f g 0 0) 0 ls []
  refine x_aload_n B dX12_check_0 rfl (lv_at hl 0 rfl) ?_
  refine y_getMi (C := RX12) (T := TX12) (NN := 34) B aM_107 inX12 rfl (j := 33) (by decide) q_1145 rfl rfl dX12_check_1 ?_
  refine x_istore_n (lv' := [(2, .int (m 107 33)), (0, .ref (gz G + 107)), (1, .int a1)]) B dX12_check_4 rfl hl (by decide) rfl (fun ls hl => ?_)
  refine x_aload_n B dX12_check_5 rfl (lv_at hl 1 rfl) ?_
  refine x_iconst (v := (nI 0)) B dX12_check_6 (by decide) ?_
  refine x_putM (C := RX12) (T := TX12) (NN := 34) (ty0 := tyX12) (ty := .int) B aM_107 inX12 tyX12_ok nmX12 rfl (j := 33) (by decide) q_1145 rfl rfl rfl rfl rfl rfl dX12_check_7 (fun f1 e2 => ?_)
  have hf := lt_some hf e2
  refine x_iload_n B dX12_check_10 rfl (lv_at hl 2 rfl) ?_
  refine x_iconst (v := (nI 1)) B dX12_check_11 (by decide) ?_
  refine x_bipush (v := (nI 30)) B dX12_check_12 (by decide) ?_
  obtain ⟨r4, c3, hf⟩ := bn_some hf
  refine x_callS0 (rest := []) B (kX12_in c3) ⟨rfl, rfl⟩ q_1220 q_1221 (by rw [hR]; exact cw_X12_check_X12_in) rfl rfl hl.1 (Nat.le_of_ble_eq_true rfl) dX12_check_14 ⟨Nat.zero_le _, Nat.zero_le _⟩ ?_
  refine x_if_ne (tgt := 23) B dX12_check_17 (by decide) (fun h5 => ?_) (fun h5 => ?_)
  · have hf := ip h5 hf
    refine x_ldc (v := (-1000000001 : Int32)) B q_1223 dX12_check_20 ?_
    obtain ⟨rfl, rfl⟩ := rt2 hf
    exact x_iret B dX12_check_22
  · have hf := iq h5 hf
    refine x_aload_n B dX12_check_23 rfl (lv_at hl 1 rfl) ?_
    refine y_getMi (C := RX12) (T := TX12) (NN := 34) B aM_107 inX12 rfl (j := 3) (by decide) q_1115 rfl rfl dX12_check_24 ?_
    refine x_if_ne (tgt := 33) B dX12_check_27 (by decide) (fun h6 => ?_) (fun h6 => ?_)
    · have hf := ip h6 hf
      refine x_ldc (v := (-1000000002 : Int32)) B q_1254 dX12_check_30 ?_
      obtain ⟨rfl, rfl⟩ := rt2 hf
      exact x_iret B dX12_check_32
    · have hf := iq h6 hf
      refine x_aload_n B dX12_check_33 rfl (lv_at hl 1 rfl) ?_
      refine y_getMr (C := RX12) (T := TX12) (NN := 34) (d := 0) (k2 := 108) B aM_107 inX12 rfl (j := 0) (by decide) q_1112 rfl rfl rfl dX12_check_34 ?_
      refine x_aload_n B dX12_check_37 rfl (lv_at hl 1 rfl) ?_
      refine y_getMr (C := RX12) (T := TX12) (NN := 34) (d := 2) (k2 := 110) B aM_107 inX12 rfl (j := 2) (by decide) q_1114 rfl rfl rfl dX12_check_38 ?_
      obtain ⟨f8, c7, hf⟩ := bn_some hf
      refine x_callS0 (rest := []) B (kX12_copyAll aM_108 aM_110 c7) ⟨rfl, rfl⟩ q_1599 q_1600 (by rw [hR]; exact cw_X12_check_X12_copyAll) rfl rfl hl.1 (Nat.le_of_ble_eq_true rfl) dX12_check_41 ⟨Nat.zero_le _, Nat.zero_le _⟩ ?_
      refine x_aload_n B dX12_check_44 rfl (lv_at hl 1 rfl) ?_
      refine y_getMr (C := RX12) (T := TX12) (NN := 34) (d := 1) (k2 := 109) B aM_107 inX12 rfl (j := 1) (by decide) q_1113 rfl rfl rfl dX12_check_45 ?_
      refine x_aload_n B dX12_check_48 rfl (lv_at hl 1 rfl) ?_
      refine y_getMr (C := RX12) (T := TX12) (NN := 34) (d := 0) (k2 := 108) B aM_107 inX12 rfl (j := 0) (by decide) q_1112 rfl rfl rfl dX12_check_49 ?_
      obtain ⟨f10, c9, hf⟩ := bn_some hf
      refine x_callS0 (rest := []) B (kX12_copyAll aM_109 aM_108 c9) ⟨rfl, rfl⟩ q_1599 q_1600 (by rw [hR]; exact cw_X12_check_X12_copyAll) rfl rfl hl.1 (Nat.le_of_ble_eq_true rfl) dX12_check_52 ⟨Nat.zero_le _, Nat.zero_le _⟩ ?_
      refine x_iconst (v := (nI 0)) B dX12_check_55 (by decide) ?_
      refine x_istore_n (lv' := [(3, .int (nI 0)), (2, .int (m 107 33)), (0, .ref (gz G + 107)), (1, .int a1)]) B dX12_check_56 rfl hl (by decide) rfl (fun ls hl => ?_)
      refine x_iconst (v := (nI 0)) B dX12_check_57 (by decide) ?_
      refine x_istore (lv' := [(4, .int (nI 0)), (3, .int (nI 0)), (2, .int (m 107 33)), (0, .ref (gz G + 107)), (1, .int a1)]) B dX12_check_58 hl (by decide) rfl (fun ls hl => ?_)
      exact fX12_check_60L_ok B hR  n _ _ _ _ _ _ (lv_sub hl [3, 4, 2, 1, 0] rfl) hf
def rmX12_clear : Room := { frames := 0, cells := 0, slots := 0, locals := 0 }
def fX12_clear (n : Nat)  (m : Mm) : Option (Int32 × Mm) :=
  lt (m 108 (nI 12).toNatClampNeg) fun v1 =>
  lt (up m 108 (nI 12).toNatClampNeg (nI 0)) fun f3 =>
  some (v1, f3)
set_option maxHeartbeats 4000000 in
set_option maxRecDepth 100000 in
theorem kX12_clear {l : Launch} {G : GE} {N : Nat} {f m : Mm} {n : Nat}  {r : Int32} {g : Mm}  (hf : fX12_clear n m = some (r, g)) : MT l G yX12_clear cX12_clear 2 (some .int) rmX12_clear [.ref (gz G + 107)] N f m (some (.int r)) N f g := by
  unfold fX12_clear at hf
  refine MT.of (by decide) (Nat.le_of_ble_eq_true rfl) (fun V ls hV hR B hl => ?_)
  have B : CX V G cX12_clear 2 "FluxWatchModel" (some .int) := B
  have hl : lv_has ls 2 [(0, .ref (gz G + 107))] := hl
  show WX V G N f m 0 0 (QQ V G (some (.int r)) N f g 0 0) 0 ls []
  refine x_aload_n B dX12_clear_0 rfl (lv_at hl 0 rfl) ?_
  refine y_getMr (C := RX12) (T := TX12) (NN := 34) (d := 0) (k2 := 108) B aM_107 inX12 rfl (j := 0) (by decide) q_1112 rfl rfl rfl dX12_clear_1 ?_
  refine x_bipush (v := (nI 12)) B dX12_clear_4 (by decide) ?_
  refine x_ialdM B aM_108 (by decide) dX12_clear_6 ?_
  refine x_nm (fun v1 e2 => ?_)
  have hf := lt_some hf e2
  refine x_istore_n (lv' := [(1, .int v1), (0, .ref (gz G + 107))]) B dX12_clear_7 rfl hl (by decide) rfl (fun ls hl => ?_)
  refine x_aload_n B dX12_clear_8 rfl (lv_at hl 1 rfl) ?_
  refine y_getMr (C := RX12) (T := TX12) (NN := 34) (d := 0) (k2 := 108) B aM_107 inX12 rfl (j := 0) (by decide) q_1112 rfl rfl rfl dX12_clear_9 ?_
  refine x_bipush (v := (nI 12)) B dX12_clear_12 (by decide) ?_
  refine x_iconst (v := (nI 0)) B dX12_clear_14 (by decide) ?_
  refine x_iastM B aM_108 (by decide) dX12_clear_15 (fun f3 e4 => ?_)
  have hf := lt_some hf e4
  refine x_iload_n B dX12_clear_16 rfl (lv_at hl 0 rfl) ?_
  obtain ⟨rfl, rfl⟩ := rt2 hf
  exact x_iret B dX12_clear_17
def rmX12_coil : Room := { frames := 1, cells := 0, slots := 0, locals := 22 }
set_option maxHeartbeats 4000000 in
set_option maxRecDepth 100000 in
theorem cw_X12_coil_X12_in : cwB rmX12_coil rmX12_in yX12_in cX12_in 3 (some .boolean) 3 := ⟨q_1222, q_57, by decide, by decide⟩
def fX12_coil (n : Nat) (a1 : Int32) (m : Mm) : Option (Int32 × Mm) :=
  bn (fX12_in n a1 (nI 1) (nI 9)) fun r2 =>
  if r2 = 0 then (
  some ((-1000000001 : Int32), m)) else (
  if (m 108 (nI 6).toNatClampNeg) = (nI 6) then (
  some ((-1000000003 : Int32), m)) else (
  lt ((nI 13) + ((nI 3) * (m 108 (nI 6).toNatClampNeg))) fun v5 =>
  gd (ib v5 1719) <|
  lt (up m 108 v5.toNatClampNeg a1) fun f8 =>
  gd (ib (v5 + (nI 1)) 1719) <|
  lt (up f8 108 (v5 + (nI 1)).toNatClampNeg (nI 0)) fun f11 =>
  gd (ib (v5 + (nI 2)) 1719) <|
  lt (up f11 108 (v5 + (nI 2)).toNatClampNeg (-1 : Int32)) fun f14 =>
  lt (up f14 108 (nI 6).toNatClampNeg ((f14 108 (nI 6).toNatClampNeg) + (nI 1))) fun f16 =>
  some ((f16 108 (nI 6).toNatClampNeg) - (nI 1), f16)))
set_option maxHeartbeats 4000000 in
set_option maxRecDepth 100000 in
theorem kX12_coil {l : Launch} {G : GE} {N : Nat} {f m : Mm} {n : Nat} {a1 : Int32} {r : Int32} {g : Mm}  (hf : fX12_coil n a1 m = some (r, g)) : MT l G yX12_coil cX12_coil 3 (some .int) rmX12_coil [.ref (gz G + 107), .int a1] N f m (some (.int r)) N f g := by
  unfold fX12_coil at hf
  refine MT.of (by decide) (Nat.le_of_ble_eq_true rfl) (fun V ls hV hR B hl => ?_)
  have B : CX V G cX12_coil 3 "FluxWatchModel" (some .int) := B
  have hl : lv_has ls 3 [(0, .ref (gz G + 107)), (1, .int a1)] := hl
  show WX V G N f m 0 0 (QQ V G (some (.int r)) N f g 0 0) 0 ls []
  refine x_iload_n B dX12_coil_0 rfl (lv_at hl 1 rfl) ?_
  refine x_iconst (v := (nI 1)) B dX12_coil_1 (by decide) ?_
  refine x_bipush (v := (nI 9)) B dX12_coil_2 (by decide) ?_
  obtain ⟨r2, c1, hf⟩ := bn_some hf
  refine x_callS0 (rest := []) B (kX12_in c1) ⟨rfl, rfl⟩ q_1220 q_1221 (by rw [hR]; exact cw_X12_coil_X12_in) rfl rfl hl.1 (Nat.le_of_ble_eq_true rfl) dX12_coil_4 ⟨Nat.zero_le _, Nat.zero_le _⟩ ?_
  refine x_if_ne (tgt := 13) B dX12_coil_7 (by decide) (fun h3 => ?_) (fun h3 => ?_)
  · have hf := ip h3 hf
    refine x_ldc (v := (-1000000001 : Int32)) B q_1223 dX12_coil_10 ?_
    obtain ⟨rfl, rfl⟩ := rt2 hf
    exact x_iret B dX12_coil_12
  · have hf := iq h3 hf
    refine x_aload_n B dX12_coil_13 rfl (lv_at hl 0 rfl) ?_
    refine y_getMr (C := RX12) (T := TX12) (NN := 34) (d := 0) (k2 := 108) B aM_107 inX12 rfl (j := 0) (by decide) q_1112 rfl rfl rfl dX12_coil_14 ?_
    refine x_bipush (v := (nI 6)) B dX12_coil_17 (by decide) ?_
    refine x_ialdM B aM_108 (by decide) dX12_coil_19 ?_
    refine x_bipush (v := (nI 6)) B dX12_coil_20 (by decide) ?_
    refine x_icmp_ne (tgt := 28) B dX12_coil_22 (by decide) (fun h4 => ?_) (fun h4 => ?_)
    · have hf := ip h4 hf
      refine x_ldc (v := (-1000000003 : Int32)) B q_1224 dX12_coil_25 ?_
      obtain ⟨rfl, rfl⟩ := rt2 hf
      exact x_iret B dX12_coil_27
    · have hf := iq h4 hf
      refine x_bipush (v := (nI 13)) B dX12_coil_28 (by decide) ?_
      refine x_iconst (v := (nI 3)) B dX12_coil_30 (by decide) ?_
      refine x_aload_n B dX12_coil_31 rfl (lv_at hl 0 rfl) ?_
      refine y_getMr (C := RX12) (T := TX12) (NN := 34) (d := 0) (k2 := 108) B aM_107 inX12 rfl (j := 0) (by decide) q_1112 rfl rfl rfl dX12_coil_32 ?_
      refine x_bipush (v := (nI 6)) B dX12_coil_35 (by decide) ?_
      refine x_ialdM B aM_108 (by decide) dX12_coil_37 ?_
      refine x_imul B dX12_coil_38 ?_
      refine x_iadd B dX12_coil_39 ?_
      refine x_nm (fun v5 e6 => ?_)
      have hf := lt_some hf e6
      refine x_istore_n (lv' := [(2, .int v5), (0, .ref (gz G + 107)), (1, .int a1)]) B dX12_coil_40 rfl hl (by decide) rfl (fun ls hl => ?_)
      refine x_aload_n B dX12_coil_41 rfl (lv_at hl 1 rfl) ?_
      refine y_getMr (C := RX12) (T := TX12) (NN := 34) (d := 0) (k2 := 108) B aM_107 inX12 rfl (j := 0) (by decide) q_1112 rfl rfl rfl dX12_coil_42 ?_
      refine x_iload_n B dX12_coil_45 rfl (lv_at hl 0 rfl) ?_
      refine x_iload_n B dX12_coil_46 rfl (lv_at hl 2 rfl) ?_
      obtain ⟨h7, hf⟩ := gd_some hf
      refine x_iastM B aM_108 h7 dX12_coil_47 (fun f8 e9 => ?_)
      have hf := lt_some hf e9
      refine x_aload_n B dX12_coil_48 rfl (lv_at hl 1 rfl) ?_
      refine y_getMr (C := RX12) (T := TX12) (NN := 34) (d := 0) (k2 := 108) B aM_107 inX12 rfl (j := 0) (by decide) q_1112 rfl rfl rfl dX12_coil_49 ?_
      refine x_iload_n B dX12_coil_52 rfl (lv_at hl 0 rfl) ?_
      refine x_iconst (v := (nI 1)) B dX12_coil_53 (by decide) ?_
      refine x_iadd B dX12_coil_54 ?_
      refine x_iconst (v := (nI 0)) B dX12_coil_55 (by decide) ?_
      obtain ⟨h10, hf⟩ := gd_some hf
      refine x_iastM B aM_108 h10 dX12_coil_56 (fun f11 e12 => ?_)
      have hf := lt_some hf e12
      refine x_aload_n B dX12_coil_57 rfl (lv_at hl 1 rfl) ?_
      refine y_getMr (C := RX12) (T := TX12) (NN := 34) (d := 0) (k2 := 108) B aM_107 inX12 rfl (j := 0) (by decide) q_1112 rfl rfl rfl dX12_coil_58 ?_
      refine x_iload_n B dX12_coil_61 rfl (lv_at hl 0 rfl) ?_
      refine x_iconst (v := (nI 2)) B dX12_coil_62 (by decide) ?_
      refine x_iadd B dX12_coil_63 ?_
      refine x_iconst (v := (-1 : Int32)) B dX12_coil_64 (by decide) ?_
      obtain ⟨h13, hf⟩ := gd_some hf
      refine x_iastM B aM_108 h13 dX12_coil_65 (fun f14 e15 => ?_)
      have hf := lt_some hf e15
      refine x_aload_n B dX12_coil_66 rfl (lv_at hl 1 rfl) ?_
      refine y_getMr (C := RX12) (T := TX12) (NN := 34) (d := 0) (k2 := 108) B aM_107 inX12 rfl (j := 0) (by decide) q_1112 rfl rfl rfl dX12_coil_67 ?_
      refine x_bipush (v := (nI 6)) B dX12_coil_70 (by decide) ?_
      refine x_dup2 B dX12_coil_72 rfl rfl ?_
      refine x_ialdM B aM_108 (by decide) dX12_coil_73 ?_
      refine x_iconst (v := (nI 1)) B dX12_coil_74 (by decide) ?_
      refine x_iadd B dX12_coil_75 ?_
      refine x_iastM B aM_108 (by decide) dX12_coil_76 (fun f16 e17 => ?_)
      have hf := lt_some hf e17
      refine x_aload_n B dX12_coil_77 rfl (lv_at hl 1 rfl) ?_
      refine y_getMr (C := RX12) (T := TX12) (NN := 34) (d := 0) (k2 := 108) B aM_107 inX12 rfl (j := 0) (by decide) q_1112 rfl rfl rfl dX12_coil_78 ?_
      refine x_bipush (v := (nI 6)) B dX12_coil_81 (by decide) ?_
      refine x_ialdM B aM_108 (by decide) dX12_coil_83 ?_
      refine x_iconst (v := (nI 1)) B dX12_coil_84 (by decide) ?_
      refine x_isub B dX12_coil_85 ?_
      obtain ⟨rfl, rfl⟩ := rt2 hf
      exact x_iret B dX12_coil_86
def rmX12_isCoil : Room := { frames := 1, cells := 0, slots := 0, locals := 22 }
set_option maxHeartbeats 4000000 in
set_option maxRecDepth 100000 in
theorem cw_X12_isCoil_X12_in : cwB rmX12_isCoil rmX12_in yX12_in cX12_in 3 (some .boolean) 3 := ⟨q_1222, q_57, by decide, by decide⟩
def fX12_isCoil (n : Nat) (a1 : Int32) (m : Mm) : Option (Int32) :=
  bn (fX12_in n a1 (nI 0) ((m 108 (nI 6).toNatClampNeg) - (nI 1))) fun r2 =>
  gd (zb r2) <|
  some r2
set_option maxHeartbeats 4000000 in
set_option maxRecDepth 100000 in
theorem kX12_isCoil {l : Launch} {G : GE} {N : Nat} {f m : Mm} {n : Nat} {a1 : Int32} {r : Int32}  (hf : fX12_isCoil n a1 m = some r) : MT l G yX12_isCoil cX12_isCoil 2 (some .boolean) rmX12_isCoil [.ref (gz G + 107), .int a1] N f m (some (.int r)) N f m := by
  unfold fX12_isCoil at hf
  refine MT.of (by decide) (Nat.le_of_ble_eq_true rfl) (fun V ls hV hR B hl => ?_)
  have B : CX V G cX12_isCoil 2 "FluxWatchModel" (some .boolean) := B
  have hl : lv_has ls 2 [(0, .ref (gz G + 107)), (1, .int a1)] := hl
  show WX V G N f m 0 0 (QQ V G (some (.int r)) N f m 0 0) 0 ls []
  refine x_iload_n B dX12_isCoil_0 rfl (lv_at hl 1 rfl) ?_
  refine x_iconst (v := (nI 0)) B dX12_isCoil_1 (by decide) ?_
  refine x_aload_n B dX12_isCoil_2 rfl (lv_at hl 0 rfl) ?_
  refine y_getMr (C := RX12) (T := TX12) (NN := 34) (d := 0) (k2 := 108) B aM_107 inX12 rfl (j := 0) (by decide) q_1112 rfl rfl rfl dX12_isCoil_3 ?_
  refine x_bipush (v := (nI 6)) B dX12_isCoil_6 (by decide) ?_
  refine x_ialdM B aM_108 (by decide) dX12_isCoil_8 ?_
  refine x_iconst (v := (nI 1)) B dX12_isCoil_9 (by decide) ?_
  refine x_isub B dX12_isCoil_10 ?_
  obtain ⟨r2, c1, hf⟩ := bn_some hf
  refine x_callS0 (rest := []) B (kX12_in c1) ⟨rfl, rfl⟩ q_1220 q_1221 (by rw [hR]; exact cw_X12_isCoil_X12_in) rfl rfl hl.1 (Nat.le_of_ble_eq_true rfl) dX12_isCoil_11 ⟨Nat.zero_le _, Nat.zero_le _⟩ ?_
  obtain ⟨h3, hf⟩ := gd_some hf
  obtain rfl := rt1 hf
  exact x_zret B h3 dX12_isCoil_14
def rmX12_coilTold : Room := { frames := 2, cells := 0, slots := 0, locals := 46 }
set_option maxHeartbeats 4000000 in
set_option maxRecDepth 100000 in
theorem cw_X12_coilTold_X12_coil3 : cwB rmX12_coilTold rmX12_coil3 yX12_coil3 cX12_coil3 3 (some .int) 2 := ⟨q_1236, q_57, by decide, by decide⟩
set_option maxHeartbeats 4000000 in
set_option maxRecDepth 100000 in
theorem cw_X12_coilTold_X12_in : cwB rmX12_coilTold rmX12_in yX12_in cX12_in 3 (some .boolean) 3 := ⟨q_1222, q_57, by decide, by decide⟩
set_option maxHeartbeats 4000000 in
set_option maxRecDepth 100000 in
theorem cw_X12_coilTold_X12_isCoil : cwB rmX12_coilTold rmX12_isCoil yX12_isCoil cX12_isCoil 2 (some .boolean) 1 := ⟨q_1232, q_57, by decide, by decide⟩
set_option maxHeartbeats 4000000 in
set_option maxRecDepth 100000 in
theorem cw_X12_coilTold_X12_isWatched : cwB rmX12_coilTold rmX12_isWatched yX12_isWatched cX12_isWatched 5 (some .boolean) 2 := ⟨q_1241, q_57, by decide, by decide⟩
set_option maxHeartbeats 4000000 in
set_option maxRecDepth 100000 in
theorem cw_X12_coilTold_X12_step4 : cwB rmX12_coilTold rmX12_step4 yX12_step4 cX12_step4 3 (some .int) 2 := ⟨q_1245, q_57, by decide, by decide⟩
def fX12_coilTold_123 (n : Nat)  (k94 : Int32 → Int32 → Int32 → Mm → Option (Int32)) (x1 : Int32) (x4 : Int32) (s0 : Int32) (s1 : Int32) (m : Mm) : Option (Int32) :=
  k94 x1 (s1 + s0) (x4 + (nI 1)) m
set_option maxHeartbeats 4000000 in
set_option maxRecDepth 100000 in
theorem fX12_coilTold_123_ok {V : VE} {G : GE} {N : Nat} {f m : Mm} {n : Nat} {ls : Array Slot} {r : Int32} (B : CX V G cX12_coilTold 5 "FluxWatchModel" (some .int)) (hR : V.2.2.2.1 = rmX12_coilTold)  {k94 : Int32 → Int32 → Int32 → Mm → Option (Int32)} (hk94 : ∀ (x1 : Int32) (x3 : Int32) (x4 : Int32) (mm : Mm) (ls : Array Slot),  lv_has ls 5 [(0, .ref (gz G + 107)), (1, .int x1), (3, .int x3), (4, .int x4)] → k94 x1 x3 x4 mm = some r → WX V G N f mm 0 0 (QQ V G (some (.int r)) N f mm 0 0) 94 ls []) {x1 : Int32} {x4 : Int32} {s0 : Int32} {s1 : Int32}  (hl : lv_has ls 5 [(0, .ref (gz G + 107)), (1, .int x1), (4, .int x4)]) (hf : fX12_coilTold_123 n  k94 x1 x4 s0 s1 m = some r) : WX V G N f m 0 0 (QQ V G (some (.int r)) N f m 0 0) 123 ls [.int s0, .int s1] := by
  unfold fX12_coilTold_123 at hf
  refine x_iadd B dX12_coilTold_123 ?_
  refine x_istore_n (lv' := [(3, .int (s1 + s0)), (0, .ref (gz G + 107)), (1, .int x1), (4, .int x4)]) B dX12_coilTold_124 rfl hl (by decide) rfl (fun ls hl => ?_)
  refine x_iinc (k := 3) (v := (nI 1)) (lv' := [(4, .int (x4 + (nI 1))), (3, .int (s1 + s0)), (0, .ref (gz G + 107)), (1, .int x1)]) B dX12_coilTold_125 hl rfl (by decide) (by decide) rfl (fun ls hl => ?_)
  refine x_goto (tgt := 94) B dX12_coilTold_128 (by decide) ?_
  exact hk94 _ _ _ _ _ (lv_sub hl [2, 3, 1, 0] rfl) hf
def fX12_coilTold_94 (n : Nat)   (k94 : Int32 → Int32 → Int32 → Mm → Option (Int32)) (x1 : Int32) (x3 : Int32) (x4 : Int32) (m : Mm) : Option (Int32) :=
  if (m 108 (nI 8).toNatClampNeg) ≤ x4 then (
  some x3) else (
  bn (fX12_step4 n x4 (nI 1) m) fun r20 =>
  if r20 = x1 then (
  fX12_coilTold_123 n k94 x1 x4 (nI 1) x3 m) else (
  fX12_coilTold_123 n k94 x1 x4 (nI 0) x3 m))
def fX12_coilTold_94L (n : Nat)   : Nat → Int32 → Int32 → Int32 → Mm → Option (Int32)
  | 0 => fun _ _ _ _ => none
  | q + 1 => fX12_coilTold_94 n   (fX12_coilTold_94L n   q)
set_option maxHeartbeats 4000000 in
set_option maxRecDepth 100000 in
theorem fX12_coilTold_94_ok {V : VE} {G : GE} {N : Nat} {f m : Mm} {n : Nat} {ls : Array Slot} {r : Int32} (B : CX V G cX12_coilTold 5 "FluxWatchModel" (some .int)) (hR : V.2.2.2.1 = rmX12_coilTold)   {k94 : Int32 → Int32 → Int32 → Mm → Option (Int32)} (hk94 : ∀ (x1 : Int32) (x3 : Int32) (x4 : Int32) (mm : Mm) (ls : Array Slot),  lv_has ls 5 [(0, .ref (gz G + 107)), (1, .int x1), (3, .int x3), (4, .int x4)] → k94 x1 x3 x4 mm = some r → WX V G N f mm 0 0 (QQ V G (some (.int r)) N f mm 0 0) 94 ls []) {x1 : Int32} {x3 : Int32} {x4 : Int32}  (hl : lv_has ls 5 [(0, .ref (gz G + 107)), (1, .int x1), (3, .int x3), (4, .int x4)]) (hf : fX12_coilTold_94 n  k94 x1 x3 x4 m = some r) : WX V G N f m 0 0 (QQ V G (some (.int r)) N f m 0 0) 94 ls [] := by
  unfold fX12_coilTold_94 at hf
  refine x_iload B dX12_coilTold_94 (lv_at hl 3 rfl) ?_
  refine x_aload_n B dX12_coilTold_96 rfl (lv_at hl 0 rfl) ?_
  refine y_getMr (C := RX12) (T := TX12) (NN := 34) (d := 0) (k2 := 108) B aM_107 inX12 rfl (j := 0) (by decide) q_1112 rfl rfl rfl dX12_coilTold_97 ?_
  refine x_bipush (v := (nI 8)) B dX12_coilTold_100 (by decide) ?_
  refine x_ialdM B aM_108 (by decide) dX12_coilTold_102 ?_
  refine x_icmp_ge (tgt := 131) B dX12_coilTold_103 (by decide) (fun h18 => ?_) (fun h18 => ?_)
  · have hf := ip h18 hf
    refine x_iload_n B dX12_coilTold_131 rfl (lv_at hl 2 rfl) ?_
    obtain rfl := rt1 hf
    exact x_iret B dX12_coilTold_132
  · have hf := iq h18 hf
    refine x_iload_n B dX12_coilTold_106 rfl (lv_at hl 2 rfl) ?_
    refine x_aload_n B dX12_coilTold_107 rfl (lv_at hl 0 rfl) ?_
    refine x_iload B dX12_coilTold_108 (lv_at hl 3 rfl) ?_
    refine x_iconst (v := (nI 1)) B dX12_coilTold_110 (by decide) ?_
    obtain ⟨r20, c19, hf⟩ := bn_some hf
    refine x_callV0 (rest := [.int x3]) B (kX12_step4 c19) ⟨rfl, rfl⟩ aM_107.lt aM_107.2 rfl (by decide) q_1242 q_1244 q_10 (by rw [hR]; exact cw_X12_coilTold_X12_step4) rfl rfl hl.1 (Nat.le_of_ble_eq_true rfl) dX12_coilTold_111 ⟨Nat.zero_le _, Nat.zero_le _⟩ ?_
    refine x_iload_n B dX12_coilTold_114 rfl (lv_at hl 1 rfl) ?_
    refine x_icmp_ne (tgt := 122) B dX12_coilTold_115 (by decide) (fun h21 => ?_) (fun h21 => ?_)
    · have hf := ip h21 hf
      refine x_iconst (v := (nI 1)) B dX12_coilTold_118 (by decide) ?_
      refine x_goto (tgt := 123) B dX12_coilTold_119 (by decide) ?_
      exact fX12_coilTold_123_ok B hR hk94 (lv_sub hl [0, 1, 3] rfl) hf
    · have hf := iq h21 hf
      refine x_iconst (v := (nI 0)) B dX12_coilTold_122 (by decide) ?_
      exact fX12_coilTold_123_ok B hR hk94 (lv_sub hl [0, 1, 3] rfl) hf
set_option maxHeartbeats 4000000 in
set_option maxRecDepth 100000 in
theorem fX12_coilTold_94L_ok {V : VE} {G : GE} {N : Nat} {f : Mm} {n : Nat}  {r : Int32} (B : CX V G cX12_coilTold 5 "FluxWatchModel" (some .int)) (hR : V.2.2.2.1 = rmX12_coilTold)   : ∀ (q : Nat) (x1 : Int32) (x3 : Int32) (x4 : Int32) (mm : Mm) (ls : Array Slot),  lv_has ls 5 [(0, .ref (gz G + 107)), (1, .int x1), (3, .int x3), (4, .int x4)] → fX12_coilTold_94L n  q x1 x3 x4 mm = some r → WX V G N f mm 0 0 (QQ V G (some (.int r)) N f mm 0 0) 94 ls [] := by
  intro q
  induction q with
  | zero =>
    intro x1 x3 x4 mm ls hl hf
    cases hf
  | succ q ih =>
    intro x1 x3 x4 mm ls hl hf
    exact fX12_coilTold_94_ok B hR   ih  hl hf
def fX12_coilTold (n : Nat) (a1 : Int32) (a2 : Int32) (m : Mm) : Option (Int32) :=
  bn (fX12_isCoil n a1 m) fun r2 =>
  if r2 = 0 then (
  some (-1000000001 : Int32)) else (
  bn (fX12_in n a2 (nI 0) (nI 4)) fun r5 =>
  if r5 = 0 then (
  some (-1000000001 : Int32)) else (
  if a2 = (nI 2) then (
  bn (fX12_coil3 n a1 (nI 2) m) fun r9 =>
  if 0 ≤ r9 then (
  bn (fX12_coil3 n a1 (nI 2) m) fun r12 =>
  some r12) else (
  some (-1000000005 : Int32))) else (
  if a2 = (nI 3) then (
  bn (fX12_isWatched n a1 (m 108 (nI 1).toNatClampNeg) m) fun r15 =>
  if r15 = 0 then (
  some (nI 0)) else (
  some (nI 1))) else (
  if a2 = (nI 4) then (
  fX12_coilTold_94L n n a1 (nI 0) (nI 0) m) else (
  bn (fX12_coil3 n a1 a2 m) fun r23 =>
  some r23)))))
set_option maxHeartbeats 4000000 in
set_option maxRecDepth 100000 in
theorem kX12_coilTold {l : Launch} {G : GE} {N : Nat} {f m : Mm} {n : Nat} {a1 : Int32} {a2 : Int32} {r : Int32}  (hf : fX12_coilTold n a1 a2 m = some r) : MT l G yX12_coilTold cX12_coilTold 5 (some .int) rmX12_coilTold [.ref (gz G + 107), .int a1, .int a2] N f m (some (.int r)) N f m := by
  unfold fX12_coilTold at hf
  refine MT.of (by decide) (Nat.le_of_ble_eq_true rfl) (fun V ls hV hR B hl => ?_)
  have B : CX V G cX12_coilTold 5 "FluxWatchModel" (some .int) := B
  have hl : lv_has ls 5 [(0, .ref (gz G + 107)), (1, .int a1), (2, .int a2)] := hl
  show WX V G N f m 0 0 (QQ V G (some (.int r)) N f m 0 0) 0 ls []
  refine x_aload_n B dX12_coilTold_0 rfl (lv_at hl 0 rfl) ?_
  refine x_iload_n B dX12_coilTold_1 rfl (lv_at hl 1 rfl) ?_
  obtain ⟨r2, c1, hf⟩ := bn_some hf
  refine x_callV0 (rest := []) B (kX12_isCoil c1) ⟨rfl, rfl⟩ aM_107.lt aM_107.2 rfl (by decide) q_1229 q_1231 q_7 (by rw [hR]; exact cw_X12_coilTold_X12_isCoil) rfl rfl hl.1 (Nat.le_of_ble_eq_true rfl) dX12_coilTold_2 ⟨Nat.zero_le _, Nat.zero_le _⟩ ?_
  refine x_if_eq (tgt := 17) B dX12_coilTold_5 (by decide) (fun h3 => ?_) (fun h3 => ?_)
  · have hf := ip h3 hf
    refine x_ldc (v := (-1000000001 : Int32)) B q_1223 dX12_coilTold_17 ?_
    obtain rfl := rt1 hf
    exact x_iret B dX12_coilTold_19
  · have hf := iq h3 hf
    refine x_iload_n B dX12_coilTold_8 rfl (lv_at hl 2 rfl) ?_
    refine x_iconst (v := (nI 0)) B dX12_coilTold_9 (by decide) ?_
    refine x_iconst (v := (nI 4)) B dX12_coilTold_10 (by decide) ?_
    obtain ⟨r5, c4, hf⟩ := bn_some hf
    refine x_callS0 (rest := []) B (kX12_in c4) ⟨rfl, rfl⟩ q_1220 q_1221 (by rw [hR]; exact cw_X12_coilTold_X12_in) rfl rfl hl.1 (Nat.le_of_ble_eq_true rfl) dX12_coilTold_11 ⟨Nat.zero_le _, Nat.zero_le _⟩ ?_
    refine x_if_ne (tgt := 20) B dX12_coilTold_14 (by decide) (fun h6 => ?_) (fun h6 => ?_)
    · have hf := ip h6 hf
      refine x_ldc (v := (-1000000001 : Int32)) B q_1223 dX12_coilTold_17 ?_
      obtain rfl := rt1 hf
      exact x_iret B dX12_coilTold_19
    · have hf := iq h6 hf
      refine x_iload_n B dX12_coilTold_20 rfl (lv_at hl 2 rfl) ?_
      by_cases h7 : a2 = (nI 2)
      · have hf := ip h7 hf
        refine x_tabIn (a := 2) (tgt := 48) B dX12_coilTold_21 (by rw [h7]; rfl) (by decide) (by decide) rfl (by decide) ?_
        refine x_aload_n B dX12_coilTold_48 rfl (lv_at hl 0 rfl) ?_
        refine x_iload_n B dX12_coilTold_49 rfl (lv_at hl 1 rfl) ?_
        refine x_iconst (v := (nI 2)) B dX12_coilTold_50 (by decide) ?_
        obtain ⟨r9, c8, hf⟩ := bn_some hf
        refine x_callV0 (rest := []) B (kX12_coil3 c8) ⟨rfl, rfl⟩ aM_107.lt aM_107.2 rfl (by decide) q_1233 q_1235 q_8 (by rw [hR]; exact cw_X12_coilTold_X12_coil3) rfl rfl hl.1 (Nat.le_of_ble_eq_true rfl) dX12_coilTold_51 ⟨Nat.zero_le _, Nat.zero_le _⟩ ?_
        refine x_if_ge (tgt := 62) B dX12_coilTold_54 (by decide) (fun h10 => ?_) (fun h10 => ?_)
        · have hf := ip h10 hf
          refine x_aload_n B dX12_coilTold_62 rfl (lv_at hl 0 rfl) ?_
          refine x_iload_n B dX12_coilTold_63 rfl (lv_at hl 1 rfl) ?_
          refine x_iconst (v := (nI 2)) B dX12_coilTold_64 (by decide) ?_
          obtain ⟨r12, c11, hf⟩ := bn_some hf
          refine x_callV0 (rest := []) B (kX12_coil3 c11) ⟨rfl, rfl⟩ aM_107.lt aM_107.2 rfl (by decide) q_1233 q_1235 q_8 (by rw [hR]; exact cw_X12_coilTold_X12_coil3) rfl rfl hl.1 (Nat.le_of_ble_eq_true rfl) dX12_coilTold_65 ⟨Nat.zero_le _, Nat.zero_le _⟩ ?_
          obtain rfl := rt1 hf
          exact x_iret B dX12_coilTold_68
        · have hf := iq h10 hf
          refine x_ldc (v := (-1000000005 : Int32)) B q_1237 dX12_coilTold_57 ?_
          refine x_goto (tgt := 68) B dX12_coilTold_59 (by decide) ?_
          obtain rfl := rt1 hf
          exact x_iret B dX12_coilTold_68
      · have hf := iq h7 hf
        by_cases h13 : a2 = (nI 3)
        · have hf := ip h13 hf
          refine x_tabIn (a := 3) (tgt := 69) B dX12_coilTold_21 (by rw [h13]; rfl) (by decide) (by decide) rfl (by decide) ?_
          refine x_aload_n B dX12_coilTold_69 rfl (lv_at hl 0 rfl) ?_
          refine x_iload_n B dX12_coilTold_70 rfl (lv_at hl 1 rfl) ?_
          refine x_aload_n B dX12_coilTold_71 rfl (lv_at hl 0 rfl) ?_
          refine y_getMr (C := RX12) (T := TX12) (NN := 34) (d := 0) (k2 := 108) B aM_107 inX12 rfl (j := 0) (by decide) q_1112 rfl rfl rfl dX12_coilTold_72 ?_
          refine x_iconst (v := (nI 1)) B dX12_coilTold_75 (by decide) ?_
          refine x_ialdM B aM_108 (by decide) dX12_coilTold_76 ?_
          obtain ⟨r15, c14, hf⟩ := bn_some hf
          refine x_callV0 (rest := []) B (kX12_isWatched c14) ⟨rfl, rfl⟩ aM_107.lt aM_107.2 rfl (by decide) q_1238 q_1240 q_9 (by rw [hR]; exact cw_X12_coilTold_X12_isWatched) rfl rfl hl.1 (Nat.le_of_ble_eq_true rfl) dX12_coilTold_77 ⟨Nat.zero_le _, Nat.zero_le _⟩ ?_
          refine x_if_eq (tgt := 87) B dX12_coilTold_80 (by decide) (fun h16 => ?_) (fun h16 => ?_)
          · have hf := ip h16 hf
            refine x_iconst (v := (nI 0)) B dX12_coilTold_87 (by decide) ?_
            obtain rfl := rt1 hf
            exact x_iret B dX12_coilTold_88
          · have hf := iq h16 hf
            refine x_iconst (v := (nI 1)) B dX12_coilTold_83 (by decide) ?_
            refine x_goto (tgt := 88) B dX12_coilTold_84 (by decide) ?_
            obtain rfl := rt1 hf
            exact x_iret B dX12_coilTold_88
        · have hf := iq h13 hf
          by_cases h17 : a2 = (nI 4)
          · have hf := ip h17 hf
            refine x_tabIn (a := 4) (tgt := 89) B dX12_coilTold_21 (by rw [h17]; rfl) (by decide) (by decide) rfl (by decide) ?_
            refine x_iconst (v := (nI 0)) B dX12_coilTold_89 (by decide) ?_
            refine x_istore_n (lv' := [(3, .int (nI 0)), (0, .ref (gz G + 107)), (1, .int a1), (2, .int a2)]) B dX12_coilTold_90 rfl hl (by decide) rfl (fun ls hl => ?_)
            refine x_iconst (v := (nI 0)) B dX12_coilTold_91 (by decide) ?_
            refine x_istore (lv' := [(4, .int (nI 0)), (3, .int (nI 0)), (0, .ref (gz G + 107)), (1, .int a1), (2, .int a2)]) B dX12_coilTold_92 hl (by decide) rfl (fun ls hl => ?_)
            exact fX12_coilTold_94L_ok B hR  n _ _ _ _ _ (lv_sub hl [2, 3, 1, 0] rfl) hf
          · have hf := iq h17 hf
            have h7t := lv_neT h7 (show ((nI 2)).toInt = 2 from rfl)
            have h13t := lv_neT h13 (show ((nI 3)).toInt = 3 from rfl)
            have h17t := lv_neT h17 (show ((nI 4)).toInt = 4 from rfl)
            refine x_tabOut (tgt := 133) B dX12_coilTold_21 (by omega) (by decide) ?_
            refine x_aload_n B dX12_coilTold_133 rfl (lv_at hl 0 rfl) ?_
            refine x_iload_n B dX12_coilTold_134 rfl (lv_at hl 1 rfl) ?_
            refine x_iload_n B dX12_coilTold_135 rfl (lv_at hl 2 rfl) ?_
            obtain ⟨r23, c22, hf⟩ := bn_some hf
            refine x_callV0 (rest := []) B (kX12_coil3 c22) ⟨rfl, rfl⟩ aM_107.lt aM_107.2 rfl (by decide) q_1233 q_1235 q_8 (by rw [hR]; exact cw_X12_coilTold_X12_coil3) rfl rfl hl.1 (Nat.le_of_ble_eq_true rfl) dX12_coilTold_136 ⟨Nat.zero_le _, Nat.zero_le _⟩ ?_
            obtain rfl := rt1 hf
            exact x_iret B dX12_coilTold_139
def rmX12_isSheet : Room := { frames := 1, cells := 0, slots := 0, locals := 22 }
set_option maxHeartbeats 4000000 in
set_option maxRecDepth 100000 in
theorem cw_X12_isSheet_X12_in : cwB rmX12_isSheet rmX12_in yX12_in cX12_in 3 (some .boolean) 3 := ⟨q_1222, q_57, by decide, by decide⟩
def fX12_isSheet (n : Nat) (a1 : Int32)  : Option (Int32) :=
  bn (fX12_in n a1 (nI 0) (nI 3)) fun r2 =>
  gd (zb r2) <|
  some r2
set_option maxHeartbeats 4000000 in
set_option maxRecDepth 100000 in
theorem kX12_isSheet {l : Launch} {G : GE} {N : Nat} {f m : Mm} {n : Nat} {a1 : Int32} {r : Int32}  (hf : fX12_isSheet n a1 = some r) : MT l G yX12_isSheet cX12_isSheet 1 (some .boolean) rmX12_isSheet [.int a1] N f m (some (.int r)) N f m := by
  unfold fX12_isSheet at hf
  refine MT.of (by decide) (Nat.le_of_ble_eq_true rfl) (fun V ls hV hR B hl => ?_)
  have B : CX V G cX12_isSheet 1 "FluxWatchModel" (some .boolean) := B
  have hl : lv_has ls 1 [(0, .int a1)] := hl
  show WX V G N f m 0 0 (QQ V G (some (.int r)) N f m 0 0) 0 ls []
  refine x_iload_n B dX12_isSheet_0 rfl (lv_at hl 0 rfl) ?_
  refine x_iconst (v := (nI 0)) B dX12_isSheet_1 (by decide) ?_
  refine x_iconst (v := (nI 3)) B dX12_isSheet_2 (by decide) ?_
  obtain ⟨r2, c1, hf⟩ := bn_some hf
  refine x_callS0 (rest := []) B (kX12_in c1) ⟨rfl, rfl⟩ q_1220 q_1221 (by rw [hR]; exact cw_X12_isSheet_X12_in) rfl rfl hl.1 (Nat.le_of_ble_eq_true rfl) dX12_isSheet_3 ⟨Nat.zero_le _, Nat.zero_le _⟩ ?_
  obtain ⟨h3, hf⟩ := gd_some hf
  obtain rfl := rt1 hf
  exact x_zret B h3 dX12_isSheet_6
def rmX12_copy : Room := { frames := 2, cells := 0, slots := 0, locals := 42 }
set_option maxHeartbeats 4000000 in
set_option maxRecDepth 100000 in
theorem cw_X12_copy_X12_isSheet : cwB rmX12_copy rmX12_isSheet yX12_isSheet cX12_isSheet 1 (some .boolean) 1 := ⟨q_1550, q_57, by decide, by decide⟩
def fX12_copy_142 (n : Nat)   (k142 : Int32 → Int32 → Int32 → Int32 → Mm → Option (Int32 × Mm)) (x3 : Int32) (x4 : Int32) (x5 : Int32) (x6 : Int32) (m : Mm) : Option (Int32 × Mm) :=
  if x5 ≤ x6 then (
  some (x5, m)) else (
  gd (ib x6 24) <|
  gd (ib ((((nI 24) * x3) + x4) + x6) 96) <|
  lt (up m 123 ((((nI 24) * x3) + x4) + x6).toNatClampNeg (m 128 x6.toNatClampNeg)) fun f25 =>
  k142 x3 x4 x5 (x6 + (nI 1)) f25)
def fX12_copy_142L (n : Nat)   : Nat → Int32 → Int32 → Int32 → Int32 → Mm → Option (Int32 × Mm)
  | 0 => fun _ _ _ _ _ => none
  | q + 1 => fX12_copy_142 n   (fX12_copy_142L n   q)
set_option maxHeartbeats 4000000 in
set_option maxRecDepth 100000 in
theorem fX12_copy_142_ok {V : VE} {G : GE} {N : Nat} {f m : Mm} {n : Nat} {ls : Array Slot} {r : Int32} {g : Mm} (B : CX V G cX12_copy 7 "FluxWatchModel" (some .int)) (hR : V.2.2.2.1 = rmX12_copy)   {k142 : Int32 → Int32 → Int32 → Int32 → Mm → Option (Int32 × Mm)} (hk142 : ∀ (x3 : Int32) (x4 : Int32) (x5 : Int32) (x6 : Int32) (mm : Mm) (ls : Array Slot),  lv_has ls 7 [(0, .ref (gz G + 107)), (3, .int x3), (4, .int x4), (5, .int x5), (6, .int x6)] → k142 x3 x4 x5 x6 mm = some (r, g) → WX V G N f mm 0 0 (QQ V G (some (.int r)) N f g 0 0) 142 ls []) {x3 : Int32} {x4 : Int32} {x5 : Int32} {x6 : Int32}  (hl : lv_has ls 7 [(0, .ref (gz G + 107)), (3, .int x3), (4, .int x4), (5, .int x5), (6, .int x6)]) (hf : fX12_copy_142 n  k142 x3 x4 x5 x6 m = some (r, g)) : WX V G N f m 0 0 (QQ V G (some (.int r)) N f g 0 0) 142 ls [] := by
  unfold fX12_copy_142 at hf
  refine x_iload B dX12_copy_142 (lv_at hl 4 rfl) ?_
  refine x_iload B dX12_copy_144 (lv_at hl 3 rfl) ?_
  refine x_icmp_ge (tgt := 177) B dX12_copy_146 (by decide) (fun h22 => ?_) (fun h22 => ?_)
  · have hf := ip h22 hf
    refine x_iload B dX12_copy_177 (lv_at hl 3 rfl) ?_
    obtain ⟨rfl, rfl⟩ := rt2 hf
    exact x_iret B dX12_copy_179
  · have hf := iq h22 hf
    refine x_aload_n B dX12_copy_149 rfl (lv_at hl 0 rfl) ?_
    refine y_getMr (C := RX12) (T := TX12) (NN := 34) (d := 15) (k2 := 123) B aM_107 inX12 rfl (j := 26) (by decide) q_1138 rfl rfl rfl dX12_copy_150 ?_
    refine x_bipush (v := (nI 24)) B dX12_copy_153 (by decide) ?_
    refine x_iload_n B dX12_copy_155 rfl (lv_at hl 1 rfl) ?_
    refine x_imul B dX12_copy_156 ?_
    refine x_iload B dX12_copy_157 (lv_at hl 2 rfl) ?_
    refine x_iadd B dX12_copy_159 ?_
    refine x_iload B dX12_copy_160 (lv_at hl 4 rfl) ?_
    refine x_iadd B dX12_copy_162 ?_
    refine x_aload_n B dX12_copy_163 rfl (lv_at hl 0 rfl) ?_
    refine y_getMr (C := RX12) (T := TX12) (NN := 34) (d := 20) (k2 := 128) B aM_107 inX12 rfl (j := 31) (by decide) q_1143 rfl rfl rfl dX12_copy_164 ?_
    refine x_iload B dX12_copy_167 (lv_at hl 4 rfl) ?_
    obtain ⟨h23, hf⟩ := gd_some hf
    refine x_ialdM B aM_128 h23 dX12_copy_169 ?_
    obtain ⟨h24, hf⟩ := gd_some hf
    refine x_iastM B aM_123 h24 dX12_copy_170 (fun f25 e26 => ?_)
    have hf := lt_some hf e26
    refine x_iinc (k := 4) (v := (nI 1)) (lv' := [(6, .int (x6 + (nI 1))), (0, .ref (gz G + 107)), (3, .int x3), (4, .int x4), (5, .int x5)]) B dX12_copy_171 hl rfl (by decide) (by decide) rfl (fun ls hl => ?_)
    refine x_goto (tgt := 142) B dX12_copy_174 (by decide) ?_
    exact hk142 _ _ _ _ _ _ (lv_sub hl [1, 2, 3, 4, 0] rfl) hf
set_option maxHeartbeats 4000000 in
set_option maxRecDepth 100000 in
theorem fX12_copy_142L_ok {V : VE} {G : GE} {N : Nat} {f : Mm} {n : Nat}  {r : Int32} {g : Mm} (B : CX V G cX12_copy 7 "FluxWatchModel" (some .int)) (hR : V.2.2.2.1 = rmX12_copy)   : ∀ (q : Nat) (x3 : Int32) (x4 : Int32) (x5 : Int32) (x6 : Int32) (mm : Mm) (ls : Array Slot),  lv_has ls 7 [(0, .ref (gz G + 107)), (3, .int x3), (4, .int x4), (5, .int x5), (6, .int x6)] → fX12_copy_142L n  q x3 x4 x5 x6 mm = some (r, g) → WX V G N f mm 0 0 (QQ V G (some (.int r)) N f g 0 0) 142 ls [] := by
  intro q
  induction q with
  | zero =>
    intro x3 x4 x5 x6 mm ls hl hf
    cases hf
  | succ q ih =>
    intro x3 x4 x5 x6 mm ls hl hf
    exact fX12_copy_142_ok B hR   ih  hl hf
def fX12_copy_105 (n : Nat)   (k105 : Int32 → Int32 → Int32 → Int32 → Int32 → Int32 → Mm → Option (Int32 × Mm)) (x1 : Int32) (x2 : Int32) (x3 : Int32) (x4 : Int32) (x5 : Int32) (x6 : Int32) (m : Mm) : Option (Int32 × Mm) :=
  if x5 ≤ x6 then (
  fX12_copy_142L n n x3 x4 x5 (nI 0) m) else (
  gd (ib ((((nI 24) * x1) + x2) + x6) 96) <|
  gd (ib x6 24) <|
  lt (up m 128 x6.toNatClampNeg (m 123 ((((nI 24) * x1) + x2) + x6).toNatClampNeg)) fun f29 =>
  k105 x1 x2 x3 x4 x5 (x6 + (nI 1)) f29)
def fX12_copy_105L (n : Nat)   : Nat → Int32 → Int32 → Int32 → Int32 → Int32 → Int32 → Mm → Option (Int32 × Mm)
  | 0 => fun _ _ _ _ _ _ _ => none
  | q + 1 => fX12_copy_105 n   (fX12_copy_105L n   q)
set_option maxHeartbeats 4000000 in
set_option maxRecDepth 100000 in
theorem fX12_copy_105_ok {V : VE} {G : GE} {N : Nat} {f m : Mm} {n : Nat} {ls : Array Slot} {r : Int32} {g : Mm} (B : CX V G cX12_copy 7 "FluxWatchModel" (some .int)) (hR : V.2.2.2.1 = rmX12_copy)   {k105 : Int32 → Int32 → Int32 → Int32 → Int32 → Int32 → Mm → Option (Int32 × Mm)} (hk105 : ∀ (x1 : Int32) (x2 : Int32) (x3 : Int32) (x4 : Int32) (x5 : Int32) (x6 : Int32) (mm : Mm) (ls : Array Slot),  lv_has ls 7 [(0, .ref (gz G + 107)), (1, .int x1), (2, .int x2), (3, .int x3), (4, .int x4), (5, .int x5), (6, .int x6)] → k105 x1 x2 x3 x4 x5 x6 mm = some (r, g) → WX V G N f mm 0 0 (QQ V G (some (.int r)) N f g 0 0) 105 ls []) {x1 : Int32} {x2 : Int32} {x3 : Int32} {x4 : Int32} {x5 : Int32} {x6 : Int32}  (hl : lv_has ls 7 [(0, .ref (gz G + 107)), (1, .int x1), (2, .int x2), (3, .int x3), (4, .int x4), (5, .int x5), (6, .int x6)]) (hf : fX12_copy_105 n  k105 x1 x2 x3 x4 x5 x6 m = some (r, g)) : WX V G N f m 0 0 (QQ V G (some (.int r)) N f g 0 0) 105 ls [] := by
  unfold fX12_copy_105 at hf
  refine x_iload B dX12_copy_105 (lv_at hl 6 rfl) ?_
  refine x_iload B dX12_copy_107 (lv_at hl 5 rfl) ?_
  refine x_icmp_ge (tgt := 139) B dX12_copy_109 (by decide) (fun h21 => ?_) (fun h21 => ?_)
  · have hf := ip h21 hf
    refine x_iconst (v := (nI 0)) B dX12_copy_139 (by decide) ?_
    refine x_istore (lv' := [(6, .int (nI 0)), (0, .ref (gz G + 107)), (1, .int x1), (2, .int x2), (3, .int x3), (4, .int x4), (5, .int x5)]) B dX12_copy_140 hl (by decide) rfl (fun ls hl => ?_)
    exact fX12_copy_142L_ok B hR  n _ _ _ _ _ _ (lv_sub hl [1, 4, 5, 6, 0] rfl) hf
  · have hf := iq h21 hf
    refine x_aload_n B dX12_copy_112 rfl (lv_at hl 0 rfl) ?_
    refine y_getMr (C := RX12) (T := TX12) (NN := 34) (d := 20) (k2 := 128) B aM_107 inX12 rfl (j := 31) (by decide) q_1143 rfl rfl rfl dX12_copy_113 ?_
    refine x_iload B dX12_copy_116 (lv_at hl 6 rfl) ?_
    refine x_aload_n B dX12_copy_118 rfl (lv_at hl 0 rfl) ?_
    refine y_getMr (C := RX12) (T := TX12) (NN := 34) (d := 15) (k2 := 123) B aM_107 inX12 rfl (j := 26) (by decide) q_1138 rfl rfl rfl dX12_copy_119 ?_
    refine x_bipush (v := (nI 24)) B dX12_copy_122 (by decide) ?_
    refine x_iload_n B dX12_copy_124 rfl (lv_at hl 1 rfl) ?_
    refine x_imul B dX12_copy_125 ?_
    refine x_iload_n B dX12_copy_126 rfl (lv_at hl 2 rfl) ?_
    refine x_iadd B dX12_copy_127 ?_
    refine x_iload B dX12_copy_128 (lv_at hl 6 rfl) ?_
    refine x_iadd B dX12_copy_130 ?_
    obtain ⟨h27, hf⟩ := gd_some hf
    refine x_ialdM B aM_123 h27 dX12_copy_131 ?_
    obtain ⟨h28, hf⟩ := gd_some hf
    refine x_iastM B aM_128 h28 dX12_copy_132 (fun f29 e30 => ?_)
    have hf := lt_some hf e30
    refine x_iinc (k := 6) (v := (nI 1)) (lv' := [(6, .int (x6 + (nI 1))), (0, .ref (gz G + 107)), (1, .int x1), (2, .int x2), (3, .int x3), (4, .int x4), (5, .int x5)]) B dX12_copy_133 hl rfl (by decide) (by decide) rfl (fun ls hl => ?_)
    refine x_goto (tgt := 105) B dX12_copy_136 (by decide) ?_
    exact hk105 _ _ _ _ _ _ _ _ (lv_sub hl [1, 2, 3, 4, 5, 6, 0] rfl) hf
set_option maxHeartbeats 4000000 in
set_option maxRecDepth 100000 in
theorem fX12_copy_105L_ok {V : VE} {G : GE} {N : Nat} {f : Mm} {n : Nat}  {r : Int32} {g : Mm} (B : CX V G cX12_copy 7 "FluxWatchModel" (some .int)) (hR : V.2.2.2.1 = rmX12_copy)   : ∀ (q : Nat) (x1 : Int32) (x2 : Int32) (x3 : Int32) (x4 : Int32) (x5 : Int32) (x6 : Int32) (mm : Mm) (ls : Array Slot),  lv_has ls 7 [(0, .ref (gz G + 107)), (1, .int x1), (2, .int x2), (3, .int x3), (4, .int x4), (5, .int x5), (6, .int x6)] → fX12_copy_105L n  q x1 x2 x3 x4 x5 x6 mm = some (r, g) → WX V G N f mm 0 0 (QQ V G (some (.int r)) N f g 0 0) 105 ls [] := by
  intro q
  induction q with
  | zero =>
    intro x1 x2 x3 x4 x5 x6 mm ls hl hf
    cases hf
  | succ q ih =>
    intro x1 x2 x3 x4 x5 x6 mm ls hl hf
    exact fX12_copy_105_ok B hR   ih  hl hf
def fX12_copy (n : Nat) (a1 : Int32) (a2 : Int32) (a3 : Int32) (a4 : Int32) (a5 : Int32) (m : Mm) : Option (Int32 × Mm) :=
  bn (fX12_isSheet n a1) fun r2 =>
  if r2 = 0 then (
  some ((-1000000001 : Int32), m)) else (
  bn (fX12_isSheet n a3) fun r5 =>
  if r5 = 0 then (
  some ((-1000000001 : Int32), m)) else (
  gd (ib a1 4) <|
  if (m 121 a1.toNatClampNeg) < 0 then (
  some ((-1000000011 : Int32), m)) else (
  gd (ib a3 4) <|
  if 0 ≤ (m 121 a3.toNatClampNeg) then (
  gd (ib a1 4) <|
  gd (ib a3 4) <|
  if (m 121 a1.toNatClampNeg) = (m 121 a3.toNatClampNeg) then (
  if a2 < 0 then (
  some ((-1000000013 : Int32), m)) else (
  if a4 < 0 then (
  some ((-1000000013 : Int32), m)) else (
  if a5 < 0 then (
  some ((-1000000013 : Int32), m)) else (
  gd (ib a1 4) <|
  if ((m 122 a1.toNatClampNeg) - a5) < a2 then (
  some ((-1000000013 : Int32), m)) else (
  gd (ib a3 4) <|
  if a4 ≤ ((m 122 a3.toNatClampNeg) - a5) then (
  fX12_copy_105L n n a1 a2 a3 a4 a5 (nI 0) m) else (
  some ((-1000000013 : Int32), m))))))) else (
  some ((-1000000012 : Int32), m))) else (
  some ((-1000000011 : Int32), m)))))
set_option maxHeartbeats 4000000 in
set_option maxRecDepth 100000 in
theorem kX12_copy {l : Launch} {G : GE} {N : Nat} {f m : Mm} {n : Nat} {a1 : Int32} {a2 : Int32} {a3 : Int32} {a4 : Int32} {a5 : Int32} {r : Int32} {g : Mm}  (hf : fX12_copy n a1 a2 a3 a4 a5 m = some (r, g)) : MT l G yX12_copy cX12_copy 7 (some .int) rmX12_copy [.ref (gz G + 107), .int a1, .int a2, .int a3, .int a4, .int a5] N f m (some (.int r)) N f g := by
  unfold fX12_copy at hf
  refine MT.of (by decide) (Nat.le_of_ble_eq_true rfl) (fun V ls hV hR B hl => ?_)
  have B : CX V G cX12_copy 7 "FluxWatchModel" (some .int) := B
  have hl : lv_has ls 7 [(0, .ref (gz G + 107)), (1, .int a1), (2, .int a2), (3, .int a3), (4, .int a4), (5, .int a5)] := hl
  show WX V G N f m 0 0 (QQ V G (some (.int r)) N f g 0 0) 0 ls []
  refine x_iload_n B dX12_copy_0 rfl (lv_at hl 1 rfl) ?_
  obtain ⟨r2, c1, hf⟩ := bn_some hf
  refine x_callS0 (rest := []) B (kX12_isSheet c1) ⟨rfl, rfl⟩ q_1548 q_1549 (by rw [hR]; exact cw_X12_copy_X12_isSheet) rfl rfl hl.1 (Nat.le_of_ble_eq_true rfl) dX12_copy_1 ⟨Nat.zero_le _, Nat.zero_le _⟩ ?_
  refine x_if_eq (tgt := 14) B dX12_copy_4 (by decide) (fun h3 => ?_) (fun h3 => ?_)
  · have hf := ip h3 hf
    refine x_ldc (v := (-1000000001 : Int32)) B q_1223 dX12_copy_14 ?_
    obtain ⟨rfl, rfl⟩ := rt2 hf
    exact x_iret B dX12_copy_16
  · have hf := iq h3 hf
    refine x_iload_n B dX12_copy_7 rfl (lv_at hl 3 rfl) ?_
    obtain ⟨r5, c4, hf⟩ := bn_some hf
    refine x_callS0 (rest := []) B (kX12_isSheet c4) ⟨rfl, rfl⟩ q_1548 q_1549 (by rw [hR]; exact cw_X12_copy_X12_isSheet) rfl rfl hl.1 (Nat.le_of_ble_eq_true rfl) dX12_copy_8 ⟨Nat.zero_le _, Nat.zero_le _⟩ ?_
    refine x_if_ne (tgt := 17) B dX12_copy_11 (by decide) (fun h6 => ?_) (fun h6 => ?_)
    · have hf := ip h6 hf
      refine x_ldc (v := (-1000000001 : Int32)) B q_1223 dX12_copy_14 ?_
      obtain ⟨rfl, rfl⟩ := rt2 hf
      exact x_iret B dX12_copy_16
    · have hf := iq h6 hf
      refine x_aload_n B dX12_copy_17 rfl (lv_at hl 0 rfl) ?_
      refine y_getMr (C := RX12) (T := TX12) (NN := 34) (d := 13) (k2 := 121) B aM_107 inX12 rfl (j := 24) (by decide) q_1136 rfl rfl rfl dX12_copy_18 ?_
      refine x_iload_n B dX12_copy_21 rfl (lv_at hl 1 rfl) ?_
      obtain ⟨h7, hf⟩ := gd_some hf
      refine x_ialdM B aM_121 h7 dX12_copy_22 ?_
      refine x_if_lt (tgt := 35) B dX12_copy_23 (by decide) (fun h8 => ?_) (fun h8 => ?_)
      · have hf := ip h8 hf
        refine x_ldc_w (v := (-1000000011 : Int32)) B q_1556 dX12_copy_35 ?_
        obtain ⟨rfl, rfl⟩ := rt2 hf
        exact x_iret B dX12_copy_38
      · have hf := iq h8 hf
        refine x_aload_n B dX12_copy_26 rfl (lv_at hl 0 rfl) ?_
        refine y_getMr (C := RX12) (T := TX12) (NN := 34) (d := 13) (k2 := 121) B aM_107 inX12 rfl (j := 24) (by decide) q_1136 rfl rfl rfl dX12_copy_27 ?_
        refine x_iload_n B dX12_copy_30 rfl (lv_at hl 3 rfl) ?_
        obtain ⟨h9, hf⟩ := gd_some hf
        refine x_ialdM B aM_121 h9 dX12_copy_31 ?_
        refine x_if_ge (tgt := 39) B dX12_copy_32 (by decide) (fun h10 => ?_) (fun h10 => ?_)
        · have hf := ip h10 hf
          refine x_aload_n B dX12_copy_39 rfl (lv_at hl 0 rfl) ?_
          refine y_getMr (C := RX12) (T := TX12) (NN := 34) (d := 13) (k2 := 121) B aM_107 inX12 rfl (j := 24) (by decide) q_1136 rfl rfl rfl dX12_copy_40 ?_
          refine x_iload_n B dX12_copy_43 rfl (lv_at hl 1 rfl) ?_
          obtain ⟨h11, hf⟩ := gd_some hf
          refine x_ialdM B aM_121 h11 dX12_copy_44 ?_
          refine x_aload_n B dX12_copy_45 rfl (lv_at hl 0 rfl) ?_
          refine y_getMr (C := RX12) (T := TX12) (NN := 34) (d := 13) (k2 := 121) B aM_107 inX12 rfl (j := 24) (by decide) q_1136 rfl rfl rfl dX12_copy_46 ?_
          refine x_iload_n B dX12_copy_49 rfl (lv_at hl 3 rfl) ?_
          obtain ⟨h12, hf⟩ := gd_some hf
          refine x_ialdM B aM_121 h12 dX12_copy_50 ?_
          refine x_icmp_eq (tgt := 57) B dX12_copy_51 (by decide) (fun h13 => ?_) (fun h13 => ?_)
          · have hf := ip h13 hf
            refine x_iload_n B dX12_copy_57 rfl (lv_at hl 2 rfl) ?_
            refine x_if_lt (tgt := 98) B dX12_copy_58 (by decide) (fun h14 => ?_) (fun h14 => ?_)
            · have hf := ip h14 hf
              refine x_ldc_w (v := (-1000000013 : Int32)) B q_1557 dX12_copy_98 ?_
              obtain ⟨rfl, rfl⟩ := rt2 hf
              exact x_iret B dX12_copy_101
            · have hf := iq h14 hf
              refine x_iload B dX12_copy_61 (lv_at hl 4 rfl) ?_
              refine x_if_lt (tgt := 98) B dX12_copy_63 (by decide) (fun h15 => ?_) (fun h15 => ?_)
              · have hf := ip h15 hf
                refine x_ldc_w (v := (-1000000013 : Int32)) B q_1557 dX12_copy_98 ?_
                obtain ⟨rfl, rfl⟩ := rt2 hf
                exact x_iret B dX12_copy_101
              · have hf := iq h15 hf
                refine x_iload B dX12_copy_66 (lv_at hl 5 rfl) ?_
                refine x_if_lt (tgt := 98) B dX12_copy_68 (by decide) (fun h16 => ?_) (fun h16 => ?_)
                · have hf := ip h16 hf
                  refine x_ldc_w (v := (-1000000013 : Int32)) B q_1557 dX12_copy_98 ?_
                  obtain ⟨rfl, rfl⟩ := rt2 hf
                  exact x_iret B dX12_copy_101
                · have hf := iq h16 hf
                  refine x_iload_n B dX12_copy_71 rfl (lv_at hl 2 rfl) ?_
                  refine x_aload_n B dX12_copy_72 rfl (lv_at hl 0 rfl) ?_
                  refine y_getMr (C := RX12) (T := TX12) (NN := 34) (d := 14) (k2 := 122) B aM_107 inX12 rfl (j := 25) (by decide) q_1137 rfl rfl rfl dX12_copy_73 ?_
                  refine x_iload_n B dX12_copy_76 rfl (lv_at hl 1 rfl) ?_
                  obtain ⟨h17, hf⟩ := gd_some hf
                  refine x_ialdM B aM_122 h17 dX12_copy_77 ?_
                  refine x_iload B dX12_copy_78 (lv_at hl 5 rfl) ?_
                  refine x_isub B dX12_copy_80 ?_
                  refine x_icmp_gt (tgt := 98) B dX12_copy_81 (by decide) (fun h18 => ?_) (fun h18 => ?_)
                  · have hf := ip h18 hf
                    refine x_ldc_w (v := (-1000000013 : Int32)) B q_1557 dX12_copy_98 ?_
                    obtain ⟨rfl, rfl⟩ := rt2 hf
                    exact x_iret B dX12_copy_101
                  · have hf := iq h18 hf
                    refine x_iload B dX12_copy_84 (lv_at hl 4 rfl) ?_
                    refine x_aload_n B dX12_copy_86 rfl (lv_at hl 0 rfl) ?_
                    refine y_getMr (C := RX12) (T := TX12) (NN := 34) (d := 14) (k2 := 122) B aM_107 inX12 rfl (j := 25) (by decide) q_1137 rfl rfl rfl dX12_copy_87 ?_
                    refine x_iload_n B dX12_copy_90 rfl (lv_at hl 3 rfl) ?_
                    obtain ⟨h19, hf⟩ := gd_some hf
                    refine x_ialdM B aM_122 h19 dX12_copy_91 ?_
                    refine x_iload B dX12_copy_92 (lv_at hl 5 rfl) ?_
                    refine x_isub B dX12_copy_94 ?_
                    refine x_icmp_le (tgt := 102) B dX12_copy_95 (by decide) (fun h20 => ?_) (fun h20 => ?_)
                    · have hf := ip h20 hf
                      refine x_iconst (v := (nI 0)) B dX12_copy_102 (by decide) ?_
                      refine x_istore (lv' := [(6, .int (nI 0)), (0, .ref (gz G + 107)), (1, .int a1), (2, .int a2), (3, .int a3), (4, .int a4), (5, .int a5)]) B dX12_copy_103 hl (by decide) rfl (fun ls hl => ?_)
                      exact fX12_copy_105L_ok B hR  n _ _ _ _ _ _ _ _ (lv_sub hl [1, 2, 3, 4, 5, 6, 0] rfl) hf
                    · have hf := iq h20 hf
                      refine x_ldc_w (v := (-1000000013 : Int32)) B q_1557 dX12_copy_98 ?_
                      obtain ⟨rfl, rfl⟩ := rt2 hf
                      exact x_iret B dX12_copy_101
          · have hf := iq h13 hf
            refine x_ldc (v := (-1000000012 : Int32)) B q_1327 dX12_copy_54 ?_
            obtain ⟨rfl, rfl⟩ := rt2 hf
            exact x_iret B dX12_copy_56
        · have hf := iq h10 hf
          refine x_ldc_w (v := (-1000000011 : Int32)) B q_1556 dX12_copy_35 ?_
          obtain ⟨rfl, rfl⟩ := rt2 hf
          exact x_iret B dX12_copy_38
def rmX12_pairs : Room := { frames := 1, cells := 0, slots := 0, locals := 22 }
set_option maxHeartbeats 4000000 in
set_option maxRecDepth 100000 in
theorem cw_X12_pairs_X12_coil3 : cwB rmX12_pairs rmX12_coil3 yX12_coil3 cX12_coil3 3 (some .int) 2 := ⟨q_1236, q_57, by decide, by decide⟩
def fX12_pairs_31 (n : Nat)  (k4 : Int32 → Int32 → Mm → Option (Int32)) (x2 : Int32) (s0 : Int32) (s1 : Int32) (m : Mm) : Option (Int32) :=
  k4 (s1 + s0) (x2 + (nI 1)) m
set_option maxHeartbeats 4000000 in
set_option maxRecDepth 100000 in
theorem fX12_pairs_31_ok {V : VE} {G : GE} {N : Nat} {f m : Mm} {n : Nat} {ls : Array Slot} {r : Int32} (B : CX V G cX12_pairs 3 "FluxWatchModel" (some .int)) (hR : V.2.2.2.1 = rmX12_pairs)  {k4 : Int32 → Int32 → Mm → Option (Int32)} (hk4 : ∀ (x1 : Int32) (x2 : Int32) (mm : Mm) (ls : Array Slot),  lv_has ls 3 [(0, .ref (gz G + 107)), (1, .int x1), (2, .int x2)] → k4 x1 x2 mm = some r → WX V G N f mm 0 0 (QQ V G (some (.int r)) N f mm 0 0) 4 ls []) {x2 : Int32} {s0 : Int32} {s1 : Int32}  (hl : lv_has ls 3 [(0, .ref (gz G + 107)), (2, .int x2)]) (hf : fX12_pairs_31 n  k4 x2 s0 s1 m = some r) : WX V G N f m 0 0 (QQ V G (some (.int r)) N f m 0 0) 31 ls [.int s0, .int s1] := by
  unfold fX12_pairs_31 at hf
  refine x_iadd B dX12_pairs_31 ?_
  refine x_istore_n (lv' := [(1, .int (s1 + s0)), (0, .ref (gz G + 107)), (2, .int x2)]) B dX12_pairs_32 rfl hl (by decide) rfl (fun ls hl => ?_)
  refine x_iinc (k := 2) (v := (nI 1)) (lv' := [(2, .int (x2 + (nI 1))), (1, .int (s1 + s0)), (0, .ref (gz G + 107))]) B dX12_pairs_33 hl rfl (by decide) (by decide) rfl (fun ls hl => ?_)
  refine x_goto (tgt := 4) B dX12_pairs_36 (by decide) ?_
  exact hk4 _ _ _ _ (lv_sub hl [2, 1, 0] rfl) hf
def fX12_pairs_4 (n : Nat)   (k4 : Int32 → Int32 → Mm → Option (Int32)) (x1 : Int32) (x2 : Int32) (m : Mm) : Option (Int32) :=
  if (m 108 (nI 6).toNatClampNeg) ≤ x2 then (
  some x1) else (
  bn (fX12_coil3 n x2 (nI 2) m) fun r3 =>
  if r3 ≤ x2 then (
  fX12_pairs_31 n k4 x2 (nI 0) x1 m) else (
  fX12_pairs_31 n k4 x2 (nI 1) x1 m))
def fX12_pairs_4L (n : Nat)   : Nat → Int32 → Int32 → Mm → Option (Int32)
  | 0 => fun _ _ _ => none
  | q + 1 => fX12_pairs_4 n   (fX12_pairs_4L n   q)
set_option maxHeartbeats 4000000 in
set_option maxRecDepth 100000 in
theorem fX12_pairs_4_ok {V : VE} {G : GE} {N : Nat} {f m : Mm} {n : Nat} {ls : Array Slot} {r : Int32} (B : CX V G cX12_pairs 3 "FluxWatchModel" (some .int)) (hR : V.2.2.2.1 = rmX12_pairs)   {k4 : Int32 → Int32 → Mm → Option (Int32)} (hk4 : ∀ (x1 : Int32) (x2 : Int32) (mm : Mm) (ls : Array Slot),  lv_has ls 3 [(0, .ref (gz G + 107)), (1, .int x1), (2, .int x2)] → k4 x1 x2 mm = some r → WX V G N f mm 0 0 (QQ V G (some (.int r)) N f mm 0 0) 4 ls []) {x1 : Int32} {x2 : Int32}  (hl : lv_has ls 3 [(0, .ref (gz G + 107)), (1, .int x1), (2, .int x2)]) (hf : fX12_pairs_4 n  k4 x1 x2 m = some r) : WX V G N f m 0 0 (QQ V G (some (.int r)) N f m 0 0) 4 ls [] := by
  unfold fX12_pairs_4 at hf
  refine x_iload_n B dX12_pairs_4 rfl (lv_at hl 2 rfl) ?_
  refine x_aload_n B dX12_pairs_5 rfl (lv_at hl 0 rfl) ?_
  refine y_getMr (C := RX12) (T := TX12) (NN := 34) (d := 0) (k2 := 108) B aM_107 inX12 rfl (j := 0) (by decide) q_1112 rfl rfl rfl dX12_pairs_6 ?_
  refine x_bipush (v := (nI 6)) B dX12_pairs_9 (by decide) ?_
  refine x_ialdM B aM_108 (by decide) dX12_pairs_11 ?_
  refine x_icmp_ge (tgt := 39) B dX12_pairs_12 (by decide) (fun h1 => ?_) (fun h1 => ?_)
  · have hf := ip h1 hf
    refine x_iload_n B dX12_pairs_39 rfl (lv_at hl 1 rfl) ?_
    obtain rfl := rt1 hf
    exact x_iret B dX12_pairs_40
  · have hf := iq h1 hf
    refine x_iload_n B dX12_pairs_15 rfl (lv_at hl 1 rfl) ?_
    refine x_aload_n B dX12_pairs_16 rfl (lv_at hl 0 rfl) ?_
    refine x_iload_n B dX12_pairs_17 rfl (lv_at hl 2 rfl) ?_
    refine x_iconst (v := (nI 2)) B dX12_pairs_18 (by decide) ?_
    obtain ⟨r3, c2, hf⟩ := bn_some hf
    refine x_callV0 (rest := [.int x1]) B (kX12_coil3 c2) ⟨rfl, rfl⟩ aM_107.lt aM_107.2 rfl (by decide) q_1233 q_1235 q_8 (by rw [hR]; exact cw_X12_pairs_X12_coil3) rfl rfl hl.1 (Nat.le_of_ble_eq_true rfl) dX12_pairs_19 ⟨Nat.zero_le _, Nat.zero_le _⟩ ?_
    refine x_iload_n B dX12_pairs_22 rfl (lv_at hl 2 rfl) ?_
    refine x_icmp_le (tgt := 30) B dX12_pairs_23 (by decide) (fun h4 => ?_) (fun h4 => ?_)
    · have hf := ip h4 hf
      refine x_iconst (v := (nI 0)) B dX12_pairs_30 (by decide) ?_
      exact fX12_pairs_31_ok B hR hk4 (lv_sub hl [0, 2] rfl) hf
    · have hf := iq h4 hf
      refine x_iconst (v := (nI 1)) B dX12_pairs_26 (by decide) ?_
      refine x_goto (tgt := 31) B dX12_pairs_27 (by decide) ?_
      exact fX12_pairs_31_ok B hR hk4 (lv_sub hl [0, 2] rfl) hf
set_option maxHeartbeats 4000000 in
set_option maxRecDepth 100000 in
theorem fX12_pairs_4L_ok {V : VE} {G : GE} {N : Nat} {f : Mm} {n : Nat}  {r : Int32} (B : CX V G cX12_pairs 3 "FluxWatchModel" (some .int)) (hR : V.2.2.2.1 = rmX12_pairs)   : ∀ (q : Nat) (x1 : Int32) (x2 : Int32) (mm : Mm) (ls : Array Slot),  lv_has ls 3 [(0, .ref (gz G + 107)), (1, .int x1), (2, .int x2)] → fX12_pairs_4L n  q x1 x2 mm = some r → WX V G N f mm 0 0 (QQ V G (some (.int r)) N f mm 0 0) 4 ls [] := by
  intro q
  induction q with
  | zero =>
    intro x1 x2 mm ls hl hf
    cases hf
  | succ q ih =>
    intro x1 x2 mm ls hl hf
    exact fX12_pairs_4_ok B hR   ih  hl hf
def fX12_pairs (n : Nat)  (m : Mm) : Option (Int32) :=
  fX12_pairs_4L n n (nI 0) (nI 0) m
set_option maxHeartbeats 4000000 in
set_option maxRecDepth 100000 in
theorem kX12_pairs {l : Launch} {G : GE} {N : Nat} {f m : Mm} {n : Nat}  {r : Int32}  (hf : fX12_pairs n m = some r) : MT l G yX12_pairs cX12_pairs 3 (some .int) rmX12_pairs [.ref (gz G + 107)] N f m (some (.int r)) N f m := by
  unfold fX12_pairs at hf
  refine MT.of (by decide) (Nat.le_of_ble_eq_true rfl) (fun V ls hV hR B hl => ?_)
  have B : CX V G cX12_pairs 3 "FluxWatchModel" (some .int) := B
  have hl : lv_has ls 3 [(0, .ref (gz G + 107))] := hl
  show WX V G N f m 0 0 (QQ V G (some (.int r)) N f m 0 0) 0 ls []
  refine x_iconst (v := (nI 0)) B dX12_pairs_0 (by decide) ?_
  refine x_istore_n (lv' := [(1, .int (nI 0)), (0, .ref (gz G + 107))]) B dX12_pairs_1 rfl hl (by decide) rfl (fun ls hl => ?_)
  refine x_iconst (v := (nI 0)) B dX12_pairs_2 (by decide) ?_
  refine x_istore_n (lv' := [(2, .int (nI 0)), (1, .int (nI 0)), (0, .ref (gz G + 107))]) B dX12_pairs_3 rfl hl (by decide) rfl (fun ls hl => ?_)
  exact fX12_pairs_4L_ok B hR  n _ _ _ _ (lv_sub hl [2, 1, 0] rfl) hf
def rmX12_count : Room := { frames := 2, cells := 0, slots := 0, locals := 44 }
set_option maxHeartbeats 4000000 in
set_option maxRecDepth 100000 in
theorem cw_X12_count_X12_pairs : cwB rmX12_count rmX12_pairs yX12_pairs cX12_pairs 3 (some .int) 0 := ⟨q_1617, q_57, by decide, by decide⟩
def fX12_count (n : Nat) (a1 : Int32) (m : Mm) : Option (Int32) :=
  if a1 = (nI 0) then (
  some (m 108 (nI 6).toNatClampNeg)) else (
  if a1 = (nI 1) then (
  some (m 108 (nI 7).toNatClampNeg)) else (
  if a1 = (nI 2) then (
  some (m 108 (nI 8).toNatClampNeg)) else (
  if a1 = (nI 3) then (
  some (m 108 (nI 9).toNatClampNeg)) else (
  if a1 = (nI 4) then (
  some (m 108 (nI 10).toNatClampNeg)) else (
  if a1 = (nI 5) then (
  some (m 108 (nI 11).toNatClampNeg)) else (
  if a1 = (nI 6) then (
  some (m 108 (nI 12).toNatClampNeg)) else (
  if a1 = (nI 7) then (
  bn (fX12_pairs n m) fun r10 =>
  some r10) else (
  if a1 = (nI 8) then (
  some (m 108 (nI 4).toNatClampNeg)) else (
  if a1 = (nI 9) then (
  some (m 108 (nI 1).toNatClampNeg)) else (
  if a1 = (nI 10) then (
  some (m 107 33)) else (
  if a1 = (nI 11) then (
  some (m 107 5)) else (
  if a1 = (nI 12) then (
  some (m 108 (nI 0).toNatClampNeg)) else (
  some (-1000000001 : Int32))))))))))))))
set_option maxHeartbeats 4000000 in
set_option maxRecDepth 100000 in
theorem kX12_count {l : Launch} {G : GE} {N : Nat} {f m : Mm} {n : Nat} {a1 : Int32} {r : Int32}  (hf : fX12_count n a1 m = some r) : MT l G yX12_count cX12_count 2 (some .int) rmX12_count [.ref (gz G + 107), .int a1] N f m (some (.int r)) N f m := by
  unfold fX12_count at hf
  refine MT.of (by decide) (Nat.le_of_ble_eq_true rfl) (fun V ls hV hR B hl => ?_)
  have B : CX V G cX12_count 2 "FluxWatchModel" (some .int) := B
  have hl : lv_has ls 2 [(0, .ref (gz G + 107)), (1, .int a1)] := hl
  show WX V G N f m 0 0 (QQ V G (some (.int r)) N f m 0 0) 0 ls []
  refine x_iload_n B dX12_count_0 rfl (lv_at hl 1 rfl) ?_
  by_cases h1 : a1 = (nI 0)
  · have hf := ip h1 hf
    refine x_tabIn (a := 0) (tgt := 68) B dX12_count_1 (by rw [h1]; rfl) (by decide) (by decide) rfl (by decide) ?_
    refine x_aload_n B dX12_count_68 rfl (lv_at hl 0 rfl) ?_
    refine y_getMr (C := RX12) (T := TX12) (NN := 34) (d := 0) (k2 := 108) B aM_107 inX12 rfl (j := 0) (by decide) q_1112 rfl rfl rfl dX12_count_69 ?_
    refine x_bipush (v := (nI 6)) B dX12_count_72 (by decide) ?_
    refine x_ialdM B aM_108 (by decide) dX12_count_74 ?_
    obtain rfl := rt1 hf
    exact x_iret B dX12_count_75
  · have hf := iq h1 hf
    by_cases h2 : a1 = (nI 1)
    · have hf := ip h2 hf
      refine x_tabIn (a := 1) (tgt := 76) B dX12_count_1 (by rw [h2]; rfl) (by decide) (by decide) rfl (by decide) ?_
      refine x_aload_n B dX12_count_76 rfl (lv_at hl 0 rfl) ?_
      refine y_getMr (C := RX12) (T := TX12) (NN := 34) (d := 0) (k2 := 108) B aM_107 inX12 rfl (j := 0) (by decide) q_1112 rfl rfl rfl dX12_count_77 ?_
      refine x_bipush (v := (nI 7)) B dX12_count_80 (by decide) ?_
      refine x_ialdM B aM_108 (by decide) dX12_count_82 ?_
      obtain rfl := rt1 hf
      exact x_iret B dX12_count_83
    · have hf := iq h2 hf
      by_cases h3 : a1 = (nI 2)
      · have hf := ip h3 hf
        refine x_tabIn (a := 2) (tgt := 84) B dX12_count_1 (by rw [h3]; rfl) (by decide) (by decide) rfl (by decide) ?_
        refine x_aload_n B dX12_count_84 rfl (lv_at hl 0 rfl) ?_
        refine y_getMr (C := RX12) (T := TX12) (NN := 34) (d := 0) (k2 := 108) B aM_107 inX12 rfl (j := 0) (by decide) q_1112 rfl rfl rfl dX12_count_85 ?_
        refine x_bipush (v := (nI 8)) B dX12_count_88 (by decide) ?_
        refine x_ialdM B aM_108 (by decide) dX12_count_90 ?_
        obtain rfl := rt1 hf
        exact x_iret B dX12_count_91
      · have hf := iq h3 hf
        by_cases h4 : a1 = (nI 3)
        · have hf := ip h4 hf
          refine x_tabIn (a := 3) (tgt := 92) B dX12_count_1 (by rw [h4]; rfl) (by decide) (by decide) rfl (by decide) ?_
          refine x_aload_n B dX12_count_92 rfl (lv_at hl 0 rfl) ?_
          refine y_getMr (C := RX12) (T := TX12) (NN := 34) (d := 0) (k2 := 108) B aM_107 inX12 rfl (j := 0) (by decide) q_1112 rfl rfl rfl dX12_count_93 ?_
          refine x_bipush (v := (nI 9)) B dX12_count_96 (by decide) ?_
          refine x_ialdM B aM_108 (by decide) dX12_count_98 ?_
          obtain rfl := rt1 hf
          exact x_iret B dX12_count_99
        · have hf := iq h4 hf
          by_cases h5 : a1 = (nI 4)
          · have hf := ip h5 hf
            refine x_tabIn (a := 4) (tgt := 100) B dX12_count_1 (by rw [h5]; rfl) (by decide) (by decide) rfl (by decide) ?_
            refine x_aload_n B dX12_count_100 rfl (lv_at hl 0 rfl) ?_
            refine y_getMr (C := RX12) (T := TX12) (NN := 34) (d := 0) (k2 := 108) B aM_107 inX12 rfl (j := 0) (by decide) q_1112 rfl rfl rfl dX12_count_101 ?_
            refine x_bipush (v := (nI 10)) B dX12_count_104 (by decide) ?_
            refine x_ialdM B aM_108 (by decide) dX12_count_106 ?_
            obtain rfl := rt1 hf
            exact x_iret B dX12_count_107
          · have hf := iq h5 hf
            by_cases h6 : a1 = (nI 5)
            · have hf := ip h6 hf
              refine x_tabIn (a := 5) (tgt := 108) B dX12_count_1 (by rw [h6]; rfl) (by decide) (by decide) rfl (by decide) ?_
              refine x_aload_n B dX12_count_108 rfl (lv_at hl 0 rfl) ?_
              refine y_getMr (C := RX12) (T := TX12) (NN := 34) (d := 0) (k2 := 108) B aM_107 inX12 rfl (j := 0) (by decide) q_1112 rfl rfl rfl dX12_count_109 ?_
              refine x_bipush (v := (nI 11)) B dX12_count_112 (by decide) ?_
              refine x_ialdM B aM_108 (by decide) dX12_count_114 ?_
              obtain rfl := rt1 hf
              exact x_iret B dX12_count_115
            · have hf := iq h6 hf
              by_cases h7 : a1 = (nI 6)
              · have hf := ip h7 hf
                refine x_tabIn (a := 6) (tgt := 116) B dX12_count_1 (by rw [h7]; rfl) (by decide) (by decide) rfl (by decide) ?_
                refine x_aload_n B dX12_count_116 rfl (lv_at hl 0 rfl) ?_
                refine y_getMr (C := RX12) (T := TX12) (NN := 34) (d := 0) (k2 := 108) B aM_107 inX12 rfl (j := 0) (by decide) q_1112 rfl rfl rfl dX12_count_117 ?_
                refine x_bipush (v := (nI 12)) B dX12_count_120 (by decide) ?_
                refine x_ialdM B aM_108 (by decide) dX12_count_122 ?_
                obtain rfl := rt1 hf
                exact x_iret B dX12_count_123
              · have hf := iq h7 hf
                by_cases h8 : a1 = (nI 7)
                · have hf := ip h8 hf
                  refine x_tabIn (a := 7) (tgt := 124) B dX12_count_1 (by rw [h8]; rfl) (by decide) (by decide) rfl (by decide) ?_
                  refine x_aload_n B dX12_count_124 rfl (lv_at hl 0 rfl) ?_
                  obtain ⟨r10, c9, hf⟩ := bn_some hf
                  refine x_callV0 (rest := []) B (kX12_pairs c9) ⟨rfl, rfl⟩ aM_107.lt aM_107.2 rfl (by decide) q_1614 q_1616 q_43 (by rw [hR]; exact cw_X12_count_X12_pairs) rfl rfl hl.1 (Nat.le_of_ble_eq_true rfl) dX12_count_125 ⟨Nat.zero_le _, Nat.zero_le _⟩ ?_
                  obtain rfl := rt1 hf
                  exact x_iret B dX12_count_128
                · have hf := iq h8 hf
                  by_cases h11 : a1 = (nI 8)
                  · have hf := ip h11 hf
                    refine x_tabIn (a := 8) (tgt := 129) B dX12_count_1 (by rw [h11]; rfl) (by decide) (by decide) rfl (by decide) ?_
                    refine x_aload_n B dX12_count_129 rfl (lv_at hl 0 rfl) ?_
                    refine y_getMr (C := RX12) (T := TX12) (NN := 34) (d := 0) (k2 := 108) B aM_107 inX12 rfl (j := 0) (by decide) q_1112 rfl rfl rfl dX12_count_130 ?_
                    refine x_iconst (v := (nI 4)) B dX12_count_133 (by decide) ?_
                    refine x_ialdM B aM_108 (by decide) dX12_count_134 ?_
                    obtain rfl := rt1 hf
                    exact x_iret B dX12_count_135
                  · have hf := iq h11 hf
                    by_cases h12 : a1 = (nI 9)
                    · have hf := ip h12 hf
                      refine x_tabIn (a := 9) (tgt := 136) B dX12_count_1 (by rw [h12]; rfl) (by decide) (by decide) rfl (by decide) ?_
                      refine x_aload_n B dX12_count_136 rfl (lv_at hl 0 rfl) ?_
                      refine y_getMr (C := RX12) (T := TX12) (NN := 34) (d := 0) (k2 := 108) B aM_107 inX12 rfl (j := 0) (by decide) q_1112 rfl rfl rfl dX12_count_137 ?_
                      refine x_iconst (v := (nI 1)) B dX12_count_140 (by decide) ?_
                      refine x_ialdM B aM_108 (by decide) dX12_count_141 ?_
                      obtain rfl := rt1 hf
                      exact x_iret B dX12_count_142
                    · have hf := iq h12 hf
                      by_cases h13 : a1 = (nI 10)
                      · have hf := ip h13 hf
                        refine x_tabIn (a := 10) (tgt := 143) B dX12_count_1 (by rw [h13]; rfl) (by decide) (by decide) rfl (by decide) ?_
                        refine x_aload_n B dX12_count_143 rfl (lv_at hl 0 rfl) ?_
                        refine y_getMi (C := RX12) (T := TX12) (NN := 34) B aM_107 inX12 rfl (j := 33) (by decide) q_1145 rfl rfl dX12_count_144 ?_
                        obtain rfl := rt1 hf
                        exact x_iret B dX12_count_147
                      · have hf := iq h13 hf
                        by_cases h14 : a1 = (nI 11)
                        · have hf := ip h14 hf
                          refine x_tabIn (a := 11) (tgt := 148) B dX12_count_1 (by rw [h14]; rfl) (by decide) (by decide) rfl (by decide) ?_
                          refine x_aload_n B dX12_count_148 rfl (lv_at hl 0 rfl) ?_
                          refine y_getMi (C := RX12) (T := TX12) (NN := 34) B aM_107 inX12 rfl (j := 5) (by decide) q_1117 rfl rfl dX12_count_149 ?_
                          obtain rfl := rt1 hf
                          exact x_iret B dX12_count_152
                        · have hf := iq h14 hf
                          by_cases h15 : a1 = (nI 12)
                          · have hf := ip h15 hf
                            refine x_tabIn (a := 12) (tgt := 153) B dX12_count_1 (by rw [h15]; rfl) (by decide) (by decide) rfl (by decide) ?_
                            refine x_aload_n B dX12_count_153 rfl (lv_at hl 0 rfl) ?_
                            refine y_getMr (C := RX12) (T := TX12) (NN := 34) (d := 0) (k2 := 108) B aM_107 inX12 rfl (j := 0) (by decide) q_1112 rfl rfl rfl dX12_count_154 ?_
                            refine x_iconst (v := (nI 0)) B dX12_count_157 (by decide) ?_
                            refine x_ialdM B aM_108 (by decide) dX12_count_158 ?_
                            obtain rfl := rt1 hf
                            exact x_iret B dX12_count_159
                          · have hf := iq h15 hf
                            have h1t := lv_neT h1 (show ((nI 0)).toInt = 0 from rfl)
                            have h2t := lv_neT h2 (show ((nI 1)).toInt = 1 from rfl)
                            have h3t := lv_neT h3 (show ((nI 2)).toInt = 2 from rfl)
                            have h4t := lv_neT h4 (show ((nI 3)).toInt = 3 from rfl)
                            have h5t := lv_neT h5 (show ((nI 4)).toInt = 4 from rfl)
                            have h6t := lv_neT h6 (show ((nI 5)).toInt = 5 from rfl)
                            have h7t := lv_neT h7 (show ((nI 6)).toInt = 6 from rfl)
                            have h8t := lv_neT h8 (show ((nI 7)).toInt = 7 from rfl)
                            have h11t := lv_neT h11 (show ((nI 8)).toInt = 8 from rfl)
                            have h12t := lv_neT h12 (show ((nI 9)).toInt = 9 from rfl)
                            have h13t := lv_neT h13 (show ((nI 10)).toInt = 10 from rfl)
                            have h14t := lv_neT h14 (show ((nI 11)).toInt = 11 from rfl)
                            have h15t := lv_neT h15 (show ((nI 12)).toInt = 12 from rfl)
                            refine x_tabOut (tgt := 160) B dX12_count_1 (by omega) (by decide) ?_
                            refine x_ldc (v := (-1000000001 : Int32)) B q_1223 dX12_count_160 ?_
                            obtain rfl := rt1 hf
                            exact x_iret B dX12_count_162
def rmX12_creep : Room := { frames := 2, cells := 0, slots := 0, locals := 43 }
set_option maxHeartbeats 4000000 in
set_option maxRecDepth 100000 in
theorem cw_X12_creep_X12_coil3 : cwB rmX12_creep rmX12_coil3 yX12_coil3 cX12_coil3 3 (some .int) 2 := ⟨q_1236, q_57, by decide, by decide⟩
set_option maxHeartbeats 4000000 in
set_option maxRecDepth 100000 in
theorem cw_X12_creep_X12_in : cwB rmX12_creep rmX12_in yX12_in cX12_in 3 (some .boolean) 3 := ⟨q_1222, q_57, by decide, by decide⟩
set_option maxHeartbeats 4000000 in
set_option maxRecDepth 100000 in
theorem cw_X12_creep_X12_isCoil : cwB rmX12_creep rmX12_isCoil yX12_isCoil cX12_isCoil 2 (some .boolean) 1 := ⟨q_1232, q_57, by decide, by decide⟩
def fX12_creep (n : Nat) (a1 : Int32) (a2 : Int32) (m : Mm) : Option (Int32 × Mm) :=
  bn (fX12_isCoil n a1 m) fun r2 =>
  if r2 = 0 then (
  some ((-1000000001 : Int32), m)) else (
  bn (fX12_in n a2 (-9 : Int32) (nI 9)) fun r5 =>
  if r5 = 0 then (
  some ((-1000000001 : Int32), m)) else (
  bn (fX12_coil3 n a1 (nI 1) m) fun r8 =>
  gd (ib (((nI 13) + ((nI 3) * a1)) + (nI 1)) 1719) <|
  lt (up m 108 (((nI 13) + ((nI 3) * a1)) + (nI 1)).toNatClampNeg a2) fun f10 =>
  some (r8, f10)))
set_option maxHeartbeats 4000000 in
set_option maxRecDepth 100000 in
theorem kX12_creep {l : Launch} {G : GE} {N : Nat} {f m : Mm} {n : Nat} {a1 : Int32} {a2 : Int32} {r : Int32} {g : Mm}  (hf : fX12_creep n a1 a2 m = some (r, g)) : MT l G yX12_creep cX12_creep 4 (some .int) rmX12_creep [.ref (gz G + 107), .int a1, .int a2] N f m (some (.int r)) N f g := by
  unfold fX12_creep at hf
  refine MT.of (by decide) (Nat.le_of_ble_eq_true rfl) (fun V ls hV hR B hl => ?_)
  have B : CX V G cX12_creep 4 "FluxWatchModel" (some .int) := B
  have hl : lv_has ls 4 [(0, .ref (gz G + 107)), (1, .int a1), (2, .int a2)] := hl
  show WX V G N f m 0 0 (QQ V G (some (.int r)) N f g 0 0) 0 ls []
  refine x_aload_n B dX12_creep_0 rfl (lv_at hl 0 rfl) ?_
  refine x_iload_n B dX12_creep_1 rfl (lv_at hl 1 rfl) ?_
  obtain ⟨r2, c1, hf⟩ := bn_some hf
  refine x_callV0 (rest := []) B (kX12_isCoil c1) ⟨rfl, rfl⟩ aM_107.lt aM_107.2 rfl (by decide) q_1229 q_1231 q_7 (by rw [hR]; exact cw_X12_creep_X12_isCoil) rfl rfl hl.1 (Nat.le_of_ble_eq_true rfl) dX12_creep_2 ⟨Nat.zero_le _, Nat.zero_le _⟩ ?_
  refine x_if_eq (tgt := 19) B dX12_creep_5 (by decide) (fun h3 => ?_) (fun h3 => ?_)
  · have hf := ip h3 hf
    refine x_ldc (v := (-1000000001 : Int32)) B q_1223 dX12_creep_19 ?_
    obtain ⟨rfl, rfl⟩ := rt2 hf
    exact x_iret B dX12_creep_21
  · have hf := iq h3 hf
    refine x_iload_n B dX12_creep_8 rfl (lv_at hl 2 rfl) ?_
    refine x_bipush (v := (-9 : Int32)) B dX12_creep_9 (by decide) ?_
    refine x_bipush (v := (nI 9)) B dX12_creep_11 (by decide) ?_
    obtain ⟨r5, c4, hf⟩ := bn_some hf
    refine x_callS0 (rest := []) B (kX12_in c4) ⟨rfl, rfl⟩ q_1220 q_1221 (by rw [hR]; exact cw_X12_creep_X12_in) rfl rfl hl.1 (Nat.le_of_ble_eq_true rfl) dX12_creep_13 ⟨Nat.zero_le _, Nat.zero_le _⟩ ?_
    refine x_if_ne (tgt := 22) B dX12_creep_16 (by decide) (fun h6 => ?_) (fun h6 => ?_)
    · have hf := ip h6 hf
      refine x_ldc (v := (-1000000001 : Int32)) B q_1223 dX12_creep_19 ?_
      obtain ⟨rfl, rfl⟩ := rt2 hf
      exact x_iret B dX12_creep_21
    · have hf := iq h6 hf
      refine x_aload_n B dX12_creep_22 rfl (lv_at hl 0 rfl) ?_
      refine x_iload_n B dX12_creep_23 rfl (lv_at hl 1 rfl) ?_
      refine x_iconst (v := (nI 1)) B dX12_creep_24 (by decide) ?_
      obtain ⟨r8, c7, hf⟩ := bn_some hf
      refine x_callV0 (rest := []) B (kX12_coil3 c7) ⟨rfl, rfl⟩ aM_107.lt aM_107.2 rfl (by decide) q_1233 q_1235 q_8 (by rw [hR]; exact cw_X12_creep_X12_coil3) rfl rfl hl.1 (Nat.le_of_ble_eq_true rfl) dX12_creep_25 ⟨Nat.zero_le _, Nat.zero_le _⟩ ?_
      refine x_istore_n (lv' := [(3, .int r8), (0, .ref (gz G + 107)), (1, .int a1), (2, .int a2)]) B dX12_creep_28 rfl hl (by decide) rfl (fun ls hl => ?_)
      refine x_aload_n B dX12_creep_29 rfl (lv_at hl 1 rfl) ?_
      refine y_getMr (C := RX12) (T := TX12) (NN := 34) (d := 0) (k2 := 108) B aM_107 inX12 rfl (j := 0) (by decide) q_1112 rfl rfl rfl dX12_creep_30 ?_
      refine x_bipush (v := (nI 13)) B dX12_creep_33 (by decide) ?_
      refine x_iconst (v := (nI 3)) B dX12_creep_35 (by decide) ?_
      refine x_iload_n B dX12_creep_36 rfl (lv_at hl 2 rfl) ?_
      refine x_imul B dX12_creep_37 ?_
      refine x_iadd B dX12_creep_38 ?_
      refine x_iconst (v := (nI 1)) B dX12_creep_39 (by decide) ?_
      refine x_iadd B dX12_creep_40 ?_
      refine x_iload_n B dX12_creep_41 rfl (lv_at hl 3 rfl) ?_
      obtain ⟨h9, hf⟩ := gd_some hf
      refine x_iastM B aM_108 h9 dX12_creep_42 (fun f10 e11 => ?_)
      have hf := lt_some hf e11
      refine x_iload_n B dX12_creep_43 rfl (lv_at hl 0 rfl) ?_
      obtain ⟨rfl, rfl⟩ := rt2 hf
      exact x_iret B dX12_creep_44
def rmX12_daysFor : Room := { frames := 3, cells := 0, slots := 0, locals := 70 }
set_option maxHeartbeats 4000000 in
set_option maxRecDepth 100000 in
theorem cw_X12_daysFor_X12_believed : cwB rmX12_daysFor rmX12_believed yX12_believed cX12_believed 8 (some .int) 4 := ⟨q_1393, q_57, by decide, by decide⟩
set_option maxHeartbeats 4000000 in
set_option maxRecDepth 100000 in
theorem cw_X12_daysFor_X12_knockBy : cwB rmX12_daysFor rmX12_knockBy yX12_knockBy cX12_knockBy 4 (some .int) 2 := ⟨q_1373, q_57, by decide, by decide⟩
set_option maxHeartbeats 4000000 in
set_option maxRecDepth 100000 in
theorem cw_X12_daysFor_X12_rateBy : cwB rmX12_daysFor rmX12_rateBy yX12_rateBy cX12_rateBy 4 (some .int) 2 := ⟨q_1355, q_57, by decide, by decide⟩
def fX12_daysFor_10 (n : Nat)   (k10 : Int32 → Int32 → Int32 → Int32 → Mm → Option (Int32 × Mm)) (x1 : Int32) (x2 : Int32) (x3 : Int32) (x4 : Int32) (m : Mm) : Option (Int32 × Mm) :=
  if (nI 60) ≤ x4 then (
  some ((nI 61), m)) else (
  lt ((m 108 (nI 1).toNatClampNeg) + x4) fun v4 =>
  gd (ib x4 60) <|
  bn2 (fX12_rateBy n ((m 119 x4.toNatClampNeg) + x1) v4 m) fun r9 f8 =>
  gd (ib x4 60) <|
  bn2 (fX12_knockBy n ((f8 119 x4.toNatClampNeg) + x1) v4 f8) fun r13 f12 =>
  gd (ib x4 60) <|
  bn (fX12_believed n x3 r9 r13 (f12 120 x4.toNatClampNeg)) fun r16 =>
  if x2 ≤ r16 then (
  k10 x1 x2 r16 (x4 + (nI 1)) f12) else (
  some (x4 + (nI 1), f12)))
def fX12_daysFor_10L (n : Nat)   : Nat → Int32 → Int32 → Int32 → Int32 → Mm → Option (Int32 × Mm)
  | 0 => fun _ _ _ _ _ => none
  | q + 1 => fX12_daysFor_10 n   (fX12_daysFor_10L n   q)
set_option maxHeartbeats 4000000 in
set_option maxRecDepth 100000 in
theorem fX12_daysFor_10_ok {V : VE} {G : GE} {N : Nat} {f m : Mm} {n : Nat} {ls : Array Slot} {r : Int32} {g : Mm} (B : CX V G cX12_daysFor 6 "FluxWatchModel" (some .int)) (hR : V.2.2.2.1 = rmX12_daysFor)   {k10 : Int32 → Int32 → Int32 → Int32 → Mm → Option (Int32 × Mm)} (hk10 : ∀ (x1 : Int32) (x2 : Int32) (x3 : Int32) (x4 : Int32) (mm : Mm) (ls : Array Slot),  lv_has ls 6 [(0, .ref (gz G + 107)), (1, .int x1), (2, .int x2), (3, .int x3), (4, .int x4)] → k10 x1 x2 x3 x4 mm = some (r, g) → WX V G N f mm 0 0 (QQ V G (some (.int r)) N f g 0 0) 10 ls []) {x1 : Int32} {x2 : Int32} {x3 : Int32} {x4 : Int32}  (hl : lv_has ls 6 [(0, .ref (gz G + 107)), (1, .int x1), (2, .int x2), (3, .int x3), (4, .int x4)]) (hf : fX12_daysFor_10 n  k10 x1 x2 x3 x4 m = some (r, g)) : WX V G N f m 0 0 (QQ V G (some (.int r)) N f g 0 0) 10 ls [] := by
  unfold fX12_daysFor_10 at hf
  refine x_iload B dX12_daysFor_10 (lv_at hl 4 rfl) ?_
  refine x_bipush (v := (nI 60)) B dX12_daysFor_12 (by decide) ?_
  refine x_icmp_ge (tgt := 86) B dX12_daysFor_14 (by decide) (fun h3 => ?_) (fun h3 => ?_)
  · have hf := ip h3 hf
    refine x_bipush (v := (nI 61)) B dX12_daysFor_86 (by decide) ?_
    obtain ⟨rfl, rfl⟩ := rt2 hf
    exact x_iret B dX12_daysFor_88
  · have hf := iq h3 hf
    refine x_aload_n B dX12_daysFor_17 rfl (lv_at hl 0 rfl) ?_
    refine y_getMr (C := RX12) (T := TX12) (NN := 34) (d := 0) (k2 := 108) B aM_107 inX12 rfl (j := 0) (by decide) q_1112 rfl rfl rfl dX12_daysFor_18 ?_
    refine x_iconst (v := (nI 1)) B dX12_daysFor_21 (by decide) ?_
    refine x_ialdM B aM_108 (by decide) dX12_daysFor_22 ?_
    refine x_iload B dX12_daysFor_23 (lv_at hl 4 rfl) ?_
    refine x_iadd B dX12_daysFor_25 ?_
    refine x_nm (fun v4 e5 => ?_)
    have hf := lt_some hf e5
    refine x_istore (lv' := [(5, .int v4), (0, .ref (gz G + 107)), (1, .int x1), (2, .int x2), (3, .int x3), (4, .int x4)]) B dX12_daysFor_26 hl (by decide) rfl (fun ls hl => ?_)
    refine x_iload_n B dX12_daysFor_28 rfl (lv_at hl 4 rfl) ?_
    refine x_aload_n B dX12_daysFor_29 rfl (lv_at hl 1 rfl) ?_
    refine x_aload_n B dX12_daysFor_30 rfl (lv_at hl 1 rfl) ?_
    refine y_getMr (C := RX12) (T := TX12) (NN := 34) (d := 11) (k2 := 119) B aM_107 inX12 rfl (j := 22) (by decide) q_1134 rfl rfl rfl dX12_daysFor_31 ?_
    refine x_iload B dX12_daysFor_34 (lv_at hl 5 rfl) ?_
    obtain ⟨h6, hf⟩ := gd_some hf
    refine x_ialdM B aM_119 h6 dX12_daysFor_36 ?_
    refine x_iload_n B dX12_daysFor_37 rfl (lv_at hl 2 rfl) ?_
    refine x_iadd B dX12_daysFor_38 ?_
    refine x_iload B dX12_daysFor_39 (lv_at hl 0 rfl) ?_
    obtain ⟨r9, f8, c7, hf⟩ := bn2_some hf
    refine x_callV0 (rest := [.int x3]) B (kX12_rateBy c7) ⟨rfl, rfl⟩ aM_107.lt aM_107.2 rfl (by decide) q_1352 q_1354 q_20 (by rw [hR]; exact cw_X12_daysFor_X12_rateBy) rfl rfl hl.1 (Nat.le_of_ble_eq_true rfl) dX12_daysFor_41 ⟨Nat.zero_le _, Nat.zero_le _⟩ ?_
    refine x_aload_n B dX12_daysFor_44 rfl (lv_at hl 1 rfl) ?_
    refine x_aload_n B dX12_daysFor_45 rfl (lv_at hl 1 rfl) ?_
    refine y_getMr (C := RX12) (T := TX12) (NN := 34) (d := 11) (k2 := 119) B aM_107 inX12 rfl (j := 22) (by decide) q_1134 rfl rfl rfl dX12_daysFor_46 ?_
    refine x_iload B dX12_daysFor_49 (lv_at hl 5 rfl) ?_
    obtain ⟨h10, hf⟩ := gd_some hf
    refine x_ialdM B aM_119 h10 dX12_daysFor_51 ?_
    refine x_iload_n B dX12_daysFor_52 rfl (lv_at hl 2 rfl) ?_
    refine x_iadd B dX12_daysFor_53 ?_
    refine x_iload B dX12_daysFor_54 (lv_at hl 0 rfl) ?_
    obtain ⟨r13, f12, c11, hf⟩ := bn2_some hf
    refine x_callV0 (rest := [.int r9, .int x3]) B (kX12_knockBy c11) ⟨rfl, rfl⟩ aM_107.lt aM_107.2 rfl (by decide) q_1370 q_1372 q_23 (by rw [hR]; exact cw_X12_daysFor_X12_knockBy) rfl rfl hl.1 (Nat.le_of_ble_eq_true rfl) dX12_daysFor_56 ⟨Nat.zero_le _, Nat.zero_le _⟩ ?_
    refine x_aload_n B dX12_daysFor_59 rfl (lv_at hl 1 rfl) ?_
    refine y_getMr (C := RX12) (T := TX12) (NN := 34) (d := 12) (k2 := 120) B aM_107 inX12 rfl (j := 23) (by decide) q_1135 rfl rfl rfl dX12_daysFor_60 ?_
    refine x_iload B dX12_daysFor_63 (lv_at hl 5 rfl) ?_
    obtain ⟨h14, hf⟩ := gd_some hf
    refine x_zaldM B aM_120 h14 dX12_daysFor_65 ?_
    obtain ⟨r16, c15, hf⟩ := bn_some hf
    refine x_callS0 (rest := []) B (kX12_believed c15) ⟨rfl, rfl⟩ q_1391 q_1392 (by rw [hR]; exact cw_X12_daysFor_X12_believed) rfl rfl hl.1 (Nat.le_of_ble_eq_true rfl) dX12_daysFor_66 ⟨Nat.zero_le _, Nat.zero_le _⟩ ?_
    refine x_istore_n (lv' := [(3, .int r16), (5, .int v4), (0, .ref (gz G + 107)), (1, .int x1), (2, .int x2), (4, .int x4)]) B dX12_daysFor_69 rfl hl (by decide) rfl (fun ls hl => ?_)
    refine x_iload_n B dX12_daysFor_70 rfl (lv_at hl 0 rfl) ?_
    refine x_iload_n B dX12_daysFor_71 rfl (lv_at hl 4 rfl) ?_
    refine x_icmp_ge (tgt := 80) B dX12_daysFor_72 (by decide) (fun h17 => ?_) (fun h17 => ?_)
    · have hf := ip h17 hf
      refine x_iinc (k := 5) (v := (nI 1)) (lv' := [(4, .int (x4 + (nI 1))), (3, .int r16), (5, .int v4), (0, .ref (gz G + 107)), (1, .int x1), (2, .int x2)]) B dX12_daysFor_80 hl rfl (by decide) (by decide) rfl (fun ls hl => ?_)
      refine x_goto (tgt := 10) B dX12_daysFor_83 (by decide) ?_
      exact hk10 _ _ _ _ _ _ (lv_sub hl [3, 4, 5, 1, 0] rfl) hf
    · have hf := iq h17 hf
      refine x_iload B dX12_daysFor_75 (lv_at hl 5 rfl) ?_
      refine x_iconst (v := (nI 1)) B dX12_daysFor_77 (by decide) ?_
      refine x_iadd B dX12_daysFor_78 ?_
      obtain ⟨rfl, rfl⟩ := rt2 hf
      exact x_iret B dX12_daysFor_79
set_option maxHeartbeats 4000000 in
set_option maxRecDepth 100000 in
theorem fX12_daysFor_10L_ok {V : VE} {G : GE} {N : Nat} {f : Mm} {n : Nat}  {r : Int32} {g : Mm} (B : CX V G cX12_daysFor 6 "FluxWatchModel" (some .int)) (hR : V.2.2.2.1 = rmX12_daysFor)   : ∀ (q : Nat) (x1 : Int32) (x2 : Int32) (x3 : Int32) (x4 : Int32) (mm : Mm) (ls : Array Slot),  lv_has ls 6 [(0, .ref (gz G + 107)), (1, .int x1), (2, .int x2), (3, .int x3), (4, .int x4)] → fX12_daysFor_10L n  q x1 x2 x3 x4 mm = some (r, g) → WX V G N f mm 0 0 (QQ V G (some (.int r)) N f g 0 0) 10 ls [] := by
  intro q
  induction q with
  | zero =>
    intro x1 x2 x3 x4 mm ls hl hf
    cases hf
  | succ q ih =>
    intro x1 x2 x3 x4 mm ls hl hf
    exact fX12_daysFor_10_ok B hR   ih  hl hf
def fX12_daysFor (n : Nat) (a1 : Int32) (a2 : Int32) (m : Mm) : Option (Int32 × Mm) :=
  lt (m 108 (nI 4).toNatClampNeg) fun v1 =>
  fX12_daysFor_10L n n a1 a2 v1 (nI 0) m
set_option maxHeartbeats 4000000 in
set_option maxRecDepth 100000 in
theorem kX12_daysFor {l : Launch} {G : GE} {N : Nat} {f m : Mm} {n : Nat} {a1 : Int32} {a2 : Int32} {r : Int32} {g : Mm}  (hf : fX12_daysFor n a1 a2 m = some (r, g)) : MT l G yX12_daysFor cX12_daysFor 6 (some .int) rmX12_daysFor [.ref (gz G + 107), .int a1, .int a2] N f m (some (.int r)) N f g := by
  unfold fX12_daysFor at hf
  refine MT.of (by decide) (Nat.le_of_ble_eq_true rfl) (fun V ls hV hR B hl => ?_)
  have B : CX V G cX12_daysFor 6 "FluxWatchModel" (some .int) := B
  have hl : lv_has ls 6 [(0, .ref (gz G + 107)), (1, .int a1), (2, .int a2)] := hl
  show WX V G N f m 0 0 (QQ V G (some (.int r)) N f g 0 0) 0 ls []
  refine x_aload_n B dX12_daysFor_0 rfl (lv_at hl 0 rfl) ?_
  refine y_getMr (C := RX12) (T := TX12) (NN := 34) (d := 0) (k2 := 108) B aM_107 inX12 rfl (j := 0) (by decide) q_1112 rfl rfl rfl dX12_daysFor_1 ?_
  refine x_iconst (v := (nI 4)) B dX12_daysFor_4 (by decide) ?_
  refine x_ialdM B aM_108 (by decide) dX12_daysFor_5 ?_
  refine x_nm (fun v1 e2 => ?_)
  have hf := lt_some hf e2
  refine x_istore_n (lv' := [(3, .int v1), (0, .ref (gz G + 107)), (1, .int a1), (2, .int a2)]) B dX12_daysFor_6 rfl hl (by decide) rfl (fun ls hl => ?_)
  refine x_iconst (v := (nI 0)) B dX12_daysFor_7 (by decide) ?_
  refine x_istore (lv' := [(4, .int (nI 0)), (3, .int v1), (0, .ref (gz G + 107)), (1, .int a1), (2, .int a2)]) B dX12_daysFor_8 hl (by decide) rfl (fun ls hl => ?_)
  exact fX12_daysFor_10L_ok B hR  n _ _ _ _ _ _ (lv_sub hl [2, 3, 4, 1, 0] rfl) hf
def rmX12_drop : Room := { frames := 2, cells := 0, slots := 0, locals := 43 }
set_option maxHeartbeats 4000000 in
set_option maxRecDepth 100000 in
theorem cw_X12_drop_X12_isStep : cwB rmX12_drop rmX12_isStep yX12_isStep cX12_isStep 2 (some .boolean) 1 := ⟨q_1300, q_57, by decide, by decide⟩
def fX12_drop_29 (n : Nat)   (k29 : Int32 → Mm → Option (Int32 × Mm)) (x2 : Int32) (m : Mm) : Option (Int32 × Mm) :=
  if ((nI 91) + ((nI 4) * (m 108 (nI 8).toNatClampNeg))) ≤ x2 then (
  some (m 108 (nI 8).toNatClampNeg, m)) else (
  gd (ib (x2 + (nI 4)) 1719) <|
  gd (ib x2 1719) <|
  lt (up m 108 x2.toNatClampNeg (m 108 (x2 + (nI 4)).toNatClampNeg)) fun f9 =>
  k29 (x2 + (nI 1)) f9)
def fX12_drop_29L (n : Nat)   : Nat → Int32 → Mm → Option (Int32 × Mm)
  | 0 => fun _ _ => none
  | q + 1 => fX12_drop_29 n   (fX12_drop_29L n   q)
set_option maxHeartbeats 4000000 in
set_option maxRecDepth 100000 in
theorem fX12_drop_29_ok {V : VE} {G : GE} {N : Nat} {f m : Mm} {n : Nat} {ls : Array Slot} {r : Int32} {g : Mm} (B : CX V G cX12_drop 3 "FluxWatchModel" (some .int)) (hR : V.2.2.2.1 = rmX12_drop)   {k29 : Int32 → Mm → Option (Int32 × Mm)} (hk29 : ∀ (x2 : Int32) (mm : Mm) (ls : Array Slot),  lv_has ls 3 [(0, .ref (gz G + 107)), (2, .int x2)] → k29 x2 mm = some (r, g) → WX V G N f mm 0 0 (QQ V G (some (.int r)) N f g 0 0) 29 ls []) {x2 : Int32}  (hl : lv_has ls 3 [(0, .ref (gz G + 107)), (2, .int x2)]) (hf : fX12_drop_29 n  k29 x2 m = some (r, g)) : WX V G N f m 0 0 (QQ V G (some (.int r)) N f g 0 0) 29 ls [] := by
  unfold fX12_drop_29 at hf
  refine x_iload_n B dX12_drop_29 rfl (lv_at hl 1 rfl) ?_
  refine x_bipush (v := (nI 91)) B dX12_drop_30 (by decide) ?_
  refine x_iconst (v := (nI 4)) B dX12_drop_32 (by decide) ?_
  refine x_aload_n B dX12_drop_33 rfl (lv_at hl 0 rfl) ?_
  refine y_getMr (C := RX12) (T := TX12) (NN := 34) (d := 0) (k2 := 108) B aM_107 inX12 rfl (j := 0) (by decide) q_1112 rfl rfl rfl dX12_drop_34 ?_
  refine x_bipush (v := (nI 8)) B dX12_drop_37 (by decide) ?_
  refine x_ialdM B aM_108 (by decide) dX12_drop_39 ?_
  refine x_imul B dX12_drop_40 ?_
  refine x_iadd B dX12_drop_41 ?_
  refine x_icmp_ge (tgt := 65) B dX12_drop_42 (by decide) (fun h6 => ?_) (fun h6 => ?_)
  · have hf := ip h6 hf
    refine x_aload_n B dX12_drop_65 rfl (lv_at hl 0 rfl) ?_
    refine y_getMr (C := RX12) (T := TX12) (NN := 34) (d := 0) (k2 := 108) B aM_107 inX12 rfl (j := 0) (by decide) q_1112 rfl rfl rfl dX12_drop_66 ?_
    refine x_bipush (v := (nI 8)) B dX12_drop_69 (by decide) ?_
    refine x_ialdM B aM_108 (by decide) dX12_drop_71 ?_
    obtain ⟨rfl, rfl⟩ := rt2 hf
    exact x_iret B dX12_drop_72
  · have hf := iq h6 hf
    refine x_aload_n B dX12_drop_45 rfl (lv_at hl 0 rfl) ?_
    refine y_getMr (C := RX12) (T := TX12) (NN := 34) (d := 0) (k2 := 108) B aM_107 inX12 rfl (j := 0) (by decide) q_1112 rfl rfl rfl dX12_drop_46 ?_
    refine x_iload_n B dX12_drop_49 rfl (lv_at hl 1 rfl) ?_
    refine x_aload_n B dX12_drop_50 rfl (lv_at hl 0 rfl) ?_
    refine y_getMr (C := RX12) (T := TX12) (NN := 34) (d := 0) (k2 := 108) B aM_107 inX12 rfl (j := 0) (by decide) q_1112 rfl rfl rfl dX12_drop_51 ?_
    refine x_iload_n B dX12_drop_54 rfl (lv_at hl 1 rfl) ?_
    refine x_iconst (v := (nI 4)) B dX12_drop_55 (by decide) ?_
    refine x_iadd B dX12_drop_56 ?_
    obtain ⟨h7, hf⟩ := gd_some hf
    refine x_ialdM B aM_108 h7 dX12_drop_57 ?_
    obtain ⟨h8, hf⟩ := gd_some hf
    refine x_iastM B aM_108 h8 dX12_drop_58 (fun f9 e10 => ?_)
    have hf := lt_some hf e10
    refine x_iinc (k := 1) (v := (nI 1)) (lv' := [(2, .int (x2 + (nI 1))), (0, .ref (gz G + 107))]) B dX12_drop_59 hl rfl (by decide) (by decide) rfl (fun ls hl => ?_)
    refine x_goto (tgt := 29) B dX12_drop_62 (by decide) ?_
    exact hk29 _ _ _ (lv_sub hl [1, 0] rfl) hf
set_option maxHeartbeats 4000000 in
set_option maxRecDepth 100000 in
theorem fX12_drop_29L_ok {V : VE} {G : GE} {N : Nat} {f : Mm} {n : Nat}  {r : Int32} {g : Mm} (B : CX V G cX12_drop 3 "FluxWatchModel" (some .int)) (hR : V.2.2.2.1 = rmX12_drop)   : ∀ (q : Nat) (x2 : Int32) (mm : Mm) (ls : Array Slot),  lv_has ls 3 [(0, .ref (gz G + 107)), (2, .int x2)] → fX12_drop_29L n  q x2 mm = some (r, g) → WX V G N f mm 0 0 (QQ V G (some (.int r)) N f g 0 0) 29 ls [] := by
  intro q
  induction q with
  | zero =>
    intro x2 mm ls hl hf
    cases hf
  | succ q ih =>
    intro x2 mm ls hl hf
    exact fX12_drop_29_ok B hR   ih  hl hf
def fX12_drop (n : Nat) (a1 : Int32) (m : Mm) : Option (Int32 × Mm) :=
  bn (fX12_isStep n a1 m) fun r2 =>
  if r2 = 0 then (
  some ((-1000000001 : Int32), m)) else (
  lt (up m 108 (nI 8).toNatClampNeg ((m 108 (nI 8).toNatClampNeg) - (nI 1))) fun f4 =>
  fX12_drop_29L n n ((nI 91) + ((nI 4) * a1)) f4)
set_option maxHeartbeats 4000000 in
set_option maxRecDepth 100000 in
theorem kX12_drop {l : Launch} {G : GE} {N : Nat} {f m : Mm} {n : Nat} {a1 : Int32} {r : Int32} {g : Mm}  (hf : fX12_drop n a1 m = some (r, g)) : MT l G yX12_drop cX12_drop 3 (some .int) rmX12_drop [.ref (gz G + 107), .int a1] N f m (some (.int r)) N f g := by
  unfold fX12_drop at hf
  refine MT.of (by decide) (Nat.le_of_ble_eq_true rfl) (fun V ls hV hR B hl => ?_)
  have B : CX V G cX12_drop 3 "FluxWatchModel" (some .int) := B
  have hl : lv_has ls 3 [(0, .ref (gz G + 107)), (1, .int a1)] := hl
  show WX V G N f m 0 0 (QQ V G (some (.int r)) N f g 0 0) 0 ls []
  refine x_aload_n B dX12_drop_0 rfl (lv_at hl 0 rfl) ?_
  refine x_iload_n B dX12_drop_1 rfl (lv_at hl 1 rfl) ?_
  obtain ⟨r2, c1, hf⟩ := bn_some hf
  refine x_callV0 (rest := []) B (kX12_isStep c1) ⟨rfl, rfl⟩ aM_107.lt aM_107.2 rfl (by decide) q_1297 q_1299 q_14 (by rw [hR]; exact cw_X12_drop_X12_isStep) rfl rfl hl.1 (Nat.le_of_ble_eq_true rfl) dX12_drop_2 ⟨Nat.zero_le _, Nat.zero_le _⟩ ?_
  refine x_if_ne (tgt := 11) B dX12_drop_5 (by decide) (fun h3 => ?_) (fun h3 => ?_)
  · have hf := ip h3 hf
    refine x_ldc (v := (-1000000001 : Int32)) B q_1223 dX12_drop_8 ?_
    obtain ⟨rfl, rfl⟩ := rt2 hf
    exact x_iret B dX12_drop_10
  · have hf := iq h3 hf
    refine x_aload_n B dX12_drop_11 rfl (lv_at hl 0 rfl) ?_
    refine y_getMr (C := RX12) (T := TX12) (NN := 34) (d := 0) (k2 := 108) B aM_107 inX12 rfl (j := 0) (by decide) q_1112 rfl rfl rfl dX12_drop_12 ?_
    refine x_bipush (v := (nI 8)) B dX12_drop_15 (by decide) ?_
    refine x_dup2 B dX12_drop_17 rfl rfl ?_
    refine x_ialdM B aM_108 (by decide) dX12_drop_18 ?_
    refine x_iconst (v := (nI 1)) B dX12_drop_19 (by decide) ?_
    refine x_isub B dX12_drop_20 ?_
    refine x_iastM B aM_108 (by decide) dX12_drop_21 (fun f4 e5 => ?_)
    have hf := lt_some hf e5
    refine x_bipush (v := (nI 91)) B dX12_drop_22 (by decide) ?_
    refine x_iconst (v := (nI 4)) B dX12_drop_24 (by decide) ?_
    refine x_iload_n B dX12_drop_25 rfl (lv_at hl 1 rfl) ?_
    refine x_imul B dX12_drop_26 ?_
    refine x_iadd B dX12_drop_27 ?_
    refine x_istore_n (lv' := [(2, .int ((nI 91) + ((nI 4) * a1))), (0, .ref (gz G + 107)), (1, .int a1)]) B dX12_drop_28 rfl hl (by decide) rfl (fun ls hl => ?_)
    exact fX12_drop_29L_ok B hR  n _ _ _ (lv_sub hl [1, 0] rfl) hf
def rmX12_goesOn : Room := { frames := 4, cells := 0, slots := 0, locals := 92 }
set_option maxHeartbeats 4000000 in
set_option maxRecDepth 100000 in
theorem cw_X12_goesOn_X12_believed : cwB rmX12_goesOn rmX12_believed yX12_believed cX12_believed 8 (some .int) 4 := ⟨q_1393, q_57, by decide, by decide⟩
set_option maxHeartbeats 4000000 in
set_option maxRecDepth 100000 in
theorem cw_X12_goesOn_X12_fitsOn : cwB rmX12_goesOn rmX12_fitsOn yX12_fitsOn cX12_fitsOn 3 (some .boolean) 1 := ⟨q_1390, q_57, by decide, by decide⟩
set_option maxHeartbeats 4000000 in
set_option maxRecDepth 100000 in
theorem cw_X12_goesOn_X12_knockBy : cwB rmX12_goesOn rmX12_knockBy yX12_knockBy cX12_knockBy 4 (some .int) 2 := ⟨q_1373, q_57, by decide, by decide⟩
set_option maxHeartbeats 4000000 in
set_option maxRecDepth 100000 in
theorem cw_X12_goesOn_X12_rateBy : cwB rmX12_goesOn rmX12_rateBy yX12_rateBy cX12_rateBy 4 (some .int) 2 := ⟨q_1355, q_57, by decide, by decide⟩
set_option maxHeartbeats 4000000 in
set_option maxRecDepth 100000 in
theorem cw_X12_goesOn_X12_seenOn : cwB rmX12_goesOn rmX12_seenOn yX12_seenOn cX12_seenOn 4 (some .int) 1 := ⟨q_1276, q_57, by decide, by decide⟩
def fX12_goesOn (n : Nat) (a1 : Int32) (a2 : Int32) (m : Mm) : Option (Int32 × Mm) :=
  bn (fX12_seenOn n a2 m) fun r2 =>
  bn2 (fX12_rateBy n r2 a2 m) fun r5 f4 =>
  bn2 (fX12_knockBy n r2 a2 f4) fun r8 f7 =>
  bn (fX12_fitsOn n a2 f7) fun r10 =>
  bn (fX12_believed n a1 r5 r8 r10) fun r12 =>
  some (r12, f7)
set_option maxHeartbeats 4000000 in
set_option maxRecDepth 100000 in
theorem kX12_goesOn {l : Launch} {G : GE} {N : Nat} {f m : Mm} {n : Nat} {a1 : Int32} {a2 : Int32} {r : Int32} {g : Mm}  (hf : fX12_goesOn n a1 a2 m = some (r, g)) : MT l G yX12_goesOn cX12_goesOn 4 (some .int) rmX12_goesOn [.ref (gz G + 107), .int a1, .int a2] N f m (some (.int r)) N f g := by
  unfold fX12_goesOn at hf
  refine MT.of (by decide) (Nat.le_of_ble_eq_true rfl) (fun V ls hV hR B hl => ?_)
  have B : CX V G cX12_goesOn 4 "FluxWatchModel" (some .int) := B
  have hl : lv_has ls 4 [(0, .ref (gz G + 107)), (1, .int a1), (2, .int a2)] := hl
  show WX V G N f m 0 0 (QQ V G (some (.int r)) N f g 0 0) 0 ls []
  refine x_aload_n B dX12_goesOn_0 rfl (lv_at hl 0 rfl) ?_
  refine x_iload_n B dX12_goesOn_1 rfl (lv_at hl 2 rfl) ?_
  obtain ⟨r2, c1, hf⟩ := bn_some hf
  refine x_callV0 (rest := []) B (kX12_seenOn c1) ⟨rfl, rfl⟩ aM_107.lt aM_107.2 rfl (by decide) q_1273 q_1275 q_11 (by rw [hR]; exact cw_X12_goesOn_X12_seenOn) rfl rfl hl.1 (Nat.le_of_ble_eq_true rfl) dX12_goesOn_2 ⟨Nat.zero_le _, Nat.zero_le _⟩ ?_
  refine x_istore_n (lv' := [(3, .int r2), (0, .ref (gz G + 107)), (1, .int a1), (2, .int a2)]) B dX12_goesOn_5 rfl hl (by decide) rfl (fun ls hl => ?_)
  refine x_iload_n B dX12_goesOn_6 rfl (lv_at hl 2 rfl) ?_
  refine x_aload_n B dX12_goesOn_7 rfl (lv_at hl 1 rfl) ?_
  refine x_iload_n B dX12_goesOn_8 rfl (lv_at hl 0 rfl) ?_
  refine x_iload_n B dX12_goesOn_9 rfl (lv_at hl 3 rfl) ?_
  obtain ⟨r5, f4, c3, hf⟩ := bn2_some hf
  refine x_callV0 (rest := [.int a1]) B (kX12_rateBy c3) ⟨rfl, rfl⟩ aM_107.lt aM_107.2 rfl (by decide) q_1352 q_1354 q_20 (by rw [hR]; exact cw_X12_goesOn_X12_rateBy) rfl rfl hl.1 (Nat.le_of_ble_eq_true rfl) dX12_goesOn_10 ⟨Nat.zero_le _, Nat.zero_le _⟩ ?_
  refine x_aload_n B dX12_goesOn_13 rfl (lv_at hl 1 rfl) ?_
  refine x_iload_n B dX12_goesOn_14 rfl (lv_at hl 0 rfl) ?_
  refine x_iload_n B dX12_goesOn_15 rfl (lv_at hl 3 rfl) ?_
  obtain ⟨r8, f7, c6, hf⟩ := bn2_some hf
  refine x_callV0 (rest := [.int r5, .int a1]) B (kX12_knockBy c6) ⟨rfl, rfl⟩ aM_107.lt aM_107.2 rfl (by decide) q_1370 q_1372 q_23 (by rw [hR]; exact cw_X12_goesOn_X12_knockBy) rfl rfl hl.1 (Nat.le_of_ble_eq_true rfl) dX12_goesOn_16 ⟨Nat.zero_le _, Nat.zero_le _⟩ ?_
  refine x_aload_n B dX12_goesOn_19 rfl (lv_at hl 1 rfl) ?_
  refine x_iload_n B dX12_goesOn_20 rfl (lv_at hl 3 rfl) ?_
  obtain ⟨r10, c9, hf⟩ := bn_some hf
  refine x_callV0 (rest := [.int r8, .int r5, .int a1]) B (kX12_fitsOn c9) ⟨rfl, rfl⟩ aM_107.lt aM_107.2 rfl (by decide) q_1387 q_1389 q_27 (by rw [hR]; exact cw_X12_goesOn_X12_fitsOn) rfl rfl hl.1 (Nat.le_of_ble_eq_true rfl) dX12_goesOn_21 ⟨Nat.zero_le _, Nat.zero_le _⟩ ?_
  obtain ⟨r12, c11, hf⟩ := bn_some hf
  refine x_callS0 (rest := []) B (kX12_believed c11) ⟨rfl, rfl⟩ q_1391 q_1392 (by rw [hR]; exact cw_X12_goesOn_X12_believed) rfl rfl hl.1 (Nat.le_of_ble_eq_true rfl) dX12_goesOn_24 ⟨Nat.zero_le _, Nat.zero_le _⟩ ?_
  obtain ⟨rfl, rfl⟩ := rt2 hf
  exact x_iret B dX12_goesOn_27
def rmX12_falls : Room := { frames := 5, cells := 0, slots := 0, locals := 115 }
set_option maxHeartbeats 4000000 in
set_option maxRecDepth 100000 in
theorem cw_X12_falls_X12_goesOn : cwB rmX12_falls rmX12_goesOn yX12_goesOn cX12_goesOn 4 (some .int) 2 := ⟨q_1406, q_57, by decide, by decide⟩
set_option maxHeartbeats 4000000 in
set_option maxRecDepth 100000 in
theorem cw_X12_falls_X12_in : cwB rmX12_falls rmX12_in yX12_in cX12_in 3 (some .boolean) 3 := ⟨q_1222, q_57, by decide, by decide⟩
def fX12_falls_23 (n : Nat)   (k23 : Int32 → Int32 → Int32 → Mm → Option (Int32 × Mm)) (x1 : Int32) (x2 : Int32) (x3 : Int32) (m : Mm) : Option (Int32 × Mm) :=
  if (nI 200) ≤ x3 then (
  some ((-1000000005 : Int32), m)) else (
  bn2 (fX12_goesOn n x2 ((m 108 (nI 1).toNatClampNeg) + x3) m) fun r9 f8 =>
  if x1 ≤ r9 then (
  k23 x1 r9 (x3 + (nI 1)) f8) else (
  some ((f8 108 (nI 1).toNatClampNeg) + x3, f8)))
def fX12_falls_23L (n : Nat)   : Nat → Int32 → Int32 → Int32 → Mm → Option (Int32 × Mm)
  | 0 => fun _ _ _ _ => none
  | q + 1 => fX12_falls_23 n   (fX12_falls_23L n   q)
set_option maxHeartbeats 4000000 in
set_option maxRecDepth 100000 in
theorem fX12_falls_23_ok {V : VE} {G : GE} {N : Nat} {f m : Mm} {n : Nat} {ls : Array Slot} {r : Int32} {g : Mm} (B : CX V G cX12_falls 4 "FluxWatchModel" (some .int)) (hR : V.2.2.2.1 = rmX12_falls)   {k23 : Int32 → Int32 → Int32 → Mm → Option (Int32 × Mm)} (hk23 : ∀ (x1 : Int32) (x2 : Int32) (x3 : Int32) (mm : Mm) (ls : Array Slot),  lv_has ls 4 [(0, .ref (gz G + 107)), (1, .int x1), (2, .int x2), (3, .int x3)] → k23 x1 x2 x3 mm = some (r, g) → WX V G N f mm 0 0 (QQ V G (some (.int r)) N f g 0 0) 23 ls []) {x1 : Int32} {x2 : Int32} {x3 : Int32}  (hl : lv_has ls 4 [(0, .ref (gz G + 107)), (1, .int x1), (2, .int x2), (3, .int x3)]) (hf : fX12_falls_23 n  k23 x1 x2 x3 m = some (r, g)) : WX V G N f m 0 0 (QQ V G (some (.int r)) N f g 0 0) 23 ls [] := by
  unfold fX12_falls_23 at hf
  refine x_iload_n B dX12_falls_23 rfl (lv_at hl 3 rfl) ?_
  refine x_sipush (v := (nI 200)) B dX12_falls_24 (by decide) ?_
  refine x_icmp_ge (tgt := 64) B dX12_falls_27 (by decide) (fun h6 => ?_) (fun h6 => ?_)
  · have hf := ip h6 hf
    refine x_ldc (v := (-1000000005 : Int32)) B q_1237 dX12_falls_64 ?_
    obtain ⟨rfl, rfl⟩ := rt2 hf
    exact x_iret B dX12_falls_66
  · have hf := iq h6 hf
    refine x_aload_n B dX12_falls_30 rfl (lv_at hl 0 rfl) ?_
    refine x_iload_n B dX12_falls_31 rfl (lv_at hl 2 rfl) ?_
    refine x_aload_n B dX12_falls_32 rfl (lv_at hl 0 rfl) ?_
    refine y_getMr (C := RX12) (T := TX12) (NN := 34) (d := 0) (k2 := 108) B aM_107 inX12 rfl (j := 0) (by decide) q_1112 rfl rfl rfl dX12_falls_33 ?_
    refine x_iconst (v := (nI 1)) B dX12_falls_36 (by decide) ?_
    refine x_ialdM B aM_108 (by decide) dX12_falls_37 ?_
    refine x_iload_n B dX12_falls_38 rfl (lv_at hl 3 rfl) ?_
    refine x_iadd B dX12_falls_39 ?_
    obtain ⟨r9, f8, c7, hf⟩ := bn2_some hf
    refine x_callV0 (rest := []) B (kX12_goesOn c7) ⟨rfl, rfl⟩ aM_107.lt aM_107.2 rfl (by decide) q_1403 q_1405 q_28 (by rw [hR]; exact cw_X12_falls_X12_goesOn) rfl rfl hl.1 (Nat.le_of_ble_eq_true rfl) dX12_falls_40 ⟨Nat.zero_le _, Nat.zero_le _⟩ ?_
    refine x_istore_n (lv' := [(2, .int r9), (0, .ref (gz G + 107)), (1, .int x1), (3, .int x3)]) B dX12_falls_43 rfl hl (by decide) rfl (fun ls hl => ?_)
    refine x_iload_n B dX12_falls_44 rfl (lv_at hl 0 rfl) ?_
    refine x_iload_n B dX12_falls_45 rfl (lv_at hl 2 rfl) ?_
    refine x_icmp_ge (tgt := 58) B dX12_falls_46 (by decide) (fun h10 => ?_) (fun h10 => ?_)
    · have hf := ip h10 hf
      refine x_iinc (k := 3) (v := (nI 1)) (lv' := [(3, .int (x3 + (nI 1))), (2, .int r9), (0, .ref (gz G + 107)), (1, .int x1)]) B dX12_falls_58 hl rfl (by decide) (by decide) rfl (fun ls hl => ?_)
      refine x_goto (tgt := 23) B dX12_falls_61 (by decide) ?_
      exact hk23 _ _ _ _ _ (lv_sub hl [2, 3, 1, 0] rfl) hf
    · have hf := iq h10 hf
      refine x_aload_n B dX12_falls_49 rfl (lv_at hl 1 rfl) ?_
      refine y_getMr (C := RX12) (T := TX12) (NN := 34) (d := 0) (k2 := 108) B aM_107 inX12 rfl (j := 0) (by decide) q_1112 rfl rfl rfl dX12_falls_50 ?_
      refine x_iconst (v := (nI 1)) B dX12_falls_53 (by decide) ?_
      refine x_ialdM B aM_108 (by decide) dX12_falls_54 ?_
      refine x_iload_n B dX12_falls_55 rfl (lv_at hl 3 rfl) ?_
      refine x_iadd B dX12_falls_56 ?_
      obtain ⟨rfl, rfl⟩ := rt2 hf
      exact x_iret B dX12_falls_57
set_option maxHeartbeats 4000000 in
set_option maxRecDepth 100000 in
theorem fX12_falls_23L_ok {V : VE} {G : GE} {N : Nat} {f : Mm} {n : Nat}  {r : Int32} {g : Mm} (B : CX V G cX12_falls 4 "FluxWatchModel" (some .int)) (hR : V.2.2.2.1 = rmX12_falls)   : ∀ (q : Nat) (x1 : Int32) (x2 : Int32) (x3 : Int32) (mm : Mm) (ls : Array Slot),  lv_has ls 4 [(0, .ref (gz G + 107)), (1, .int x1), (2, .int x2), (3, .int x3)] → fX12_falls_23L n  q x1 x2 x3 mm = some (r, g) → WX V G N f mm 0 0 (QQ V G (some (.int r)) N f g 0 0) 23 ls [] := by
  intro q
  induction q with
  | zero =>
    intro x1 x2 x3 mm ls hl hf
    cases hf
  | succ q ih =>
    intro x1 x2 x3 mm ls hl hf
    exact fX12_falls_23_ok B hR   ih  hl hf
def fX12_falls (n : Nat) (a1 : Int32) (m : Mm) : Option (Int32 × Mm) :=
  bn (fX12_in n a1 (nI 0) (nI 10000)) fun r2 =>
  if r2 = 0 then (
  some ((-1000000001 : Int32), m)) else (
  lt (m 108 (nI 4).toNatClampNeg) fun v4 =>
  fX12_falls_23L n n a1 v4 (nI 0) m)
set_option maxHeartbeats 4000000 in
set_option maxRecDepth 100000 in
theorem kX12_falls {l : Launch} {G : GE} {N : Nat} {f m : Mm} {n : Nat} {a1 : Int32} {r : Int32} {g : Mm}  (hf : fX12_falls n a1 m = some (r, g)) : MT l G yX12_falls cX12_falls 4 (some .int) rmX12_falls [.ref (gz G + 107), .int a1] N f m (some (.int r)) N f g := by
  unfold fX12_falls at hf
  refine MT.of (by decide) (Nat.le_of_ble_eq_true rfl) (fun V ls hV hR B hl => ?_)
  have B : CX V G cX12_falls 4 "FluxWatchModel" (some .int) := B
  have hl : lv_has ls 4 [(0, .ref (gz G + 107)), (1, .int a1)] := hl
  show WX V G N f m 0 0 (QQ V G (some (.int r)) N f g 0 0) 0 ls []
  refine x_iload_n B dX12_falls_0 rfl (lv_at hl 1 rfl) ?_
  refine x_iconst (v := (nI 0)) B dX12_falls_1 (by decide) ?_
  refine x_sipush (v := (nI 10000)) B dX12_falls_2 (by decide) ?_
  obtain ⟨r2, c1, hf⟩ := bn_some hf
  refine x_callS0 (rest := []) B (kX12_in c1) ⟨rfl, rfl⟩ q_1220 q_1221 (by rw [hR]; exact cw_X12_falls_X12_in) rfl rfl hl.1 (Nat.le_of_ble_eq_true rfl) dX12_falls_5 ⟨Nat.zero_le _, Nat.zero_le _⟩ ?_
  refine x_if_ne (tgt := 14) B dX12_falls_8 (by decide) (fun h3 => ?_) (fun h3 => ?_)
  · have hf := ip h3 hf
    refine x_ldc (v := (-1000000001 : Int32)) B q_1223 dX12_falls_11 ?_
    obtain ⟨rfl, rfl⟩ := rt2 hf
    exact x_iret B dX12_falls_13
  · have hf := iq h3 hf
    refine x_aload_n B dX12_falls_14 rfl (lv_at hl 0 rfl) ?_
    refine y_getMr (C := RX12) (T := TX12) (NN := 34) (d := 0) (k2 := 108) B aM_107 inX12 rfl (j := 0) (by decide) q_1112 rfl rfl rfl dX12_falls_15 ?_
    refine x_iconst (v := (nI 4)) B dX12_falls_18 (by decide) ?_
    refine x_ialdM B aM_108 (by decide) dX12_falls_19 ?_
    refine x_nm (fun v4 e5 => ?_)
    have hf := lt_some hf e5
    refine x_istore_n (lv' := [(2, .int v4), (0, .ref (gz G + 107)), (1, .int a1)]) B dX12_falls_20 rfl hl (by decide) rfl (fun ls hl => ?_)
    refine x_iconst (v := (nI 0)) B dX12_falls_21 (by decide) ?_
    refine x_istore_n (lv' := [(3, .int (nI 0)), (2, .int v4), (0, .ref (gz G + 107)), (1, .int a1)]) B dX12_falls_22 rfl hl (by decide) rfl (fun ls hl => ?_)
    exact fX12_falls_23L_ok B hR  n _ _ _ _ _ (lv_sub hl [2, 3, 1, 0] rfl) hf
def rmX12_feed : Room := { frames := 0, cells := 0, slots := 0, locals := 0 }
def fX12_feed_47 (n : Nat)  (k18 : Int32 → Int32 → Int32 → Int32 → Mm → Option (Int32 × Mm)) (x1 : Int32) (x2 : Int32) (x3 : Int32) (x4 : Int32) (s0 : Int32) (m : Mm) : Option (Int32 × Mm) :=
  gd (ib ((m 107 5) + x4) 96) <|
  lt (up m 111 ((m 107 5) + x4).toNatClampNeg ((shrI s0 ((nI 24) - ((nI 8) * (irm x4 (nI 4))))) &&& (nI 255))) fun f8 =>
  k18 x1 x2 x3 (x4 + (nI 1)) f8
set_option maxHeartbeats 4000000 in
set_option maxRecDepth 100000 in
theorem fX12_feed_47_ok {V : VE} {G : GE} {N : Nat} {f m : Mm} {n : Nat} {ls : Array Slot} {r : Int32} {g : Mm} (B : CX V G cX12_feed 6 "FluxWatchModel" (some .int)) (hR : V.2.2.2.1 = rmX12_feed)  {k18 : Int32 → Int32 → Int32 → Int32 → Mm → Option (Int32 × Mm)} (hk18 : ∀ (x1 : Int32) (x2 : Int32) (x3 : Int32) (x4 : Int32) (mm : Mm) (ls : Array Slot),  lv_has ls 6 [(0, .ref (gz G + 107)), (1, .int x1), (2, .int x2), (3, .int x3), (4, .int x4)] → k18 x1 x2 x3 x4 mm = some (r, g) → WX V G N f mm 0 0 (QQ V G (some (.int r)) N f g 0 0) 18 ls []) {x1 : Int32} {x2 : Int32} {x3 : Int32} {x4 : Int32} {s0 : Int32}  (hl : lv_has ls 6 [(0, .ref (gz G + 107)), (1, .int x1), (2, .int x2), (3, .int x3), (4, .int x4)]) (hf : fX12_feed_47 n  k18 x1 x2 x3 x4 s0 m = some (r, g)) : WX V G N f m 0 0 (QQ V G (some (.int r)) N f g 0 0) 47 ls [.int s0] := by
  unfold fX12_feed_47 at hf
  refine x_istore (lv' := [(5, .int s0), (0, .ref (gz G + 107)), (1, .int x1), (2, .int x2), (3, .int x3), (4, .int x4)]) B dX12_feed_47 hl (by decide) rfl (fun ls hl => ?_)
  refine x_aload_n B dX12_feed_49 rfl (lv_at hl 1 rfl) ?_
  refine y_getMr (C := RX12) (T := TX12) (NN := 34) (d := 3) (k2 := 111) B aM_107 inX12 rfl (j := 4) (by decide) q_1116 rfl rfl rfl dX12_feed_50 ?_
  refine x_aload_n B dX12_feed_53 rfl (lv_at hl 1 rfl) ?_
  refine y_getMi (C := RX12) (T := TX12) (NN := 34) B aM_107 inX12 rfl (j := 5) (by decide) q_1117 rfl rfl dX12_feed_54 ?_
  refine x_iload B dX12_feed_57 (lv_at hl 5 rfl) ?_
  refine x_iadd B dX12_feed_59 ?_
  refine x_iload B dX12_feed_60 (lv_at hl 0 rfl) ?_
  refine x_bipush (v := (nI 24)) B dX12_feed_62 (by decide) ?_
  refine x_bipush (v := (nI 8)) B dX12_feed_64 (by decide) ?_
  refine x_iload B dX12_feed_66 (lv_at hl 5 rfl) ?_
  refine x_iconst (v := (nI 4)) B dX12_feed_68 (by decide) ?_
  refine y_irem B dX12_feed_69 (by decide) ?_
  refine x_imul B dX12_feed_70 ?_
  refine x_isub B dX12_feed_71 ?_
  refine y_ishr B dX12_feed_72 ?_
  refine x_sipush (v := (nI 255)) B dX12_feed_73 (by decide) ?_
  refine x_iand B dX12_feed_76 ?_
  obtain ⟨h7, hf⟩ := gd_some hf
  refine x_iastM B aM_111 h7 dX12_feed_77 (fun f8 e9 => ?_)
  have hf := lt_some hf e9
  refine x_iinc (k := 5) (v := (nI 1)) (lv' := [(4, .int (x4 + (nI 1))), (5, .int s0), (0, .ref (gz G + 107)), (1, .int x1), (2, .int x2), (3, .int x3)]) B dX12_feed_78 hl rfl (by decide) (by decide) rfl (fun ls hl => ?_)
  refine x_goto (tgt := 18) B dX12_feed_81 (by decide) ?_
  exact hk18 _ _ _ _ _ _ (lv_sub hl [2, 3, 4, 5, 0] rfl) hf
def fX12_feed_18 (n : Nat)   (k18 : Int32 → Int32 → Int32 → Int32 → Mm → Option (Int32 × Mm)) (x1 : Int32) (x2 : Int32) (x3 : Int32) (x4 : Int32) (m : Mm) : Option (Int32 × Mm) :=
  if (nI 12) ≤ x4 then (
  lt (up m 107 5 ((m 107 5) + (nI 12))) fun f3 =>
  some (f3 107 5, f3)) else (
  if (nI 4) ≤ x4 then (
  if (nI 8) ≤ x4 then (
  fX12_feed_47 n k18 x1 x2 x3 x4 x3 m) else (
  fX12_feed_47 n k18 x1 x2 x3 x4 x2 m)) else (
  fX12_feed_47 n k18 x1 x2 x3 x4 x1 m))
def fX12_feed_18L (n : Nat)   : Nat → Int32 → Int32 → Int32 → Int32 → Mm → Option (Int32 × Mm)
  | 0 => fun _ _ _ _ _ => none
  | q + 1 => fX12_feed_18 n   (fX12_feed_18L n   q)
set_option maxHeartbeats 4000000 in
set_option maxRecDepth 100000 in
theorem fX12_feed_18_ok {V : VE} {G : GE} {N : Nat} {f m : Mm} {n : Nat} {ls : Array Slot} {r : Int32} {g : Mm} (B : CX V G cX12_feed 6 "FluxWatchModel" (some .int)) (hR : V.2.2.2.1 = rmX12_feed)   {k18 : Int32 → Int32 → Int32 → Int32 → Mm → Option (Int32 × Mm)} (hk18 : ∀ (x1 : Int32) (x2 : Int32) (x3 : Int32) (x4 : Int32) (mm : Mm) (ls : Array Slot),  lv_has ls 6 [(0, .ref (gz G + 107)), (1, .int x1), (2, .int x2), (3, .int x3), (4, .int x4)] → k18 x1 x2 x3 x4 mm = some (r, g) → WX V G N f mm 0 0 (QQ V G (some (.int r)) N f g 0 0) 18 ls []) {x1 : Int32} {x2 : Int32} {x3 : Int32} {x4 : Int32}  (hl : lv_has ls 6 [(0, .ref (gz G + 107)), (1, .int x1), (2, .int x2), (3, .int x3), (4, .int x4)]) (hf : fX12_feed_18 n  k18 x1 x2 x3 x4 m = some (r, g)) : WX V G N f m 0 0 (QQ V G (some (.int r)) N f g 0 0) 18 ls [] := by
  unfold fX12_feed_18 at hf
  refine x_iload B dX12_feed_18 (lv_at hl 4 rfl) ?_
  refine x_bipush (v := (nI 12)) B dX12_feed_20 (by decide) ?_
  refine x_icmp_ge (tgt := 84) B dX12_feed_22 (by decide) (fun h2 => ?_) (fun h2 => ?_)
  · have hf := ip h2 hf
    refine x_aload_n B dX12_feed_84 rfl (lv_at hl 0 rfl) ?_
    refine x_dup B dX12_feed_85 rfl ?_
    refine y_getMi (C := RX12) (T := TX12) (NN := 34) B aM_107 inX12 rfl (j := 5) (by decide) q_1117 rfl rfl dX12_feed_86 ?_
    refine x_bipush (v := (nI 12)) B dX12_feed_89 (by decide) ?_
    refine x_iadd B dX12_feed_91 ?_
    refine x_putM (C := RX12) (T := TX12) (NN := 34) (ty0 := tyX12) (ty := .int) B aM_107 inX12 tyX12_ok nmX12 rfl (j := 5) (by decide) q_1117 rfl rfl rfl rfl rfl rfl dX12_feed_92 (fun f3 e4 => ?_)
    have hf := lt_some hf e4
    refine x_aload_n B dX12_feed_95 rfl (lv_at hl 0 rfl) ?_
    refine y_getMi (C := RX12) (T := TX12) (NN := 34) B aM_107 inX12 rfl (j := 5) (by decide) q_1117 rfl rfl dX12_feed_96 ?_
    obtain ⟨rfl, rfl⟩ := rt2 hf
    exact x_iret B dX12_feed_99
  · have hf := iq h2 hf
    refine x_iload B dX12_feed_25 (lv_at hl 4 rfl) ?_
    refine x_iconst (v := (nI 4)) B dX12_feed_27 (by decide) ?_
    refine x_icmp_ge (tgt := 35) B dX12_feed_28 (by decide) (fun h5 => ?_) (fun h5 => ?_)
    · have hf := ip h5 hf
      refine x_iload B dX12_feed_35 (lv_at hl 4 rfl) ?_
      refine x_bipush (v := (nI 8)) B dX12_feed_37 (by decide) ?_
      refine x_icmp_ge (tgt := 46) B dX12_feed_39 (by decide) (fun h6 => ?_) (fun h6 => ?_)
      · have hf := ip h6 hf
        refine x_iload_n B dX12_feed_46 rfl (lv_at hl 3 rfl) ?_
        exact fX12_feed_47_ok B hR hk18 hl hf
      · have hf := iq h6 hf
        refine x_iload_n B dX12_feed_42 rfl (lv_at hl 2 rfl) ?_
        refine x_goto (tgt := 47) B dX12_feed_43 (by decide) ?_
        exact fX12_feed_47_ok B hR hk18 hl hf
    · have hf := iq h5 hf
      refine x_iload_n B dX12_feed_31 rfl (lv_at hl 1 rfl) ?_
      refine x_goto (tgt := 47) B dX12_feed_32 (by decide) ?_
      exact fX12_feed_47_ok B hR hk18 hl hf
set_option maxHeartbeats 4000000 in
set_option maxRecDepth 100000 in
theorem fX12_feed_18L_ok {V : VE} {G : GE} {N : Nat} {f : Mm} {n : Nat}  {r : Int32} {g : Mm} (B : CX V G cX12_feed 6 "FluxWatchModel" (some .int)) (hR : V.2.2.2.1 = rmX12_feed)   : ∀ (q : Nat) (x1 : Int32) (x2 : Int32) (x3 : Int32) (x4 : Int32) (mm : Mm) (ls : Array Slot),  lv_has ls 6 [(0, .ref (gz G + 107)), (1, .int x1), (2, .int x2), (3, .int x3), (4, .int x4)] → fX12_feed_18L n  q x1 x2 x3 x4 mm = some (r, g) → WX V G N f mm 0 0 (QQ V G (some (.int r)) N f g 0 0) 18 ls [] := by
  intro q
  induction q with
  | zero =>
    intro x1 x2 x3 x4 mm ls hl hf
    cases hf
  | succ q ih =>
    intro x1 x2 x3 x4 mm ls hl hf
    exact fX12_feed_18_ok B hR   ih  hl hf
def fX12_feed (n : Nat) (a1 : Int32) (a2 : Int32) (a3 : Int32) (m : Mm) : Option (Int32 × Mm) :=
  if ((m 107 5) + (nI 12)) ≤ (nI 96) then (
  fX12_feed_18L n n a1 a2 a3 (nI 0) m) else (
  some ((-1000000003 : Int32), m))
set_option maxHeartbeats 4000000 in
set_option maxRecDepth 100000 in
theorem kX12_feed {l : Launch} {G : GE} {N : Nat} {f m : Mm} {n : Nat} {a1 : Int32} {a2 : Int32} {a3 : Int32} {r : Int32} {g : Mm}  (hf : fX12_feed n a1 a2 a3 m = some (r, g)) : MT l G yX12_feed cX12_feed 6 (some .int) rmX12_feed [.ref (gz G + 107), .int a1, .int a2, .int a3] N f m (some (.int r)) N f g := by
  unfold fX12_feed at hf
  refine MT.of (by decide) (Nat.le_of_ble_eq_true rfl) (fun V ls hV hR B hl => ?_)
  have B : CX V G cX12_feed 6 "FluxWatchModel" (some .int) := B
  have hl : lv_has ls 6 [(0, .ref (gz G + 107)), (1, .int a1), (2, .int a2), (3, .int a3)] := hl
  show WX V G N f m 0 0 (QQ V G (some (.int r)) N f g 0 0) 0 ls []
  refine x_aload_n B dX12_feed_0 rfl (lv_at hl 0 rfl) ?_
  refine y_getMi (C := RX12) (T := TX12) (NN := 34) B aM_107 inX12 rfl (j := 5) (by decide) q_1117 rfl rfl dX12_feed_1 ?_
  refine x_bipush (v := (nI 12)) B dX12_feed_4 (by decide) ?_
  refine x_iadd B dX12_feed_6 ?_
  refine x_bipush (v := (nI 96)) B dX12_feed_7 (by decide) ?_
  refine x_icmp_le (tgt := 15) B dX12_feed_9 (by decide) (fun h1 => ?_) (fun h1 => ?_)
  · have hf := ip h1 hf
    refine x_iconst (v := (nI 0)) B dX12_feed_15 (by decide) ?_
    refine x_istore (lv' := [(4, .int (nI 0)), (0, .ref (gz G + 107)), (1, .int a1), (2, .int a2), (3, .int a3)]) B dX12_feed_16 hl (by decide) rfl (fun ls hl => ?_)
    exact fX12_feed_18L_ok B hR  n _ _ _ _ _ _ (lv_sub hl [1, 2, 3, 4, 0] rfl) hf
  · have hf := iq h1 hf
    refine x_ldc (v := (-1000000003 : Int32)) B q_1224 dX12_feed_12 ?_
    obtain ⟨rfl, rfl⟩ := rt2 hf
    exact x_iret B dX12_feed_14
def rmX12_fit : Room := { frames := 3, cells := 0, slots := 0, locals := 70 }
set_option maxHeartbeats 4000000 in
set_option maxRecDepth 100000 in
theorem cw_X12_fit_X12_fits : cwB rmX12_fit rmX12_fits yX12_fits cX12_fits 5 (some .boolean) 1 := ⟨q_1304, q_57, by decide, by decide⟩
def fX12_fit_29 (n : Nat)  (k4 : Int32 → Int32 → Mm → Option (Int32)) (x2 : Int32) (s0 : Int32) (s1 : Int32) (m : Mm) : Option (Int32) :=
  k4 (s1 + s0) (x2 + (nI 1)) m
set_option maxHeartbeats 4000000 in
set_option maxRecDepth 100000 in
theorem fX12_fit_29_ok {V : VE} {G : GE} {N : Nat} {f m : Mm} {n : Nat} {ls : Array Slot} {r : Int32} (B : CX V G cX12_fit 3 "FluxWatchModel" (some .int)) (hR : V.2.2.2.1 = rmX12_fit)  {k4 : Int32 → Int32 → Mm → Option (Int32)} (hk4 : ∀ (x1 : Int32) (x2 : Int32) (mm : Mm) (ls : Array Slot),  lv_has ls 3 [(0, .ref (gz G + 107)), (1, .int x1), (2, .int x2)] → k4 x1 x2 mm = some r → WX V G N f mm 0 0 (QQ V G (some (.int r)) N f mm 0 0) 4 ls []) {x2 : Int32} {s0 : Int32} {s1 : Int32}  (hl : lv_has ls 3 [(0, .ref (gz G + 107)), (2, .int x2)]) (hf : fX12_fit_29 n  k4 x2 s0 s1 m = some r) : WX V G N f m 0 0 (QQ V G (some (.int r)) N f m 0 0) 29 ls [.int s0, .int s1] := by
  unfold fX12_fit_29 at hf
  refine x_iadd B dX12_fit_29 ?_
  refine x_istore_n (lv' := [(1, .int (s1 + s0)), (0, .ref (gz G + 107)), (2, .int x2)]) B dX12_fit_30 rfl hl (by decide) rfl (fun ls hl => ?_)
  refine x_iinc (k := 2) (v := (nI 1)) (lv' := [(2, .int (x2 + (nI 1))), (1, .int (s1 + s0)), (0, .ref (gz G + 107))]) B dX12_fit_31 hl rfl (by decide) (by decide) rfl (fun ls hl => ?_)
  refine x_goto (tgt := 4) B dX12_fit_34 (by decide) ?_
  exact hk4 _ _ _ _ (lv_sub hl [2, 1, 0] rfl) hf
def fX12_fit_4 (n : Nat)   (k4 : Int32 → Int32 → Mm → Option (Int32)) (x1 : Int32) (x2 : Int32) (m : Mm) : Option (Int32) :=
  if (m 108 (nI 8).toNatClampNeg) ≤ x2 then (
  some x1) else (
  bn (fX12_fits n x2 m) fun r3 =>
  if r3 = 0 then (
  fX12_fit_29 n k4 x2 (nI 0) x1 m) else (
  fX12_fit_29 n k4 x2 (nI 1) x1 m))
def fX12_fit_4L (n : Nat)   : Nat → Int32 → Int32 → Mm → Option (Int32)
  | 0 => fun _ _ _ => none
  | q + 1 => fX12_fit_4 n   (fX12_fit_4L n   q)
set_option maxHeartbeats 4000000 in
set_option maxRecDepth 100000 in
theorem fX12_fit_4_ok {V : VE} {G : GE} {N : Nat} {f m : Mm} {n : Nat} {ls : Array Slot} {r : Int32} (B : CX V G cX12_fit 3 "FluxWatchModel" (some .int)) (hR : V.2.2.2.1 = rmX12_fit)   {k4 : Int32 → Int32 → Mm → Option (Int32)} (hk4 : ∀ (x1 : Int32) (x2 : Int32) (mm : Mm) (ls : Array Slot),  lv_has ls 3 [(0, .ref (gz G + 107)), (1, .int x1), (2, .int x2)] → k4 x1 x2 mm = some r → WX V G N f mm 0 0 (QQ V G (some (.int r)) N f mm 0 0) 4 ls []) {x1 : Int32} {x2 : Int32}  (hl : lv_has ls 3 [(0, .ref (gz G + 107)), (1, .int x1), (2, .int x2)]) (hf : fX12_fit_4 n  k4 x1 x2 m = some r) : WX V G N f m 0 0 (QQ V G (some (.int r)) N f m 0 0) 4 ls [] := by
  unfold fX12_fit_4 at hf
  refine x_iload_n B dX12_fit_4 rfl (lv_at hl 2 rfl) ?_
  refine x_aload_n B dX12_fit_5 rfl (lv_at hl 0 rfl) ?_
  refine y_getMr (C := RX12) (T := TX12) (NN := 34) (d := 0) (k2 := 108) B aM_107 inX12 rfl (j := 0) (by decide) q_1112 rfl rfl rfl dX12_fit_6 ?_
  refine x_bipush (v := (nI 8)) B dX12_fit_9 (by decide) ?_
  refine x_ialdM B aM_108 (by decide) dX12_fit_11 ?_
  refine x_icmp_ge (tgt := 37) B dX12_fit_12 (by decide) (fun h1 => ?_) (fun h1 => ?_)
  · have hf := ip h1 hf
    refine x_iload_n B dX12_fit_37 rfl (lv_at hl 1 rfl) ?_
    obtain rfl := rt1 hf
    exact x_iret B dX12_fit_38
  · have hf := iq h1 hf
    refine x_iload_n B dX12_fit_15 rfl (lv_at hl 1 rfl) ?_
    refine x_aload_n B dX12_fit_16 rfl (lv_at hl 0 rfl) ?_
    refine x_iload_n B dX12_fit_17 rfl (lv_at hl 2 rfl) ?_
    obtain ⟨r3, c2, hf⟩ := bn_some hf
    refine x_callV0 (rest := [.int x1]) B (kX12_fits c2) ⟨rfl, rfl⟩ aM_107.lt aM_107.2 rfl (by decide) q_1301 q_1303 q_15 (by rw [hR]; exact cw_X12_fit_X12_fits) rfl rfl hl.1 (Nat.le_of_ble_eq_true rfl) dX12_fit_18 ⟨Nat.zero_le _, Nat.zero_le _⟩ ?_
    refine x_if_eq (tgt := 28) B dX12_fit_21 (by decide) (fun h4 => ?_) (fun h4 => ?_)
    · have hf := ip h4 hf
      refine x_iconst (v := (nI 0)) B dX12_fit_28 (by decide) ?_
      exact fX12_fit_29_ok B hR hk4 (lv_sub hl [0, 2] rfl) hf
    · have hf := iq h4 hf
      refine x_iconst (v := (nI 1)) B dX12_fit_24 (by decide) ?_
      refine x_goto (tgt := 29) B dX12_fit_25 (by decide) ?_
      exact fX12_fit_29_ok B hR hk4 (lv_sub hl [0, 2] rfl) hf
set_option maxHeartbeats 4000000 in
set_option maxRecDepth 100000 in
theorem fX12_fit_4L_ok {V : VE} {G : GE} {N : Nat} {f : Mm} {n : Nat}  {r : Int32} (B : CX V G cX12_fit 3 "FluxWatchModel" (some .int)) (hR : V.2.2.2.1 = rmX12_fit)   : ∀ (q : Nat) (x1 : Int32) (x2 : Int32) (mm : Mm) (ls : Array Slot),  lv_has ls 3 [(0, .ref (gz G + 107)), (1, .int x1), (2, .int x2)] → fX12_fit_4L n  q x1 x2 mm = some r → WX V G N f mm 0 0 (QQ V G (some (.int r)) N f mm 0 0) 4 ls [] := by
  intro q
  induction q with
  | zero =>
    intro x1 x2 mm ls hl hf
    cases hf
  | succ q ih =>
    intro x1 x2 mm ls hl hf
    exact fX12_fit_4_ok B hR   ih  hl hf
def fX12_fit (n : Nat)  (m : Mm) : Option (Int32) :=
  fX12_fit_4L n n (nI 0) (nI 0) m
set_option maxHeartbeats 4000000 in
set_option maxRecDepth 100000 in
theorem kX12_fit {l : Launch} {G : GE} {N : Nat} {f m : Mm} {n : Nat}  {r : Int32}  (hf : fX12_fit n m = some r) : MT l G yX12_fit cX12_fit 3 (some .int) rmX12_fit [.ref (gz G + 107)] N f m (some (.int r)) N f m := by
  unfold fX12_fit at hf
  refine MT.of (by decide) (Nat.le_of_ble_eq_true rfl) (fun V ls hV hR B hl => ?_)
  have B : CX V G cX12_fit 3 "FluxWatchModel" (some .int) := B
  have hl : lv_has ls 3 [(0, .ref (gz G + 107))] := hl
  show WX V G N f m 0 0 (QQ V G (some (.int r)) N f m 0 0) 0 ls []
  refine x_iconst (v := (nI 0)) B dX12_fit_0 (by decide) ?_
  refine x_istore_n (lv' := [(1, .int (nI 0)), (0, .ref (gz G + 107))]) B dX12_fit_1 rfl hl (by decide) rfl (fun ls hl => ?_)
  refine x_iconst (v := (nI 0)) B dX12_fit_2 (by decide) ?_
  refine x_istore_n (lv' := [(2, .int (nI 0)), (1, .int (nI 0)), (0, .ref (gz G + 107))]) B dX12_fit_3 rfl hl (by decide) rfl (fun ls hl => ?_)
  exact fX12_fit_4L_ok B hR  n _ _ _ _ (lv_sub hl [2, 1, 0] rfl) hf
def rmX12_isFigure : Room := { frames := 0, cells := 0, slots := 0, locals := 0 }
def fX12_isFigure (n : Nat) (a1 : Int32) (m : Mm) : Option (Int32) :=
  if (m 107 5) ≤ a1 then (
  some (nI 0)) else (
  gd (ib a1 96) <|
  if (m 111 a1.toNatClampNeg) < (nI 48) then (
  some (nI 0)) else (
  gd (ib a1 96) <|
  if (nI 57) < (m 111 a1.toNatClampNeg) then (
  some (nI 0)) else (
  some (nI 1))))
set_option maxHeartbeats 4000000 in
set_option maxRecDepth 100000 in
theorem kX12_isFigure {l : Launch} {G : GE} {N : Nat} {f m : Mm} {n : Nat} {a1 : Int32} {r : Int32}  (hf : fX12_isFigure n a1 m = some r) : MT l G yX12_isFigure cX12_isFigure 2 (some .boolean) rmX12_isFigure [.ref (gz G + 107), .int a1] N f m (some (.int r)) N f m := by
  unfold fX12_isFigure at hf
  refine MT.of (by decide) (Nat.le_of_ble_eq_true rfl) (fun V ls hV hR B hl => ?_)
  have B : CX V G cX12_isFigure 2 "FluxWatchModel" (some .boolean) := B
  have hl : lv_has ls 2 [(0, .ref (gz G + 107)), (1, .int a1)] := hl
  show WX V G N f m 0 0 (QQ V G (some (.int r)) N f m 0 0) 0 ls []
  refine x_iload_n B dX12_isFigure_0 rfl (lv_at hl 1 rfl) ?_
  refine x_aload_n B dX12_isFigure_1 rfl (lv_at hl 0 rfl) ?_
  refine y_getMi (C := RX12) (T := TX12) (NN := 34) B aM_107 inX12 rfl (j := 5) (by decide) q_1117 rfl rfl dX12_isFigure_2 ?_
  refine x_icmp_ge (tgt := 34) B dX12_isFigure_5 (by decide) (fun h1 => ?_) (fun h1 => ?_)
  · have hf := ip h1 hf
    refine x_iconst (v := (nI 0)) B dX12_isFigure_34 (by decide) ?_
    obtain rfl := rt1 hf
    exact x_zret B (by decide) dX12_isFigure_35
  · have hf := iq h1 hf
    refine x_aload_n B dX12_isFigure_8 rfl (lv_at hl 0 rfl) ?_
    refine y_getMr (C := RX12) (T := TX12) (NN := 34) (d := 3) (k2 := 111) B aM_107 inX12 rfl (j := 4) (by decide) q_1116 rfl rfl rfl dX12_isFigure_9 ?_
    refine x_iload_n B dX12_isFigure_12 rfl (lv_at hl 1 rfl) ?_
    obtain ⟨h2, hf⟩ := gd_some hf
    refine x_ialdM B aM_111 h2 dX12_isFigure_13 ?_
    refine x_bipush (v := (nI 48)) B dX12_isFigure_14 (by decide) ?_
    refine x_icmp_lt (tgt := 34) B dX12_isFigure_16 (by decide) (fun h3 => ?_) (fun h3 => ?_)
    · have hf := ip h3 hf
      refine x_iconst (v := (nI 0)) B dX12_isFigure_34 (by decide) ?_
      obtain rfl := rt1 hf
      exact x_zret B (by decide) dX12_isFigure_35
    · have hf := iq h3 hf
      refine x_aload_n B dX12_isFigure_19 rfl (lv_at hl 0 rfl) ?_
      refine y_getMr (C := RX12) (T := TX12) (NN := 34) (d := 3) (k2 := 111) B aM_107 inX12 rfl (j := 4) (by decide) q_1116 rfl rfl rfl dX12_isFigure_20 ?_
      refine x_iload_n B dX12_isFigure_23 rfl (lv_at hl 1 rfl) ?_
      obtain ⟨h4, hf⟩ := gd_some hf
      refine x_ialdM B aM_111 h4 dX12_isFigure_24 ?_
      refine x_bipush (v := (nI 57)) B dX12_isFigure_25 (by decide) ?_
      refine x_icmp_gt (tgt := 34) B dX12_isFigure_27 (by decide) (fun h5 => ?_) (fun h5 => ?_)
      · have hf := ip h5 hf
        refine x_iconst (v := (nI 0)) B dX12_isFigure_34 (by decide) ?_
        obtain rfl := rt1 hf
        exact x_zret B (by decide) dX12_isFigure_35
      · have hf := iq h5 hf
        refine x_iconst (v := (nI 1)) B dX12_isFigure_30 (by decide) ?_
        refine x_goto (tgt := 35) B dX12_isFigure_31 (by decide) ?_
        obtain rfl := rt1 hf
        exact x_zret B (by decide) dX12_isFigure_35
def rmX12_isLetter : Room := { frames := 0, cells := 0, slots := 0, locals := 0 }
def fX12_isLetter (n : Nat) (a1 : Int32) (m : Mm) : Option (Int32) :=
  if (m 107 5) ≤ a1 then (
  some (nI 0)) else (
  gd (ib a1 96) <|
  if (m 111 a1.toNatClampNeg) < (nI 97) then (
  some (nI 0)) else (
  gd (ib a1 96) <|
  if (nI 122) < (m 111 a1.toNatClampNeg) then (
  some (nI 0)) else (
  some (nI 1))))
set_option maxHeartbeats 4000000 in
set_option maxRecDepth 100000 in
theorem kX12_isLetter {l : Launch} {G : GE} {N : Nat} {f m : Mm} {n : Nat} {a1 : Int32} {r : Int32}  (hf : fX12_isLetter n a1 m = some r) : MT l G yX12_isLetter cX12_isLetter 2 (some .boolean) rmX12_isLetter [.ref (gz G + 107), .int a1] N f m (some (.int r)) N f m := by
  unfold fX12_isLetter at hf
  refine MT.of (by decide) (Nat.le_of_ble_eq_true rfl) (fun V ls hV hR B hl => ?_)
  have B : CX V G cX12_isLetter 2 "FluxWatchModel" (some .boolean) := B
  have hl : lv_has ls 2 [(0, .ref (gz G + 107)), (1, .int a1)] := hl
  show WX V G N f m 0 0 (QQ V G (some (.int r)) N f m 0 0) 0 ls []
  refine x_iload_n B dX12_isLetter_0 rfl (lv_at hl 1 rfl) ?_
  refine x_aload_n B dX12_isLetter_1 rfl (lv_at hl 0 rfl) ?_
  refine y_getMi (C := RX12) (T := TX12) (NN := 34) B aM_107 inX12 rfl (j := 5) (by decide) q_1117 rfl rfl dX12_isLetter_2 ?_
  refine x_icmp_ge (tgt := 34) B dX12_isLetter_5 (by decide) (fun h1 => ?_) (fun h1 => ?_)
  · have hf := ip h1 hf
    refine x_iconst (v := (nI 0)) B dX12_isLetter_34 (by decide) ?_
    obtain rfl := rt1 hf
    exact x_zret B (by decide) dX12_isLetter_35
  · have hf := iq h1 hf
    refine x_aload_n B dX12_isLetter_8 rfl (lv_at hl 0 rfl) ?_
    refine y_getMr (C := RX12) (T := TX12) (NN := 34) (d := 3) (k2 := 111) B aM_107 inX12 rfl (j := 4) (by decide) q_1116 rfl rfl rfl dX12_isLetter_9 ?_
    refine x_iload_n B dX12_isLetter_12 rfl (lv_at hl 1 rfl) ?_
    obtain ⟨h2, hf⟩ := gd_some hf
    refine x_ialdM B aM_111 h2 dX12_isLetter_13 ?_
    refine x_bipush (v := (nI 97)) B dX12_isLetter_14 (by decide) ?_
    refine x_icmp_lt (tgt := 34) B dX12_isLetter_16 (by decide) (fun h3 => ?_) (fun h3 => ?_)
    · have hf := ip h3 hf
      refine x_iconst (v := (nI 0)) B dX12_isLetter_34 (by decide) ?_
      obtain rfl := rt1 hf
      exact x_zret B (by decide) dX12_isLetter_35
    · have hf := iq h3 hf
      refine x_aload_n B dX12_isLetter_19 rfl (lv_at hl 0 rfl) ?_
      refine y_getMr (C := RX12) (T := TX12) (NN := 34) (d := 3) (k2 := 111) B aM_107 inX12 rfl (j := 4) (by decide) q_1116 rfl rfl rfl dX12_isLetter_20 ?_
      refine x_iload_n B dX12_isLetter_23 rfl (lv_at hl 1 rfl) ?_
      obtain ⟨h4, hf⟩ := gd_some hf
      refine x_ialdM B aM_111 h4 dX12_isLetter_24 ?_
      refine x_bipush (v := (nI 122)) B dX12_isLetter_25 (by decide) ?_
      refine x_icmp_gt (tgt := 34) B dX12_isLetter_27 (by decide) (fun h5 => ?_) (fun h5 => ?_)
      · have hf := ip h5 hf
        refine x_iconst (v := (nI 0)) B dX12_isLetter_34 (by decide) ?_
        obtain rfl := rt1 hf
        exact x_zret B (by decide) dX12_isLetter_35
      · have hf := iq h5 hf
        refine x_iconst (v := (nI 1)) B dX12_isLetter_30 (by decide) ?_
        refine x_goto (tgt := 35) B dX12_isLetter_31 (by decide) ?_
        obtain rfl := rt1 hf
        exact x_zret B (by decide) dX12_isLetter_35
def rmX12_go : Room := { frames := 1, cells := 0, slots := 0, locals := 21 }
set_option maxHeartbeats 4000000 in
set_option maxRecDepth 100000 in
theorem cw_X12_go_X12_isFigure : cwB rmX12_go rmX12_isFigure yX12_isFigure cX12_isFigure 2 (some .boolean) 1 := ⟨q_1448, q_57, by decide, by decide⟩
set_option maxHeartbeats 4000000 in
set_option maxRecDepth 100000 in
theorem cw_X12_go_X12_isLetter : cwB rmX12_go rmX12_isLetter yX12_isLetter cX12_isLetter 2 (some .boolean) 1 := ⟨q_1444, q_57, by decide, by decide⟩
def fX12_go_261 (n : Nat)   (s0 : Int32) (m : Mm) : Option (Mm) :=
  lt (up m 107 8 s0) fun f28 =>
  lt (up f28 107 10 (f28 107 6)) fun f30 =>
  some f30
set_option maxHeartbeats 4000000 in
set_option maxRecDepth 100000 in
theorem fX12_go_261_ok {V : VE} {G : GE} {N : Nat} {f m : Mm} {n : Nat} {ls : Array Slot} {g : Mm} (B : CX V G cX12_go 2 "FluxWatchModel" none) (hR : V.2.2.2.1 = rmX12_go)   {s0 : Int32}  (hl : lv_has ls 2 [(0, .ref (gz G + 107))]) (hf : fX12_go_261 n  s0 m = some g) : WX V G N f m 0 0 (QQ V G none N f g 0 0) 261 ls [.int s0, .ref (gz G + 107)] := by
  unfold fX12_go_261 at hf
  refine x_putM (C := RX12) (T := TX12) (NN := 34) (ty0 := tyX12) (ty := .int) B aM_107 inX12 tyX12_ok nmX12 rfl (j := 8) (by decide) q_1120 rfl rfl rfl rfl rfl rfl dX12_go_261 (fun f28 e29 => ?_)
  have hf := lt_some hf e29
  refine x_aload_n B dX12_go_264 rfl (lv_at hl 0 rfl) ?_
  refine x_aload_n B dX12_go_265 rfl (lv_at hl 0 rfl) ?_
  refine y_getMi (C := RX12) (T := TX12) (NN := 34) B aM_107 inX12 rfl (j := 6) (by decide) q_1118 rfl rfl dX12_go_266 ?_
  refine x_putM (C := RX12) (T := TX12) (NN := 34) (ty0 := tyX12) (ty := .int) B aM_107 inX12 tyX12_ok nmX12 rfl (j := 10) (by decide) q_1122 rfl rfl rfl rfl rfl rfl dX12_go_269 (fun f30 e31 => ?_)
  have hf := lt_some hf e31
  refine x_goto (tgt := 303) B dX12_go_272 (by decide) ?_
  obtain rfl := rt1 hf
  exact x_vret B dX12_go_303
def fX12_go_256 (n : Nat)    (m : Mm) : Option (Mm) :=
  fX12_go_261 n (nI 4) m
set_option maxHeartbeats 4000000 in
set_option maxRecDepth 100000 in
theorem fX12_go_256_ok {V : VE} {G : GE} {N : Nat} {f m : Mm} {n : Nat} {ls : Array Slot} {g : Mm} (B : CX V G cX12_go 2 "FluxWatchModel" none) (hR : V.2.2.2.1 = rmX12_go)     (hl : lv_has ls 2 [(0, .ref (gz G + 107))]) (hf : fX12_go_256 n  m = some g) : WX V G N f m 0 0 (QQ V G none N f g 0 0) 256 ls [.ref (gz G + 107)] := by
  unfold fX12_go_256 at hf
  refine x_iconst (v := (nI 4)) B dX12_go_256 (by decide) ?_
  refine x_goto (tgt := 261) B dX12_go_257 (by decide) ?_
  exact fX12_go_261_ok B hR  hl hf
def fX12_go_222 (n : Nat)  (k170 : Int32 → Mm → Option (Mm)) (x1 : Int32) (s0 : Int32) (m : Mm) : Option (Mm) :=
  lt (up m 107 9 s0) fun f33 =>
  lt (up f33 107 6 ((f33 107 6) + (nI 1))) fun f35 =>
  k170 x1 f35
set_option maxHeartbeats 4000000 in
set_option maxRecDepth 100000 in
theorem fX12_go_222_ok {V : VE} {G : GE} {N : Nat} {f m : Mm} {n : Nat} {ls : Array Slot} {g : Mm} (B : CX V G cX12_go 2 "FluxWatchModel" none) (hR : V.2.2.2.1 = rmX12_go)  {k170 : Int32 → Mm → Option (Mm)} (hk170 : ∀ (x1 : Int32) (mm : Mm) (ls : Array Slot),  lv_has ls 2 [(0, .ref (gz G + 107)), (1, .int x1)] → k170 x1 mm = some g → WX V G N f mm 0 0 (QQ V G none N f g 0 0) 170 ls []) {x1 : Int32} {s0 : Int32}  (hl : lv_has ls 2 [(0, .ref (gz G + 107)), (1, .int x1)]) (hf : fX12_go_222 n  k170 x1 s0 m = some g) : WX V G N f m 0 0 (QQ V G none N f g 0 0) 222 ls [.int s0, .ref (gz G + 107)] := by
  unfold fX12_go_222 at hf
  refine x_putM (C := RX12) (T := TX12) (NN := 34) (ty0 := tyX12) (ty := .int) B aM_107 inX12 tyX12_ok nmX12 rfl (j := 9) (by decide) q_1121 rfl rfl rfl rfl rfl rfl dX12_go_222 (fun f33 e34 => ?_)
  have hf := lt_some hf e34
  refine x_aload_n B dX12_go_225 rfl (lv_at hl 0 rfl) ?_
  refine x_dup B dX12_go_226 rfl ?_
  refine y_getMi (C := RX12) (T := TX12) (NN := 34) B aM_107 inX12 rfl (j := 6) (by decide) q_1118 rfl rfl dX12_go_227 ?_
  refine x_iconst (v := (nI 1)) B dX12_go_230 (by decide) ?_
  refine x_iadd B dX12_go_231 ?_
  refine x_putM (C := RX12) (T := TX12) (NN := 34) (ty0 := tyX12) (ty := .int) B aM_107 inX12 tyX12_ok nmX12 rfl (j := 6) (by decide) q_1118 rfl rfl rfl rfl rfl rfl dX12_go_232 (fun f35 e36 => ?_)
  have hf := lt_some hf e36
  refine x_goto (tgt := 170) B dX12_go_235 (by decide) ?_
  exact hk170 _ _ _ hl hf
def fX12_go_170 (n : Nat)   (k170 : Int32 → Mm → Option (Mm)) (x1 : Int32) (m : Mm) : Option (Mm) :=
  bn (fX12_isFigure n (m 107 6) m) fun r24 =>
  if r24 = 0 then (
  if x1 = 0 then (
  if ((m 107 6) - (m 107 7)) ≤ (nI 4) then (
  fX12_go_261 n (nI 2) m) else (
  fX12_go_256 n m)) else (
  fX12_go_256 n m)) else (
  if (nI 4) ≤ ((m 107 6) - (m 107 7)) then (
  fX12_go_222 n k170 x1 (m 107 9) m) else (
  gd (ib (m 107 6) 96) <|
  fX12_go_222 n k170 x1 ((((nI 10) * (m 107 9)) + (m 111 (m 107 6).toNatClampNeg)) - (nI 48)) m))
def fX12_go_170L (n : Nat)   : Nat → Int32 → Mm → Option (Mm)
  | 0 => fun _ _ => none
  | q + 1 => fX12_go_170 n   (fX12_go_170L n   q)
set_option maxHeartbeats 4000000 in
set_option maxRecDepth 100000 in
theorem fX12_go_170_ok {V : VE} {G : GE} {N : Nat} {f m : Mm} {n : Nat} {ls : Array Slot} {g : Mm} (B : CX V G cX12_go 2 "FluxWatchModel" none) (hR : V.2.2.2.1 = rmX12_go)   {k170 : Int32 → Mm → Option (Mm)} (hk170 : ∀ (x1 : Int32) (mm : Mm) (ls : Array Slot),  lv_has ls 2 [(0, .ref (gz G + 107)), (1, .int x1)] → k170 x1 mm = some g → WX V G N f mm 0 0 (QQ V G none N f g 0 0) 170 ls []) {x1 : Int32}  (hl : lv_has ls 2 [(0, .ref (gz G + 107)), (1, .int x1)]) (hf : fX12_go_170 n  k170 x1 m = some g) : WX V G N f m 0 0 (QQ V G none N f g 0 0) 170 ls [] := by
  unfold fX12_go_170 at hf
  refine x_aload_n B dX12_go_170 rfl (lv_at hl 0 rfl) ?_
  refine x_aload_n B dX12_go_171 rfl (lv_at hl 0 rfl) ?_
  refine y_getMi (C := RX12) (T := TX12) (NN := 34) B aM_107 inX12 rfl (j := 6) (by decide) q_1118 rfl rfl dX12_go_172 ?_
  obtain ⟨r24, c23, hf⟩ := bn_some hf
  refine x_callV0 (rest := []) B (kX12_isFigure c23) ⟨rfl, rfl⟩ aM_107.lt aM_107.2 rfl (by decide) q_1445 q_1447 q_31 (by rw [hR]; exact cw_X12_go_X12_isFigure) rfl rfl hl.1 (Nat.le_of_ble_eq_true rfl) dX12_go_175 ⟨Nat.zero_le _, Nat.zero_le _⟩ ?_
  refine x_if_eq (tgt := 238) B dX12_go_178 (by decide) (fun h25 => ?_) (fun h25 => ?_)
  · have hf := ip h25 hf
    refine x_aload_n B dX12_go_238 rfl (lv_at hl 0 rfl) ?_
    refine x_iload_n B dX12_go_239 rfl (lv_at hl 1 rfl) ?_
    refine x_if_ne (tgt := 256) B dX12_go_240 (by decide) (fun h26 => ?_) (fun h26 => ?_)
    · have hf := ip h26 hf
      refine x_aload_n B dX12_go_243 rfl (lv_at hl 0 rfl) ?_
      refine y_getMi (C := RX12) (T := TX12) (NN := 34) B aM_107 inX12 rfl (j := 6) (by decide) q_1118 rfl rfl dX12_go_244 ?_
      refine x_aload_n B dX12_go_247 rfl (lv_at hl 0 rfl) ?_
      refine y_getMi (C := RX12) (T := TX12) (NN := 34) B aM_107 inX12 rfl (j := 7) (by decide) q_1119 rfl rfl dX12_go_248 ?_
      refine x_isub B dX12_go_251 ?_
      refine x_iconst (v := (nI 4)) B dX12_go_252 (by decide) ?_
      refine x_icmp_le (tgt := 260) B dX12_go_253 (by decide) (fun h27 => ?_) (fun h27 => ?_)
      · have hf := ip h27 hf
        refine x_iconst (v := (nI 2)) B dX12_go_260 (by decide) ?_
        exact fX12_go_261_ok B hR  (lv_sub hl [0] rfl) hf
      · have hf := iq h27 hf
        exact fX12_go_256_ok B hR  (lv_sub hl [0] rfl) hf
    · have hf := iq h26 hf
      exact fX12_go_256_ok B hR  (lv_sub hl [0] rfl) hf
  · have hf := iq h25 hf
    refine x_aload_n B dX12_go_181 rfl (lv_at hl 0 rfl) ?_
    refine x_aload_n B dX12_go_182 rfl (lv_at hl 0 rfl) ?_
    refine y_getMi (C := RX12) (T := TX12) (NN := 34) B aM_107 inX12 rfl (j := 6) (by decide) q_1118 rfl rfl dX12_go_183 ?_
    refine x_aload_n B dX12_go_186 rfl (lv_at hl 0 rfl) ?_
    refine y_getMi (C := RX12) (T := TX12) (NN := 34) B aM_107 inX12 rfl (j := 7) (by decide) q_1119 rfl rfl dX12_go_187 ?_
    refine x_isub B dX12_go_190 ?_
    refine x_iconst (v := (nI 4)) B dX12_go_191 (by decide) ?_
    refine x_icmp_ge (tgt := 218) B dX12_go_192 (by decide) (fun h32 => ?_) (fun h32 => ?_)
    · have hf := ip h32 hf
      refine x_aload_n B dX12_go_218 rfl (lv_at hl 0 rfl) ?_
      refine y_getMi (C := RX12) (T := TX12) (NN := 34) B aM_107 inX12 rfl (j := 9) (by decide) q_1121 rfl rfl dX12_go_219 ?_
      exact fX12_go_222_ok B hR hk170 hl hf
    · have hf := iq h32 hf
      refine x_bipush (v := (nI 10)) B dX12_go_195 (by decide) ?_
      refine x_aload_n B dX12_go_197 rfl (lv_at hl 0 rfl) ?_
      refine y_getMi (C := RX12) (T := TX12) (NN := 34) B aM_107 inX12 rfl (j := 9) (by decide) q_1121 rfl rfl dX12_go_198 ?_
      refine x_imul B dX12_go_201 ?_
      refine x_aload_n B dX12_go_202 rfl (lv_at hl 0 rfl) ?_
      refine y_getMr (C := RX12) (T := TX12) (NN := 34) (d := 3) (k2 := 111) B aM_107 inX12 rfl (j := 4) (by decide) q_1116 rfl rfl rfl dX12_go_203 ?_
      refine x_aload_n B dX12_go_206 rfl (lv_at hl 0 rfl) ?_
      refine y_getMi (C := RX12) (T := TX12) (NN := 34) B aM_107 inX12 rfl (j := 6) (by decide) q_1118 rfl rfl dX12_go_207 ?_
      obtain ⟨h37, hf⟩ := gd_some hf
      refine x_ialdM B aM_111 h37 dX12_go_210 ?_
      refine x_iadd B dX12_go_211 ?_
      refine x_bipush (v := (nI 48)) B dX12_go_212 (by decide) ?_
      refine x_isub B dX12_go_214 ?_
      refine x_goto (tgt := 222) B dX12_go_215 (by decide) ?_
      exact fX12_go_222_ok B hR hk170 hl hf
set_option maxHeartbeats 4000000 in
set_option maxRecDepth 100000 in
theorem fX12_go_170L_ok {V : VE} {G : GE} {N : Nat} {f : Mm} {n : Nat}  {g : Mm} (B : CX V G cX12_go 2 "FluxWatchModel" none) (hR : V.2.2.2.1 = rmX12_go)   : ∀ (q : Nat) (x1 : Int32) (mm : Mm) (ls : Array Slot),  lv_has ls 2 [(0, .ref (gz G + 107)), (1, .int x1)] → fX12_go_170L n  q x1 mm = some g → WX V G N f mm 0 0 (QQ V G none N f g 0 0) 170 ls [] := by
  intro q
  induction q with
  | zero =>
    intro x1 mm ls hl hf
    cases hf
  | succ q ih =>
    intro x1 mm ls hl hf
    exact fX12_go_170_ok B hR   ih  hl hf
def fX12_go_127 (n : Nat)   (s0 : Int32) (m : Mm) : Option (Mm) :=
  lt (up m 107 8 s0) fun f42 =>
  gd (ib (f42 107 7) 96) <|
  lt (up f42 107 9 (f42 111 (f42 107 7).toNatClampNeg)) fun f45 =>
  lt (up f45 107 10 (f45 107 6)) fun f47 =>
  some f47
set_option maxHeartbeats 4000000 in
set_option maxRecDepth 100000 in
theorem fX12_go_127_ok {V : VE} {G : GE} {N : Nat} {f m : Mm} {n : Nat} {ls : Array Slot} {g : Mm} (B : CX V G cX12_go 2 "FluxWatchModel" none) (hR : V.2.2.2.1 = rmX12_go)   {s0 : Int32}  (hl : lv_has ls 2 [(0, .ref (gz G + 107))]) (hf : fX12_go_127 n  s0 m = some g) : WX V G N f m 0 0 (QQ V G none N f g 0 0) 127 ls [.int s0, .ref (gz G + 107)] := by
  unfold fX12_go_127 at hf
  refine x_putM (C := RX12) (T := TX12) (NN := 34) (ty0 := tyX12) (ty := .int) B aM_107 inX12 tyX12_ok nmX12 rfl (j := 8) (by decide) q_1120 rfl rfl rfl rfl rfl rfl dX12_go_127 (fun f42 e43 => ?_)
  have hf := lt_some hf e43
  refine x_aload_n B dX12_go_130 rfl (lv_at hl 0 rfl) ?_
  refine x_aload_n B dX12_go_131 rfl (lv_at hl 0 rfl) ?_
  refine y_getMr (C := RX12) (T := TX12) (NN := 34) (d := 3) (k2 := 111) B aM_107 inX12 rfl (j := 4) (by decide) q_1116 rfl rfl rfl dX12_go_132 ?_
  refine x_aload_n B dX12_go_135 rfl (lv_at hl 0 rfl) ?_
  refine y_getMi (C := RX12) (T := TX12) (NN := 34) B aM_107 inX12 rfl (j := 7) (by decide) q_1119 rfl rfl dX12_go_136 ?_
  obtain ⟨h44, hf⟩ := gd_some hf
  refine x_ialdM B aM_111 h44 dX12_go_139 ?_
  refine x_putM (C := RX12) (T := TX12) (NN := 34) (ty0 := tyX12) (ty := .int) B aM_107 inX12 tyX12_ok nmX12 rfl (j := 9) (by decide) q_1121 rfl rfl rfl rfl rfl rfl dX12_go_140 (fun f45 e46 => ?_)
  have hf := lt_some hf e46
  refine x_aload_n B dX12_go_143 rfl (lv_at hl 0 rfl) ?_
  refine x_aload_n B dX12_go_144 rfl (lv_at hl 0 rfl) ?_
  refine y_getMi (C := RX12) (T := TX12) (NN := 34) B aM_107 inX12 rfl (j := 6) (by decide) q_1118 rfl rfl dX12_go_145 ?_
  refine x_putM (C := RX12) (T := TX12) (NN := 34) (ty0 := tyX12) (ty := .int) B aM_107 inX12 tyX12_ok nmX12 rfl (j := 10) (by decide) q_1122 rfl rfl rfl rfl rfl rfl dX12_go_148 (fun f47 e48 => ?_)
  have hf := lt_some hf e48
  refine x_goto (tgt := 303) B dX12_go_151 (by decide) ?_
  obtain rfl := rt1 hf
  exact x_vret B dX12_go_303
def fX12_go_93 (n : Nat)   (k93 : Int32 → Mm → Option (Mm)) (x1 : Int32) (m : Mm) : Option (Mm) :=
  bn (fX12_isLetter n (m 107 6) m) fun r39 =>
  if r39 = 0 then (
  if x1 = 0 then (
  fX12_go_127 n (nI 1) m) else (
  fX12_go_127 n (nI 4) m)) else (
  lt (up m 107 6 ((m 107 6) + (nI 1))) fun f49 =>
  k93 x1 f49)
def fX12_go_93L (n : Nat)   : Nat → Int32 → Mm → Option (Mm)
  | 0 => fun _ _ => none
  | q + 1 => fX12_go_93 n   (fX12_go_93L n   q)
set_option maxHeartbeats 4000000 in
set_option maxRecDepth 100000 in
theorem fX12_go_93_ok {V : VE} {G : GE} {N : Nat} {f m : Mm} {n : Nat} {ls : Array Slot} {g : Mm} (B : CX V G cX12_go 2 "FluxWatchModel" none) (hR : V.2.2.2.1 = rmX12_go)   {k93 : Int32 → Mm → Option (Mm)} (hk93 : ∀ (x1 : Int32) (mm : Mm) (ls : Array Slot),  lv_has ls 2 [(0, .ref (gz G + 107)), (1, .int x1)] → k93 x1 mm = some g → WX V G N f mm 0 0 (QQ V G none N f g 0 0) 93 ls []) {x1 : Int32}  (hl : lv_has ls 2 [(0, .ref (gz G + 107)), (1, .int x1)]) (hf : fX12_go_93 n  k93 x1 m = some g) : WX V G N f m 0 0 (QQ V G none N f g 0 0) 93 ls [] := by
  unfold fX12_go_93 at hf
  refine x_aload_n B dX12_go_93 rfl (lv_at hl 0 rfl) ?_
  refine x_aload_n B dX12_go_94 rfl (lv_at hl 0 rfl) ?_
  refine y_getMi (C := RX12) (T := TX12) (NN := 34) B aM_107 inX12 rfl (j := 6) (by decide) q_1118 rfl rfl dX12_go_95 ?_
  obtain ⟨r39, c38, hf⟩ := bn_some hf
  refine x_callV0 (rest := []) B (kX12_isLetter c38) ⟨rfl, rfl⟩ aM_107.lt aM_107.2 rfl (by decide) q_1441 q_1443 q_30 (by rw [hR]; exact cw_X12_go_X12_isLetter) rfl rfl hl.1 (Nat.le_of_ble_eq_true rfl) dX12_go_98 ⟨Nat.zero_le _, Nat.zero_le _⟩ ?_
  refine x_if_eq (tgt := 117) B dX12_go_101 (by decide) (fun h40 => ?_) (fun h40 => ?_)
  · have hf := ip h40 hf
    refine x_aload_n B dX12_go_117 rfl (lv_at hl 0 rfl) ?_
    refine x_iload_n B dX12_go_118 rfl (lv_at hl 1 rfl) ?_
    refine x_if_eq (tgt := 126) B dX12_go_119 (by decide) (fun h41 => ?_) (fun h41 => ?_)
    · have hf := ip h41 hf
      refine x_iconst (v := (nI 1)) B dX12_go_126 (by decide) ?_
      exact fX12_go_127_ok B hR  (lv_sub hl [0] rfl) hf
    · have hf := iq h41 hf
      refine x_iconst (v := (nI 4)) B dX12_go_122 (by decide) ?_
      refine x_goto (tgt := 127) B dX12_go_123 (by decide) ?_
      exact fX12_go_127_ok B hR  (lv_sub hl [0] rfl) hf
  · have hf := iq h40 hf
    refine x_aload_n B dX12_go_104 rfl (lv_at hl 0 rfl) ?_
    refine x_dup B dX12_go_105 rfl ?_
    refine y_getMi (C := RX12) (T := TX12) (NN := 34) B aM_107 inX12 rfl (j := 6) (by decide) q_1118 rfl rfl dX12_go_106 ?_
    refine x_iconst (v := (nI 1)) B dX12_go_109 (by decide) ?_
    refine x_iadd B dX12_go_110 ?_
    refine x_putM (C := RX12) (T := TX12) (NN := 34) (ty0 := tyX12) (ty := .int) B aM_107 inX12 tyX12_ok nmX12 rfl (j := 6) (by decide) q_1118 rfl rfl rfl rfl rfl rfl dX12_go_111 (fun f49 e50 => ?_)
    have hf := lt_some hf e50
    refine x_goto (tgt := 93) B dX12_go_114 (by decide) ?_
    exact hk93 _ _ _ hl hf
set_option maxHeartbeats 4000000 in
set_option maxRecDepth 100000 in
theorem fX12_go_93L_ok {V : VE} {G : GE} {N : Nat} {f : Mm} {n : Nat}  {g : Mm} (B : CX V G cX12_go 2 "FluxWatchModel" none) (hR : V.2.2.2.1 = rmX12_go)   : ∀ (q : Nat) (x1 : Int32) (mm : Mm) (ls : Array Slot),  lv_has ls 2 [(0, .ref (gz G + 107)), (1, .int x1)] → fX12_go_93L n  q x1 mm = some g → WX V G N f mm 0 0 (QQ V G none N f g 0 0) 93 ls [] := by
  intro q
  induction q with
  | zero =>
    intro x1 mm ls hl hf
    cases hf
  | succ q ih =>
    intro x1 mm ls hl hf
    exact fX12_go_93_ok B hR   ih  hl hf
def fX12_go_62 (n : Nat)   (s0 : Int32) (m : Mm) : Option (Mm) :=
  if (m 107 7) = (m 107 5) then (
  lt (up m 107 8 (nI 0)) fun f6 =>
  some f6) else (
  bn (fX12_isLetter n (m 107 7) m) fun r9 =>
  if r9 = 0 then (
  bn (fX12_isFigure n (m 107 7) m) fun r12 =>
  if r12 = 0 then (
  lt (up m 107 8 (nI 3)) fun f14 =>
  gd (ib (f14 107 7) 96) <|
  lt (up f14 107 9 (f14 111 (f14 107 7).toNatClampNeg)) fun f17 =>
  lt (up f17 107 6 ((f17 107 6) + (nI 1))) fun f19 =>
  some f19) else (
  lt (up m 107 9 (nI 0)) fun f21 =>
  fX12_go_170L n n s0 f21)) else (
  fX12_go_93L n n s0 m))
set_option maxHeartbeats 4000000 in
set_option maxRecDepth 100000 in
theorem fX12_go_62_ok {V : VE} {G : GE} {N : Nat} {f m : Mm} {n : Nat} {ls : Array Slot} {g : Mm} (B : CX V G cX12_go 2 "FluxWatchModel" none) (hR : V.2.2.2.1 = rmX12_go)   {s0 : Int32}  (hl : lv_has ls 2 [(0, .ref (gz G + 107))]) (hf : fX12_go_62 n  s0 m = some g) : WX V G N f m 0 0 (QQ V G none N f g 0 0) 62 ls [.int s0] := by
  unfold fX12_go_62 at hf
  refine x_istore_n (lv' := [(1, .int s0), (0, .ref (gz G + 107))]) B dX12_go_62 rfl hl (by decide) rfl (fun ls hl => ?_)
  refine x_aload_n B dX12_go_63 rfl (lv_at hl 1 rfl) ?_
  refine y_getMi (C := RX12) (T := TX12) (NN := 34) B aM_107 inX12 rfl (j := 7) (by decide) q_1119 rfl rfl dX12_go_64 ?_
  refine x_aload_n B dX12_go_67 rfl (lv_at hl 1 rfl) ?_
  refine y_getMi (C := RX12) (T := TX12) (NN := 34) B aM_107 inX12 rfl (j := 5) (by decide) q_1117 rfl rfl dX12_go_68 ?_
  refine x_icmp_ne (tgt := 82) B dX12_go_71 (by decide) (fun h5 => ?_) (fun h5 => ?_)
  · have hf := ip h5 hf
    refine x_aload_n B dX12_go_74 rfl (lv_at hl 1 rfl) ?_
    refine x_iconst (v := (nI 0)) B dX12_go_75 (by decide) ?_
    refine x_putM (C := RX12) (T := TX12) (NN := 34) (ty0 := tyX12) (ty := .int) B aM_107 inX12 tyX12_ok nmX12 rfl (j := 8) (by decide) q_1120 rfl rfl rfl rfl rfl rfl dX12_go_76 (fun f6 e7 => ?_)
    have hf := lt_some hf e7
    refine x_goto (tgt := 303) B dX12_go_79 (by decide) ?_
    obtain rfl := rt1 hf
    exact x_vret B dX12_go_303
  · have hf := iq h5 hf
    refine x_aload_n B dX12_go_82 rfl (lv_at hl 1 rfl) ?_
    refine x_aload_n B dX12_go_83 rfl (lv_at hl 1 rfl) ?_
    refine y_getMi (C := RX12) (T := TX12) (NN := 34) B aM_107 inX12 rfl (j := 7) (by decide) q_1119 rfl rfl dX12_go_84 ?_
    obtain ⟨r9, c8, hf⟩ := bn_some hf
    refine x_callV0 (rest := []) B (kX12_isLetter c8) ⟨rfl, rfl⟩ aM_107.lt aM_107.2 rfl (by decide) q_1441 q_1443 q_30 (by rw [hR]; exact cw_X12_go_X12_isLetter) rfl rfl hl.1 (Nat.le_of_ble_eq_true rfl) dX12_go_87 ⟨Nat.zero_le _, Nat.zero_le _⟩ ?_
    refine x_if_eq (tgt := 154) B dX12_go_90 (by decide) (fun h10 => ?_) (fun h10 => ?_)
    · have hf := ip h10 hf
      refine x_aload_n B dX12_go_154 rfl (lv_at hl 1 rfl) ?_
      refine x_aload_n B dX12_go_155 rfl (lv_at hl 1 rfl) ?_
      refine y_getMi (C := RX12) (T := TX12) (NN := 34) B aM_107 inX12 rfl (j := 7) (by decide) q_1119 rfl rfl dX12_go_156 ?_
      obtain ⟨r12, c11, hf⟩ := bn_some hf
      refine x_callV0 (rest := []) B (kX12_isFigure c11) ⟨rfl, rfl⟩ aM_107.lt aM_107.2 rfl (by decide) q_1445 q_1447 q_31 (by rw [hR]; exact cw_X12_go_X12_isFigure) rfl rfl hl.1 (Nat.le_of_ble_eq_true rfl) dX12_go_159 ⟨Nat.zero_le _, Nat.zero_le _⟩ ?_
      refine x_if_eq (tgt := 275) B dX12_go_162 (by decide) (fun h13 => ?_) (fun h13 => ?_)
      · have hf := ip h13 hf
        refine x_aload_n B dX12_go_275 rfl (lv_at hl 1 rfl) ?_
        refine x_iconst (v := (nI 3)) B dX12_go_276 (by decide) ?_
        refine x_putM (C := RX12) (T := TX12) (NN := 34) (ty0 := tyX12) (ty := .int) B aM_107 inX12 tyX12_ok nmX12 rfl (j := 8) (by decide) q_1120 rfl rfl rfl rfl rfl rfl dX12_go_277 (fun f14 e15 => ?_)
        have hf := lt_some hf e15
        refine x_aload_n B dX12_go_280 rfl (lv_at hl 1 rfl) ?_
        refine x_aload_n B dX12_go_281 rfl (lv_at hl 1 rfl) ?_
        refine y_getMr (C := RX12) (T := TX12) (NN := 34) (d := 3) (k2 := 111) B aM_107 inX12 rfl (j := 4) (by decide) q_1116 rfl rfl rfl dX12_go_282 ?_
        refine x_aload_n B dX12_go_285 rfl (lv_at hl 1 rfl) ?_
        refine y_getMi (C := RX12) (T := TX12) (NN := 34) B aM_107 inX12 rfl (j := 7) (by decide) q_1119 rfl rfl dX12_go_286 ?_
        obtain ⟨h16, hf⟩ := gd_some hf
        refine x_ialdM B aM_111 h16 dX12_go_289 ?_
        refine x_putM (C := RX12) (T := TX12) (NN := 34) (ty0 := tyX12) (ty := .int) B aM_107 inX12 tyX12_ok nmX12 rfl (j := 9) (by decide) q_1121 rfl rfl rfl rfl rfl rfl dX12_go_290 (fun f17 e18 => ?_)
        have hf := lt_some hf e18
        refine x_aload_n B dX12_go_293 rfl (lv_at hl 1 rfl) ?_
        refine x_dup B dX12_go_294 rfl ?_
        refine y_getMi (C := RX12) (T := TX12) (NN := 34) B aM_107 inX12 rfl (j := 6) (by decide) q_1118 rfl rfl dX12_go_295 ?_
        refine x_iconst (v := (nI 1)) B dX12_go_298 (by decide) ?_
        refine x_iadd B dX12_go_299 ?_
        refine x_putM (C := RX12) (T := TX12) (NN := 34) (ty0 := tyX12) (ty := .int) B aM_107 inX12 tyX12_ok nmX12 rfl (j := 6) (by decide) q_1118 rfl rfl rfl rfl rfl rfl dX12_go_300 (fun f19 e20 => ?_)
        have hf := lt_some hf e20
        obtain rfl := rt1 hf
        exact x_vret B dX12_go_303
      · have hf := iq h13 hf
        refine x_aload_n B dX12_go_165 rfl (lv_at hl 1 rfl) ?_
        refine x_iconst (v := (nI 0)) B dX12_go_166 (by decide) ?_
        refine x_putM (C := RX12) (T := TX12) (NN := 34) (ty0 := tyX12) (ty := .int) B aM_107 inX12 tyX12_ok nmX12 rfl (j := 9) (by decide) q_1121 rfl rfl rfl rfl rfl rfl dX12_go_167 (fun f21 e22 => ?_)
        have hf := lt_some hf e22
        exact fX12_go_170L_ok B hR  n _ _ _ (lv_sub hl [1, 0] rfl) hf
    · have hf := iq h10 hf
      exact fX12_go_93L_ok B hR  n _ _ _ (lv_sub hl [1, 0] rfl) hf
def fX12_go_38 (n : Nat)    (m : Mm) : Option (Mm) :=
  lt (up m 107 7 (m 107 6)) fun f2 =>
  if (f2 107 7) = (f2 107 10) then (
  fX12_go_62 n (nI 1) f2) else (
  fX12_go_62 n (nI 0) f2)
set_option maxHeartbeats 4000000 in
set_option maxRecDepth 100000 in
theorem fX12_go_38_ok {V : VE} {G : GE} {N : Nat} {f m : Mm} {n : Nat} {ls : Array Slot} {g : Mm} (B : CX V G cX12_go 2 "FluxWatchModel" none) (hR : V.2.2.2.1 = rmX12_go)     (hl : lv_has ls 2 [(0, .ref (gz G + 107))]) (hf : fX12_go_38 n  m = some g) : WX V G N f m 0 0 (QQ V G none N f g 0 0) 38 ls [] := by
  unfold fX12_go_38 at hf
  refine x_aload_n B dX12_go_38 rfl (lv_at hl 0 rfl) ?_
  refine x_aload_n B dX12_go_39 rfl (lv_at hl 0 rfl) ?_
  refine y_getMi (C := RX12) (T := TX12) (NN := 34) B aM_107 inX12 rfl (j := 6) (by decide) q_1118 rfl rfl dX12_go_40 ?_
  refine x_putM (C := RX12) (T := TX12) (NN := 34) (ty0 := tyX12) (ty := .int) B aM_107 inX12 tyX12_ok nmX12 rfl (j := 7) (by decide) q_1119 rfl rfl rfl rfl rfl rfl dX12_go_43 (fun f2 e3 => ?_)
  have hf := lt_some hf e3
  refine x_aload_n B dX12_go_46 rfl (lv_at hl 0 rfl) ?_
  refine y_getMi (C := RX12) (T := TX12) (NN := 34) B aM_107 inX12 rfl (j := 7) (by decide) q_1119 rfl rfl dX12_go_47 ?_
  refine x_aload_n B dX12_go_50 rfl (lv_at hl 0 rfl) ?_
  refine y_getMi (C := RX12) (T := TX12) (NN := 34) B aM_107 inX12 rfl (j := 10) (by decide) q_1122 rfl rfl dX12_go_51 ?_
  refine x_icmp_ne (tgt := 61) B dX12_go_54 (by decide) (fun h4 => ?_) (fun h4 => ?_)
  · have hf := ip h4 hf
    refine x_iconst (v := (nI 1)) B dX12_go_57 (by decide) ?_
    refine x_goto (tgt := 62) B dX12_go_58 (by decide) ?_
    exact fX12_go_62_ok B hR  hl hf
  · have hf := iq h4 hf
    refine x_iconst (v := (nI 0)) B dX12_go_61 (by decide) ?_
    exact fX12_go_62_ok B hR  hl hf
def fX12_go_0 (n : Nat)   (k0 : Mm → Option (Mm))  (m : Mm) : Option (Mm) :=
  if (m 107 5) ≤ (m 107 6) then (
  fX12_go_38 n m) else (
  gd (ib (m 107 6) 96) <|
  if (m 111 (m 107 6).toNatClampNeg) = (nI 32) then (
  lt (up m 107 6 ((m 107 6) + (nI 1))) fun f53 =>
  k0 f53) else (
  fX12_go_38 n m))
def fX12_go_0L (n : Nat)   : Nat → Mm → Option (Mm)
  | 0 => fun _ => none
  | q + 1 => fX12_go_0 n   (fX12_go_0L n   q)
set_option maxHeartbeats 4000000 in
set_option maxRecDepth 100000 in
theorem fX12_go_0_ok {V : VE} {G : GE} {N : Nat} {f m : Mm} {n : Nat} {ls : Array Slot} {g : Mm} (B : CX V G cX12_go 2 "FluxWatchModel" none) (hR : V.2.2.2.1 = rmX12_go)   {k0 : Mm → Option (Mm)} (hk0 : ∀  (mm : Mm) (ls : Array Slot),  lv_has ls 2 [(0, .ref (gz G + 107))] → k0 mm = some g → WX V G N f mm 0 0 (QQ V G none N f g 0 0) 0 ls [])   (hl : lv_has ls 2 [(0, .ref (gz G + 107))]) (hf : fX12_go_0 n  k0 m = some g) : WX V G N f m 0 0 (QQ V G none N f g 0 0) 0 ls [] := by
  unfold fX12_go_0 at hf
  refine x_aload_n B dX12_go_0 rfl (lv_at hl 0 rfl) ?_
  refine y_getMi (C := RX12) (T := TX12) (NN := 34) B aM_107 inX12 rfl (j := 6) (by decide) q_1118 rfl rfl dX12_go_1 ?_
  refine x_aload_n B dX12_go_4 rfl (lv_at hl 0 rfl) ?_
  refine y_getMi (C := RX12) (T := TX12) (NN := 34) B aM_107 inX12 rfl (j := 5) (by decide) q_1117 rfl rfl dX12_go_5 ?_
  refine x_icmp_ge (tgt := 38) B dX12_go_8 (by decide) (fun h1 => ?_) (fun h1 => ?_)
  · have hf := ip h1 hf
    exact fX12_go_38_ok B hR  hl hf
  · have hf := iq h1 hf
    refine x_aload_n B dX12_go_11 rfl (lv_at hl 0 rfl) ?_
    refine y_getMr (C := RX12) (T := TX12) (NN := 34) (d := 3) (k2 := 111) B aM_107 inX12 rfl (j := 4) (by decide) q_1116 rfl rfl rfl dX12_go_12 ?_
    refine x_aload_n B dX12_go_15 rfl (lv_at hl 0 rfl) ?_
    refine y_getMi (C := RX12) (T := TX12) (NN := 34) B aM_107 inX12 rfl (j := 6) (by decide) q_1118 rfl rfl dX12_go_16 ?_
    obtain ⟨h51, hf⟩ := gd_some hf
    refine x_ialdM B aM_111 h51 dX12_go_19 ?_
    refine x_bipush (v := (nI 32)) B dX12_go_20 (by decide) ?_
    refine x_icmp_ne (tgt := 38) B dX12_go_22 (by decide) (fun h52 => ?_) (fun h52 => ?_)
    · have hf := ip h52 hf
      refine x_aload_n B dX12_go_25 rfl (lv_at hl 0 rfl) ?_
      refine x_dup B dX12_go_26 rfl ?_
      refine y_getMi (C := RX12) (T := TX12) (NN := 34) B aM_107 inX12 rfl (j := 6) (by decide) q_1118 rfl rfl dX12_go_27 ?_
      refine x_iconst (v := (nI 1)) B dX12_go_30 (by decide) ?_
      refine x_iadd B dX12_go_31 ?_
      refine x_putM (C := RX12) (T := TX12) (NN := 34) (ty0 := tyX12) (ty := .int) B aM_107 inX12 tyX12_ok nmX12 rfl (j := 6) (by decide) q_1118 rfl rfl rfl rfl rfl rfl dX12_go_32 (fun f53 e54 => ?_)
      have hf := lt_some hf e54
      refine x_goto (tgt := 0) B dX12_go_35 (by decide) ?_
      exact hk0 _ _ hl hf
    · have hf := iq h52 hf
      exact fX12_go_38_ok B hR  hl hf
set_option maxHeartbeats 4000000 in
set_option maxRecDepth 100000 in
theorem fX12_go_0L_ok {V : VE} {G : GE} {N : Nat} {f : Mm} {n : Nat}  {g : Mm} (B : CX V G cX12_go 2 "FluxWatchModel" none) (hR : V.2.2.2.1 = rmX12_go)   : ∀ (q : Nat)  (mm : Mm) (ls : Array Slot),  lv_has ls 2 [(0, .ref (gz G + 107))] → fX12_go_0L n  q mm = some g → WX V G N f mm 0 0 (QQ V G none N f g 0 0) 0 ls [] := by
  intro q
  induction q with
  | zero =>
    intro mm ls hl hf
    cases hf
  | succ q ih =>
    intro mm ls hl hf
    exact fX12_go_0_ok B hR   ih  hl hf
def fX12_go (n : Nat)  (m : Mm) : Option (Mm) :=
  fX12_go_0L n n m
set_option maxHeartbeats 4000000 in
set_option maxRecDepth 100000 in
theorem kX12_go {l : Launch} {G : GE} {N : Nat} {f m : Mm} {n : Nat}  {g : Mm}  (hf : fX12_go n m = some g) : MT l G yX12_go cX12_go 2 none rmX12_go [.ref (gz G + 107)] N f m none N f g := by
  unfold fX12_go at hf
  refine MT.of (by decide) (Nat.le_of_ble_eq_true rfl) (fun V ls hV hR B hl => ?_)
  have B : CX V G cX12_go 2 "FluxWatchModel" none := B
  have hl : lv_has ls 2 [(0, .ref (gz G + 107))] := hl
  show WX V G N f m 0 0 (QQ V G none N f g 0 0) 0 ls []
  exact fX12_go_0L_ok B hR  n _ _ hl hf
def rmX12_isDay : Room := { frames := 1, cells := 0, slots := 0, locals := 22 }
set_option maxHeartbeats 4000000 in
set_option maxRecDepth 100000 in
theorem cw_X12_isDay_X12_in : cwB rmX12_isDay rmX12_in yX12_in cX12_in 3 (some .boolean) 3 := ⟨q_1222, q_57, by decide, by decide⟩
def fX12_isDay (n : Nat) (a1 : Int32)  : Option (Int32) :=
  bn (fX12_in n a1 (nI 0) (nI 1999)) fun r2 =>
  gd (zb r2) <|
  some r2
set_option maxHeartbeats 4000000 in
set_option maxRecDepth 100000 in
theorem kX12_isDay {l : Launch} {G : GE} {N : Nat} {f m : Mm} {n : Nat} {a1 : Int32} {r : Int32}  (hf : fX12_isDay n a1 = some r) : MT l G yX12_isDay cX12_isDay 1 (some .boolean) rmX12_isDay [.int a1] N f m (some (.int r)) N f m := by
  unfold fX12_isDay at hf
  refine MT.of (by decide) (Nat.le_of_ble_eq_true rfl) (fun V ls hV hR B hl => ?_)
  have B : CX V G cX12_isDay 1 "FluxWatchModel" (some .boolean) := B
  have hl : lv_has ls 1 [(0, .int a1)] := hl
  show WX V G N f m 0 0 (QQ V G (some (.int r)) N f m 0 0) 0 ls []
  refine x_iload_n B dX12_isDay_0 rfl (lv_at hl 0 rfl) ?_
  refine x_iconst (v := (nI 0)) B dX12_isDay_1 (by decide) ?_
  refine x_sipush (v := (nI 1999)) B dX12_isDay_2 (by decide) ?_
  obtain ⟨r2, c1, hf⟩ := bn_some hf
  refine x_callS0 (rest := []) B (kX12_in c1) ⟨rfl, rfl⟩ q_1220 q_1221 (by rw [hR]; exact cw_X12_isDay_X12_in) rfl rfl hl.1 (Nat.le_of_ble_eq_true rfl) dX12_isDay_5 ⟨Nat.zero_le _, Nat.zero_le _⟩ ?_
  obtain ⟨h3, hf⟩ := gd_some hf
  obtain rfl := rt1 hf
  exact x_zret B h3 dX12_isDay_8
def rmX12_isSpan : Room := { frames := 2, cells := 0, slots := 0, locals := 42 }
set_option maxHeartbeats 4000000 in
set_option maxRecDepth 100000 in
theorem cw_X12_isSpan_X12_isDay : cwB rmX12_isSpan rmX12_isDay yX12_isDay cX12_isDay 1 (some .boolean) 1 := ⟨q_1268, q_57, by decide, by decide⟩
def fX12_isSpan (n : Nat) (a1 : Int32) (a2 : Int32)  : Option (Int32) :=
  bn (fX12_isDay n a1) fun r2 =>
  if r2 = 0 then (
  some (nI 0)) else (
  bn (fX12_isDay n a2) fun r5 =>
  if r5 = 0 then (
  some (nI 0)) else (
  if a2 < a1 then (
  some (nI 0)) else (
  some (nI 1))))
set_option maxHeartbeats 4000000 in
set_option maxRecDepth 100000 in
theorem kX12_isSpan {l : Launch} {G : GE} {N : Nat} {f m : Mm} {n : Nat} {a1 : Int32} {a2 : Int32} {r : Int32}  (hf : fX12_isSpan n a1 a2 = some r) : MT l G yX12_isSpan cX12_isSpan 2 (some .boolean) rmX12_isSpan [.int a1, .int a2] N f m (some (.int r)) N f m := by
  unfold fX12_isSpan at hf
  refine MT.of (by decide) (Nat.le_of_ble_eq_true rfl) (fun V ls hV hR B hl => ?_)
  have B : CX V G cX12_isSpan 2 "FluxWatchModel" (some .boolean) := B
  have hl : lv_has ls 2 [(0, .int a1), (1, .int a2)] := hl
  show WX V G N f m 0 0 (QQ V G (some (.int r)) N f m 0 0) 0 ls []
  refine x_iload_n B dX12_isSpan_0 rfl (lv_at hl 0 rfl) ?_
  obtain ⟨r2, c1, hf⟩ := bn_some hf
  refine x_callS0 (rest := []) B (kX12_isDay c1) ⟨rfl, rfl⟩ q_1266 q_1267 (by rw [hR]; exact cw_X12_isSpan_X12_isDay) rfl rfl hl.1 (Nat.le_of_ble_eq_true rfl) dX12_isSpan_1 ⟨Nat.zero_le _, Nat.zero_le _⟩ ?_
  refine x_if_eq (tgt := 23) B dX12_isSpan_4 (by decide) (fun h3 => ?_) (fun h3 => ?_)
  · have hf := ip h3 hf
    refine x_iconst (v := (nI 0)) B dX12_isSpan_23 (by decide) ?_
    obtain rfl := rt1 hf
    exact x_zret B (by decide) dX12_isSpan_24
  · have hf := iq h3 hf
    refine x_iload_n B dX12_isSpan_7 rfl (lv_at hl 1 rfl) ?_
    obtain ⟨r5, c4, hf⟩ := bn_some hf
    refine x_callS0 (rest := []) B (kX12_isDay c4) ⟨rfl, rfl⟩ q_1266 q_1267 (by rw [hR]; exact cw_X12_isSpan_X12_isDay) rfl rfl hl.1 (Nat.le_of_ble_eq_true rfl) dX12_isSpan_8 ⟨Nat.zero_le _, Nat.zero_le _⟩ ?_
    refine x_if_eq (tgt := 23) B dX12_isSpan_11 (by decide) (fun h6 => ?_) (fun h6 => ?_)
    · have hf := ip h6 hf
      refine x_iconst (v := (nI 0)) B dX12_isSpan_23 (by decide) ?_
      obtain rfl := rt1 hf
      exact x_zret B (by decide) dX12_isSpan_24
    · have hf := iq h6 hf
      refine x_iload_n B dX12_isSpan_14 rfl (lv_at hl 1 rfl) ?_
      refine x_iload_n B dX12_isSpan_15 rfl (lv_at hl 0 rfl) ?_
      refine x_icmp_lt (tgt := 23) B dX12_isSpan_16 (by decide) (fun h7 => ?_) (fun h7 => ?_)
      · have hf := ip h7 hf
        refine x_iconst (v := (nI 0)) B dX12_isSpan_23 (by decide) ?_
        obtain rfl := rt1 hf
        exact x_zret B (by decide) dX12_isSpan_24
      · have hf := iq h7 hf
        refine x_iconst (v := (nI 1)) B dX12_isSpan_19 (by decide) ?_
        refine x_goto (tgt := 24) B dX12_isSpan_20 (by decide) ?_
        obtain rfl := rt1 hf
        exact x_zret B (by decide) dX12_isSpan_24
def rmX12_item : Room := { frames := 2, cells := 0, slots := 0, locals := 42 }
set_option maxHeartbeats 4000000 in
set_option maxRecDepth 100000 in
theorem cw_X12_item_X12_in : cwB rmX12_item rmX12_in yX12_in cX12_in 3 (some .boolean) 3 := ⟨q_1222, q_57, by decide, by decide⟩
set_option maxHeartbeats 4000000 in
set_option maxRecDepth 100000 in
theorem cw_X12_item_X12_isSlot : cwB rmX12_item rmX12_isSlot yX12_isSlot cX12_isSlot 1 (some .boolean) 1 := ⟨q_1578, q_57, by decide, by decide⟩
def fX12_item (n : Nat) (a1 : Int32) (a2 : Int32) (m : Mm) : Option (Int32) :=
  bn (fX12_isSlot n a1) fun r2 =>
  if r2 = 0 then (
  some (-1000000001 : Int32)) else (
  gd (ib a1 5) <|
  if (m 124 a1.toNatClampNeg) = 0 then (
  some (-1000000011 : Int32)) else (
  gd (ib a1 5) <|
  if (m 124 a1.toNatClampNeg) = (nI 2) then (
  gd (ib a1 5) <|
  bn (fX12_in n a2 (nI 0) ((m 125 a1.toNatClampNeg) - (nI 1))) fun r10 =>
  if r10 = 0 then (
  some (-1000000013 : Int32)) else (
  gd (ib (((nI 24) * a1) + a2) 120) <|
  lt (m 127 (((nI 24) * a1) + a2).toNatClampNeg) fun v13 =>
  if v13 = (-1000000005 : Int32) then (
  some (-1000000012 : Int32)) else (
  some v13))) else (
  some (-1000000012 : Int32))))
set_option maxHeartbeats 4000000 in
set_option maxRecDepth 100000 in
theorem kX12_item {l : Launch} {G : GE} {N : Nat} {f m : Mm} {n : Nat} {a1 : Int32} {a2 : Int32} {r : Int32}  (hf : fX12_item n a1 a2 m = some r) : MT l G yX12_item cX12_item 4 (some .int) rmX12_item [.ref (gz G + 107), .int a1, .int a2] N f m (some (.int r)) N f m := by
  unfold fX12_item at hf
  refine MT.of (by decide) (Nat.le_of_ble_eq_true rfl) (fun V ls hV hR B hl => ?_)
  have B : CX V G cX12_item 4 "FluxWatchModel" (some .int) := B
  have hl : lv_has ls 4 [(0, .ref (gz G + 107)), (1, .int a1), (2, .int a2)] := hl
  show WX V G N f m 0 0 (QQ V G (some (.int r)) N f m 0 0) 0 ls []
  refine x_iload_n B dX12_item_0 rfl (lv_at hl 1 rfl) ?_
  obtain ⟨r2, c1, hf⟩ := bn_some hf
  refine x_callS0 (rest := []) B (kX12_isSlot c1) ⟨rfl, rfl⟩ q_1576 q_1577 (by rw [hR]; exact cw_X12_item_X12_isSlot) rfl rfl hl.1 (Nat.le_of_ble_eq_true rfl) dX12_item_1 ⟨Nat.zero_le _, Nat.zero_le _⟩ ?_
  refine x_if_ne (tgt := 10) B dX12_item_4 (by decide) (fun h3 => ?_) (fun h3 => ?_)
  · have hf := ip h3 hf
    refine x_ldc (v := (-1000000001 : Int32)) B q_1223 dX12_item_7 ?_
    obtain rfl := rt1 hf
    exact x_iret B dX12_item_9
  · have hf := iq h3 hf
    refine x_aload_n B dX12_item_10 rfl (lv_at hl 0 rfl) ?_
    refine y_getMr (C := RX12) (T := TX12) (NN := 34) (d := 16) (k2 := 124) B aM_107 inX12 rfl (j := 27) (by decide) q_1139 rfl rfl rfl dX12_item_11 ?_
    refine x_iload_n B dX12_item_14 rfl (lv_at hl 1 rfl) ?_
    obtain ⟨h4, hf⟩ := gd_some hf
    refine x_ialdM B aM_124 h4 dX12_item_15 ?_
    refine x_if_ne (tgt := 23) B dX12_item_16 (by decide) (fun h5 => ?_) (fun h5 => ?_)
    · have hf := ip h5 hf
      refine x_ldc_w (v := (-1000000011 : Int32)) B q_1556 dX12_item_19 ?_
      obtain rfl := rt1 hf
      exact x_iret B dX12_item_22
    · have hf := iq h5 hf
      refine x_aload_n B dX12_item_23 rfl (lv_at hl 0 rfl) ?_
      refine y_getMr (C := RX12) (T := TX12) (NN := 34) (d := 16) (k2 := 124) B aM_107 inX12 rfl (j := 27) (by decide) q_1139 rfl rfl rfl dX12_item_24 ?_
      refine x_iload_n B dX12_item_27 rfl (lv_at hl 1 rfl) ?_
      obtain ⟨h6, hf⟩ := gd_some hf
      refine x_ialdM B aM_124 h6 dX12_item_28 ?_
      refine x_iconst (v := (nI 2)) B dX12_item_29 (by decide) ?_
      refine x_icmp_eq (tgt := 36) B dX12_item_30 (by decide) (fun h7 => ?_) (fun h7 => ?_)
      · have hf := ip h7 hf
        refine x_iload_n B dX12_item_36 rfl (lv_at hl 2 rfl) ?_
        refine x_iconst (v := (nI 0)) B dX12_item_37 (by decide) ?_
        refine x_aload_n B dX12_item_38 rfl (lv_at hl 0 rfl) ?_
        refine y_getMr (C := RX12) (T := TX12) (NN := 34) (d := 17) (k2 := 125) B aM_107 inX12 rfl (j := 28) (by decide) q_1140 rfl rfl rfl dX12_item_39 ?_
        refine x_iload_n B dX12_item_42 rfl (lv_at hl 1 rfl) ?_
        obtain ⟨h8, hf⟩ := gd_some hf
        refine x_ialdM B aM_125 h8 dX12_item_43 ?_
        refine x_iconst (v := (nI 1)) B dX12_item_44 (by decide) ?_
        refine x_isub B dX12_item_45 ?_
        obtain ⟨r10, c9, hf⟩ := bn_some hf
        refine x_callS0 (rest := []) B (kX12_in c9) ⟨rfl, rfl⟩ q_1220 q_1221 (by rw [hR]; exact cw_X12_item_X12_in) rfl rfl hl.1 (Nat.le_of_ble_eq_true rfl) dX12_item_46 ⟨Nat.zero_le _, Nat.zero_le _⟩ ?_
        refine x_if_ne (tgt := 56) B dX12_item_49 (by decide) (fun h11 => ?_) (fun h11 => ?_)
        · have hf := ip h11 hf
          refine x_ldc_w (v := (-1000000013 : Int32)) B q_1557 dX12_item_52 ?_
          obtain rfl := rt1 hf
          exact x_iret B dX12_item_55
        · have hf := iq h11 hf
          refine x_aload_n B dX12_item_56 rfl (lv_at hl 0 rfl) ?_
          refine y_getMr (C := RX12) (T := TX12) (NN := 34) (d := 19) (k2 := 127) B aM_107 inX12 rfl (j := 30) (by decide) q_1142 rfl rfl rfl dX12_item_57 ?_
          refine x_bipush (v := (nI 24)) B dX12_item_60 (by decide) ?_
          refine x_iload_n B dX12_item_62 rfl (lv_at hl 1 rfl) ?_
          refine x_imul B dX12_item_63 ?_
          refine x_iload_n B dX12_item_64 rfl (lv_at hl 2 rfl) ?_
          refine x_iadd B dX12_item_65 ?_
          obtain ⟨h12, hf⟩ := gd_some hf
          refine x_ialdM B aM_127 h12 dX12_item_66 ?_
          refine x_nm (fun v13 e14 => ?_)
          have hf := lt_some hf e14
          refine x_istore_n (lv' := [(3, .int v13), (0, .ref (gz G + 107)), (1, .int a1), (2, .int a2)]) B dX12_item_67 rfl hl (by decide) rfl (fun ls hl => ?_)
          refine x_iload_n B dX12_item_68 rfl (lv_at hl 0 rfl) ?_
          refine x_ldc (v := (-1000000005 : Int32)) B q_1237 dX12_item_69 ?_
          refine x_icmp_ne (tgt := 79) B dX12_item_71 (by decide) (fun h15 => ?_) (fun h15 => ?_)
          · have hf := ip h15 hf
            refine x_ldc (v := (-1000000012 : Int32)) B q_1327 dX12_item_74 ?_
            refine x_goto (tgt := 80) B dX12_item_76 (by decide) ?_
            obtain rfl := rt1 hf
            exact x_iret B dX12_item_80
          · have hf := iq h15 hf
            refine x_iload_n B dX12_item_79 rfl (lv_at hl 0 rfl) ?_
            obtain rfl := rt1 hf
            exact x_iret B dX12_item_80
      · have hf := iq h7 hf
        refine x_ldc (v := (-1000000012 : Int32)) B q_1327 dX12_item_33 ?_
        obtain rfl := rt1 hf
        exact x_iret B dX12_item_35
def rmX12_keysOn : Room := { frames := 1, cells := 0, slots := 0, locals := 22 }
set_option maxHeartbeats 4000000 in
set_option maxRecDepth 100000 in
theorem cw_X12_keysOn_X12_in : cwB rmX12_keysOn rmX12_in yX12_in cX12_in 3 (some .boolean) 3 := ⟨q_1222, q_57, by decide, by decide⟩
def fX12_keysOn_54 (n : Nat)  (k4 : Int32 → Int32 → Int32 → Mm → Option (Int32)) (x1 : Int32) (x3 : Int32) (s0 : Int32) (s1 : Int32) (m : Mm) : Option (Int32) :=
  k4 x1 (s1 + s0) (x3 + (nI 1)) m
set_option maxHeartbeats 4000000 in
set_option maxRecDepth 100000 in
theorem fX12_keysOn_54_ok {V : VE} {G : GE} {N : Nat} {f m : Mm} {n : Nat} {ls : Array Slot} {r : Int32} (B : CX V G cX12_keysOn 4 "FluxWatchModel" (some .int)) (hR : V.2.2.2.1 = rmX12_keysOn)  {k4 : Int32 → Int32 → Int32 → Mm → Option (Int32)} (hk4 : ∀ (x1 : Int32) (x2 : Int32) (x3 : Int32) (mm : Mm) (ls : Array Slot),  lv_has ls 4 [(0, .ref (gz G + 107)), (1, .int x1), (2, .int x2), (3, .int x3)] → k4 x1 x2 x3 mm = some r → WX V G N f mm 0 0 (QQ V G (some (.int r)) N f mm 0 0) 4 ls []) {x1 : Int32} {x3 : Int32} {s0 : Int32} {s1 : Int32}  (hl : lv_has ls 4 [(0, .ref (gz G + 107)), (1, .int x1), (3, .int x3)]) (hf : fX12_keysOn_54 n  k4 x1 x3 s0 s1 m = some r) : WX V G N f m 0 0 (QQ V G (some (.int r)) N f m 0 0) 54 ls [.int s0, .int s1] := by
  unfold fX12_keysOn_54 at hf
  refine x_iadd B dX12_keysOn_54 ?_
  refine x_istore_n (lv' := [(2, .int (s1 + s0)), (0, .ref (gz G + 107)), (1, .int x1), (3, .int x3)]) B dX12_keysOn_55 rfl hl (by decide) rfl (fun ls hl => ?_)
  refine x_iinc (k := 3) (v := (nI 1)) (lv' := [(3, .int (x3 + (nI 1))), (2, .int (s1 + s0)), (0, .ref (gz G + 107)), (1, .int x1)]) B dX12_keysOn_56 hl rfl (by decide) (by decide) rfl (fun ls hl => ?_)
  refine x_goto (tgt := 4) B dX12_keysOn_59 (by decide) ?_
  exact hk4 _ _ _ _ _ (lv_sub hl [2, 3, 1, 0] rfl) hf
def fX12_keysOn_4 (n : Nat)   (k4 : Int32 → Int32 → Int32 → Mm → Option (Int32)) (x1 : Int32) (x2 : Int32) (x3 : Int32) (m : Mm) : Option (Int32) :=
  if (m 108 (nI 11).toNatClampNeg) ≤ x3 then (
  some x2) else (
  gd (ib ((nI 311) + ((nI 2) * x3)) 1719) <|
  gd (ib (((nI 311) + ((nI 2) * x3)) + (nI 1)) 1719) <|
  bn (fX12_in n x1 (m 108 ((nI 311) + ((nI 2) * x3)).toNatClampNeg) (m 108 (((nI 311) + ((nI 2) * x3)) + (nI 1)).toNatClampNeg)) fun r5 =>
  if r5 = 0 then (
  fX12_keysOn_54 n k4 x1 x3 (nI 0) x2 m) else (
  fX12_keysOn_54 n k4 x1 x3 (nI 1) x2 m))
def fX12_keysOn_4L (n : Nat)   : Nat → Int32 → Int32 → Int32 → Mm → Option (Int32)
  | 0 => fun _ _ _ _ => none
  | q + 1 => fX12_keysOn_4 n   (fX12_keysOn_4L n   q)
set_option maxHeartbeats 4000000 in
set_option maxRecDepth 100000 in
theorem fX12_keysOn_4_ok {V : VE} {G : GE} {N : Nat} {f m : Mm} {n : Nat} {ls : Array Slot} {r : Int32} (B : CX V G cX12_keysOn 4 "FluxWatchModel" (some .int)) (hR : V.2.2.2.1 = rmX12_keysOn)   {k4 : Int32 → Int32 → Int32 → Mm → Option (Int32)} (hk4 : ∀ (x1 : Int32) (x2 : Int32) (x3 : Int32) (mm : Mm) (ls : Array Slot),  lv_has ls 4 [(0, .ref (gz G + 107)), (1, .int x1), (2, .int x2), (3, .int x3)] → k4 x1 x2 x3 mm = some r → WX V G N f mm 0 0 (QQ V G (some (.int r)) N f mm 0 0) 4 ls []) {x1 : Int32} {x2 : Int32} {x3 : Int32}  (hl : lv_has ls 4 [(0, .ref (gz G + 107)), (1, .int x1), (2, .int x2), (3, .int x3)]) (hf : fX12_keysOn_4 n  k4 x1 x2 x3 m = some r) : WX V G N f m 0 0 (QQ V G (some (.int r)) N f m 0 0) 4 ls [] := by
  unfold fX12_keysOn_4 at hf
  refine x_iload_n B dX12_keysOn_4 rfl (lv_at hl 3 rfl) ?_
  refine x_aload_n B dX12_keysOn_5 rfl (lv_at hl 0 rfl) ?_
  refine y_getMr (C := RX12) (T := TX12) (NN := 34) (d := 0) (k2 := 108) B aM_107 inX12 rfl (j := 0) (by decide) q_1112 rfl rfl rfl dX12_keysOn_6 ?_
  refine x_bipush (v := (nI 11)) B dX12_keysOn_9 (by decide) ?_
  refine x_ialdM B aM_108 (by decide) dX12_keysOn_11 ?_
  refine x_icmp_ge (tgt := 62) B dX12_keysOn_12 (by decide) (fun h1 => ?_) (fun h1 => ?_)
  · have hf := ip h1 hf
    refine x_iload_n B dX12_keysOn_62 rfl (lv_at hl 2 rfl) ?_
    obtain rfl := rt1 hf
    exact x_iret B dX12_keysOn_63
  · have hf := iq h1 hf
    refine x_iload_n B dX12_keysOn_15 rfl (lv_at hl 2 rfl) ?_
    refine x_iload_n B dX12_keysOn_16 rfl (lv_at hl 1 rfl) ?_
    refine x_aload_n B dX12_keysOn_17 rfl (lv_at hl 0 rfl) ?_
    refine y_getMr (C := RX12) (T := TX12) (NN := 34) (d := 0) (k2 := 108) B aM_107 inX12 rfl (j := 0) (by decide) q_1112 rfl rfl rfl dX12_keysOn_18 ?_
    refine x_sipush (v := (nI 311)) B dX12_keysOn_21 (by decide) ?_
    refine x_iconst (v := (nI 2)) B dX12_keysOn_24 (by decide) ?_
    refine x_iload_n B dX12_keysOn_25 rfl (lv_at hl 3 rfl) ?_
    refine x_imul B dX12_keysOn_26 ?_
    refine x_iadd B dX12_keysOn_27 ?_
    obtain ⟨h2, hf⟩ := gd_some hf
    refine x_ialdM B aM_108 h2 dX12_keysOn_28 ?_
    refine x_aload_n B dX12_keysOn_29 rfl (lv_at hl 0 rfl) ?_
    refine y_getMr (C := RX12) (T := TX12) (NN := 34) (d := 0) (k2 := 108) B aM_107 inX12 rfl (j := 0) (by decide) q_1112 rfl rfl rfl dX12_keysOn_30 ?_
    refine x_sipush (v := (nI 311)) B dX12_keysOn_33 (by decide) ?_
    refine x_iconst (v := (nI 2)) B dX12_keysOn_36 (by decide) ?_
    refine x_iload_n B dX12_keysOn_37 rfl (lv_at hl 3 rfl) ?_
    refine x_imul B dX12_keysOn_38 ?_
    refine x_iadd B dX12_keysOn_39 ?_
    refine x_iconst (v := (nI 1)) B dX12_keysOn_40 (by decide) ?_
    refine x_iadd B dX12_keysOn_41 ?_
    obtain ⟨h3, hf⟩ := gd_some hf
    refine x_ialdM B aM_108 h3 dX12_keysOn_42 ?_
    obtain ⟨r5, c4, hf⟩ := bn_some hf
    refine x_callS0 (rest := [.int x2]) B (kX12_in c4) ⟨rfl, rfl⟩ q_1220 q_1221 (by rw [hR]; exact cw_X12_keysOn_X12_in) rfl rfl hl.1 (Nat.le_of_ble_eq_true rfl) dX12_keysOn_43 ⟨Nat.zero_le _, Nat.zero_le _⟩ ?_
    refine x_if_eq (tgt := 53) B dX12_keysOn_46 (by decide) (fun h6 => ?_) (fun h6 => ?_)
    · have hf := ip h6 hf
      refine x_iconst (v := (nI 0)) B dX12_keysOn_53 (by decide) ?_
      exact fX12_keysOn_54_ok B hR hk4 (lv_sub hl [0, 1, 3] rfl) hf
    · have hf := iq h6 hf
      refine x_iconst (v := (nI 1)) B dX12_keysOn_49 (by decide) ?_
      refine x_goto (tgt := 54) B dX12_keysOn_50 (by decide) ?_
      exact fX12_keysOn_54_ok B hR hk4 (lv_sub hl [0, 1, 3] rfl) hf
set_option maxHeartbeats 4000000 in
set_option maxRecDepth 100000 in
theorem fX12_keysOn_4L_ok {V : VE} {G : GE} {N : Nat} {f : Mm} {n : Nat}  {r : Int32} (B : CX V G cX12_keysOn 4 "FluxWatchModel" (some .int)) (hR : V.2.2.2.1 = rmX12_keysOn)   : ∀ (q : Nat) (x1 : Int32) (x2 : Int32) (x3 : Int32) (mm : Mm) (ls : Array Slot),  lv_has ls 4 [(0, .ref (gz G + 107)), (1, .int x1), (2, .int x2), (3, .int x3)] → fX12_keysOn_4L n  q x1 x2 x3 mm = some r → WX V G N f mm 0 0 (QQ V G (some (.int r)) N f mm 0 0) 4 ls [] := by
  intro q
  induction q with
  | zero =>
    intro x1 x2 x3 mm ls hl hf
    cases hf
  | succ q ih =>
    intro x1 x2 x3 mm ls hl hf
    exact fX12_keysOn_4_ok B hR   ih  hl hf
def fX12_keysOn (n : Nat) (a1 : Int32) (m : Mm) : Option (Int32) :=
  fX12_keysOn_4L n n a1 (nI 0) (nI 0) m
set_option maxHeartbeats 4000000 in
set_option maxRecDepth 100000 in
theorem kX12_keysOn {l : Launch} {G : GE} {N : Nat} {f m : Mm} {n : Nat} {a1 : Int32} {r : Int32}  (hf : fX12_keysOn n a1 m = some r) : MT l G yX12_keysOn cX12_keysOn 4 (some .int) rmX12_keysOn [.ref (gz G + 107), .int a1] N f m (some (.int r)) N f m := by
  unfold fX12_keysOn at hf
  refine MT.of (by decide) (Nat.le_of_ble_eq_true rfl) (fun V ls hV hR B hl => ?_)
  have B : CX V G cX12_keysOn 4 "FluxWatchModel" (some .int) := B
  have hl : lv_has ls 4 [(0, .ref (gz G + 107)), (1, .int a1)] := hl
  show WX V G N f m 0 0 (QQ V G (some (.int r)) N f m 0 0) 0 ls []
  refine x_iconst (v := (nI 0)) B dX12_keysOn_0 (by decide) ?_
  refine x_istore_n (lv' := [(2, .int (nI 0)), (0, .ref (gz G + 107)), (1, .int a1)]) B dX12_keysOn_1 rfl hl (by decide) rfl (fun ls hl => ?_)
  refine x_iconst (v := (nI 0)) B dX12_keysOn_2 (by decide) ?_
  refine x_istore_n (lv' := [(3, .int (nI 0)), (2, .int (nI 0)), (0, .ref (gz G + 107)), (1, .int a1)]) B dX12_keysOn_3 rfl hl (by decide) rfl (fun ls hl => ?_)
  exact fX12_keysOn_4L_ok B hR  n _ _ _ _ _ (lv_sub hl [2, 3, 1, 0] rfl) hf
def rmX12_jokes : Room := { frames := 3, cells := 0, slots := 0, locals := 70 }
set_option maxHeartbeats 4000000 in
set_option maxRecDepth 100000 in
theorem cw_X12_jokes_X12_fits : cwB rmX12_jokes rmX12_fits yX12_fits cX12_fits 5 (some .boolean) 1 := ⟨q_1304, q_57, by decide, by decide⟩
set_option maxHeartbeats 4000000 in
set_option maxRecDepth 100000 in
theorem cw_X12_jokes_X12_keysOn : cwB rmX12_jokes rmX12_keysOn yX12_keysOn cX12_keysOn 4 (some .int) 1 := ⟨q_1515, q_57, by decide, by decide⟩
set_option maxHeartbeats 4000000 in
set_option maxRecDepth 100000 in
theorem cw_X12_jokes_X12_step4 : cwB rmX12_jokes rmX12_step4 yX12_step4 cX12_step4 3 (some .int) 2 := ⟨q_1245, q_57, by decide, by decide⟩
def fX12_jokes_42 (n : Nat)  (k4 : Int32 → Int32 → Mm → Option (Int32)) (x2 : Int32) (s0 : Int32) (s1 : Int32) (m : Mm) : Option (Int32) :=
  k4 (s1 + s0) (x2 + (nI 1)) m
set_option maxHeartbeats 4000000 in
set_option maxRecDepth 100000 in
theorem fX12_jokes_42_ok {V : VE} {G : GE} {N : Nat} {f m : Mm} {n : Nat} {ls : Array Slot} {r : Int32} (B : CX V G cX12_jokes 3 "FluxWatchModel" (some .int)) (hR : V.2.2.2.1 = rmX12_jokes)  {k4 : Int32 → Int32 → Mm → Option (Int32)} (hk4 : ∀ (x1 : Int32) (x2 : Int32) (mm : Mm) (ls : Array Slot),  lv_has ls 3 [(0, .ref (gz G + 107)), (1, .int x1), (2, .int x2)] → k4 x1 x2 mm = some r → WX V G N f mm 0 0 (QQ V G (some (.int r)) N f mm 0 0) 4 ls []) {x2 : Int32} {s0 : Int32} {s1 : Int32}  (hl : lv_has ls 3 [(0, .ref (gz G + 107)), (2, .int x2)]) (hf : fX12_jokes_42 n  k4 x2 s0 s1 m = some r) : WX V G N f m 0 0 (QQ V G (some (.int r)) N f m 0 0) 42 ls [.int s0, .int s1] := by
  unfold fX12_jokes_42 at hf
  refine x_iadd B dX12_jokes_42 ?_
  refine x_istore_n (lv' := [(1, .int (s1 + s0)), (0, .ref (gz G + 107)), (2, .int x2)]) B dX12_jokes_43 rfl hl (by decide) rfl (fun ls hl => ?_)
  refine x_iinc (k := 2) (v := (nI 1)) (lv' := [(2, .int (x2 + (nI 1))), (1, .int (s1 + s0)), (0, .ref (gz G + 107))]) B dX12_jokes_44 hl rfl (by decide) (by decide) rfl (fun ls hl => ?_)
  refine x_goto (tgt := 4) B dX12_jokes_47 (by decide) ?_
  exact hk4 _ _ _ _ (lv_sub hl [2, 1, 0] rfl) hf
def fX12_jokes_41 (n : Nat)  (k4 : Int32 → Int32 → Mm → Option (Int32)) (x2 : Int32) (s0 : Int32) (m : Mm) : Option (Int32) :=
  fX12_jokes_42 n k4 x2 (nI 0) s0 m
set_option maxHeartbeats 4000000 in
set_option maxRecDepth 100000 in
theorem fX12_jokes_41_ok {V : VE} {G : GE} {N : Nat} {f m : Mm} {n : Nat} {ls : Array Slot} {r : Int32} (B : CX V G cX12_jokes 3 "FluxWatchModel" (some .int)) (hR : V.2.2.2.1 = rmX12_jokes)  {k4 : Int32 → Int32 → Mm → Option (Int32)} (hk4 : ∀ (x1 : Int32) (x2 : Int32) (mm : Mm) (ls : Array Slot),  lv_has ls 3 [(0, .ref (gz G + 107)), (1, .int x1), (2, .int x2)] → k4 x1 x2 mm = some r → WX V G N f mm 0 0 (QQ V G (some (.int r)) N f mm 0 0) 4 ls []) {x2 : Int32} {s0 : Int32}  (hl : lv_has ls 3 [(0, .ref (gz G + 107)), (2, .int x2)]) (hf : fX12_jokes_41 n  k4 x2 s0 m = some r) : WX V G N f m 0 0 (QQ V G (some (.int r)) N f m 0 0) 41 ls [.int s0] := by
  unfold fX12_jokes_41 at hf
  refine x_iconst (v := (nI 0)) B dX12_jokes_41 (by decide) ?_
  exact fX12_jokes_42_ok B hR hk4 hl hf
def fX12_jokes_4 (n : Nat)   (k4 : Int32 → Int32 → Mm → Option (Int32)) (x1 : Int32) (x2 : Int32) (m : Mm) : Option (Int32) :=
  if (m 108 (nI 8).toNatClampNeg) ≤ x2 then (
  some x1) else (
  bn (fX12_step4 n x2 (nI 2) m) fun r3 =>
  bn (fX12_keysOn n r3 m) fun r5 =>
  if r5 ≤ 0 then (
  fX12_jokes_41 n k4 x2 x1 m) else (
  bn (fX12_fits n x2 m) fun r8 =>
  if r8 = 0 then (
  fX12_jokes_41 n k4 x2 x1 m) else (
  fX12_jokes_42 n k4 x2 (nI 1) x1 m)))
def fX12_jokes_4L (n : Nat)   : Nat → Int32 → Int32 → Mm → Option (Int32)
  | 0 => fun _ _ _ => none
  | q + 1 => fX12_jokes_4 n   (fX12_jokes_4L n   q)
set_option maxHeartbeats 4000000 in
set_option maxRecDepth 100000 in
theorem fX12_jokes_4_ok {V : VE} {G : GE} {N : Nat} {f m : Mm} {n : Nat} {ls : Array Slot} {r : Int32} (B : CX V G cX12_jokes 3 "FluxWatchModel" (some .int)) (hR : V.2.2.2.1 = rmX12_jokes)   {k4 : Int32 → Int32 → Mm → Option (Int32)} (hk4 : ∀ (x1 : Int32) (x2 : Int32) (mm : Mm) (ls : Array Slot),  lv_has ls 3 [(0, .ref (gz G + 107)), (1, .int x1), (2, .int x2)] → k4 x1 x2 mm = some r → WX V G N f mm 0 0 (QQ V G (some (.int r)) N f mm 0 0) 4 ls []) {x1 : Int32} {x2 : Int32}  (hl : lv_has ls 3 [(0, .ref (gz G + 107)), (1, .int x1), (2, .int x2)]) (hf : fX12_jokes_4 n  k4 x1 x2 m = some r) : WX V G N f m 0 0 (QQ V G (some (.int r)) N f m 0 0) 4 ls [] := by
  unfold fX12_jokes_4 at hf
  refine x_iload_n B dX12_jokes_4 rfl (lv_at hl 2 rfl) ?_
  refine x_aload_n B dX12_jokes_5 rfl (lv_at hl 0 rfl) ?_
  refine y_getMr (C := RX12) (T := TX12) (NN := 34) (d := 0) (k2 := 108) B aM_107 inX12 rfl (j := 0) (by decide) q_1112 rfl rfl rfl dX12_jokes_6 ?_
  refine x_bipush (v := (nI 8)) B dX12_jokes_9 (by decide) ?_
  refine x_ialdM B aM_108 (by decide) dX12_jokes_11 ?_
  refine x_icmp_ge (tgt := 50) B dX12_jokes_12 (by decide) (fun h1 => ?_) (fun h1 => ?_)
  · have hf := ip h1 hf
    refine x_iload_n B dX12_jokes_50 rfl (lv_at hl 1 rfl) ?_
    obtain rfl := rt1 hf
    exact x_iret B dX12_jokes_51
  · have hf := iq h1 hf
    refine x_iload_n B dX12_jokes_15 rfl (lv_at hl 1 rfl) ?_
    refine x_aload_n B dX12_jokes_16 rfl (lv_at hl 0 rfl) ?_
    refine x_aload_n B dX12_jokes_17 rfl (lv_at hl 0 rfl) ?_
    refine x_iload_n B dX12_jokes_18 rfl (lv_at hl 2 rfl) ?_
    refine x_iconst (v := (nI 2)) B dX12_jokes_19 (by decide) ?_
    obtain ⟨r3, c2, hf⟩ := bn_some hf
    refine x_callV0 (rest := [.ref (gz G + 107), .int x1]) B (kX12_step4 c2) ⟨rfl, rfl⟩ aM_107.lt aM_107.2 rfl (by decide) q_1242 q_1244 q_10 (by rw [hR]; exact cw_X12_jokes_X12_step4) rfl rfl hl.1 (Nat.le_of_ble_eq_true rfl) dX12_jokes_20 ⟨Nat.zero_le _, Nat.zero_le _⟩ ?_
    obtain ⟨r5, c4, hf⟩ := bn_some hf
    refine x_callV0 (rest := [.int x1]) B (kX12_keysOn c4) ⟨rfl, rfl⟩ aM_107.lt aM_107.2 rfl (by decide) q_1512 q_1514 q_40 (by rw [hR]; exact cw_X12_jokes_X12_keysOn) rfl rfl hl.1 (Nat.le_of_ble_eq_true rfl) dX12_jokes_23 ⟨Nat.zero_le _, Nat.zero_le _⟩ ?_
    refine x_if_le (tgt := 41) B dX12_jokes_26 (by decide) (fun h6 => ?_) (fun h6 => ?_)
    · have hf := ip h6 hf
      exact fX12_jokes_41_ok B hR hk4 (lv_sub hl [0, 2] rfl) hf
    · have hf := iq h6 hf
      refine x_aload_n B dX12_jokes_29 rfl (lv_at hl 0 rfl) ?_
      refine x_iload_n B dX12_jokes_30 rfl (lv_at hl 2 rfl) ?_
      obtain ⟨r8, c7, hf⟩ := bn_some hf
      refine x_callV0 (rest := [.int x1]) B (kX12_fits c7) ⟨rfl, rfl⟩ aM_107.lt aM_107.2 rfl (by decide) q_1301 q_1303 q_15 (by rw [hR]; exact cw_X12_jokes_X12_fits) rfl rfl hl.1 (Nat.le_of_ble_eq_true rfl) dX12_jokes_31 ⟨Nat.zero_le _, Nat.zero_le _⟩ ?_
      refine x_if_eq (tgt := 41) B dX12_jokes_34 (by decide) (fun h9 => ?_) (fun h9 => ?_)
      · have hf := ip h9 hf
        exact fX12_jokes_41_ok B hR hk4 (lv_sub hl [0, 2] rfl) hf
      · have hf := iq h9 hf
        refine x_iconst (v := (nI 1)) B dX12_jokes_37 (by decide) ?_
        refine x_goto (tgt := 42) B dX12_jokes_38 (by decide) ?_
        exact fX12_jokes_42_ok B hR hk4 (lv_sub hl [0, 2] rfl) hf
set_option maxHeartbeats 4000000 in
set_option maxRecDepth 100000 in
theorem fX12_jokes_4L_ok {V : VE} {G : GE} {N : Nat} {f : Mm} {n : Nat}  {r : Int32} (B : CX V G cX12_jokes 3 "FluxWatchModel" (some .int)) (hR : V.2.2.2.1 = rmX12_jokes)   : ∀ (q : Nat) (x1 : Int32) (x2 : Int32) (mm : Mm) (ls : Array Slot),  lv_has ls 3 [(0, .ref (gz G + 107)), (1, .int x1), (2, .int x2)] → fX12_jokes_4L n  q x1 x2 mm = some r → WX V G N f mm 0 0 (QQ V G (some (.int r)) N f mm 0 0) 4 ls [] := by
  intro q
  induction q with
  | zero =>
    intro x1 x2 mm ls hl hf
    cases hf
  | succ q ih =>
    intro x1 x2 mm ls hl hf
    exact fX12_jokes_4_ok B hR   ih  hl hf
def fX12_jokes (n : Nat)  (m : Mm) : Option (Int32) :=
  fX12_jokes_4L n n (nI 0) (nI 0) m
set_option maxHeartbeats 4000000 in
set_option maxRecDepth 100000 in
theorem kX12_jokes {l : Launch} {G : GE} {N : Nat} {f m : Mm} {n : Nat}  {r : Int32}  (hf : fX12_jokes n m = some r) : MT l G yX12_jokes cX12_jokes 3 (some .int) rmX12_jokes [.ref (gz G + 107)] N f m (some (.int r)) N f m := by
  unfold fX12_jokes at hf
  refine MT.of (by decide) (Nat.le_of_ble_eq_true rfl) (fun V ls hV hR B hl => ?_)
  have B : CX V G cX12_jokes 3 "FluxWatchModel" (some .int) := B
  have hl : lv_has ls 3 [(0, .ref (gz G + 107))] := hl
  show WX V G N f m 0 0 (QQ V G (some (.int r)) N f m 0 0) 0 ls []
  refine x_iconst (v := (nI 0)) B dX12_jokes_0 (by decide) ?_
  refine x_istore_n (lv' := [(1, .int (nI 0)), (0, .ref (gz G + 107))]) B dX12_jokes_1 rfl hl (by decide) rfl (fun ls hl => ?_)
  refine x_iconst (v := (nI 0)) B dX12_jokes_2 (by decide) ?_
  refine x_istore_n (lv' := [(2, .int (nI 0)), (1, .int (nI 0)), (0, .ref (gz G + 107))]) B dX12_jokes_3 rfl hl (by decide) rfl (fun ls hl => ?_)
  exact fX12_jokes_4L_ok B hR  n _ _ _ _ (lv_sub hl [2, 1, 0] rfl) hf
def rmX12_keep : Room := { frames := 1, cells := 0, slots := 0, locals := 22 }
set_option maxHeartbeats 4000000 in
set_option maxRecDepth 100000 in
theorem cw_X12_keep_X12_copyAll : cwB rmX12_keep rmX12_copyAll yX12_copyAll cX12_copyAll 3 none 2 := ⟨q_1601, q_57, by decide, by decide⟩
def fX12_keep (n : Nat)  (m : Mm) : Option (Int32 × Mm) :=
  bn (fX12_copyAll n 108 109 m) fun f2 =>
  lt (up f2 107 3 (nI 1)) fun f3 =>
  some (f3 108 (nI 1).toNatClampNeg, f3)
set_option maxHeartbeats 4000000 in
set_option maxRecDepth 100000 in
theorem kX12_keep {l : Launch} {G : GE} {N : Nat} {f m : Mm} {n : Nat}  {r : Int32} {g : Mm}  (hf : fX12_keep n m = some (r, g)) : MT l G yX12_keep cX12_keep 1 (some .int) rmX12_keep [.ref (gz G + 107)] N f m (some (.int r)) N f g := by
  unfold fX12_keep at hf
  refine MT.of (by decide) (Nat.le_of_ble_eq_true rfl) (fun V ls hV hR B hl => ?_)
  have B : CX V G cX12_keep 1 "FluxWatchModel" (some .int) := B
  have hl : lv_has ls 1 [(0, .ref (gz G + 107))] := hl
  show WX V G N f m 0 0 (QQ V G (some (.int r)) N f g 0 0) 0 ls []
  refine x_aload_n B dX12_keep_0 rfl (lv_at hl 0 rfl) ?_
  refine y_getMr (C := RX12) (T := TX12) (NN := 34) (d := 0) (k2 := 108) B aM_107 inX12 rfl (j := 0) (by decide) q_1112 rfl rfl rfl dX12_keep_1 ?_
  refine x_aload_n B dX12_keep_4 rfl (lv_at hl 0 rfl) ?_
  refine y_getMr (C := RX12) (T := TX12) (NN := 34) (d := 1) (k2 := 109) B aM_107 inX12 rfl (j := 1) (by decide) q_1113 rfl rfl rfl dX12_keep_5 ?_
  obtain ⟨f2, c1, hf⟩ := bn_some hf
  refine x_callS0 (rest := []) B (kX12_copyAll aM_108 aM_109 c1) ⟨rfl, rfl⟩ q_1599 q_1600 (by rw [hR]; exact cw_X12_keep_X12_copyAll) rfl rfl hl.1 (Nat.le_of_ble_eq_true rfl) dX12_keep_8 ⟨Nat.zero_le _, Nat.zero_le _⟩ ?_
  refine x_aload_n B dX12_keep_11 rfl (lv_at hl 0 rfl) ?_
  refine x_iconst (v := (nI 1)) B dX12_keep_12 (by decide) ?_
  refine x_putM (C := RX12) (T := TX12) (NN := 34) (ty0 := tyX12) (ty := .boolean) B aM_107 inX12 tyX12_ok nmX12 rfl (j := 3) (by decide) q_1115 rfl rfl rfl rfl rfl rfl dX12_keep_13 (fun f3 e4 => ?_)
  have hf := lt_some hf e4
  refine x_aload_n B dX12_keep_16 rfl (lv_at hl 0 rfl) ?_
  refine y_getMr (C := RX12) (T := TX12) (NN := 34) (d := 0) (k2 := 108) B aM_107 inX12 rfl (j := 0) (by decide) q_1112 rfl rfl rfl dX12_keep_17 ?_
  refine x_iconst (v := (nI 1)) B dX12_keep_20 (by decide) ?_
  refine x_ialdM B aM_108 (by decide) dX12_keep_21 ?_
  obtain ⟨rfl, rfl⟩ := rt2 hf
  exact x_iret B dX12_keep_22
def rmX12_key : Room := { frames := 3, cells := 0, slots := 0, locals := 63 }
set_option maxHeartbeats 4000000 in
set_option maxRecDepth 100000 in
theorem cw_X12_key_X12_isSpan : cwB rmX12_key rmX12_isSpan yX12_isSpan cX12_isSpan 2 (some .boolean) 2 := ⟨q_1265, q_57, by decide, by decide⟩
def fX12_key (n : Nat) (a1 : Int32) (a2 : Int32) (m : Mm) : Option (Int32 × Mm) :=
  bn (fX12_isSpan n a1 a2) fun r2 =>
  if r2 = 0 then (
  some ((-1000000001 : Int32), m)) else (
  if (m 108 (nI 11).toNatClampNeg) = (nI 10) then (
  some ((-1000000003 : Int32), m)) else (
  gd (ib ((nI 311) + ((nI 2) * (m 108 (nI 11).toNatClampNeg))) 1719) <|
  lt (up m 108 ((nI 311) + ((nI 2) * (m 108 (nI 11).toNatClampNeg))).toNatClampNeg a1) fun f6 =>
  gd (ib (((nI 311) + ((nI 2) * (f6 108 (nI 11).toNatClampNeg))) + (nI 1)) 1719) <|
  lt (up f6 108 (((nI 311) + ((nI 2) * (f6 108 (nI 11).toNatClampNeg))) + (nI 1)).toNatClampNeg a2) fun f9 =>
  lt (up f9 108 (nI 11).toNatClampNeg ((f9 108 (nI 11).toNatClampNeg) + (nI 1))) fun f11 =>
  some ((f11 108 (nI 11).toNatClampNeg) - (nI 1), f11)))
set_option maxHeartbeats 4000000 in
set_option maxRecDepth 100000 in
theorem kX12_key {l : Launch} {G : GE} {N : Nat} {f m : Mm} {n : Nat} {a1 : Int32} {a2 : Int32} {r : Int32} {g : Mm}  (hf : fX12_key n a1 a2 m = some (r, g)) : MT l G yX12_key cX12_key 3 (some .int) rmX12_key [.ref (gz G + 107), .int a1, .int a2] N f m (some (.int r)) N f g := by
  unfold fX12_key at hf
  refine MT.of (by decide) (Nat.le_of_ble_eq_true rfl) (fun V ls hV hR B hl => ?_)
  have B : CX V G cX12_key 3 "FluxWatchModel" (some .int) := B
  have hl : lv_has ls 3 [(0, .ref (gz G + 107)), (1, .int a1), (2, .int a2)] := hl
  show WX V G N f m 0 0 (QQ V G (some (.int r)) N f g 0 0) 0 ls []
  refine x_iload_n B dX12_key_0 rfl (lv_at hl 1 rfl) ?_
  refine x_iload_n B dX12_key_1 rfl (lv_at hl 2 rfl) ?_
  obtain ⟨r2, c1, hf⟩ := bn_some hf
  refine x_callS0 (rest := []) B (kX12_isSpan c1) ⟨rfl, rfl⟩ q_1263 q_1264 (by rw [hR]; exact cw_X12_key_X12_isSpan) rfl rfl hl.1 (Nat.le_of_ble_eq_true rfl) dX12_key_2 ⟨Nat.zero_le _, Nat.zero_le _⟩ ?_
  refine x_if_ne (tgt := 11) B dX12_key_5 (by decide) (fun h3 => ?_) (fun h3 => ?_)
  · have hf := ip h3 hf
    refine x_ldc (v := (-1000000001 : Int32)) B q_1223 dX12_key_8 ?_
    obtain ⟨rfl, rfl⟩ := rt2 hf
    exact x_iret B dX12_key_10
  · have hf := iq h3 hf
    refine x_aload_n B dX12_key_11 rfl (lv_at hl 0 rfl) ?_
    refine y_getMr (C := RX12) (T := TX12) (NN := 34) (d := 0) (k2 := 108) B aM_107 inX12 rfl (j := 0) (by decide) q_1112 rfl rfl rfl dX12_key_12 ?_
    refine x_bipush (v := (nI 11)) B dX12_key_15 (by decide) ?_
    refine x_ialdM B aM_108 (by decide) dX12_key_17 ?_
    refine x_bipush (v := (nI 10)) B dX12_key_18 (by decide) ?_
    refine x_icmp_ne (tgt := 26) B dX12_key_20 (by decide) (fun h4 => ?_) (fun h4 => ?_)
    · have hf := ip h4 hf
      refine x_ldc (v := (-1000000003 : Int32)) B q_1224 dX12_key_23 ?_
      obtain ⟨rfl, rfl⟩ := rt2 hf
      exact x_iret B dX12_key_25
    · have hf := iq h4 hf
      refine x_aload_n B dX12_key_26 rfl (lv_at hl 0 rfl) ?_
      refine y_getMr (C := RX12) (T := TX12) (NN := 34) (d := 0) (k2 := 108) B aM_107 inX12 rfl (j := 0) (by decide) q_1112 rfl rfl rfl dX12_key_27 ?_
      refine x_sipush (v := (nI 311)) B dX12_key_30 (by decide) ?_
      refine x_iconst (v := (nI 2)) B dX12_key_33 (by decide) ?_
      refine x_aload_n B dX12_key_34 rfl (lv_at hl 0 rfl) ?_
      refine y_getMr (C := RX12) (T := TX12) (NN := 34) (d := 0) (k2 := 108) B aM_107 inX12 rfl (j := 0) (by decide) q_1112 rfl rfl rfl dX12_key_35 ?_
      refine x_bipush (v := (nI 11)) B dX12_key_38 (by decide) ?_
      refine x_ialdM B aM_108 (by decide) dX12_key_40 ?_
      refine x_imul B dX12_key_41 ?_
      refine x_iadd B dX12_key_42 ?_
      refine x_iload_n B dX12_key_43 rfl (lv_at hl 1 rfl) ?_
      obtain ⟨h5, hf⟩ := gd_some hf
      refine x_iastM B aM_108 h5 dX12_key_44 (fun f6 e7 => ?_)
      have hf := lt_some hf e7
      refine x_aload_n B dX12_key_45 rfl (lv_at hl 0 rfl) ?_
      refine y_getMr (C := RX12) (T := TX12) (NN := 34) (d := 0) (k2 := 108) B aM_107 inX12 rfl (j := 0) (by decide) q_1112 rfl rfl rfl dX12_key_46 ?_
      refine x_sipush (v := (nI 311)) B dX12_key_49 (by decide) ?_
      refine x_iconst (v := (nI 2)) B dX12_key_52 (by decide) ?_
      refine x_aload_n B dX12_key_53 rfl (lv_at hl 0 rfl) ?_
      refine y_getMr (C := RX12) (T := TX12) (NN := 34) (d := 0) (k2 := 108) B aM_107 inX12 rfl (j := 0) (by decide) q_1112 rfl rfl rfl dX12_key_54 ?_
      refine x_bipush (v := (nI 11)) B dX12_key_57 (by decide) ?_
      refine x_ialdM B aM_108 (by decide) dX12_key_59 ?_
      refine x_imul B dX12_key_60 ?_
      refine x_iadd B dX12_key_61 ?_
      refine x_iconst (v := (nI 1)) B dX12_key_62 (by decide) ?_
      refine x_iadd B dX12_key_63 ?_
      refine x_iload_n B dX12_key_64 rfl (lv_at hl 2 rfl) ?_
      obtain ⟨h8, hf⟩ := gd_some hf
      refine x_iastM B aM_108 h8 dX12_key_65 (fun f9 e10 => ?_)
      have hf := lt_some hf e10
      refine x_aload_n B dX12_key_66 rfl (lv_at hl 0 rfl) ?_
      refine y_getMr (C := RX12) (T := TX12) (NN := 34) (d := 0) (k2 := 108) B aM_107 inX12 rfl (j := 0) (by decide) q_1112 rfl rfl rfl dX12_key_67 ?_
      refine x_bipush (v := (nI 11)) B dX12_key_70 (by decide) ?_
      refine x_dup2 B dX12_key_72 rfl rfl ?_
      refine x_ialdM B aM_108 (by decide) dX12_key_73 ?_
      refine x_iconst (v := (nI 1)) B dX12_key_74 (by decide) ?_
      refine x_iadd B dX12_key_75 ?_
      refine x_iastM B aM_108 (by decide) dX12_key_76 (fun f11 e12 => ?_)
      have hf := lt_some hf e12
      refine x_aload_n B dX12_key_77 rfl (lv_at hl 0 rfl) ?_
      refine y_getMr (C := RX12) (T := TX12) (NN := 34) (d := 0) (k2 := 108) B aM_107 inX12 rfl (j := 0) (by decide) q_1112 rfl rfl rfl dX12_key_78 ?_
      refine x_bipush (v := (nI 11)) B dX12_key_81 (by decide) ?_
      refine x_ialdM B aM_108 (by decide) dX12_key_83 ?_
      refine x_iconst (v := (nI 1)) B dX12_key_84 (by decide) ?_
      refine x_isub B dX12_key_85 ?_
      obtain ⟨rfl, rfl⟩ := rt2 hf
      exact x_iret B dX12_key_86
def rmX12_keys : Room := { frames := 2, cells := 0, slots := 0, locals := 45 }
set_option maxHeartbeats 4000000 in
set_option maxRecDepth 100000 in
theorem cw_X12_keys_X12_isDay : cwB rmX12_keys rmX12_isDay yX12_isDay cX12_isDay 1 (some .boolean) 1 := ⟨q_1268, q_57, by decide, by decide⟩
set_option maxHeartbeats 4000000 in
set_option maxRecDepth 100000 in
theorem cw_X12_keys_X12_keysOn : cwB rmX12_keys rmX12_keysOn yX12_keysOn cX12_keysOn 4 (some .int) 1 := ⟨q_1515, q_57, by decide, by decide⟩
def fX12_keys (n : Nat) (a1 : Int32) (m : Mm) : Option (Int32) :=
  bn (fX12_isDay n a1) fun r2 =>
  if r2 = 0 then (
  some (-1000000001 : Int32)) else (
  bn (fX12_keysOn n a1 m) fun r5 =>
  some r5)
set_option maxHeartbeats 4000000 in
set_option maxRecDepth 100000 in
theorem kX12_keys {l : Launch} {G : GE} {N : Nat} {f m : Mm} {n : Nat} {a1 : Int32} {r : Int32}  (hf : fX12_keys n a1 m = some r) : MT l G yX12_keys cX12_keys 2 (some .int) rmX12_keys [.ref (gz G + 107), .int a1] N f m (some (.int r)) N f m := by
  unfold fX12_keys at hf
  refine MT.of (by decide) (Nat.le_of_ble_eq_true rfl) (fun V ls hV hR B hl => ?_)
  have B : CX V G cX12_keys 2 "FluxWatchModel" (some .int) := B
  have hl : lv_has ls 2 [(0, .ref (gz G + 107)), (1, .int a1)] := hl
  show WX V G N f m 0 0 (QQ V G (some (.int r)) N f m 0 0) 0 ls []
  refine x_iload_n B dX12_keys_0 rfl (lv_at hl 1 rfl) ?_
  obtain ⟨r2, c1, hf⟩ := bn_some hf
  refine x_callS0 (rest := []) B (kX12_isDay c1) ⟨rfl, rfl⟩ q_1266 q_1267 (by rw [hR]; exact cw_X12_keys_X12_isDay) rfl rfl hl.1 (Nat.le_of_ble_eq_true rfl) dX12_keys_1 ⟨Nat.zero_le _, Nat.zero_le _⟩ ?_
  refine x_if_eq (tgt := 15) B dX12_keys_4 (by decide) (fun h3 => ?_) (fun h3 => ?_)
  · have hf := ip h3 hf
    refine x_ldc (v := (-1000000001 : Int32)) B q_1223 dX12_keys_15 ?_
    obtain rfl := rt1 hf
    exact x_iret B dX12_keys_17
  · have hf := iq h3 hf
    refine x_aload_n B dX12_keys_7 rfl (lv_at hl 0 rfl) ?_
    refine x_iload_n B dX12_keys_8 rfl (lv_at hl 1 rfl) ?_
    obtain ⟨r5, c4, hf⟩ := bn_some hf
    refine x_callV0 (rest := []) B (kX12_keysOn c4) ⟨rfl, rfl⟩ aM_107.lt aM_107.2 rfl (by decide) q_1512 q_1514 q_40 (by rw [hR]; exact cw_X12_keys_X12_keysOn) rfl rfl hl.1 (Nat.le_of_ble_eq_true rfl) dX12_keys_9 ⟨Nat.zero_le _, Nat.zero_le _⟩ ?_
    refine x_goto (tgt := 17) B dX12_keys_12 (by decide) ?_
    obtain rfl := rt1 hf
    exact x_iret B dX12_keys_17
def rmX12_knock : Room := { frames := 1, cells := 0, slots := 0, locals := 22 }
set_option maxHeartbeats 4000000 in
set_option maxRecDepth 100000 in
theorem cw_X12_knock_X12_in : cwB rmX12_knock rmX12_in yX12_in cX12_in 3 (some .boolean) 3 := ⟨q_1222, q_57, by decide, by decide⟩
def fX12_knock (n : Nat) (a1 : Int32) (m : Mm) : Option (Int32 × Mm) :=
  bn (fX12_in n a1 (-999 : Int32) (nI 999)) fun r2 =>
  if r2 = 0 then (
  some ((-1000000001 : Int32), m)) else (
  if (m 108 (nI 10).toNatClampNeg) = (nI 60) then (
  some ((-1000000003 : Int32), m)) else (
  gd (ib ((nI 251) + (m 108 (nI 10).toNatClampNeg)) 1719) <|
  lt (up m 108 ((nI 251) + (m 108 (nI 10).toNatClampNeg)).toNatClampNeg a1) fun f6 =>
  lt (up f6 108 (nI 10).toNatClampNeg ((f6 108 (nI 10).toNatClampNeg) + (nI 1))) fun f8 =>
  some ((f8 108 (nI 10).toNatClampNeg) - (nI 1), f8)))
set_option maxHeartbeats 4000000 in
set_option maxRecDepth 100000 in
theorem kX12_knock {l : Launch} {G : GE} {N : Nat} {f m : Mm} {n : Nat} {a1 : Int32} {r : Int32} {g : Mm}  (hf : fX12_knock n a1 m = some (r, g)) : MT l G yX12_knock cX12_knock 2 (some .int) rmX12_knock [.ref (gz G + 107), .int a1] N f m (some (.int r)) N f g := by
  unfold fX12_knock at hf
  refine MT.of (by decide) (Nat.le_of_ble_eq_true rfl) (fun V ls hV hR B hl => ?_)
  have B : CX V G cX12_knock 2 "FluxWatchModel" (some .int) := B
  have hl : lv_has ls 2 [(0, .ref (gz G + 107)), (1, .int a1)] := hl
  show WX V G N f m 0 0 (QQ V G (some (.int r)) N f g 0 0) 0 ls []
  refine x_iload_n B dX12_knock_0 rfl (lv_at hl 1 rfl) ?_
  refine x_sipush (v := (-999 : Int32)) B dX12_knock_1 (by decide) ?_
  refine x_sipush (v := (nI 999)) B dX12_knock_4 (by decide) ?_
  obtain ⟨r2, c1, hf⟩ := bn_some hf
  refine x_callS0 (rest := []) B (kX12_in c1) ⟨rfl, rfl⟩ q_1220 q_1221 (by rw [hR]; exact cw_X12_knock_X12_in) rfl rfl hl.1 (Nat.le_of_ble_eq_true rfl) dX12_knock_7 ⟨Nat.zero_le _, Nat.zero_le _⟩ ?_
  refine x_if_ne (tgt := 16) B dX12_knock_10 (by decide) (fun h3 => ?_) (fun h3 => ?_)
  · have hf := ip h3 hf
    refine x_ldc (v := (-1000000001 : Int32)) B q_1223 dX12_knock_13 ?_
    obtain ⟨rfl, rfl⟩ := rt2 hf
    exact x_iret B dX12_knock_15
  · have hf := iq h3 hf
    refine x_aload_n B dX12_knock_16 rfl (lv_at hl 0 rfl) ?_
    refine y_getMr (C := RX12) (T := TX12) (NN := 34) (d := 0) (k2 := 108) B aM_107 inX12 rfl (j := 0) (by decide) q_1112 rfl rfl rfl dX12_knock_17 ?_
    refine x_bipush (v := (nI 10)) B dX12_knock_20 (by decide) ?_
    refine x_ialdM B aM_108 (by decide) dX12_knock_22 ?_
    refine x_bipush (v := (nI 60)) B dX12_knock_23 (by decide) ?_
    refine x_icmp_ne (tgt := 31) B dX12_knock_25 (by decide) (fun h4 => ?_) (fun h4 => ?_)
    · have hf := ip h4 hf
      refine x_ldc (v := (-1000000003 : Int32)) B q_1224 dX12_knock_28 ?_
      obtain ⟨rfl, rfl⟩ := rt2 hf
      exact x_iret B dX12_knock_30
    · have hf := iq h4 hf
      refine x_aload_n B dX12_knock_31 rfl (lv_at hl 0 rfl) ?_
      refine y_getMr (C := RX12) (T := TX12) (NN := 34) (d := 0) (k2 := 108) B aM_107 inX12 rfl (j := 0) (by decide) q_1112 rfl rfl rfl dX12_knock_32 ?_
      refine x_sipush (v := (nI 251)) B dX12_knock_35 (by decide) ?_
      refine x_aload_n B dX12_knock_38 rfl (lv_at hl 0 rfl) ?_
      refine y_getMr (C := RX12) (T := TX12) (NN := 34) (d := 0) (k2 := 108) B aM_107 inX12 rfl (j := 0) (by decide) q_1112 rfl rfl rfl dX12_knock_39 ?_
      refine x_bipush (v := (nI 10)) B dX12_knock_42 (by decide) ?_
      refine x_ialdM B aM_108 (by decide) dX12_knock_44 ?_
      refine x_iadd B dX12_knock_45 ?_
      refine x_iload_n B dX12_knock_46 rfl (lv_at hl 1 rfl) ?_
      obtain ⟨h5, hf⟩ := gd_some hf
      refine x_iastM B aM_108 h5 dX12_knock_47 (fun f6 e7 => ?_)
      have hf := lt_some hf e7
      refine x_aload_n B dX12_knock_48 rfl (lv_at hl 0 rfl) ?_
      refine y_getMr (C := RX12) (T := TX12) (NN := 34) (d := 0) (k2 := 108) B aM_107 inX12 rfl (j := 0) (by decide) q_1112 rfl rfl rfl dX12_knock_49 ?_
      refine x_bipush (v := (nI 10)) B dX12_knock_52 (by decide) ?_
      refine x_dup2 B dX12_knock_54 rfl rfl ?_
      refine x_ialdM B aM_108 (by decide) dX12_knock_55 ?_
      refine x_iconst (v := (nI 1)) B dX12_knock_56 (by decide) ?_
      refine x_iadd B dX12_knock_57 ?_
      refine x_iastM B aM_108 (by decide) dX12_knock_58 (fun f8 e9 => ?_)
      have hf := lt_some hf e9
      refine x_aload_n B dX12_knock_59 rfl (lv_at hl 0 rfl) ?_
      refine y_getMr (C := RX12) (T := TX12) (NN := 34) (d := 0) (k2 := 108) B aM_107 inX12 rfl (j := 0) (by decide) q_1112 rfl rfl rfl dX12_knock_60 ?_
      refine x_bipush (v := (nI 10)) B dX12_knock_63 (by decide) ?_
      refine x_ialdM B aM_108 (by decide) dX12_knock_65 ?_
      refine x_iconst (v := (nI 1)) B dX12_knock_66 (by decide) ?_
      refine x_isub B dX12_knock_67 ?_
      obtain ⟨rfl, rfl⟩ := rt2 hf
      exact x_iret B dX12_knock_68
def rmX12_lay : Room := { frames := 2, cells := 0, slots := 0, locals := 43 }
set_option maxHeartbeats 4000000 in
set_option maxRecDepth 100000 in
theorem cw_X12_lay_X12_in : cwB rmX12_lay rmX12_in yX12_in cX12_in 3 (some .boolean) 3 := ⟨q_1222, q_57, by decide, by decide⟩
set_option maxHeartbeats 4000000 in
set_option maxRecDepth 100000 in
theorem cw_X12_lay_X12_isSheet : cwB rmX12_lay rmX12_isSheet yX12_isSheet cX12_isSheet 1 (some .boolean) 1 := ⟨q_1550, q_57, by decide, by decide⟩
set_option maxHeartbeats 4000000 in
set_option maxRecDepth 100000 in
theorem cw_X12_lay_X12_isSlot : cwB rmX12_lay rmX12_isSlot yX12_isSlot cX12_isSlot 1 (some .boolean) 1 := ⟨q_1578, q_57, by decide, by decide⟩
set_option maxHeartbeats 4000000 in
set_option maxRecDepth 100000 in
theorem cw_X12_lay_X12_isStep : cwB rmX12_lay rmX12_isStep yX12_isStep cX12_isStep 2 (some .boolean) 1 := ⟨q_1300, q_57, by decide, by decide⟩
set_option maxHeartbeats 4000000 in
set_option maxRecDepth 100000 in
theorem cw_X12_lay_X12_step4 : cwB rmX12_lay rmX12_step4 yX12_step4 cX12_step4 3 (some .int) 2 := ⟨q_1245, q_57, by decide, by decide⟩
def fX12_lay_136 (n : Nat)   (k136 : Int32 → Int32 → Int32 → Int32 → Int32 → Mm → Option (Int32 × Mm)) (x1 : Int32) (x2 : Int32) (x3 : Int32) (x4 : Int32) (x5 : Int32) (m : Mm) : Option (Int32 × Mm) :=
  if (nI 24) ≤ x5 then (
  some (x4, m)) else (
  if x2 = (nI 2) then (
  gd (ib (((nI 24) * x3) + x5) 96) <|
  gd (ib (((nI 24) * x1) + x5) 120) <|
  lt (up m 127 (((nI 24) * x1) + x5).toNatClampNeg (m 123 (((nI 24) * x3) + x5).toNatClampNeg)) fun f38 =>
  k136 x1 x2 x3 x4 (x5 + (nI 1)) f38) else (
  some (x4, m)))
def fX12_lay_136L (n : Nat)   : Nat → Int32 → Int32 → Int32 → Int32 → Int32 → Mm → Option (Int32 × Mm)
  | 0 => fun _ _ _ _ _ _ => none
  | q + 1 => fX12_lay_136 n   (fX12_lay_136L n   q)
set_option maxHeartbeats 4000000 in
set_option maxRecDepth 100000 in
theorem fX12_lay_136_ok {V : VE} {G : GE} {N : Nat} {f m : Mm} {n : Nat} {ls : Array Slot} {r : Int32} {g : Mm} (B : CX V G cX12_lay 6 "FluxWatchModel" (some .int)) (hR : V.2.2.2.1 = rmX12_lay)   {k136 : Int32 → Int32 → Int32 → Int32 → Int32 → Mm → Option (Int32 × Mm)} (hk136 : ∀ (x1 : Int32) (x2 : Int32) (x3 : Int32) (x4 : Int32) (x5 : Int32) (mm : Mm) (ls : Array Slot),  lv_has ls 6 [(0, .ref (gz G + 107)), (1, .int x1), (2, .int x2), (3, .int x3), (4, .int x4), (5, .int x5)] → k136 x1 x2 x3 x4 x5 mm = some (r, g) → WX V G N f mm 0 0 (QQ V G (some (.int r)) N f g 0 0) 136 ls []) {x1 : Int32} {x2 : Int32} {x3 : Int32} {x4 : Int32} {x5 : Int32}  (hl : lv_has ls 6 [(0, .ref (gz G + 107)), (1, .int x1), (2, .int x2), (3, .int x3), (4, .int x4), (5, .int x5)]) (hf : fX12_lay_136 n  k136 x1 x2 x3 x4 x5 m = some (r, g)) : WX V G N f m 0 0 (QQ V G (some (.int r)) N f g 0 0) 136 ls [] := by
  unfold fX12_lay_136 at hf
  refine x_iload B dX12_lay_136 (lv_at hl 5 rfl) ?_
  refine x_bipush (v := (nI 24)) B dX12_lay_138 (by decide) ?_
  refine x_icmp_ge (tgt := 178) B dX12_lay_140 (by decide) (fun h34 => ?_) (fun h34 => ?_)
  · have hf := ip h34 hf
    refine x_iload B dX12_lay_178 (lv_at hl 4 rfl) ?_
    obtain ⟨rfl, rfl⟩ := rt2 hf
    exact x_iret B dX12_lay_180
  · have hf := iq h34 hf
    refine x_iload_n B dX12_lay_143 rfl (lv_at hl 2 rfl) ?_
    refine x_iconst (v := (nI 2)) B dX12_lay_144 (by decide) ?_
    refine x_icmp_ne (tgt := 178) B dX12_lay_145 (by decide) (fun h35 => ?_) (fun h35 => ?_)
    · have hf := ip h35 hf
      refine x_aload_n B dX12_lay_148 rfl (lv_at hl 0 rfl) ?_
      refine y_getMr (C := RX12) (T := TX12) (NN := 34) (d := 19) (k2 := 127) B aM_107 inX12 rfl (j := 30) (by decide) q_1142 rfl rfl rfl dX12_lay_149 ?_
      refine x_bipush (v := (nI 24)) B dX12_lay_152 (by decide) ?_
      refine x_iload_n B dX12_lay_154 rfl (lv_at hl 1 rfl) ?_
      refine x_imul B dX12_lay_155 ?_
      refine x_iload B dX12_lay_156 (lv_at hl 5 rfl) ?_
      refine x_iadd B dX12_lay_158 ?_
      refine x_aload_n B dX12_lay_159 rfl (lv_at hl 0 rfl) ?_
      refine y_getMr (C := RX12) (T := TX12) (NN := 34) (d := 15) (k2 := 123) B aM_107 inX12 rfl (j := 26) (by decide) q_1138 rfl rfl rfl dX12_lay_160 ?_
      refine x_bipush (v := (nI 24)) B dX12_lay_163 (by decide) ?_
      refine x_iload_n B dX12_lay_165 rfl (lv_at hl 3 rfl) ?_
      refine x_imul B dX12_lay_166 ?_
      refine x_iload B dX12_lay_167 (lv_at hl 5 rfl) ?_
      refine x_iadd B dX12_lay_169 ?_
      obtain ⟨h36, hf⟩ := gd_some hf
      refine x_ialdM B aM_123 h36 dX12_lay_170 ?_
      obtain ⟨h37, hf⟩ := gd_some hf
      refine x_iastM B aM_127 h37 dX12_lay_171 (fun f38 e39 => ?_)
      have hf := lt_some hf e39
      refine x_iinc (k := 5) (v := (nI 1)) (lv' := [(5, .int (x5 + (nI 1))), (0, .ref (gz G + 107)), (1, .int x1), (2, .int x2), (3, .int x3), (4, .int x4)]) B dX12_lay_172 hl rfl (by decide) (by decide) rfl (fun ls hl => ?_)
      refine x_goto (tgt := 136) B dX12_lay_175 (by decide) ?_
      exact hk136 _ _ _ _ _ _ _ (lv_sub hl [1, 2, 3, 4, 5, 0] rfl) hf
    · have hf := iq h35 hf
      refine x_iload B dX12_lay_178 (lv_at hl 4 rfl) ?_
      obtain ⟨rfl, rfl⟩ := rt2 hf
      exact x_iret B dX12_lay_180
set_option maxHeartbeats 4000000 in
set_option maxRecDepth 100000 in
theorem fX12_lay_136L_ok {V : VE} {G : GE} {N : Nat} {f : Mm} {n : Nat}  {r : Int32} {g : Mm} (B : CX V G cX12_lay 6 "FluxWatchModel" (some .int)) (hR : V.2.2.2.1 = rmX12_lay)   : ∀ (q : Nat) (x1 : Int32) (x2 : Int32) (x3 : Int32) (x4 : Int32) (x5 : Int32) (mm : Mm) (ls : Array Slot),  lv_has ls 6 [(0, .ref (gz G + 107)), (1, .int x1), (2, .int x2), (3, .int x3), (4, .int x4), (5, .int x5)] → fX12_lay_136L n  q x1 x2 x3 x4 x5 mm = some (r, g) → WX V G N f mm 0 0 (QQ V G (some (.int r)) N f g 0 0) 136 ls [] := by
  intro q
  induction q with
  | zero =>
    intro x1 x2 x3 x4 x5 mm ls hl hf
    cases hf
  | succ q ih =>
    intro x1 x2 x3 x4 x5 mm ls hl hf
    exact fX12_lay_136_ok B hR   ih  hl hf
def fX12_lay_132 (n : Nat)   (x1 : Int32) (x2 : Int32) (x3 : Int32) (x4 : Int32) (s0 : Int32) (s1 : Int32) (m : Mm) : Option (Int32 × Mm) :=
  gd (ib s1 5) <|
  lt (up m 126 s1.toNatClampNeg s0) fun f32 =>
  fX12_lay_136L n n x1 x2 x3 x4 (nI 0) f32
set_option maxHeartbeats 4000000 in
set_option maxRecDepth 100000 in
theorem fX12_lay_132_ok {V : VE} {G : GE} {N : Nat} {f m : Mm} {n : Nat} {ls : Array Slot} {r : Int32} {g : Mm} (B : CX V G cX12_lay 6 "FluxWatchModel" (some .int)) (hR : V.2.2.2.1 = rmX12_lay)   {x1 : Int32} {x2 : Int32} {x3 : Int32} {x4 : Int32} {s0 : Int32} {s1 : Int32}  (hl : lv_has ls 6 [(0, .ref (gz G + 107)), (1, .int x1), (2, .int x2), (3, .int x3), (4, .int x4)]) (hf : fX12_lay_132 n  x1 x2 x3 x4 s0 s1 m = some (r, g)) : WX V G N f m 0 0 (QQ V G (some (.int r)) N f g 0 0) 132 ls [.int s0, .int s1, .ref (gz G + 126)] := by
  unfold fX12_lay_132 at hf
  obtain ⟨h31, hf⟩ := gd_some hf
  refine x_iastM B aM_126 h31 dX12_lay_132 (fun f32 e33 => ?_)
  have hf := lt_some hf e33
  refine x_iconst (v := (nI 0)) B dX12_lay_133 (by decide) ?_
  refine x_istore (lv' := [(5, .int (nI 0)), (0, .ref (gz G + 107)), (1, .int x1), (2, .int x2), (3, .int x3), (4, .int x4)]) B dX12_lay_134 hl (by decide) rfl (fun ls hl => ?_)
  exact fX12_lay_136L_ok B hR  n _ _ _ _ _ _ _ (lv_sub hl [1, 2, 3, 4, 5, 0] rfl) hf
def fX12_lay_111 (n : Nat)   (x1 : Int32) (x2 : Int32) (x3 : Int32) (x4 : Int32) (s0 : Int32) (s1 : Int32) (m : Mm) : Option (Int32 × Mm) :=
  gd (ib s1 5) <|
  lt (up m 125 s1.toNatClampNeg s0) fun f26 =>
  if x2 = (nI 1) then (
  bn (fX12_step4 n x3 (nI 3) f26) fun r30 =>
  fX12_lay_132 n x1 x2 x3 x4 r30 x1 f26) else (
  fX12_lay_132 n x1 x2 x3 x4 (nI 0) x1 f26)
set_option maxHeartbeats 4000000 in
set_option maxRecDepth 100000 in
theorem fX12_lay_111_ok {V : VE} {G : GE} {N : Nat} {f m : Mm} {n : Nat} {ls : Array Slot} {r : Int32} {g : Mm} (B : CX V G cX12_lay 6 "FluxWatchModel" (some .int)) (hR : V.2.2.2.1 = rmX12_lay)   {x1 : Int32} {x2 : Int32} {x3 : Int32} {x4 : Int32} {s0 : Int32} {s1 : Int32}  (hl : lv_has ls 6 [(0, .ref (gz G + 107)), (1, .int x1), (2, .int x2), (3, .int x3), (4, .int x4)]) (hf : fX12_lay_111 n  x1 x2 x3 x4 s0 s1 m = some (r, g)) : WX V G N f m 0 0 (QQ V G (some (.int r)) N f g 0 0) 111 ls [.int s0, .int s1, .ref (gz G + 125)] := by
  unfold fX12_lay_111 at hf
  obtain ⟨h25, hf⟩ := gd_some hf
  refine x_iastM B aM_125 h25 dX12_lay_111 (fun f26 e27 => ?_)
  have hf := lt_some hf e27
  refine x_aload_n B dX12_lay_112 rfl (lv_at hl 0 rfl) ?_
  refine y_getMr (C := RX12) (T := TX12) (NN := 34) (d := 18) (k2 := 126) B aM_107 inX12 rfl (j := 29) (by decide) q_1141 rfl rfl rfl dX12_lay_113 ?_
  refine x_iload_n B dX12_lay_116 rfl (lv_at hl 1 rfl) ?_
  refine x_iload_n B dX12_lay_117 rfl (lv_at hl 2 rfl) ?_
  refine x_iconst (v := (nI 1)) B dX12_lay_118 (by decide) ?_
  refine x_icmp_ne (tgt := 131) B dX12_lay_119 (by decide) (fun h28 => ?_) (fun h28 => ?_)
  · have hf := ip h28 hf
    refine x_aload_n B dX12_lay_122 rfl (lv_at hl 0 rfl) ?_
    refine x_iload_n B dX12_lay_123 rfl (lv_at hl 3 rfl) ?_
    refine x_iconst (v := (nI 3)) B dX12_lay_124 (by decide) ?_
    obtain ⟨r30, c29, hf⟩ := bn_some hf
    refine x_callV0 (rest := [.int x1, .ref (gz G + 126)]) B (kX12_step4 c29) ⟨rfl, rfl⟩ aM_107.lt aM_107.2 rfl (by decide) q_1242 q_1244 q_10 (by rw [hR]; exact cw_X12_lay_X12_step4) rfl rfl hl.1 (Nat.le_of_ble_eq_true rfl) dX12_lay_125 ⟨Nat.zero_le _, Nat.zero_le _⟩ ?_
    refine x_goto (tgt := 132) B dX12_lay_128 (by decide) ?_
    exact fX12_lay_132_ok B hR  hl hf
  · have hf := iq h28 hf
    refine x_iconst (v := (nI 0)) B dX12_lay_131 (by decide) ?_
    exact fX12_lay_132_ok B hR  hl hf
def fX12_lay_62 (n : Nat)   (x1 : Int32) (x2 : Int32) (x3 : Int32) (m : Mm) : Option (Int32 × Mm) :=
  gd (ib x1 5) <|
  gd (ib x1 5) <|
  lt (up m 124 x1.toNatClampNeg x2) fun f20 =>
  if x2 = (nI 1) then (
  bn (fX12_step4 n x3 (nI 0) f20) fun r24 =>
  fX12_lay_111 n x1 x2 x3 (m 124 x1.toNatClampNeg) r24 x1 f20) else (
  if x2 = (nI 2) then (
  gd (ib x3 4) <|
  fX12_lay_111 n x1 x2 x3 (m 124 x1.toNatClampNeg) (f20 122 x3.toNatClampNeg) x1 f20) else (
  fX12_lay_111 n x1 x2 x3 (m 124 x1.toNatClampNeg) x3 x1 f20))
set_option maxHeartbeats 4000000 in
set_option maxRecDepth 100000 in
theorem fX12_lay_62_ok {V : VE} {G : GE} {N : Nat} {f m : Mm} {n : Nat} {ls : Array Slot} {r : Int32} {g : Mm} (B : CX V G cX12_lay 6 "FluxWatchModel" (some .int)) (hR : V.2.2.2.1 = rmX12_lay)   {x1 : Int32} {x2 : Int32} {x3 : Int32}  (hl : lv_has ls 6 [(0, .ref (gz G + 107)), (1, .int x1), (2, .int x2), (3, .int x3)]) (hf : fX12_lay_62 n  x1 x2 x3 m = some (r, g)) : WX V G N f m 0 0 (QQ V G (some (.int r)) N f g 0 0) 62 ls [] := by
  unfold fX12_lay_62 at hf
  refine x_aload_n B dX12_lay_62 rfl (lv_at hl 0 rfl) ?_
  refine y_getMr (C := RX12) (T := TX12) (NN := 34) (d := 16) (k2 := 124) B aM_107 inX12 rfl (j := 27) (by decide) q_1139 rfl rfl rfl dX12_lay_63 ?_
  refine x_iload_n B dX12_lay_66 rfl (lv_at hl 1 rfl) ?_
  obtain ⟨h18, hf⟩ := gd_some hf
  refine x_ialdM B aM_124 h18 dX12_lay_67 ?_
  refine x_istore (lv' := [(4, .int (m 124 x1.toNatClampNeg)), (0, .ref (gz G + 107)), (1, .int x1), (2, .int x2), (3, .int x3)]) B dX12_lay_68 hl (by decide) rfl (fun ls hl => ?_)
  refine x_aload_n B dX12_lay_70 rfl (lv_at hl 1 rfl) ?_
  refine y_getMr (C := RX12) (T := TX12) (NN := 34) (d := 16) (k2 := 124) B aM_107 inX12 rfl (j := 27) (by decide) q_1139 rfl rfl rfl dX12_lay_71 ?_
  refine x_iload_n B dX12_lay_74 rfl (lv_at hl 2 rfl) ?_
  refine x_iload_n B dX12_lay_75 rfl (lv_at hl 3 rfl) ?_
  obtain ⟨h19, hf⟩ := gd_some hf
  refine x_iastM B aM_124 h19 dX12_lay_76 (fun f20 e21 => ?_)
  have hf := lt_some hf e21
  refine x_aload_n B dX12_lay_77 rfl (lv_at hl 1 rfl) ?_
  refine y_getMr (C := RX12) (T := TX12) (NN := 34) (d := 17) (k2 := 125) B aM_107 inX12 rfl (j := 28) (by decide) q_1140 rfl rfl rfl dX12_lay_78 ?_
  refine x_iload_n B dX12_lay_81 rfl (lv_at hl 2 rfl) ?_
  refine x_iload_n B dX12_lay_82 rfl (lv_at hl 3 rfl) ?_
  refine x_iconst (v := (nI 1)) B dX12_lay_83 (by decide) ?_
  refine x_icmp_ne (tgt := 96) B dX12_lay_84 (by decide) (fun h22 => ?_) (fun h22 => ?_)
  · have hf := ip h22 hf
    refine x_aload_n B dX12_lay_87 rfl (lv_at hl 1 rfl) ?_
    refine x_iload_n B dX12_lay_88 rfl (lv_at hl 4 rfl) ?_
    refine x_iconst (v := (nI 0)) B dX12_lay_89 (by decide) ?_
    obtain ⟨r24, c23, hf⟩ := bn_some hf
    refine x_callV0 (rest := [.int x1, .ref (gz G + 125)]) B (kX12_step4 c23) ⟨rfl, rfl⟩ aM_107.lt aM_107.2 rfl (by decide) q_1242 q_1244 q_10 (by rw [hR]; exact cw_X12_lay_X12_step4) rfl rfl hl.1 (Nat.le_of_ble_eq_true rfl) dX12_lay_90 ⟨Nat.zero_le _, Nat.zero_le _⟩ ?_
    refine x_goto (tgt := 111) B dX12_lay_93 (by decide) ?_
    exact fX12_lay_111_ok B hR  (lv_sub hl [1, 2, 3, 4, 0] rfl) hf
  · have hf := iq h22 hf
    refine x_iload_n B dX12_lay_96 rfl (lv_at hl 3 rfl) ?_
    refine x_iconst (v := (nI 2)) B dX12_lay_97 (by decide) ?_
    refine x_icmp_ne (tgt := 110) B dX12_lay_98 (by decide) (fun h40 => ?_) (fun h40 => ?_)
    · have hf := ip h40 hf
      refine x_aload_n B dX12_lay_101 rfl (lv_at hl 1 rfl) ?_
      refine y_getMr (C := RX12) (T := TX12) (NN := 34) (d := 14) (k2 := 122) B aM_107 inX12 rfl (j := 25) (by decide) q_1137 rfl rfl rfl dX12_lay_102 ?_
      refine x_iload_n B dX12_lay_105 rfl (lv_at hl 4 rfl) ?_
      obtain ⟨h41, hf⟩ := gd_some hf
      refine x_ialdM B aM_122 h41 dX12_lay_106 ?_
      refine x_goto (tgt := 111) B dX12_lay_107 (by decide) ?_
      exact fX12_lay_111_ok B hR  (lv_sub hl [1, 2, 3, 4, 0] rfl) hf
    · have hf := iq h40 hf
      refine x_iload_n B dX12_lay_110 rfl (lv_at hl 4 rfl) ?_
      exact fX12_lay_111_ok B hR  (lv_sub hl [1, 2, 3, 4, 0] rfl) hf
def fX12_lay_44 (n : Nat)   (x1 : Int32) (x2 : Int32) (x3 : Int32) (m : Mm) : Option (Int32 × Mm) :=
  if x2 = (nI 2) then (
  gd (ib x3 4) <|
  if 0 ≤ (m 121 x3.toNatClampNeg) then (
  fX12_lay_62 n x1 x2 x3 m) else (
  some ((-1000000011 : Int32), m))) else (
  fX12_lay_62 n x1 x2 x3 m)
set_option maxHeartbeats 4000000 in
set_option maxRecDepth 100000 in
theorem fX12_lay_44_ok {V : VE} {G : GE} {N : Nat} {f m : Mm} {n : Nat} {ls : Array Slot} {r : Int32} {g : Mm} (B : CX V G cX12_lay 6 "FluxWatchModel" (some .int)) (hR : V.2.2.2.1 = rmX12_lay)   {x1 : Int32} {x2 : Int32} {x3 : Int32}  (hl : lv_has ls 6 [(0, .ref (gz G + 107)), (1, .int x1), (2, .int x2), (3, .int x3)]) (hf : fX12_lay_44 n  x1 x2 x3 m = some (r, g)) : WX V G N f m 0 0 (QQ V G (some (.int r)) N f g 0 0) 44 ls [] := by
  unfold fX12_lay_44 at hf
  refine x_iload_n B dX12_lay_44 rfl (lv_at hl 2 rfl) ?_
  refine x_iconst (v := (nI 2)) B dX12_lay_45 (by decide) ?_
  refine x_icmp_ne (tgt := 62) B dX12_lay_46 (by decide) (fun h15 => ?_) (fun h15 => ?_)
  · have hf := ip h15 hf
    refine x_aload_n B dX12_lay_49 rfl (lv_at hl 0 rfl) ?_
    refine y_getMr (C := RX12) (T := TX12) (NN := 34) (d := 13) (k2 := 121) B aM_107 inX12 rfl (j := 24) (by decide) q_1136 rfl rfl rfl dX12_lay_50 ?_
    refine x_iload_n B dX12_lay_53 rfl (lv_at hl 3 rfl) ?_
    obtain ⟨h16, hf⟩ := gd_some hf
    refine x_ialdM B aM_121 h16 dX12_lay_54 ?_
    refine x_if_ge (tgt := 62) B dX12_lay_55 (by decide) (fun h17 => ?_) (fun h17 => ?_)
    · have hf := ip h17 hf
      exact fX12_lay_62_ok B hR  hl hf
    · have hf := iq h17 hf
      refine x_ldc_w (v := (-1000000011 : Int32)) B q_1556 dX12_lay_58 ?_
      obtain ⟨rfl, rfl⟩ := rt2 hf
      exact x_iret B dX12_lay_61
  · have hf := iq h15 hf
    exact fX12_lay_62_ok B hR  hl hf
def fX12_lay_29 (n : Nat)   (x1 : Int32) (x2 : Int32) (x3 : Int32) (m : Mm) : Option (Int32 × Mm) :=
  if x2 = (nI 2) then (
  bn (fX12_isSheet n x3) fun r13 =>
  if r13 = 0 then (
  some ((-1000000001 : Int32), m)) else (
  fX12_lay_44 n x1 x2 x3 m)) else (
  fX12_lay_44 n x1 x2 x3 m)
set_option maxHeartbeats 4000000 in
set_option maxRecDepth 100000 in
theorem fX12_lay_29_ok {V : VE} {G : GE} {N : Nat} {f m : Mm} {n : Nat} {ls : Array Slot} {r : Int32} {g : Mm} (B : CX V G cX12_lay 6 "FluxWatchModel" (some .int)) (hR : V.2.2.2.1 = rmX12_lay)   {x1 : Int32} {x2 : Int32} {x3 : Int32}  (hl : lv_has ls 6 [(0, .ref (gz G + 107)), (1, .int x1), (2, .int x2), (3, .int x3)]) (hf : fX12_lay_29 n  x1 x2 x3 m = some (r, g)) : WX V G N f m 0 0 (QQ V G (some (.int r)) N f g 0 0) 29 ls [] := by
  unfold fX12_lay_29 at hf
  refine x_iload_n B dX12_lay_29 rfl (lv_at hl 2 rfl) ?_
  refine x_iconst (v := (nI 2)) B dX12_lay_30 (by decide) ?_
  refine x_icmp_ne (tgt := 44) B dX12_lay_31 (by decide) (fun h11 => ?_) (fun h11 => ?_)
  · have hf := ip h11 hf
    refine x_iload_n B dX12_lay_34 rfl (lv_at hl 3 rfl) ?_
    obtain ⟨r13, c12, hf⟩ := bn_some hf
    refine x_callS0 (rest := []) B (kX12_isSheet c12) ⟨rfl, rfl⟩ q_1548 q_1549 (by rw [hR]; exact cw_X12_lay_X12_isSheet) rfl rfl hl.1 (Nat.le_of_ble_eq_true rfl) dX12_lay_35 ⟨Nat.zero_le _, Nat.zero_le _⟩ ?_
    refine x_if_ne (tgt := 44) B dX12_lay_38 (by decide) (fun h14 => ?_) (fun h14 => ?_)
    · have hf := ip h14 hf
      refine x_ldc (v := (-1000000001 : Int32)) B q_1223 dX12_lay_41 ?_
      obtain ⟨rfl, rfl⟩ := rt2 hf
      exact x_iret B dX12_lay_43
    · have hf := iq h14 hf
      exact fX12_lay_44_ok B hR  hl hf
  · have hf := iq h11 hf
    exact fX12_lay_44_ok B hR  hl hf
def fX12_lay (n : Nat) (a1 : Int32) (a2 : Int32) (a3 : Int32) (m : Mm) : Option (Int32 × Mm) :=
  bn (fX12_isSlot n a1) fun r2 =>
  if r2 = 0 then (
  some ((-1000000001 : Int32), m)) else (
  bn (fX12_in n a2 (nI 0) (nI 3)) fun r5 =>
  if r5 = 0 then (
  some ((-1000000001 : Int32), m)) else (
  if a2 = (nI 1) then (
  bn (fX12_isStep n a3 m) fun r9 =>
  if r9 = 0 then (
  some ((-1000000001 : Int32), m)) else (
  fX12_lay_29 n a1 a2 a3 m)) else (
  fX12_lay_29 n a1 a2 a3 m)))
set_option maxHeartbeats 4000000 in
set_option maxRecDepth 100000 in
theorem kX12_lay {l : Launch} {G : GE} {N : Nat} {f m : Mm} {n : Nat} {a1 : Int32} {a2 : Int32} {a3 : Int32} {r : Int32} {g : Mm}  (hf : fX12_lay n a1 a2 a3 m = some (r, g)) : MT l G yX12_lay cX12_lay 6 (some .int) rmX12_lay [.ref (gz G + 107), .int a1, .int a2, .int a3] N f m (some (.int r)) N f g := by
  unfold fX12_lay at hf
  refine MT.of (by decide) (Nat.le_of_ble_eq_true rfl) (fun V ls hV hR B hl => ?_)
  have B : CX V G cX12_lay 6 "FluxWatchModel" (some .int) := B
  have hl : lv_has ls 6 [(0, .ref (gz G + 107)), (1, .int a1), (2, .int a2), (3, .int a3)] := hl
  show WX V G N f m 0 0 (QQ V G (some (.int r)) N f g 0 0) 0 ls []
  refine x_iload_n B dX12_lay_0 rfl (lv_at hl 1 rfl) ?_
  obtain ⟨r2, c1, hf⟩ := bn_some hf
  refine x_callS0 (rest := []) B (kX12_isSlot c1) ⟨rfl, rfl⟩ q_1576 q_1577 (by rw [hR]; exact cw_X12_lay_X12_isSlot) rfl rfl hl.1 (Nat.le_of_ble_eq_true rfl) dX12_lay_1 ⟨Nat.zero_le _, Nat.zero_le _⟩ ?_
  refine x_if_eq (tgt := 41) B dX12_lay_4 (by decide) (fun h3 => ?_) (fun h3 => ?_)
  · have hf := ip h3 hf
    refine x_ldc (v := (-1000000001 : Int32)) B q_1223 dX12_lay_41 ?_
    obtain ⟨rfl, rfl⟩ := rt2 hf
    exact x_iret B dX12_lay_43
  · have hf := iq h3 hf
    refine x_iload_n B dX12_lay_7 rfl (lv_at hl 2 rfl) ?_
    refine x_iconst (v := (nI 0)) B dX12_lay_8 (by decide) ?_
    refine x_iconst (v := (nI 3)) B dX12_lay_9 (by decide) ?_
    obtain ⟨r5, c4, hf⟩ := bn_some hf
    refine x_callS0 (rest := []) B (kX12_in c4) ⟨rfl, rfl⟩ q_1220 q_1221 (by rw [hR]; exact cw_X12_lay_X12_in) rfl rfl hl.1 (Nat.le_of_ble_eq_true rfl) dX12_lay_10 ⟨Nat.zero_le _, Nat.zero_le _⟩ ?_
    refine x_if_eq (tgt := 41) B dX12_lay_13 (by decide) (fun h6 => ?_) (fun h6 => ?_)
    · have hf := ip h6 hf
      refine x_ldc (v := (-1000000001 : Int32)) B q_1223 dX12_lay_41 ?_
      obtain ⟨rfl, rfl⟩ := rt2 hf
      exact x_iret B dX12_lay_43
    · have hf := iq h6 hf
      refine x_iload_n B dX12_lay_16 rfl (lv_at hl 2 rfl) ?_
      refine x_iconst (v := (nI 1)) B dX12_lay_17 (by decide) ?_
      refine x_icmp_ne (tgt := 29) B dX12_lay_18 (by decide) (fun h7 => ?_) (fun h7 => ?_)
      · have hf := ip h7 hf
        refine x_aload_n B dX12_lay_21 rfl (lv_at hl 0 rfl) ?_
        refine x_iload_n B dX12_lay_22 rfl (lv_at hl 3 rfl) ?_
        obtain ⟨r9, c8, hf⟩ := bn_some hf
        refine x_callV0 (rest := []) B (kX12_isStep c8) ⟨rfl, rfl⟩ aM_107.lt aM_107.2 rfl (by decide) q_1297 q_1299 q_14 (by rw [hR]; exact cw_X12_lay_X12_isStep) rfl rfl hl.1 (Nat.le_of_ble_eq_true rfl) dX12_lay_23 ⟨Nat.zero_le _, Nat.zero_le _⟩ ?_
        refine x_if_eq (tgt := 41) B dX12_lay_26 (by decide) (fun h10 => ?_) (fun h10 => ?_)
        · have hf := ip h10 hf
          refine x_ldc (v := (-1000000001 : Int32)) B q_1223 dX12_lay_41 ?_
          obtain ⟨rfl, rfl⟩ := rt2 hf
          exact x_iret B dX12_lay_43
        · have hf := iq h10 hf
          exact fX12_lay_29_ok B hR  hl hf
      · have hf := iq h7 hf
        exact fX12_lay_29_ok B hR  hl hf
def rmX12_lineOf : Room := { frames := 1, cells := 0, slots := 0, locals := 22 }
set_option maxHeartbeats 4000000 in
set_option maxRecDepth 100000 in
theorem cw_X12_lineOf_X12_coil3 : cwB rmX12_lineOf rmX12_coil3 yX12_coil3 cX12_coil3 3 (some .int) 2 := ⟨q_1236, q_57, by decide, by decide⟩
set_option maxHeartbeats 4000000 in
set_option maxRecDepth 100000 in
theorem cw_X12_lineOf_X12_step4 : cwB rmX12_lineOf rmX12_step4 yX12_step4 cX12_step4 3 (some .int) 2 := ⟨q_1245, q_57, by decide, by decide⟩
def fX12_lineOf_58 (n : Nat)  (k12 : Int32 → Int32 → Int32 → Int32 → Mm → Option (Int32)) (x1 : Int32) (x2 : Int32) (x4 : Int32) (s0 : Int32) (s1 : Int32) (m : Mm) : Option (Int32) :=
  k12 x1 x2 (s1 + s0) (x4 + (nI 1)) m
set_option maxHeartbeats 4000000 in
set_option maxRecDepth 100000 in
theorem fX12_lineOf_58_ok {V : VE} {G : GE} {N : Nat} {f m : Mm} {n : Nat} {ls : Array Slot} {r : Int32} (B : CX V G cX12_lineOf 5 "FluxWatchModel" (some .int)) (hR : V.2.2.2.1 = rmX12_lineOf)  {k12 : Int32 → Int32 → Int32 → Int32 → Mm → Option (Int32)} (hk12 : ∀ (x1 : Int32) (x2 : Int32) (x3 : Int32) (x4 : Int32) (mm : Mm) (ls : Array Slot),  lv_has ls 5 [(0, .ref (gz G + 107)), (1, .int x1), (2, .int x2), (3, .int x3), (4, .int x4)] → k12 x1 x2 x3 x4 mm = some r → WX V G N f mm 0 0 (QQ V G (some (.int r)) N f mm 0 0) 12 ls []) {x1 : Int32} {x2 : Int32} {x4 : Int32} {s0 : Int32} {s1 : Int32}  (hl : lv_has ls 5 [(0, .ref (gz G + 107)), (1, .int x1), (2, .int x2), (4, .int x4)]) (hf : fX12_lineOf_58 n  k12 x1 x2 x4 s0 s1 m = some r) : WX V G N f m 0 0 (QQ V G (some (.int r)) N f m 0 0) 58 ls [.int s0, .int s1] := by
  unfold fX12_lineOf_58 at hf
  refine x_iadd B dX12_lineOf_58 ?_
  refine x_istore_n (lv' := [(3, .int (s1 + s0)), (0, .ref (gz G + 107)), (1, .int x1), (2, .int x2), (4, .int x4)]) B dX12_lineOf_59 rfl hl (by decide) rfl (fun ls hl => ?_)
  refine x_iinc (k := 4) (v := (nI 1)) (lv' := [(4, .int (x4 + (nI 1))), (3, .int (s1 + s0)), (0, .ref (gz G + 107)), (1, .int x1), (2, .int x2)]) B dX12_lineOf_60 hl rfl (by decide) (by decide) rfl (fun ls hl => ?_)
  refine x_goto (tgt := 12) B dX12_lineOf_63 (by decide) ?_
  exact hk12 _ _ _ _ _ _ (lv_sub hl [2, 3, 4, 1, 0] rfl) hf
def fX12_lineOf_57 (n : Nat)  (k12 : Int32 → Int32 → Int32 → Int32 → Mm → Option (Int32)) (x1 : Int32) (x2 : Int32) (x4 : Int32) (s0 : Int32) (m : Mm) : Option (Int32) :=
  fX12_lineOf_58 n k12 x1 x2 x4 (nI 0) s0 m
set_option maxHeartbeats 4000000 in
set_option maxRecDepth 100000 in
theorem fX12_lineOf_57_ok {V : VE} {G : GE} {N : Nat} {f m : Mm} {n : Nat} {ls : Array Slot} {r : Int32} (B : CX V G cX12_lineOf 5 "FluxWatchModel" (some .int)) (hR : V.2.2.2.1 = rmX12_lineOf)  {k12 : Int32 → Int32 → Int32 → Int32 → Mm → Option (Int32)} (hk12 : ∀ (x1 : Int32) (x2 : Int32) (x3 : Int32) (x4 : Int32) (mm : Mm) (ls : Array Slot),  lv_has ls 5 [(0, .ref (gz G + 107)), (1, .int x1), (2, .int x2), (3, .int x3), (4, .int x4)] → k12 x1 x2 x3 x4 mm = some r → WX V G N f mm 0 0 (QQ V G (some (.int r)) N f mm 0 0) 12 ls []) {x1 : Int32} {x2 : Int32} {x4 : Int32} {s0 : Int32}  (hl : lv_has ls 5 [(0, .ref (gz G + 107)), (1, .int x1), (2, .int x2), (4, .int x4)]) (hf : fX12_lineOf_57 n  k12 x1 x2 x4 s0 m = some r) : WX V G N f m 0 0 (QQ V G (some (.int r)) N f m 0 0) 57 ls [.int s0] := by
  unfold fX12_lineOf_57 at hf
  refine x_iconst (v := (nI 0)) B dX12_lineOf_57 (by decide) ?_
  exact fX12_lineOf_58_ok B hR hk12 hl hf
def fX12_lineOf_12 (n : Nat)   (k12 : Int32 → Int32 → Int32 → Int32 → Mm → Option (Int32)) (x1 : Int32) (x2 : Int32) (x3 : Int32) (x4 : Int32) (m : Mm) : Option (Int32) :=
  if (m 108 (nI 8).toNatClampNeg) ≤ x4 then (
  some x3) else (
  bn (fX12_step4 n x4 (nI 1) m) fun r5 =>
  if r5 = x1 then (
  bn (fX12_step4 n x4 (nI 2) m) fun r8 =>
  if x2 < r8 then (
  fX12_lineOf_57 n k12 x1 x2 x4 x3 m) else (
  bn (fX12_step4 n x4 (nI 3) m) fun r11 =>
  fX12_lineOf_58 n k12 x1 x2 x4 r11 x3 m)) else (
  fX12_lineOf_57 n k12 x1 x2 x4 x3 m))
def fX12_lineOf_12L (n : Nat)   : Nat → Int32 → Int32 → Int32 → Int32 → Mm → Option (Int32)
  | 0 => fun _ _ _ _ _ => none
  | q + 1 => fX12_lineOf_12 n   (fX12_lineOf_12L n   q)
set_option maxHeartbeats 4000000 in
set_option maxRecDepth 100000 in
theorem fX12_lineOf_12_ok {V : VE} {G : GE} {N : Nat} {f m : Mm} {n : Nat} {ls : Array Slot} {r : Int32} (B : CX V G cX12_lineOf 5 "FluxWatchModel" (some .int)) (hR : V.2.2.2.1 = rmX12_lineOf)   {k12 : Int32 → Int32 → Int32 → Int32 → Mm → Option (Int32)} (hk12 : ∀ (x1 : Int32) (x2 : Int32) (x3 : Int32) (x4 : Int32) (mm : Mm) (ls : Array Slot),  lv_has ls 5 [(0, .ref (gz G + 107)), (1, .int x1), (2, .int x2), (3, .int x3), (4, .int x4)] → k12 x1 x2 x3 x4 mm = some r → WX V G N f mm 0 0 (QQ V G (some (.int r)) N f mm 0 0) 12 ls []) {x1 : Int32} {x2 : Int32} {x3 : Int32} {x4 : Int32}  (hl : lv_has ls 5 [(0, .ref (gz G + 107)), (1, .int x1), (2, .int x2), (3, .int x3), (4, .int x4)]) (hf : fX12_lineOf_12 n  k12 x1 x2 x3 x4 m = some r) : WX V G N f m 0 0 (QQ V G (some (.int r)) N f m 0 0) 12 ls [] := by
  unfold fX12_lineOf_12 at hf
  refine x_iload B dX12_lineOf_12 (lv_at hl 4 rfl) ?_
  refine x_aload_n B dX12_lineOf_14 rfl (lv_at hl 0 rfl) ?_
  refine y_getMr (C := RX12) (T := TX12) (NN := 34) (d := 0) (k2 := 108) B aM_107 inX12 rfl (j := 0) (by decide) q_1112 rfl rfl rfl dX12_lineOf_15 ?_
  refine x_bipush (v := (nI 8)) B dX12_lineOf_18 (by decide) ?_
  refine x_ialdM B aM_108 (by decide) dX12_lineOf_20 ?_
  refine x_icmp_ge (tgt := 66) B dX12_lineOf_21 (by decide) (fun h3 => ?_) (fun h3 => ?_)
  · have hf := ip h3 hf
    refine x_iload_n B dX12_lineOf_66 rfl (lv_at hl 3 rfl) ?_
    obtain rfl := rt1 hf
    exact x_iret B dX12_lineOf_67
  · have hf := iq h3 hf
    refine x_iload_n B dX12_lineOf_24 rfl (lv_at hl 3 rfl) ?_
    refine x_aload_n B dX12_lineOf_25 rfl (lv_at hl 0 rfl) ?_
    refine x_iload B dX12_lineOf_26 (lv_at hl 4 rfl) ?_
    refine x_iconst (v := (nI 1)) B dX12_lineOf_28 (by decide) ?_
    obtain ⟨r5, c4, hf⟩ := bn_some hf
    refine x_callV0 (rest := [.int x3]) B (kX12_step4 c4) ⟨rfl, rfl⟩ aM_107.lt aM_107.2 rfl (by decide) q_1242 q_1244 q_10 (by rw [hR]; exact cw_X12_lineOf_X12_step4) rfl rfl hl.1 (Nat.le_of_ble_eq_true rfl) dX12_lineOf_29 ⟨Nat.zero_le _, Nat.zero_le _⟩ ?_
    refine x_iload_n B dX12_lineOf_32 rfl (lv_at hl 1 rfl) ?_
    refine x_icmp_ne (tgt := 57) B dX12_lineOf_33 (by decide) (fun h6 => ?_) (fun h6 => ?_)
    · have hf := ip h6 hf
      refine x_aload_n B dX12_lineOf_36 rfl (lv_at hl 0 rfl) ?_
      refine x_iload B dX12_lineOf_37 (lv_at hl 4 rfl) ?_
      refine x_iconst (v := (nI 2)) B dX12_lineOf_39 (by decide) ?_
      obtain ⟨r8, c7, hf⟩ := bn_some hf
      refine x_callV0 (rest := [.int x3]) B (kX12_step4 c7) ⟨rfl, rfl⟩ aM_107.lt aM_107.2 rfl (by decide) q_1242 q_1244 q_10 (by rw [hR]; exact cw_X12_lineOf_X12_step4) rfl rfl hl.1 (Nat.le_of_ble_eq_true rfl) dX12_lineOf_40 ⟨Nat.zero_le _, Nat.zero_le _⟩ ?_
      refine x_iload_n B dX12_lineOf_43 rfl (lv_at hl 2 rfl) ?_
      refine x_icmp_gt (tgt := 57) B dX12_lineOf_44 (by decide) (fun h9 => ?_) (fun h9 => ?_)
      · have hf := ip h9 hf
        exact fX12_lineOf_57_ok B hR hk12 (lv_sub hl [0, 1, 2, 4] rfl) hf
      · have hf := iq h9 hf
        refine x_aload_n B dX12_lineOf_47 rfl (lv_at hl 0 rfl) ?_
        refine x_iload B dX12_lineOf_48 (lv_at hl 4 rfl) ?_
        refine x_iconst (v := (nI 3)) B dX12_lineOf_50 (by decide) ?_
        obtain ⟨r11, c10, hf⟩ := bn_some hf
        refine x_callV0 (rest := [.int x3]) B (kX12_step4 c10) ⟨rfl, rfl⟩ aM_107.lt aM_107.2 rfl (by decide) q_1242 q_1244 q_10 (by rw [hR]; exact cw_X12_lineOf_X12_step4) rfl rfl hl.1 (Nat.le_of_ble_eq_true rfl) dX12_lineOf_51 ⟨Nat.zero_le _, Nat.zero_le _⟩ ?_
        refine x_goto (tgt := 58) B dX12_lineOf_54 (by decide) ?_
        exact fX12_lineOf_58_ok B hR hk12 (lv_sub hl [0, 1, 2, 4] rfl) hf
    · have hf := iq h6 hf
      exact fX12_lineOf_57_ok B hR hk12 (lv_sub hl [0, 1, 2, 4] rfl) hf
set_option maxHeartbeats 4000000 in
set_option maxRecDepth 100000 in
theorem fX12_lineOf_12L_ok {V : VE} {G : GE} {N : Nat} {f : Mm} {n : Nat}  {r : Int32} (B : CX V G cX12_lineOf 5 "FluxWatchModel" (some .int)) (hR : V.2.2.2.1 = rmX12_lineOf)   : ∀ (q : Nat) (x1 : Int32) (x2 : Int32) (x3 : Int32) (x4 : Int32) (mm : Mm) (ls : Array Slot),  lv_has ls 5 [(0, .ref (gz G + 107)), (1, .int x1), (2, .int x2), (3, .int x3), (4, .int x4)] → fX12_lineOf_12L n  q x1 x2 x3 x4 mm = some r → WX V G N f mm 0 0 (QQ V G (some (.int r)) N f mm 0 0) 12 ls [] := by
  intro q
  induction q with
  | zero =>
    intro x1 x2 x3 x4 mm ls hl hf
    cases hf
  | succ q ih =>
    intro x1 x2 x3 x4 mm ls hl hf
    exact fX12_lineOf_12_ok B hR   ih  hl hf
def fX12_lineOf (n : Nat) (a1 : Int32) (a2 : Int32) (m : Mm) : Option (Int32) :=
  bn (fX12_coil3 n a1 (nI 1) m) fun r2 =>
  fX12_lineOf_12L n n a1 a2 (r2 * a2) (nI 0) m
set_option maxHeartbeats 4000000 in
set_option maxRecDepth 100000 in
theorem kX12_lineOf {l : Launch} {G : GE} {N : Nat} {f m : Mm} {n : Nat} {a1 : Int32} {a2 : Int32} {r : Int32}  (hf : fX12_lineOf n a1 a2 m = some r) : MT l G yX12_lineOf cX12_lineOf 5 (some .int) rmX12_lineOf [.ref (gz G + 107), .int a1, .int a2] N f m (some (.int r)) N f m := by
  unfold fX12_lineOf at hf
  refine MT.of (by decide) (Nat.le_of_ble_eq_true rfl) (fun V ls hV hR B hl => ?_)
  have B : CX V G cX12_lineOf 5 "FluxWatchModel" (some .int) := B
  have hl : lv_has ls 5 [(0, .ref (gz G + 107)), (1, .int a1), (2, .int a2)] := hl
  show WX V G N f m 0 0 (QQ V G (some (.int r)) N f m 0 0) 0 ls []
  refine x_aload_n B dX12_lineOf_0 rfl (lv_at hl 0 rfl) ?_
  refine x_iload_n B dX12_lineOf_1 rfl (lv_at hl 1 rfl) ?_
  refine x_iconst (v := (nI 1)) B dX12_lineOf_2 (by decide) ?_
  obtain ⟨r2, c1, hf⟩ := bn_some hf
  refine x_callV0 (rest := []) B (kX12_coil3 c1) ⟨rfl, rfl⟩ aM_107.lt aM_107.2 rfl (by decide) q_1233 q_1235 q_8 (by rw [hR]; exact cw_X12_lineOf_X12_coil3) rfl rfl hl.1 (Nat.le_of_ble_eq_true rfl) dX12_lineOf_3 ⟨Nat.zero_le _, Nat.zero_le _⟩ ?_
  refine x_iload_n B dX12_lineOf_6 rfl (lv_at hl 2 rfl) ?_
  refine x_imul B dX12_lineOf_7 ?_
  refine x_istore_n (lv' := [(3, .int (r2 * a2)), (0, .ref (gz G + 107)), (1, .int a1), (2, .int a2)]) B dX12_lineOf_8 rfl hl (by decide) rfl (fun ls hl => ?_)
  refine x_iconst (v := (nI 0)) B dX12_lineOf_9 (by decide) ?_
  refine x_istore (lv' := [(4, .int (nI 0)), (3, .int (r2 * a2)), (0, .ref (gz G + 107)), (1, .int a1), (2, .int a2)]) B dX12_lineOf_10 hl (by decide) rfl (fun ls hl => ?_)
  exact fX12_lineOf_12L_ok B hR  n _ _ _ _ _ _ (lv_sub hl [2, 3, 4, 1, 0] rfl) hf
def rmX12_line : Room := { frames := 2, cells := 0, slots := 0, locals := 46 }
set_option maxHeartbeats 4000000 in
set_option maxRecDepth 100000 in
theorem cw_X12_line_X12_isCoil : cwB rmX12_line rmX12_isCoil yX12_isCoil cX12_isCoil 2 (some .boolean) 1 := ⟨q_1232, q_57, by decide, by decide⟩
set_option maxHeartbeats 4000000 in
set_option maxRecDepth 100000 in
theorem cw_X12_line_X12_isDay : cwB rmX12_line rmX12_isDay yX12_isDay cX12_isDay 1 (some .boolean) 1 := ⟨q_1268, q_57, by decide, by decide⟩
set_option maxHeartbeats 4000000 in
set_option maxRecDepth 100000 in
theorem cw_X12_line_X12_lineOf : cwB rmX12_line rmX12_lineOf yX12_lineOf cX12_lineOf 5 (some .int) 2 := ⟨q_1284, q_57, by decide, by decide⟩
def fX12_line (n : Nat) (a1 : Int32) (a2 : Int32) (m : Mm) : Option (Int32) :=
  bn (fX12_isCoil n a1 m) fun r2 =>
  if r2 = 0 then (
  some (-1000000001 : Int32)) else (
  bn (fX12_isDay n a2) fun r5 =>
  if r5 = 0 then (
  some (-1000000001 : Int32)) else (
  bn (fX12_lineOf n a1 a2 m) fun r8 =>
  some r8))
set_option maxHeartbeats 4000000 in
set_option maxRecDepth 100000 in
theorem kX12_line {l : Launch} {G : GE} {N : Nat} {f m : Mm} {n : Nat} {a1 : Int32} {a2 : Int32} {r : Int32}  (hf : fX12_line n a1 a2 m = some r) : MT l G yX12_line cX12_line 3 (some .int) rmX12_line [.ref (gz G + 107), .int a1, .int a2] N f m (some (.int r)) N f m := by
  unfold fX12_line at hf
  refine MT.of (by decide) (Nat.le_of_ble_eq_true rfl) (fun V ls hV hR B hl => ?_)
  have B : CX V G cX12_line 3 "FluxWatchModel" (some .int) := B
  have hl : lv_has ls 3 [(0, .ref (gz G + 107)), (1, .int a1), (2, .int a2)] := hl
  show WX V G N f m 0 0 (QQ V G (some (.int r)) N f m 0 0) 0 ls []
  refine x_aload_n B dX12_line_0 rfl (lv_at hl 0 rfl) ?_
  refine x_iload_n B dX12_line_1 rfl (lv_at hl 1 rfl) ?_
  obtain ⟨r2, c1, hf⟩ := bn_some hf
  refine x_callV0 (rest := []) B (kX12_isCoil c1) ⟨rfl, rfl⟩ aM_107.lt aM_107.2 rfl (by decide) q_1229 q_1231 q_7 (by rw [hR]; exact cw_X12_line_X12_isCoil) rfl rfl hl.1 (Nat.le_of_ble_eq_true rfl) dX12_line_2 ⟨Nat.zero_le _, Nat.zero_le _⟩ ?_
  refine x_if_eq (tgt := 24) B dX12_line_5 (by decide) (fun h3 => ?_) (fun h3 => ?_)
  · have hf := ip h3 hf
    refine x_ldc (v := (-1000000001 : Int32)) B q_1223 dX12_line_24 ?_
    obtain rfl := rt1 hf
    exact x_iret B dX12_line_26
  · have hf := iq h3 hf
    refine x_iload_n B dX12_line_8 rfl (lv_at hl 2 rfl) ?_
    obtain ⟨r5, c4, hf⟩ := bn_some hf
    refine x_callS0 (rest := []) B (kX12_isDay c4) ⟨rfl, rfl⟩ q_1266 q_1267 (by rw [hR]; exact cw_X12_line_X12_isDay) rfl rfl hl.1 (Nat.le_of_ble_eq_true rfl) dX12_line_9 ⟨Nat.zero_le _, Nat.zero_le _⟩ ?_
    refine x_if_eq (tgt := 24) B dX12_line_12 (by decide) (fun h6 => ?_) (fun h6 => ?_)
    · have hf := ip h6 hf
      refine x_ldc (v := (-1000000001 : Int32)) B q_1223 dX12_line_24 ?_
      obtain rfl := rt1 hf
      exact x_iret B dX12_line_26
    · have hf := iq h6 hf
      refine x_aload_n B dX12_line_15 rfl (lv_at hl 0 rfl) ?_
      refine x_iload_n B dX12_line_16 rfl (lv_at hl 1 rfl) ?_
      refine x_iload_n B dX12_line_17 rfl (lv_at hl 2 rfl) ?_
      obtain ⟨r8, c7, hf⟩ := bn_some hf
      refine x_callV0 (rest := []) B (kX12_lineOf c7) ⟨rfl, rfl⟩ aM_107.lt aM_107.2 rfl (by decide) q_1281 q_1283 q_12 (by rw [hR]; exact cw_X12_line_X12_lineOf) rfl rfl hl.1 (Nat.le_of_ble_eq_true rfl) dX12_line_18 ⟨Nat.zero_le _, Nat.zero_le _⟩ ?_
      refine x_goto (tgt := 26) B dX12_line_21 (by decide) ?_
      obtain rfl := rt1 hf
      exact x_iret B dX12_line_26
def rmX12_mark : Room := { frames := 2, cells := 0, slots := 0, locals := 42 }
set_option maxHeartbeats 4000000 in
set_option maxRecDepth 100000 in
theorem cw_X12_mark_X12_in : cwB rmX12_mark rmX12_in yX12_in cX12_in 3 (some .boolean) 3 := ⟨q_1222, q_57, by decide, by decide⟩
set_option maxHeartbeats 4000000 in
set_option maxRecDepth 100000 in
theorem cw_X12_mark_X12_isSheet : cwB rmX12_mark rmX12_isSheet yX12_isSheet cX12_isSheet 1 (some .boolean) 1 := ⟨q_1550, q_57, by decide, by decide⟩
def fX12_mark_118 (n : Nat)   (s0 : Int32) (s1 : Int32) (m : Mm) : Option (Int32 × Mm) :=
  gd (ib s1 96) <|
  lt (up m 123 s1.toNatClampNeg s0) fun f19 =>
  some ((nI 1), f19)
set_option maxHeartbeats 4000000 in
set_option maxRecDepth 100000 in
theorem fX12_mark_118_ok {V : VE} {G : GE} {N : Nat} {f m : Mm} {n : Nat} {ls : Array Slot} {r : Int32} {g : Mm} (B : CX V G cX12_mark 4 "FluxWatchModel" (some .int)) (hR : V.2.2.2.1 = rmX12_mark)   {s0 : Int32} {s1 : Int32}  (hl : lv_has ls 4 []) (hf : fX12_mark_118 n  s0 s1 m = some (r, g)) : WX V G N f m 0 0 (QQ V G (some (.int r)) N f g 0 0) 118 ls [.int s0, .int s1, .ref (gz G + 123)] := by
  unfold fX12_mark_118 at hf
  obtain ⟨h18, hf⟩ := gd_some hf
  refine x_iastM B aM_123 h18 dX12_mark_118 (fun f19 e20 => ?_)
  have hf := lt_some hf e20
  refine x_iconst (v := (nI 1)) B dX12_mark_119 (by decide) ?_
  obtain ⟨rfl, rfl⟩ := rt2 hf
  exact x_iret B dX12_mark_120
def fX12_mark_93 (n : Nat)   (x1 : Int32) (x2 : Int32) (x3 : Int32) (m : Mm) : Option (Int32 × Mm) :=
  gd (ib x1 4) <|
  if (m 121 x1.toNatClampNeg) = 0 then (
  fX12_mark_118 n (i2sI x3) (((nI 24) * x1) + x2) m) else (
  fX12_mark_118 n x3 (((nI 24) * x1) + x2) m)
set_option maxHeartbeats 4000000 in
set_option maxRecDepth 100000 in
theorem fX12_mark_93_ok {V : VE} {G : GE} {N : Nat} {f m : Mm} {n : Nat} {ls : Array Slot} {r : Int32} {g : Mm} (B : CX V G cX12_mark 4 "FluxWatchModel" (some .int)) (hR : V.2.2.2.1 = rmX12_mark)   {x1 : Int32} {x2 : Int32} {x3 : Int32}  (hl : lv_has ls 4 [(0, .ref (gz G + 107)), (1, .int x1), (2, .int x2), (3, .int x3)]) (hf : fX12_mark_93 n  x1 x2 x3 m = some (r, g)) : WX V G N f m 0 0 (QQ V G (some (.int r)) N f g 0 0) 93 ls [] := by
  unfold fX12_mark_93 at hf
  refine x_aload_n B dX12_mark_93 rfl (lv_at hl 0 rfl) ?_
  refine y_getMr (C := RX12) (T := TX12) (NN := 34) (d := 15) (k2 := 123) B aM_107 inX12 rfl (j := 26) (by decide) q_1138 rfl rfl rfl dX12_mark_94 ?_
  refine x_bipush (v := (nI 24)) B dX12_mark_97 (by decide) ?_
  refine x_iload_n B dX12_mark_99 rfl (lv_at hl 1 rfl) ?_
  refine x_imul B dX12_mark_100 ?_
  refine x_iload_n B dX12_mark_101 rfl (lv_at hl 2 rfl) ?_
  refine x_iadd B dX12_mark_102 ?_
  refine x_aload_n B dX12_mark_103 rfl (lv_at hl 0 rfl) ?_
  refine y_getMr (C := RX12) (T := TX12) (NN := 34) (d := 13) (k2 := 121) B aM_107 inX12 rfl (j := 24) (by decide) q_1136 rfl rfl rfl dX12_mark_104 ?_
  refine x_iload_n B dX12_mark_107 rfl (lv_at hl 1 rfl) ?_
  obtain ⟨h16, hf⟩ := gd_some hf
  refine x_ialdM B aM_121 h16 dX12_mark_108 ?_
  refine x_if_ne (tgt := 117) B dX12_mark_109 (by decide) (fun h17 => ?_) (fun h17 => ?_)
  · have hf := ip h17 hf
    refine x_iload_n B dX12_mark_112 rfl (lv_at hl 3 rfl) ?_
    refine y_i2s B dX12_mark_113 ?_
    refine x_goto (tgt := 118) B dX12_mark_114 (by decide) ?_
    exact fX12_mark_118_ok B hR  (lv_sub hl [] rfl) hf
  · have hf := iq h17 hf
    refine x_iload_n B dX12_mark_117 rfl (lv_at hl 3 rfl) ?_
    exact fX12_mark_118_ok B hR  (lv_sub hl [] rfl) hf
def fX12_mark_61 (n : Nat)   (x1 : Int32) (x2 : Int32) (x3 : Int32) (m : Mm) : Option (Int32 × Mm) :=
  gd (ib x1 4) <|
  if (m 121 x1.toNatClampNeg) = (nI 1) then (
  if x3 = (-1000000005 : Int32) then (
  fX12_mark_93 n x1 x2 x3 m) else (
  bn (fX12_in n x3 (-99999 : Int32) (nI 99999)) fun r22 =>
  if r22 = 0 then (
  some ((-1000000001 : Int32), m)) else (
  fX12_mark_93 n x1 x2 x3 m))) else (
  fX12_mark_93 n x1 x2 x3 m)
set_option maxHeartbeats 4000000 in
set_option maxRecDepth 100000 in
theorem fX12_mark_61_ok {V : VE} {G : GE} {N : Nat} {f m : Mm} {n : Nat} {ls : Array Slot} {r : Int32} {g : Mm} (B : CX V G cX12_mark 4 "FluxWatchModel" (some .int)) (hR : V.2.2.2.1 = rmX12_mark)   {x1 : Int32} {x2 : Int32} {x3 : Int32}  (hl : lv_has ls 4 [(0, .ref (gz G + 107)), (1, .int x1), (2, .int x2), (3, .int x3)]) (hf : fX12_mark_61 n  x1 x2 x3 m = some (r, g)) : WX V G N f m 0 0 (QQ V G (some (.int r)) N f g 0 0) 61 ls [] := by
  unfold fX12_mark_61 at hf
  refine x_aload_n B dX12_mark_61 rfl (lv_at hl 0 rfl) ?_
  refine y_getMr (C := RX12) (T := TX12) (NN := 34) (d := 13) (k2 := 121) B aM_107 inX12 rfl (j := 24) (by decide) q_1136 rfl rfl rfl dX12_mark_62 ?_
  refine x_iload_n B dX12_mark_65 rfl (lv_at hl 1 rfl) ?_
  obtain ⟨h13, hf⟩ := gd_some hf
  refine x_ialdM B aM_121 h13 dX12_mark_66 ?_
  refine x_iconst (v := (nI 1)) B dX12_mark_67 (by decide) ?_
  refine x_icmp_ne (tgt := 93) B dX12_mark_68 (by decide) (fun h14 => ?_) (fun h14 => ?_)
  · have hf := ip h14 hf
    refine x_iload_n B dX12_mark_71 rfl (lv_at hl 3 rfl) ?_
    refine x_ldc (v := (-1000000005 : Int32)) B q_1237 dX12_mark_72 ?_
    refine x_icmp_eq (tgt := 93) B dX12_mark_74 (by decide) (fun h15 => ?_) (fun h15 => ?_)
    · have hf := ip h15 hf
      exact fX12_mark_93_ok B hR  hl hf
    · have hf := iq h15 hf
      refine x_iload_n B dX12_mark_77 rfl (lv_at hl 3 rfl) ?_
      refine x_ldc_w (v := (-99999 : Int32)) B q_1558 dX12_mark_78 ?_
      refine x_ldc_w (v := (nI 99999)) B q_1559 dX12_mark_81 ?_
      obtain ⟨r22, c21, hf⟩ := bn_some hf
      refine x_callS0 (rest := []) B (kX12_in c21) ⟨rfl, rfl⟩ q_1220 q_1221 (by rw [hR]; exact cw_X12_mark_X12_in) rfl rfl hl.1 (Nat.le_of_ble_eq_true rfl) dX12_mark_84 ⟨Nat.zero_le _, Nat.zero_le _⟩ ?_
      refine x_if_ne (tgt := 93) B dX12_mark_87 (by decide) (fun h23 => ?_) (fun h23 => ?_)
      · have hf := ip h23 hf
        refine x_ldc (v := (-1000000001 : Int32)) B q_1223 dX12_mark_90 ?_
        obtain ⟨rfl, rfl⟩ := rt2 hf
        exact x_iret B dX12_mark_92
      · have hf := iq h23 hf
        exact fX12_mark_93_ok B hR  hl hf
  · have hf := iq h14 hf
    exact fX12_mark_93_ok B hR  hl hf
def fX12_mark (n : Nat) (a1 : Int32) (a2 : Int32) (a3 : Int32) (m : Mm) : Option (Int32 × Mm) :=
  bn (fX12_isSheet n a1) fun r2 =>
  if r2 = 0 then (
  some ((-1000000001 : Int32), m)) else (
  gd (ib a1 4) <|
  if 0 ≤ (m 121 a1.toNatClampNeg) then (
  gd (ib a1 4) <|
  bn (fX12_in n a2 (nI 0) ((m 122 a1.toNatClampNeg) - (nI 1))) fun r8 =>
  if r8 = 0 then (
  some ((-1000000013 : Int32), m)) else (
  gd (ib a1 4) <|
  if (m 121 a1.toNatClampNeg) = 0 then (
  if a3 = (-1000000005 : Int32) then (
  some ((-1000000012 : Int32), m)) else (
  fX12_mark_61 n a1 a2 a3 m)) else (
  fX12_mark_61 n a1 a2 a3 m))) else (
  some ((-1000000011 : Int32), m)))
set_option maxHeartbeats 4000000 in
set_option maxRecDepth 100000 in
theorem kX12_mark {l : Launch} {G : GE} {N : Nat} {f m : Mm} {n : Nat} {a1 : Int32} {a2 : Int32} {a3 : Int32} {r : Int32} {g : Mm}  (hf : fX12_mark n a1 a2 a3 m = some (r, g)) : MT l G yX12_mark cX12_mark 4 (some .int) rmX12_mark [.ref (gz G + 107), .int a1, .int a2, .int a3] N f m (some (.int r)) N f g := by
  unfold fX12_mark at hf
  refine MT.of (by decide) (Nat.le_of_ble_eq_true rfl) (fun V ls hV hR B hl => ?_)
  have B : CX V G cX12_mark 4 "FluxWatchModel" (some .int) := B
  have hl : lv_has ls 4 [(0, .ref (gz G + 107)), (1, .int a1), (2, .int a2), (3, .int a3)] := hl
  show WX V G N f m 0 0 (QQ V G (some (.int r)) N f g 0 0) 0 ls []
  refine x_iload_n B dX12_mark_0 rfl (lv_at hl 1 rfl) ?_
  obtain ⟨r2, c1, hf⟩ := bn_some hf
  refine x_callS0 (rest := []) B (kX12_isSheet c1) ⟨rfl, rfl⟩ q_1548 q_1549 (by rw [hR]; exact cw_X12_mark_X12_isSheet) rfl rfl hl.1 (Nat.le_of_ble_eq_true rfl) dX12_mark_1 ⟨Nat.zero_le _, Nat.zero_le _⟩ ?_
  refine x_if_ne (tgt := 10) B dX12_mark_4 (by decide) (fun h3 => ?_) (fun h3 => ?_)
  · have hf := ip h3 hf
    refine x_ldc (v := (-1000000001 : Int32)) B q_1223 dX12_mark_7 ?_
    obtain ⟨rfl, rfl⟩ := rt2 hf
    exact x_iret B dX12_mark_9
  · have hf := iq h3 hf
    refine x_aload_n B dX12_mark_10 rfl (lv_at hl 0 rfl) ?_
    refine y_getMr (C := RX12) (T := TX12) (NN := 34) (d := 13) (k2 := 121) B aM_107 inX12 rfl (j := 24) (by decide) q_1136 rfl rfl rfl dX12_mark_11 ?_
    refine x_iload_n B dX12_mark_14 rfl (lv_at hl 1 rfl) ?_
    obtain ⟨h4, hf⟩ := gd_some hf
    refine x_ialdM B aM_121 h4 dX12_mark_15 ?_
    refine x_if_ge (tgt := 23) B dX12_mark_16 (by decide) (fun h5 => ?_) (fun h5 => ?_)
    · have hf := ip h5 hf
      refine x_iload_n B dX12_mark_23 rfl (lv_at hl 2 rfl) ?_
      refine x_iconst (v := (nI 0)) B dX12_mark_24 (by decide) ?_
      refine x_aload_n B dX12_mark_25 rfl (lv_at hl 0 rfl) ?_
      refine y_getMr (C := RX12) (T := TX12) (NN := 34) (d := 14) (k2 := 122) B aM_107 inX12 rfl (j := 25) (by decide) q_1137 rfl rfl rfl dX12_mark_26 ?_
      refine x_iload_n B dX12_mark_29 rfl (lv_at hl 1 rfl) ?_
      obtain ⟨h6, hf⟩ := gd_some hf
      refine x_ialdM B aM_122 h6 dX12_mark_30 ?_
      refine x_iconst (v := (nI 1)) B dX12_mark_31 (by decide) ?_
      refine x_isub B dX12_mark_32 ?_
      obtain ⟨r8, c7, hf⟩ := bn_some hf
      refine x_callS0 (rest := []) B (kX12_in c7) ⟨rfl, rfl⟩ q_1220 q_1221 (by rw [hR]; exact cw_X12_mark_X12_in) rfl rfl hl.1 (Nat.le_of_ble_eq_true rfl) dX12_mark_33 ⟨Nat.zero_le _, Nat.zero_le _⟩ ?_
      refine x_if_ne (tgt := 43) B dX12_mark_36 (by decide) (fun h9 => ?_) (fun h9 => ?_)
      · have hf := ip h9 hf
        refine x_ldc_w (v := (-1000000013 : Int32)) B q_1557 dX12_mark_39 ?_
        obtain ⟨rfl, rfl⟩ := rt2 hf
        exact x_iret B dX12_mark_42
      · have hf := iq h9 hf
        refine x_aload_n B dX12_mark_43 rfl (lv_at hl 0 rfl) ?_
        refine y_getMr (C := RX12) (T := TX12) (NN := 34) (d := 13) (k2 := 121) B aM_107 inX12 rfl (j := 24) (by decide) q_1136 rfl rfl rfl dX12_mark_44 ?_
        refine x_iload_n B dX12_mark_47 rfl (lv_at hl 1 rfl) ?_
        obtain ⟨h10, hf⟩ := gd_some hf
        refine x_ialdM B aM_121 h10 dX12_mark_48 ?_
        refine x_if_ne (tgt := 61) B dX12_mark_49 (by decide) (fun h11 => ?_) (fun h11 => ?_)
        · have hf := ip h11 hf
          refine x_iload_n B dX12_mark_52 rfl (lv_at hl 3 rfl) ?_
          refine x_ldc (v := (-1000000005 : Int32)) B q_1237 dX12_mark_53 ?_
          refine x_icmp_ne (tgt := 61) B dX12_mark_55 (by decide) (fun h12 => ?_) (fun h12 => ?_)
          · have hf := ip h12 hf
            refine x_ldc (v := (-1000000012 : Int32)) B q_1327 dX12_mark_58 ?_
            obtain ⟨rfl, rfl⟩ := rt2 hf
            exact x_iret B dX12_mark_60
          · have hf := iq h12 hf
            exact fX12_mark_61_ok B hR  hl hf
        · have hf := iq h11 hf
          exact fX12_mark_61_ok B hR  hl hf
    · have hf := iq h5 hf
      refine x_ldc_w (v := (-1000000011 : Int32)) B q_1556 dX12_mark_19 ?_
      obtain ⟨rfl, rfl⟩ := rt2 hf
      exact x_iret B dX12_mark_22
def rmX12_nameOf : Room := { frames := 0, cells := 0, slots := 0, locals := 0 }
def fX12_nameOf_26 (n : Nat)   (x1 : Int32) (s0 : Int32) (m : Mm) : Option (Int32) :=
  if x1 = (nI 115) then (
  some (nI 0)) else (
  if x1 = (nI 100) then (
  some (nI 1)) else (
  if x1 = s0 then (
  some (nI 2)) else (
  some (-1 : Int32))))
set_option maxHeartbeats 4000000 in
set_option maxRecDepth 100000 in
theorem fX12_nameOf_26_ok {V : VE} {G : GE} {N : Nat} {f m : Mm} {n : Nat} {ls : Array Slot} {r : Int32} (B : CX V G cX12_nameOf 3 "FluxWatchModel" (some .int)) (hR : V.2.2.2.1 = rmX12_nameOf)   {x1 : Int32} {s0 : Int32}  (hl : lv_has ls 3 [(1, .int x1)]) (hf : fX12_nameOf_26 n  x1 s0 m = some r) : WX V G N f m 0 0 (QQ V G (some (.int r)) N f m 0 0) 26 ls [.int s0] := by
  unfold fX12_nameOf_26 at hf
  refine x_istore_n (lv' := [(2, .int s0), (1, .int x1)]) B dX12_nameOf_26 rfl hl (by decide) rfl (fun ls hl => ?_)
  refine x_iload_n B dX12_nameOf_27 rfl (lv_at hl 1 rfl) ?_
  refine x_bipush (v := (nI 115)) B dX12_nameOf_28 (by decide) ?_
  refine x_icmp_ne (tgt := 37) B dX12_nameOf_30 (by decide) (fun h2 => ?_) (fun h2 => ?_)
  · have hf := ip h2 hf
    refine x_iconst (v := (nI 0)) B dX12_nameOf_33 (by decide) ?_
    refine x_goto (tgt := 57) B dX12_nameOf_34 (by decide) ?_
    obtain rfl := rt1 hf
    exact x_iret B dX12_nameOf_57
  · have hf := iq h2 hf
    refine x_iload_n B dX12_nameOf_37 rfl (lv_at hl 1 rfl) ?_
    refine x_bipush (v := (nI 100)) B dX12_nameOf_38 (by decide) ?_
    refine x_icmp_ne (tgt := 47) B dX12_nameOf_40 (by decide) (fun h3 => ?_) (fun h3 => ?_)
    · have hf := ip h3 hf
      refine x_iconst (v := (nI 1)) B dX12_nameOf_43 (by decide) ?_
      refine x_goto (tgt := 57) B dX12_nameOf_44 (by decide) ?_
      obtain rfl := rt1 hf
      exact x_iret B dX12_nameOf_57
    · have hf := iq h3 hf
      refine x_iload_n B dX12_nameOf_47 rfl (lv_at hl 1 rfl) ?_
      refine x_iload_n B dX12_nameOf_48 rfl (lv_at hl 0 rfl) ?_
      refine x_icmp_ne (tgt := 56) B dX12_nameOf_49 (by decide) (fun h4 => ?_) (fun h4 => ?_)
      · have hf := ip h4 hf
        refine x_iconst (v := (nI 2)) B dX12_nameOf_52 (by decide) ?_
        refine x_goto (tgt := 57) B dX12_nameOf_53 (by decide) ?_
        obtain rfl := rt1 hf
        exact x_iret B dX12_nameOf_57
      · have hf := iq h4 hf
        refine x_iconst (v := (-1 : Int32)) B dX12_nameOf_56 (by decide) ?_
        obtain rfl := rt1 hf
        exact x_iret B dX12_nameOf_57
def fX12_nameOf (n : Nat) (a1 : Int32) (m : Mm) : Option (Int32) :=
  if (m 107 11) = 0 then (
  fX12_nameOf_26 n a1 (nI 119) m) else (
  if (m 107 11) = (nI 1) then (
  fX12_nameOf_26 n a1 (nI 112) m) else (
  fX12_nameOf_26 n a1 (-1 : Int32) m))
set_option maxHeartbeats 4000000 in
set_option maxRecDepth 100000 in
theorem kX12_nameOf {l : Launch} {G : GE} {N : Nat} {f m : Mm} {n : Nat} {a1 : Int32} {r : Int32}  (hf : fX12_nameOf n a1 m = some r) : MT l G yX12_nameOf cX12_nameOf 3 (some .int) rmX12_nameOf [.ref (gz G + 107), .int a1] N f m (some (.int r)) N f m := by
  unfold fX12_nameOf at hf
  refine MT.of (by decide) (Nat.le_of_ble_eq_true rfl) (fun V ls hV hR B hl => ?_)
  have B : CX V G cX12_nameOf 3 "FluxWatchModel" (some .int) := B
  have hl : lv_has ls 3 [(0, .ref (gz G + 107)), (1, .int a1)] := hl
  show WX V G N f m 0 0 (QQ V G (some (.int r)) N f m 0 0) 0 ls []
  refine x_aload_n B dX12_nameOf_0 rfl (lv_at hl 0 rfl) ?_
  refine y_getMi (C := RX12) (T := TX12) (NN := 34) B aM_107 inX12 rfl (j := 11) (by decide) q_1123 rfl rfl dX12_nameOf_1 ?_
  refine x_if_ne (tgt := 12) B dX12_nameOf_4 (by decide) (fun h1 => ?_) (fun h1 => ?_)
  · have hf := ip h1 hf
    refine x_bipush (v := (nI 119)) B dX12_nameOf_7 (by decide) ?_
    refine x_goto (tgt := 26) B dX12_nameOf_9 (by decide) ?_
    exact fX12_nameOf_26_ok B hR  (lv_sub hl [1] rfl) hf
  · have hf := iq h1 hf
    refine x_aload_n B dX12_nameOf_12 rfl (lv_at hl 0 rfl) ?_
    refine y_getMi (C := RX12) (T := TX12) (NN := 34) B aM_107 inX12 rfl (j := 11) (by decide) q_1123 rfl rfl dX12_nameOf_13 ?_
    refine x_iconst (v := (nI 1)) B dX12_nameOf_16 (by decide) ?_
    refine x_icmp_ne (tgt := 25) B dX12_nameOf_17 (by decide) (fun h5 => ?_) (fun h5 => ?_)
    · have hf := ip h5 hf
      refine x_bipush (v := (nI 112)) B dX12_nameOf_20 (by decide) ?_
      refine x_goto (tgt := 26) B dX12_nameOf_22 (by decide) ?_
      exact fX12_nameOf_26_ok B hR  (lv_sub hl [1] rfl) hf
    · have hf := iq h5 hf
      refine x_iconst (v := (-1 : Int32)) B dX12_nameOf_25 (by decide) ?_
      exact fX12_nameOf_26_ok B hR  (lv_sub hl [1] rfl) hf
def rmX12_news : Room := { frames := 4, cells := 0, slots := 0, locals := 92 }
set_option maxHeartbeats 4000000 in
set_option maxRecDepth 100000 in
theorem cw_X12_news_X12_fitsOn : cwB rmX12_news rmX12_fitsOn yX12_fitsOn cX12_fitsOn 3 (some .boolean) 1 := ⟨q_1390, q_57, by decide, by decide⟩
set_option maxHeartbeats 4000000 in
set_option maxRecDepth 100000 in
theorem cw_X12_news_X12_in : cwB rmX12_news rmX12_in yX12_in cX12_in 3 (some .boolean) 3 := ⟨q_1222, q_57, by decide, by decide⟩
set_option maxHeartbeats 4000000 in
set_option maxRecDepth 100000 in
theorem cw_X12_news_X12_isDay : cwB rmX12_news rmX12_isDay yX12_isDay cX12_isDay 1 (some .boolean) 1 := ⟨q_1268, q_57, by decide, by decide⟩
set_option maxHeartbeats 4000000 in
set_option maxRecDepth 100000 in
theorem cw_X12_news_X12_knockBy : cwB rmX12_news rmX12_knockBy yX12_knockBy cX12_knockBy 4 (some .int) 2 := ⟨q_1373, q_57, by decide, by decide⟩
set_option maxHeartbeats 4000000 in
set_option maxRecDepth 100000 in
theorem cw_X12_news_X12_rateBy : cwB rmX12_news rmX12_rateBy yX12_rateBy cX12_rateBy 4 (some .int) 2 := ⟨q_1355, q_57, by decide, by decide⟩
set_option maxHeartbeats 4000000 in
set_option maxRecDepth 100000 in
theorem cw_X12_news_X12_seenOn : cwB rmX12_news rmX12_seenOn yX12_seenOn cX12_seenOn 4 (some .int) 1 := ⟨q_1276, q_57, by decide, by decide⟩
def fX12_news (n : Nat) (a1 : Int32) (a2 : Int32) (m : Mm) : Option (Int32 × Mm) :=
  bn (fX12_isDay n a1) fun r2 =>
  if r2 = 0 then (
  some ((-1000000001 : Int32), m)) else (
  bn (fX12_in n a2 (nI 0) (nI 2)) fun r5 =>
  if r5 = 0 then (
  some ((-1000000001 : Int32), m)) else (
  if a2 = (nI 2) then (
  bn (fX12_fitsOn n a1 m) fun r9 =>
  if r9 = 0 then (
  some ((nI 0), m)) else (
  some ((nI 1), m))) else (
  if a2 = 0 then (
  bn (fX12_seenOn n a1 m) fun r13 =>
  bn2 (fX12_rateBy n r13 a1 m) fun r16 f15 =>
  some (r16, f15)) else (
  bn (fX12_seenOn n a1 m) fun r18 =>
  bn2 (fX12_knockBy n r18 a1 m) fun r21 f20 =>
  some (r21, f20)))))
set_option maxHeartbeats 4000000 in
set_option maxRecDepth 100000 in
theorem kX12_news {l : Launch} {G : GE} {N : Nat} {f m : Mm} {n : Nat} {a1 : Int32} {a2 : Int32} {r : Int32} {g : Mm}  (hf : fX12_news n a1 a2 m = some (r, g)) : MT l G yX12_news cX12_news 3 (some .int) rmX12_news [.ref (gz G + 107), .int a1, .int a2] N f m (some (.int r)) N f g := by
  unfold fX12_news at hf
  refine MT.of (by decide) (Nat.le_of_ble_eq_true rfl) (fun V ls hV hR B hl => ?_)
  have B : CX V G cX12_news 3 "FluxWatchModel" (some .int) := B
  have hl : lv_has ls 3 [(0, .ref (gz G + 107)), (1, .int a1), (2, .int a2)] := hl
  show WX V G N f m 0 0 (QQ V G (some (.int r)) N f g 0 0) 0 ls []
  refine x_iload_n B dX12_news_0 rfl (lv_at hl 1 rfl) ?_
  obtain ⟨r2, c1, hf⟩ := bn_some hf
  refine x_callS0 (rest := []) B (kX12_isDay c1) ⟨rfl, rfl⟩ q_1266 q_1267 (by rw [hR]; exact cw_X12_news_X12_isDay) rfl rfl hl.1 (Nat.le_of_ble_eq_true rfl) dX12_news_1 ⟨Nat.zero_le _, Nat.zero_le _⟩ ?_
  refine x_if_eq (tgt := 16) B dX12_news_4 (by decide) (fun h3 => ?_) (fun h3 => ?_)
  · have hf := ip h3 hf
    refine x_ldc (v := (-1000000001 : Int32)) B q_1223 dX12_news_16 ?_
    obtain ⟨rfl, rfl⟩ := rt2 hf
    exact x_iret B dX12_news_18
  · have hf := iq h3 hf
    refine x_iload_n B dX12_news_7 rfl (lv_at hl 2 rfl) ?_
    refine x_iconst (v := (nI 0)) B dX12_news_8 (by decide) ?_
    refine x_iconst (v := (nI 2)) B dX12_news_9 (by decide) ?_
    obtain ⟨r5, c4, hf⟩ := bn_some hf
    refine x_callS0 (rest := []) B (kX12_in c4) ⟨rfl, rfl⟩ q_1220 q_1221 (by rw [hR]; exact cw_X12_news_X12_in) rfl rfl hl.1 (Nat.le_of_ble_eq_true rfl) dX12_news_10 ⟨Nat.zero_le _, Nat.zero_le _⟩ ?_
    refine x_if_ne (tgt := 19) B dX12_news_13 (by decide) (fun h6 => ?_) (fun h6 => ?_)
    · have hf := ip h6 hf
      refine x_ldc (v := (-1000000001 : Int32)) B q_1223 dX12_news_16 ?_
      obtain ⟨rfl, rfl⟩ := rt2 hf
      exact x_iret B dX12_news_18
    · have hf := iq h6 hf
      refine x_iload_n B dX12_news_19 rfl (lv_at hl 2 rfl) ?_
      refine x_iconst (v := (nI 2)) B dX12_news_20 (by decide) ?_
      refine x_icmp_ne (tgt := 38) B dX12_news_21 (by decide) (fun h7 => ?_) (fun h7 => ?_)
      · have hf := ip h7 hf
        refine x_aload_n B dX12_news_24 rfl (lv_at hl 0 rfl) ?_
        refine x_iload_n B dX12_news_25 rfl (lv_at hl 1 rfl) ?_
        obtain ⟨r9, c8, hf⟩ := bn_some hf
        refine x_callV0 (rest := []) B (kX12_fitsOn c8) ⟨rfl, rfl⟩ aM_107.lt aM_107.2 rfl (by decide) q_1387 q_1389 q_27 (by rw [hR]; exact cw_X12_news_X12_fitsOn) rfl rfl hl.1 (Nat.le_of_ble_eq_true rfl) dX12_news_26 ⟨Nat.zero_le _, Nat.zero_le _⟩ ?_
        refine x_if_eq (tgt := 36) B dX12_news_29 (by decide) (fun h10 => ?_) (fun h10 => ?_)
        · have hf := ip h10 hf
          refine x_iconst (v := (nI 0)) B dX12_news_36 (by decide) ?_
          obtain ⟨rfl, rfl⟩ := rt2 hf
          exact x_iret B dX12_news_37
        · have hf := iq h10 hf
          refine x_iconst (v := (nI 1)) B dX12_news_32 (by decide) ?_
          refine x_goto (tgt := 37) B dX12_news_33 (by decide) ?_
          obtain ⟨rfl, rfl⟩ := rt2 hf
          exact x_iret B dX12_news_37
      · have hf := iq h7 hf
        refine x_iload_n B dX12_news_38 rfl (lv_at hl 2 rfl) ?_
        refine x_if_ne (tgt := 55) B dX12_news_39 (by decide) (fun h11 => ?_) (fun h11 => ?_)
        · have hf := ip h11 hf
          refine x_aload_n B dX12_news_42 rfl (lv_at hl 0 rfl) ?_
          refine x_aload_n B dX12_news_43 rfl (lv_at hl 0 rfl) ?_
          refine x_iload_n B dX12_news_44 rfl (lv_at hl 1 rfl) ?_
          obtain ⟨r13, c12, hf⟩ := bn_some hf
          refine x_callV0 (rest := [.ref (gz G + 107)]) B (kX12_seenOn c12) ⟨rfl, rfl⟩ aM_107.lt aM_107.2 rfl (by decide) q_1273 q_1275 q_11 (by rw [hR]; exact cw_X12_news_X12_seenOn) rfl rfl hl.1 (Nat.le_of_ble_eq_true rfl) dX12_news_45 ⟨Nat.zero_le _, Nat.zero_le _⟩ ?_
          refine x_iload_n B dX12_news_48 rfl (lv_at hl 1 rfl) ?_
          obtain ⟨r16, f15, c14, hf⟩ := bn2_some hf
          refine x_callV0 (rest := []) B (kX12_rateBy c14) ⟨rfl, rfl⟩ aM_107.lt aM_107.2 rfl (by decide) q_1352 q_1354 q_20 (by rw [hR]; exact cw_X12_news_X12_rateBy) rfl rfl hl.1 (Nat.le_of_ble_eq_true rfl) dX12_news_49 ⟨Nat.zero_le _, Nat.zero_le _⟩ ?_
          refine x_goto (tgt := 65) B dX12_news_52 (by decide) ?_
          obtain ⟨rfl, rfl⟩ := rt2 hf
          exact x_iret B dX12_news_65
        · have hf := iq h11 hf
          refine x_aload_n B dX12_news_55 rfl (lv_at hl 0 rfl) ?_
          refine x_aload_n B dX12_news_56 rfl (lv_at hl 0 rfl) ?_
          refine x_iload_n B dX12_news_57 rfl (lv_at hl 1 rfl) ?_
          obtain ⟨r18, c17, hf⟩ := bn_some hf
          refine x_callV0 (rest := [.ref (gz G + 107)]) B (kX12_seenOn c17) ⟨rfl, rfl⟩ aM_107.lt aM_107.2 rfl (by decide) q_1273 q_1275 q_11 (by rw [hR]; exact cw_X12_news_X12_seenOn) rfl rfl hl.1 (Nat.le_of_ble_eq_true rfl) dX12_news_58 ⟨Nat.zero_le _, Nat.zero_le _⟩ ?_
          refine x_iload_n B dX12_news_61 rfl (lv_at hl 1 rfl) ?_
          obtain ⟨r21, f20, c19, hf⟩ := bn2_some hf
          refine x_callV0 (rest := []) B (kX12_knockBy c19) ⟨rfl, rfl⟩ aM_107.lt aM_107.2 rfl (by decide) q_1370 q_1372 q_23 (by rw [hR]; exact cw_X12_news_X12_knockBy) rfl rfl hl.1 (Nat.le_of_ble_eq_true rfl) dX12_news_62 ⟨Nat.zero_le _, Nat.zero_le _⟩ ?_
          obtain ⟨rfl, rfl⟩ := rt2 hf
          exact x_iret B dX12_news_65
def rmX12_notsOpen : Room := { frames := 0, cells := 0, slots := 0, locals := 0 }
def fX12_notsOpen_29 (n : Nat)  (k4 : Int32 → Int32 → Mm → Option (Int32)) (x2 : Int32) (s0 : Int32) (s1 : Int32) (m : Mm) : Option (Int32) :=
  k4 (s1 + s0) (x2 + (nI 1)) m
set_option maxHeartbeats 4000000 in
set_option maxRecDepth 100000 in
theorem fX12_notsOpen_29_ok {V : VE} {G : GE} {N : Nat} {f m : Mm} {n : Nat} {ls : Array Slot} {r : Int32} (B : CX V G cX12_notsOpen 3 "FluxWatchModel" (some .int)) (hR : V.2.2.2.1 = rmX12_notsOpen)  {k4 : Int32 → Int32 → Mm → Option (Int32)} (hk4 : ∀ (x1 : Int32) (x2 : Int32) (mm : Mm) (ls : Array Slot),  lv_has ls 3 [(0, .ref (gz G + 107)), (1, .int x1), (2, .int x2)] → k4 x1 x2 mm = some r → WX V G N f mm 0 0 (QQ V G (some (.int r)) N f mm 0 0) 4 ls []) {x2 : Int32} {s0 : Int32} {s1 : Int32}  (hl : lv_has ls 3 [(0, .ref (gz G + 107)), (2, .int x2)]) (hf : fX12_notsOpen_29 n  k4 x2 s0 s1 m = some r) : WX V G N f m 0 0 (QQ V G (some (.int r)) N f m 0 0) 29 ls [.int s0, .int s1] := by
  unfold fX12_notsOpen_29 at hf
  refine x_iadd B dX12_notsOpen_29 ?_
  refine x_istore_n (lv' := [(1, .int (s1 + s0)), (0, .ref (gz G + 107)), (2, .int x2)]) B dX12_notsOpen_30 rfl hl (by decide) rfl (fun ls hl => ?_)
  refine x_iinc (k := 2) (v := (nI 1)) (lv' := [(2, .int (x2 + (nI 1))), (1, .int (s1 + s0)), (0, .ref (gz G + 107))]) B dX12_notsOpen_31 hl rfl (by decide) (by decide) rfl (fun ls hl => ?_)
  refine x_goto (tgt := 4) B dX12_notsOpen_34 (by decide) ?_
  exact hk4 _ _ _ _ (lv_sub hl [2, 1, 0] rfl) hf
def fX12_notsOpen_4 (n : Nat)   (k4 : Int32 → Int32 → Mm → Option (Int32)) (x1 : Int32) (x2 : Int32) (m : Mm) : Option (Int32) :=
  if (m 107 18) ≤ x2 then (
  some x1) else (
  gd (ib x2 96) <|
  if (m 115 x2.toNatClampNeg) = (-10 : Int32) then (
  fX12_notsOpen_29 n k4 x2 (nI 1) x1 m) else (
  fX12_notsOpen_29 n k4 x2 (nI 0) x1 m))
def fX12_notsOpen_4L (n : Nat)   : Nat → Int32 → Int32 → Mm → Option (Int32)
  | 0 => fun _ _ _ => none
  | q + 1 => fX12_notsOpen_4 n   (fX12_notsOpen_4L n   q)
set_option maxHeartbeats 4000000 in
set_option maxRecDepth 100000 in
theorem fX12_notsOpen_4_ok {V : VE} {G : GE} {N : Nat} {f m : Mm} {n : Nat} {ls : Array Slot} {r : Int32} (B : CX V G cX12_notsOpen 3 "FluxWatchModel" (some .int)) (hR : V.2.2.2.1 = rmX12_notsOpen)   {k4 : Int32 → Int32 → Mm → Option (Int32)} (hk4 : ∀ (x1 : Int32) (x2 : Int32) (mm : Mm) (ls : Array Slot),  lv_has ls 3 [(0, .ref (gz G + 107)), (1, .int x1), (2, .int x2)] → k4 x1 x2 mm = some r → WX V G N f mm 0 0 (QQ V G (some (.int r)) N f mm 0 0) 4 ls []) {x1 : Int32} {x2 : Int32}  (hl : lv_has ls 3 [(0, .ref (gz G + 107)), (1, .int x1), (2, .int x2)]) (hf : fX12_notsOpen_4 n  k4 x1 x2 m = some r) : WX V G N f m 0 0 (QQ V G (some (.int r)) N f m 0 0) 4 ls [] := by
  unfold fX12_notsOpen_4 at hf
  refine x_iload_n B dX12_notsOpen_4 rfl (lv_at hl 2 rfl) ?_
  refine x_aload_n B dX12_notsOpen_5 rfl (lv_at hl 0 rfl) ?_
  refine y_getMi (C := RX12) (T := TX12) (NN := 34) B aM_107 inX12 rfl (j := 18) (by decide) q_1130 rfl rfl dX12_notsOpen_6 ?_
  refine x_icmp_ge (tgt := 37) B dX12_notsOpen_9 (by decide) (fun h1 => ?_) (fun h1 => ?_)
  · have hf := ip h1 hf
    refine x_iload_n B dX12_notsOpen_37 rfl (lv_at hl 1 rfl) ?_
    obtain rfl := rt1 hf
    exact x_iret B dX12_notsOpen_38
  · have hf := iq h1 hf
    refine x_iload_n B dX12_notsOpen_12 rfl (lv_at hl 1 rfl) ?_
    refine x_aload_n B dX12_notsOpen_13 rfl (lv_at hl 0 rfl) ?_
    refine y_getMr (C := RX12) (T := TX12) (NN := 34) (d := 7) (k2 := 115) B aM_107 inX12 rfl (j := 17) (by decide) q_1129 rfl rfl rfl dX12_notsOpen_14 ?_
    refine x_iload_n B dX12_notsOpen_17 rfl (lv_at hl 2 rfl) ?_
    obtain ⟨h2, hf⟩ := gd_some hf
    refine x_ialdM B aM_115 h2 dX12_notsOpen_18 ?_
    refine x_bipush (v := (-10 : Int32)) B dX12_notsOpen_19 (by decide) ?_
    refine x_icmp_ne (tgt := 28) B dX12_notsOpen_21 (by decide) (fun h3 => ?_) (fun h3 => ?_)
    · have hf := ip h3 hf
      refine x_iconst (v := (nI 1)) B dX12_notsOpen_24 (by decide) ?_
      refine x_goto (tgt := 29) B dX12_notsOpen_25 (by decide) ?_
      exact fX12_notsOpen_29_ok B hR hk4 (lv_sub hl [0, 2] rfl) hf
    · have hf := iq h3 hf
      refine x_iconst (v := (nI 0)) B dX12_notsOpen_28 (by decide) ?_
      exact fX12_notsOpen_29_ok B hR hk4 (lv_sub hl [0, 2] rfl) hf
set_option maxHeartbeats 4000000 in
set_option maxRecDepth 100000 in
theorem fX12_notsOpen_4L_ok {V : VE} {G : GE} {N : Nat} {f : Mm} {n : Nat}  {r : Int32} (B : CX V G cX12_notsOpen 3 "FluxWatchModel" (some .int)) (hR : V.2.2.2.1 = rmX12_notsOpen)   : ∀ (q : Nat) (x1 : Int32) (x2 : Int32) (mm : Mm) (ls : Array Slot),  lv_has ls 3 [(0, .ref (gz G + 107)), (1, .int x1), (2, .int x2)] → fX12_notsOpen_4L n  q x1 x2 mm = some r → WX V G N f mm 0 0 (QQ V G (some (.int r)) N f mm 0 0) 4 ls [] := by
  intro q
  induction q with
  | zero =>
    intro x1 x2 mm ls hl hf
    cases hf
  | succ q ih =>
    intro x1 x2 mm ls hl hf
    exact fX12_notsOpen_4_ok B hR   ih  hl hf
def fX12_notsOpen (n : Nat)  (m : Mm) : Option (Int32) :=
  fX12_notsOpen_4L n n (nI 0) (nI 0) m
set_option maxHeartbeats 4000000 in
set_option maxRecDepth 100000 in
theorem kX12_notsOpen {l : Launch} {G : GE} {N : Nat} {f m : Mm} {n : Nat}  {r : Int32}  (hf : fX12_notsOpen n m = some r) : MT l G yX12_notsOpen cX12_notsOpen 3 (some .int) rmX12_notsOpen [.ref (gz G + 107)] N f m (some (.int r)) N f m := by
  unfold fX12_notsOpen at hf
  refine MT.of (by decide) (Nat.le_of_ble_eq_true rfl) (fun V ls hV hR B hl => ?_)
  have B : CX V G cX12_notsOpen 3 "FluxWatchModel" (some .int) := B
  have hl : lv_has ls 3 [(0, .ref (gz G + 107))] := hl
  show WX V G N f m 0 0 (QQ V G (some (.int r)) N f m 0 0) 0 ls []
  refine x_iconst (v := (nI 0)) B dX12_notsOpen_0 (by decide) ?_
  refine x_istore_n (lv' := [(1, .int (nI 0)), (0, .ref (gz G + 107))]) B dX12_notsOpen_1 rfl hl (by decide) rfl (fun ls hl => ?_)
  refine x_iconst (v := (nI 0)) B dX12_notsOpen_2 (by decide) ?_
  refine x_istore_n (lv' := [(2, .int (nI 0)), (1, .int (nI 0)), (0, .ref (gz G + 107))]) B dX12_notsOpen_3 rfl hl (by decide) rfl (fun ls hl => ?_)
  exact fX12_notsOpen_4L_ok B hR  n _ _ _ _ (lv_sub hl [2, 1, 0] rfl) hf
def rmX12_offer : Room := { frames := 1, cells := 0, slots := 0, locals := 22 }
set_option maxHeartbeats 4000000 in
set_option maxRecDepth 100000 in
theorem cw_X12_offer_X12_in : cwB rmX12_offer rmX12_in yX12_in cX12_in 3 (some .boolean) 3 := ⟨q_1222, q_57, by decide, by decide⟩
def fX12_offer (n : Nat) (a1 : Int32) (a2 : Int32) (m : Mm) : Option (Int32 × Mm) :=
  bn (fX12_in n a1 (nI 1) (nI 9)) fun r2 =>
  if r2 = 0 then (
  some ((-1000000001 : Int32), m)) else (
  bn (fX12_in n a2 (nI 0) (nI 999)) fun r5 =>
  if r5 = 0 then (
  some ((-1000000001 : Int32), m)) else (
  if (m 108 (nI 12).toNatClampNeg) = (nI 8) then (
  some ((-1000000003 : Int32), m)) else (
  gd (ib ((nI 331) + ((nI 2) * (m 108 (nI 12).toNatClampNeg))) 1719) <|
  lt (up m 108 ((nI 331) + ((nI 2) * (m 108 (nI 12).toNatClampNeg))).toNatClampNeg a1) fun f9 =>
  gd (ib (((nI 331) + ((nI 2) * (f9 108 (nI 12).toNatClampNeg))) + (nI 1)) 1719) <|
  lt (up f9 108 (((nI 331) + ((nI 2) * (f9 108 (nI 12).toNatClampNeg))) + (nI 1)).toNatClampNeg a2) fun f12 =>
  lt (up f12 108 (nI 12).toNatClampNeg ((f12 108 (nI 12).toNatClampNeg) + (nI 1))) fun f14 =>
  some ((f14 108 (nI 12).toNatClampNeg) - (nI 1), f14))))
set_option maxHeartbeats 4000000 in
set_option maxRecDepth 100000 in
theorem kX12_offer {l : Launch} {G : GE} {N : Nat} {f m : Mm} {n : Nat} {a1 : Int32} {a2 : Int32} {r : Int32} {g : Mm}  (hf : fX12_offer n a1 a2 m = some (r, g)) : MT l G yX12_offer cX12_offer 3 (some .int) rmX12_offer [.ref (gz G + 107), .int a1, .int a2] N f m (some (.int r)) N f g := by
  unfold fX12_offer at hf
  refine MT.of (by decide) (Nat.le_of_ble_eq_true rfl) (fun V ls hV hR B hl => ?_)
  have B : CX V G cX12_offer 3 "FluxWatchModel" (some .int) := B
  have hl : lv_has ls 3 [(0, .ref (gz G + 107)), (1, .int a1), (2, .int a2)] := hl
  show WX V G N f m 0 0 (QQ V G (some (.int r)) N f g 0 0) 0 ls []
  refine x_iload_n B dX12_offer_0 rfl (lv_at hl 1 rfl) ?_
  refine x_iconst (v := (nI 1)) B dX12_offer_1 (by decide) ?_
  refine x_bipush (v := (nI 9)) B dX12_offer_2 (by decide) ?_
  obtain ⟨r2, c1, hf⟩ := bn_some hf
  refine x_callS0 (rest := []) B (kX12_in c1) ⟨rfl, rfl⟩ q_1220 q_1221 (by rw [hR]; exact cw_X12_offer_X12_in) rfl rfl hl.1 (Nat.le_of_ble_eq_true rfl) dX12_offer_4 ⟨Nat.zero_le _, Nat.zero_le _⟩ ?_
  refine x_if_eq (tgt := 21) B dX12_offer_7 (by decide) (fun h3 => ?_) (fun h3 => ?_)
  · have hf := ip h3 hf
    refine x_ldc (v := (-1000000001 : Int32)) B q_1223 dX12_offer_21 ?_
    obtain ⟨rfl, rfl⟩ := rt2 hf
    exact x_iret B dX12_offer_23
  · have hf := iq h3 hf
    refine x_iload_n B dX12_offer_10 rfl (lv_at hl 2 rfl) ?_
    refine x_iconst (v := (nI 0)) B dX12_offer_11 (by decide) ?_
    refine x_sipush (v := (nI 999)) B dX12_offer_12 (by decide) ?_
    obtain ⟨r5, c4, hf⟩ := bn_some hf
    refine x_callS0 (rest := []) B (kX12_in c4) ⟨rfl, rfl⟩ q_1220 q_1221 (by rw [hR]; exact cw_X12_offer_X12_in) rfl rfl hl.1 (Nat.le_of_ble_eq_true rfl) dX12_offer_15 ⟨Nat.zero_le _, Nat.zero_le _⟩ ?_
    refine x_if_ne (tgt := 24) B dX12_offer_18 (by decide) (fun h6 => ?_) (fun h6 => ?_)
    · have hf := ip h6 hf
      refine x_ldc (v := (-1000000001 : Int32)) B q_1223 dX12_offer_21 ?_
      obtain ⟨rfl, rfl⟩ := rt2 hf
      exact x_iret B dX12_offer_23
    · have hf := iq h6 hf
      refine x_aload_n B dX12_offer_24 rfl (lv_at hl 0 rfl) ?_
      refine y_getMr (C := RX12) (T := TX12) (NN := 34) (d := 0) (k2 := 108) B aM_107 inX12 rfl (j := 0) (by decide) q_1112 rfl rfl rfl dX12_offer_25 ?_
      refine x_bipush (v := (nI 12)) B dX12_offer_28 (by decide) ?_
      refine x_ialdM B aM_108 (by decide) dX12_offer_30 ?_
      refine x_bipush (v := (nI 8)) B dX12_offer_31 (by decide) ?_
      refine x_icmp_ne (tgt := 39) B dX12_offer_33 (by decide) (fun h7 => ?_) (fun h7 => ?_)
      · have hf := ip h7 hf
        refine x_ldc (v := (-1000000003 : Int32)) B q_1224 dX12_offer_36 ?_
        obtain ⟨rfl, rfl⟩ := rt2 hf
        exact x_iret B dX12_offer_38
      · have hf := iq h7 hf
        refine x_aload_n B dX12_offer_39 rfl (lv_at hl 0 rfl) ?_
        refine y_getMr (C := RX12) (T := TX12) (NN := 34) (d := 0) (k2 := 108) B aM_107 inX12 rfl (j := 0) (by decide) q_1112 rfl rfl rfl dX12_offer_40 ?_
        refine x_sipush (v := (nI 331)) B dX12_offer_43 (by decide) ?_
        refine x_iconst (v := (nI 2)) B dX12_offer_46 (by decide) ?_
        refine x_aload_n B dX12_offer_47 rfl (lv_at hl 0 rfl) ?_
        refine y_getMr (C := RX12) (T := TX12) (NN := 34) (d := 0) (k2 := 108) B aM_107 inX12 rfl (j := 0) (by decide) q_1112 rfl rfl rfl dX12_offer_48 ?_
        refine x_bipush (v := (nI 12)) B dX12_offer_51 (by decide) ?_
        refine x_ialdM B aM_108 (by decide) dX12_offer_53 ?_
        refine x_imul B dX12_offer_54 ?_
        refine x_iadd B dX12_offer_55 ?_
        refine x_iload_n B dX12_offer_56 rfl (lv_at hl 1 rfl) ?_
        obtain ⟨h8, hf⟩ := gd_some hf
        refine x_iastM B aM_108 h8 dX12_offer_57 (fun f9 e10 => ?_)
        have hf := lt_some hf e10
        refine x_aload_n B dX12_offer_58 rfl (lv_at hl 0 rfl) ?_
        refine y_getMr (C := RX12) (T := TX12) (NN := 34) (d := 0) (k2 := 108) B aM_107 inX12 rfl (j := 0) (by decide) q_1112 rfl rfl rfl dX12_offer_59 ?_
        refine x_sipush (v := (nI 331)) B dX12_offer_62 (by decide) ?_
        refine x_iconst (v := (nI 2)) B dX12_offer_65 (by decide) ?_
        refine x_aload_n B dX12_offer_66 rfl (lv_at hl 0 rfl) ?_
        refine y_getMr (C := RX12) (T := TX12) (NN := 34) (d := 0) (k2 := 108) B aM_107 inX12 rfl (j := 0) (by decide) q_1112 rfl rfl rfl dX12_offer_67 ?_
        refine x_bipush (v := (nI 12)) B dX12_offer_70 (by decide) ?_
        refine x_ialdM B aM_108 (by decide) dX12_offer_72 ?_
        refine x_imul B dX12_offer_73 ?_
        refine x_iadd B dX12_offer_74 ?_
        refine x_iconst (v := (nI 1)) B dX12_offer_75 (by decide) ?_
        refine x_iadd B dX12_offer_76 ?_
        refine x_iload_n B dX12_offer_77 rfl (lv_at hl 2 rfl) ?_
        obtain ⟨h11, hf⟩ := gd_some hf
        refine x_iastM B aM_108 h11 dX12_offer_78 (fun f12 e13 => ?_)
        have hf := lt_some hf e13
        refine x_aload_n B dX12_offer_79 rfl (lv_at hl 0 rfl) ?_
        refine y_getMr (C := RX12) (T := TX12) (NN := 34) (d := 0) (k2 := 108) B aM_107 inX12 rfl (j := 0) (by decide) q_1112 rfl rfl rfl dX12_offer_80 ?_
        refine x_bipush (v := (nI 12)) B dX12_offer_83 (by decide) ?_
        refine x_dup2 B dX12_offer_85 rfl rfl ?_
        refine x_ialdM B aM_108 (by decide) dX12_offer_86 ?_
        refine x_iconst (v := (nI 1)) B dX12_offer_87 (by decide) ?_
        refine x_iadd B dX12_offer_88 ?_
        refine x_iastM B aM_108 (by decide) dX12_offer_89 (fun f14 e15 => ?_)
        have hf := lt_some hf e15
        refine x_aload_n B dX12_offer_90 rfl (lv_at hl 0 rfl) ?_
        refine y_getMr (C := RX12) (T := TX12) (NN := 34) (d := 0) (k2 := 108) B aM_107 inX12 rfl (j := 0) (by decide) q_1112 rfl rfl rfl dX12_offer_91 ?_
        refine x_bipush (v := (nI 12)) B dX12_offer_94 (by decide) ?_
        refine x_ialdM B aM_108 (by decide) dX12_offer_96 ?_
        refine x_iconst (v := (nI 1)) B dX12_offer_97 (by decide) ?_
        refine x_isub B dX12_offer_98 ?_
        obtain ⟨rfl, rfl⟩ := rt2 hf
        exact x_iret B dX12_offer_99
def rmX12_pair : Room := { frames := 2, cells := 0, slots := 0, locals := 43 }
set_option maxHeartbeats 4000000 in
set_option maxRecDepth 100000 in
theorem cw_X12_pair_X12_coil3 : cwB rmX12_pair rmX12_coil3 yX12_coil3 cX12_coil3 3 (some .int) 2 := ⟨q_1236, q_57, by decide, by decide⟩
set_option maxHeartbeats 4000000 in
set_option maxRecDepth 100000 in
theorem cw_X12_pair_X12_isCoil : cwB rmX12_pair rmX12_isCoil yX12_isCoil cX12_isCoil 2 (some .boolean) 1 := ⟨q_1232, q_57, by decide, by decide⟩
def fX12_pair (n : Nat) (a1 : Int32) (a2 : Int32) (m : Mm) : Option (Int32 × Mm) :=
  bn (fX12_isCoil n a1 m) fun r2 =>
  if r2 = 0 then (
  some ((-1000000001 : Int32), m)) else (
  bn (fX12_isCoil n a2 m) fun r5 =>
  if r5 = 0 then (
  some ((-1000000001 : Int32), m)) else (
  if a1 = a2 then (
  some ((-1000000001 : Int32), m)) else (
  bn (fX12_coil3 n a1 (nI 2) m) fun r9 =>
  if 0 ≤ r9 then (
  some ((-1000000002 : Int32), m)) else (
  bn (fX12_coil3 n a2 (nI 2) m) fun r12 =>
  if r12 < 0 then (
  gd (ib (((nI 13) + ((nI 3) * a1)) + (nI 2)) 1719) <|
  lt (up m 108 (((nI 13) + ((nI 3) * a1)) + (nI 2)).toNatClampNeg a2) fun f15 =>
  gd (ib (((nI 13) + ((nI 3) * a2)) + (nI 2)) 1719) <|
  lt (up f15 108 (((nI 13) + ((nI 3) * a2)) + (nI 2)).toNatClampNeg a1) fun f18 =>
  some ((nI 1), f18)) else (
  some ((-1000000002 : Int32), m))))))
set_option maxHeartbeats 4000000 in
set_option maxRecDepth 100000 in
theorem kX12_pair {l : Launch} {G : GE} {N : Nat} {f m : Mm} {n : Nat} {a1 : Int32} {a2 : Int32} {r : Int32} {g : Mm}  (hf : fX12_pair n a1 a2 m = some (r, g)) : MT l G yX12_pair cX12_pair 3 (some .int) rmX12_pair [.ref (gz G + 107), .int a1, .int a2] N f m (some (.int r)) N f g := by
  unfold fX12_pair at hf
  refine MT.of (by decide) (Nat.le_of_ble_eq_true rfl) (fun V ls hV hR B hl => ?_)
  have B : CX V G cX12_pair 3 "FluxWatchModel" (some .int) := B
  have hl : lv_has ls 3 [(0, .ref (gz G + 107)), (1, .int a1), (2, .int a2)] := hl
  show WX V G N f m 0 0 (QQ V G (some (.int r)) N f g 0 0) 0 ls []
  refine x_aload_n B dX12_pair_0 rfl (lv_at hl 0 rfl) ?_
  refine x_iload_n B dX12_pair_1 rfl (lv_at hl 1 rfl) ?_
  obtain ⟨r2, c1, hf⟩ := bn_some hf
  refine x_callV0 (rest := []) B (kX12_isCoil c1) ⟨rfl, rfl⟩ aM_107.lt aM_107.2 rfl (by decide) q_1229 q_1231 q_7 (by rw [hR]; exact cw_X12_pair_X12_isCoil) rfl rfl hl.1 (Nat.le_of_ble_eq_true rfl) dX12_pair_2 ⟨Nat.zero_le _, Nat.zero_le _⟩ ?_
  refine x_if_eq (tgt := 21) B dX12_pair_5 (by decide) (fun h3 => ?_) (fun h3 => ?_)
  · have hf := ip h3 hf
    refine x_ldc (v := (-1000000001 : Int32)) B q_1223 dX12_pair_21 ?_
    obtain ⟨rfl, rfl⟩ := rt2 hf
    exact x_iret B dX12_pair_23
  · have hf := iq h3 hf
    refine x_aload_n B dX12_pair_8 rfl (lv_at hl 0 rfl) ?_
    refine x_iload_n B dX12_pair_9 rfl (lv_at hl 2 rfl) ?_
    obtain ⟨r5, c4, hf⟩ := bn_some hf
    refine x_callV0 (rest := []) B (kX12_isCoil c4) ⟨rfl, rfl⟩ aM_107.lt aM_107.2 rfl (by decide) q_1229 q_1231 q_7 (by rw [hR]; exact cw_X12_pair_X12_isCoil) rfl rfl hl.1 (Nat.le_of_ble_eq_true rfl) dX12_pair_10 ⟨Nat.zero_le _, Nat.zero_le _⟩ ?_
    refine x_if_eq (tgt := 21) B dX12_pair_13 (by decide) (fun h6 => ?_) (fun h6 => ?_)
    · have hf := ip h6 hf
      refine x_ldc (v := (-1000000001 : Int32)) B q_1223 dX12_pair_21 ?_
      obtain ⟨rfl, rfl⟩ := rt2 hf
      exact x_iret B dX12_pair_23
    · have hf := iq h6 hf
      refine x_iload_n B dX12_pair_16 rfl (lv_at hl 1 rfl) ?_
      refine x_iload_n B dX12_pair_17 rfl (lv_at hl 2 rfl) ?_
      refine x_icmp_ne (tgt := 24) B dX12_pair_18 (by decide) (fun h7 => ?_) (fun h7 => ?_)
      · have hf := ip h7 hf
        refine x_ldc (v := (-1000000001 : Int32)) B q_1223 dX12_pair_21 ?_
        obtain ⟨rfl, rfl⟩ := rt2 hf
        exact x_iret B dX12_pair_23
      · have hf := iq h7 hf
        refine x_aload_n B dX12_pair_24 rfl (lv_at hl 0 rfl) ?_
        refine x_iload_n B dX12_pair_25 rfl (lv_at hl 1 rfl) ?_
        refine x_iconst (v := (nI 2)) B dX12_pair_26 (by decide) ?_
        obtain ⟨r9, c8, hf⟩ := bn_some hf
        refine x_callV0 (rest := []) B (kX12_coil3 c8) ⟨rfl, rfl⟩ aM_107.lt aM_107.2 rfl (by decide) q_1233 q_1235 q_8 (by rw [hR]; exact cw_X12_pair_X12_coil3) rfl rfl hl.1 (Nat.le_of_ble_eq_true rfl) dX12_pair_27 ⟨Nat.zero_le _, Nat.zero_le _⟩ ?_
        refine x_if_ge (tgt := 42) B dX12_pair_30 (by decide) (fun h10 => ?_) (fun h10 => ?_)
        · have hf := ip h10 hf
          refine x_ldc (v := (-1000000002 : Int32)) B q_1254 dX12_pair_42 ?_
          obtain ⟨rfl, rfl⟩ := rt2 hf
          exact x_iret B dX12_pair_44
        · have hf := iq h10 hf
          refine x_aload_n B dX12_pair_33 rfl (lv_at hl 0 rfl) ?_
          refine x_iload_n B dX12_pair_34 rfl (lv_at hl 2 rfl) ?_
          refine x_iconst (v := (nI 2)) B dX12_pair_35 (by decide) ?_
          obtain ⟨r12, c11, hf⟩ := bn_some hf
          refine x_callV0 (rest := []) B (kX12_coil3 c11) ⟨rfl, rfl⟩ aM_107.lt aM_107.2 rfl (by decide) q_1233 q_1235 q_8 (by rw [hR]; exact cw_X12_pair_X12_coil3) rfl rfl hl.1 (Nat.le_of_ble_eq_true rfl) dX12_pair_36 ⟨Nat.zero_le _, Nat.zero_le _⟩ ?_
          refine x_if_lt (tgt := 45) B dX12_pair_39 (by decide) (fun h13 => ?_) (fun h13 => ?_)
          · have hf := ip h13 hf
            refine x_aload_n B dX12_pair_45 rfl (lv_at hl 0 rfl) ?_
            refine y_getMr (C := RX12) (T := TX12) (NN := 34) (d := 0) (k2 := 108) B aM_107 inX12 rfl (j := 0) (by decide) q_1112 rfl rfl rfl dX12_pair_46 ?_
            refine x_bipush (v := (nI 13)) B dX12_pair_49 (by decide) ?_
            refine x_iconst (v := (nI 3)) B dX12_pair_51 (by decide) ?_
            refine x_iload_n B dX12_pair_52 rfl (lv_at hl 1 rfl) ?_
            refine x_imul B dX12_pair_53 ?_
            refine x_iadd B dX12_pair_54 ?_
            refine x_iconst (v := (nI 2)) B dX12_pair_55 (by decide) ?_
            refine x_iadd B dX12_pair_56 ?_
            refine x_iload_n B dX12_pair_57 rfl (lv_at hl 2 rfl) ?_
            obtain ⟨h14, hf⟩ := gd_some hf
            refine x_iastM B aM_108 h14 dX12_pair_58 (fun f15 e16 => ?_)
            have hf := lt_some hf e16
            refine x_aload_n B dX12_pair_59 rfl (lv_at hl 0 rfl) ?_
            refine y_getMr (C := RX12) (T := TX12) (NN := 34) (d := 0) (k2 := 108) B aM_107 inX12 rfl (j := 0) (by decide) q_1112 rfl rfl rfl dX12_pair_60 ?_
            refine x_bipush (v := (nI 13)) B dX12_pair_63 (by decide) ?_
            refine x_iconst (v := (nI 3)) B dX12_pair_65 (by decide) ?_
            refine x_iload_n B dX12_pair_66 rfl (lv_at hl 2 rfl) ?_
            refine x_imul B dX12_pair_67 ?_
            refine x_iadd B dX12_pair_68 ?_
            refine x_iconst (v := (nI 2)) B dX12_pair_69 (by decide) ?_
            refine x_iadd B dX12_pair_70 ?_
            refine x_iload_n B dX12_pair_71 rfl (lv_at hl 1 rfl) ?_
            obtain ⟨h17, hf⟩ := gd_some hf
            refine x_iastM B aM_108 h17 dX12_pair_72 (fun f18 e19 => ?_)
            have hf := lt_some hf e19
            refine x_iconst (v := (nI 1)) B dX12_pair_73 (by decide) ?_
            obtain ⟨rfl, rfl⟩ := rt2 hf
            exact x_iret B dX12_pair_74
          · have hf := iq h13 hf
            refine x_ldc (v := (-1000000002 : Int32)) B q_1254 dX12_pair_42 ?_
            obtain ⟨rfl, rfl⟩ := rt2 hf
            exact x_iret B dX12_pair_44
def rmX12_part : Room := { frames := 2, cells := 0, slots := 0, locals := 43 }
set_option maxHeartbeats 4000000 in
set_option maxRecDepth 100000 in
theorem cw_X12_part_X12_coil3 : cwB rmX12_part rmX12_coil3 yX12_coil3 cX12_coil3 3 (some .int) 2 := ⟨q_1236, q_57, by decide, by decide⟩
set_option maxHeartbeats 4000000 in
set_option maxRecDepth 100000 in
theorem cw_X12_part_X12_isCoil : cwB rmX12_part rmX12_isCoil yX12_isCoil cX12_isCoil 2 (some .boolean) 1 := ⟨q_1232, q_57, by decide, by decide⟩
def fX12_part (n : Nat) (a1 : Int32) (m : Mm) : Option (Int32 × Mm) :=
  bn (fX12_isCoil n a1 m) fun r2 =>
  if r2 = 0 then (
  some ((-1000000001 : Int32), m)) else (
  bn (fX12_coil3 n a1 (nI 2) m) fun r5 =>
  if 0 ≤ r5 then (
  gd (ib (((nI 13) + ((nI 3) * a1)) + (nI 2)) 1719) <|
  lt (up m 108 (((nI 13) + ((nI 3) * a1)) + (nI 2)).toNatClampNeg (-1 : Int32)) fun f8 =>
  gd (ib (((nI 13) + ((nI 3) * r5)) + (nI 2)) 1719) <|
  lt (up f8 108 (((nI 13) + ((nI 3) * r5)) + (nI 2)).toNatClampNeg (-1 : Int32)) fun f11 =>
  some (r5, f11)) else (
  some ((-1000000002 : Int32), m)))
set_option maxHeartbeats 4000000 in
set_option maxRecDepth 100000 in
theorem kX12_part {l : Launch} {G : GE} {N : Nat} {f m : Mm} {n : Nat} {a1 : Int32} {r : Int32} {g : Mm}  (hf : fX12_part n a1 m = some (r, g)) : MT l G yX12_part cX12_part 3 (some .int) rmX12_part [.ref (gz G + 107), .int a1] N f m (some (.int r)) N f g := by
  unfold fX12_part at hf
  refine MT.of (by decide) (Nat.le_of_ble_eq_true rfl) (fun V ls hV hR B hl => ?_)
  have B : CX V G cX12_part 3 "FluxWatchModel" (some .int) := B
  have hl : lv_has ls 3 [(0, .ref (gz G + 107)), (1, .int a1)] := hl
  show WX V G N f m 0 0 (QQ V G (some (.int r)) N f g 0 0) 0 ls []
  refine x_aload_n B dX12_part_0 rfl (lv_at hl 0 rfl) ?_
  refine x_iload_n B dX12_part_1 rfl (lv_at hl 1 rfl) ?_
  obtain ⟨r2, c1, hf⟩ := bn_some hf
  refine x_callV0 (rest := []) B (kX12_isCoil c1) ⟨rfl, rfl⟩ aM_107.lt aM_107.2 rfl (by decide) q_1229 q_1231 q_7 (by rw [hR]; exact cw_X12_part_X12_isCoil) rfl rfl hl.1 (Nat.le_of_ble_eq_true rfl) dX12_part_2 ⟨Nat.zero_le _, Nat.zero_le _⟩ ?_
  refine x_if_ne (tgt := 11) B dX12_part_5 (by decide) (fun h3 => ?_) (fun h3 => ?_)
  · have hf := ip h3 hf
    refine x_ldc (v := (-1000000001 : Int32)) B q_1223 dX12_part_8 ?_
    obtain ⟨rfl, rfl⟩ := rt2 hf
    exact x_iret B dX12_part_10
  · have hf := iq h3 hf
    refine x_aload_n B dX12_part_11 rfl (lv_at hl 0 rfl) ?_
    refine x_iload_n B dX12_part_12 rfl (lv_at hl 1 rfl) ?_
    refine x_iconst (v := (nI 2)) B dX12_part_13 (by decide) ?_
    obtain ⟨r5, c4, hf⟩ := bn_some hf
    refine x_callV0 (rest := []) B (kX12_coil3 c4) ⟨rfl, rfl⟩ aM_107.lt aM_107.2 rfl (by decide) q_1233 q_1235 q_8 (by rw [hR]; exact cw_X12_part_X12_coil3) rfl rfl hl.1 (Nat.le_of_ble_eq_true rfl) dX12_part_14 ⟨Nat.zero_le _, Nat.zero_le _⟩ ?_
    refine x_istore_n (lv' := [(2, .int r5), (0, .ref (gz G + 107)), (1, .int a1)]) B dX12_part_17 rfl hl (by decide) rfl (fun ls hl => ?_)
    refine x_iload_n B dX12_part_18 rfl (lv_at hl 0 rfl) ?_
    refine x_if_ge (tgt := 25) B dX12_part_19 (by decide) (fun h6 => ?_) (fun h6 => ?_)
    · have hf := ip h6 hf
      refine x_aload_n B dX12_part_25 rfl (lv_at hl 1 rfl) ?_
      refine y_getMr (C := RX12) (T := TX12) (NN := 34) (d := 0) (k2 := 108) B aM_107 inX12 rfl (j := 0) (by decide) q_1112 rfl rfl rfl dX12_part_26 ?_
      refine x_bipush (v := (nI 13)) B dX12_part_29 (by decide) ?_
      refine x_iconst (v := (nI 3)) B dX12_part_31 (by decide) ?_
      refine x_iload_n B dX12_part_32 rfl (lv_at hl 2 rfl) ?_
      refine x_imul B dX12_part_33 ?_
      refine x_iadd B dX12_part_34 ?_
      refine x_iconst (v := (nI 2)) B dX12_part_35 (by decide) ?_
      refine x_iadd B dX12_part_36 ?_
      refine x_iconst (v := (-1 : Int32)) B dX12_part_37 (by decide) ?_
      obtain ⟨h7, hf⟩ := gd_some hf
      refine x_iastM B aM_108 h7 dX12_part_38 (fun f8 e9 => ?_)
      have hf := lt_some hf e9
      refine x_aload_n B dX12_part_39 rfl (lv_at hl 1 rfl) ?_
      refine y_getMr (C := RX12) (T := TX12) (NN := 34) (d := 0) (k2 := 108) B aM_107 inX12 rfl (j := 0) (by decide) q_1112 rfl rfl rfl dX12_part_40 ?_
      refine x_bipush (v := (nI 13)) B dX12_part_43 (by decide) ?_
      refine x_iconst (v := (nI 3)) B dX12_part_45 (by decide) ?_
      refine x_iload_n B dX12_part_46 rfl (lv_at hl 0 rfl) ?_
      refine x_imul B dX12_part_47 ?_
      refine x_iadd B dX12_part_48 ?_
      refine x_iconst (v := (nI 2)) B dX12_part_49 (by decide) ?_
      refine x_iadd B dX12_part_50 ?_
      refine x_iconst (v := (-1 : Int32)) B dX12_part_51 (by decide) ?_
      obtain ⟨h10, hf⟩ := gd_some hf
      refine x_iastM B aM_108 h10 dX12_part_52 (fun f11 e12 => ?_)
      have hf := lt_some hf e12
      refine x_iload_n B dX12_part_53 rfl (lv_at hl 0 rfl) ?_
      obtain ⟨rfl, rfl⟩ := rt2 hf
      exact x_iret B dX12_part_54
    · have hf := iq h6 hf
      refine x_ldc (v := (-1000000002 : Int32)) B q_1254 dX12_part_22 ?_
      obtain ⟨rfl, rfl⟩ := rt2 hf
      exact x_iret B dX12_part_24
def rmX12_pour : Room := { frames := 2, cells := 0, slots := 0, locals := 42 }
set_option maxHeartbeats 4000000 in
set_option maxRecDepth 100000 in
theorem cw_X12_pour_X12_in : cwB rmX12_pour rmX12_in yX12_in cX12_in 3 (some .boolean) 3 := ⟨q_1222, q_57, by decide, by decide⟩
set_option maxHeartbeats 4000000 in
set_option maxRecDepth 100000 in
theorem cw_X12_pour_X12_isSheet : cwB rmX12_pour rmX12_isSheet yX12_isSheet cX12_isSheet 1 (some .boolean) 1 := ⟨q_1550, q_57, by decide, by decide⟩
def fX12_pour_83 (n : Nat)   (k83 : Int32 → Int32 → Int32 → Mm → Option (Int32 × Mm)) (x1 : Int32) (x2 : Int32) (x3 : Int32) (m : Mm) : Option (Int32 × Mm) :=
  if x2 ≤ x3 then (
  some (x2, m)) else (
  gd (ib (((nI 24) * x1) + x3) 96) <|
  gd (ib ((nI 251) + (m 108 (nI 10).toNatClampNeg)) 1719) <|
  lt (up m 108 ((nI 251) + (m 108 (nI 10).toNatClampNeg)).toNatClampNeg (m 123 (((nI 24) * x1) + x3).toNatClampNeg)) fun f12 =>
  lt (up f12 108 (nI 10).toNatClampNeg ((f12 108 (nI 10).toNatClampNeg) + (nI 1))) fun f14 =>
  k83 x1 x2 (x3 + (nI 1)) f14)
def fX12_pour_83L (n : Nat)   : Nat → Int32 → Int32 → Int32 → Mm → Option (Int32 × Mm)
  | 0 => fun _ _ _ _ => none
  | q + 1 => fX12_pour_83 n   (fX12_pour_83L n   q)
set_option maxHeartbeats 4000000 in
set_option maxRecDepth 100000 in
theorem fX12_pour_83_ok {V : VE} {G : GE} {N : Nat} {f m : Mm} {n : Nat} {ls : Array Slot} {r : Int32} {g : Mm} (B : CX V G cX12_pour 4 "FluxWatchModel" (some .int)) (hR : V.2.2.2.1 = rmX12_pour)   {k83 : Int32 → Int32 → Int32 → Mm → Option (Int32 × Mm)} (hk83 : ∀ (x1 : Int32) (x2 : Int32) (x3 : Int32) (mm : Mm) (ls : Array Slot),  lv_has ls 4 [(0, .ref (gz G + 107)), (1, .int x1), (2, .int x2), (3, .int x3)] → k83 x1 x2 x3 mm = some (r, g) → WX V G N f mm 0 0 (QQ V G (some (.int r)) N f g 0 0) 83 ls []) {x1 : Int32} {x2 : Int32} {x3 : Int32}  (hl : lv_has ls 4 [(0, .ref (gz G + 107)), (1, .int x1), (2, .int x2), (3, .int x3)]) (hf : fX12_pour_83 n  k83 x1 x2 x3 m = some (r, g)) : WX V G N f m 0 0 (QQ V G (some (.int r)) N f g 0 0) 83 ls [] := by
  unfold fX12_pour_83 at hf
  refine x_iload_n B dX12_pour_83 rfl (lv_at hl 3 rfl) ?_
  refine x_iload_n B dX12_pour_84 rfl (lv_at hl 2 rfl) ?_
  refine x_icmp_ge (tgt := 132) B dX12_pour_85 (by decide) (fun h9 => ?_) (fun h9 => ?_)
  · have hf := ip h9 hf
    refine x_iload_n B dX12_pour_132 rfl (lv_at hl 2 rfl) ?_
    obtain ⟨rfl, rfl⟩ := rt2 hf
    exact x_iret B dX12_pour_133
  · have hf := iq h9 hf
    refine x_aload_n B dX12_pour_88 rfl (lv_at hl 0 rfl) ?_
    refine y_getMr (C := RX12) (T := TX12) (NN := 34) (d := 0) (k2 := 108) B aM_107 inX12 rfl (j := 0) (by decide) q_1112 rfl rfl rfl dX12_pour_89 ?_
    refine x_sipush (v := (nI 251)) B dX12_pour_92 (by decide) ?_
    refine x_aload_n B dX12_pour_95 rfl (lv_at hl 0 rfl) ?_
    refine y_getMr (C := RX12) (T := TX12) (NN := 34) (d := 0) (k2 := 108) B aM_107 inX12 rfl (j := 0) (by decide) q_1112 rfl rfl rfl dX12_pour_96 ?_
    refine x_bipush (v := (nI 10)) B dX12_pour_99 (by decide) ?_
    refine x_ialdM B aM_108 (by decide) dX12_pour_101 ?_
    refine x_iadd B dX12_pour_102 ?_
    refine x_aload_n B dX12_pour_103 rfl (lv_at hl 0 rfl) ?_
    refine y_getMr (C := RX12) (T := TX12) (NN := 34) (d := 15) (k2 := 123) B aM_107 inX12 rfl (j := 26) (by decide) q_1138 rfl rfl rfl dX12_pour_104 ?_
    refine x_bipush (v := (nI 24)) B dX12_pour_107 (by decide) ?_
    refine x_iload_n B dX12_pour_109 rfl (lv_at hl 1 rfl) ?_
    refine x_imul B dX12_pour_110 ?_
    refine x_iload_n B dX12_pour_111 rfl (lv_at hl 3 rfl) ?_
    refine x_iadd B dX12_pour_112 ?_
    obtain ⟨h10, hf⟩ := gd_some hf
    refine x_ialdM B aM_123 h10 dX12_pour_113 ?_
    obtain ⟨h11, hf⟩ := gd_some hf
    refine x_iastM B aM_108 h11 dX12_pour_114 (fun f12 e13 => ?_)
    have hf := lt_some hf e13
    refine x_aload_n B dX12_pour_115 rfl (lv_at hl 0 rfl) ?_
    refine y_getMr (C := RX12) (T := TX12) (NN := 34) (d := 0) (k2 := 108) B aM_107 inX12 rfl (j := 0) (by decide) q_1112 rfl rfl rfl dX12_pour_116 ?_
    refine x_bipush (v := (nI 10)) B dX12_pour_119 (by decide) ?_
    refine x_dup2 B dX12_pour_121 rfl rfl ?_
    refine x_ialdM B aM_108 (by decide) dX12_pour_122 ?_
    refine x_iconst (v := (nI 1)) B dX12_pour_123 (by decide) ?_
    refine x_iadd B dX12_pour_124 ?_
    refine x_iastM B aM_108 (by decide) dX12_pour_125 (fun f14 e15 => ?_)
    have hf := lt_some hf e15
    refine x_iinc (k := 3) (v := (nI 1)) (lv' := [(3, .int (x3 + (nI 1))), (0, .ref (gz G + 107)), (1, .int x1), (2, .int x2)]) B dX12_pour_126 hl rfl (by decide) (by decide) rfl (fun ls hl => ?_)
    refine x_goto (tgt := 83) B dX12_pour_129 (by decide) ?_
    exact hk83 _ _ _ _ _ (lv_sub hl [1, 2, 3, 0] rfl) hf
set_option maxHeartbeats 4000000 in
set_option maxRecDepth 100000 in
theorem fX12_pour_83L_ok {V : VE} {G : GE} {N : Nat} {f : Mm} {n : Nat}  {r : Int32} {g : Mm} (B : CX V G cX12_pour 4 "FluxWatchModel" (some .int)) (hR : V.2.2.2.1 = rmX12_pour)   : ∀ (q : Nat) (x1 : Int32) (x2 : Int32) (x3 : Int32) (mm : Mm) (ls : Array Slot),  lv_has ls 4 [(0, .ref (gz G + 107)), (1, .int x1), (2, .int x2), (3, .int x3)] → fX12_pour_83L n  q x1 x2 x3 mm = some (r, g) → WX V G N f mm 0 0 (QQ V G (some (.int r)) N f g 0 0) 83 ls [] := by
  intro q
  induction q with
  | zero =>
    intro x1 x2 x3 mm ls hl hf
    cases hf
  | succ q ih =>
    intro x1 x2 x3 mm ls hl hf
    exact fX12_pour_83_ok B hR   ih  hl hf
def fX12_pour_64 (n : Nat)   (x1 : Int32) (x2 : Int32) (m : Mm) : Option (Int32 × Mm) :=
  if ((m 108 (nI 10).toNatClampNeg) + x2) ≤ (nI 60) then (
  fX12_pour_83L n n x1 x2 (nI 0) m) else (
  some ((-1000000003 : Int32), m))
set_option maxHeartbeats 4000000 in
set_option maxRecDepth 100000 in
theorem fX12_pour_64_ok {V : VE} {G : GE} {N : Nat} {f m : Mm} {n : Nat} {ls : Array Slot} {r : Int32} {g : Mm} (B : CX V G cX12_pour 4 "FluxWatchModel" (some .int)) (hR : V.2.2.2.1 = rmX12_pour)   {x1 : Int32} {x2 : Int32}  (hl : lv_has ls 4 [(0, .ref (gz G + 107)), (1, .int x1), (2, .int x2)]) (hf : fX12_pour_64 n  x1 x2 m = some (r, g)) : WX V G N f m 0 0 (QQ V G (some (.int r)) N f g 0 0) 64 ls [] := by
  unfold fX12_pour_64 at hf
  refine x_aload_n B dX12_pour_64 rfl (lv_at hl 0 rfl) ?_
  refine y_getMr (C := RX12) (T := TX12) (NN := 34) (d := 0) (k2 := 108) B aM_107 inX12 rfl (j := 0) (by decide) q_1112 rfl rfl rfl dX12_pour_65 ?_
  refine x_bipush (v := (nI 10)) B dX12_pour_68 (by decide) ?_
  refine x_ialdM B aM_108 (by decide) dX12_pour_70 ?_
  refine x_iload_n B dX12_pour_71 rfl (lv_at hl 2 rfl) ?_
  refine x_iadd B dX12_pour_72 ?_
  refine x_bipush (v := (nI 60)) B dX12_pour_73 (by decide) ?_
  refine x_icmp_le (tgt := 81) B dX12_pour_75 (by decide) (fun h8 => ?_) (fun h8 => ?_)
  · have hf := ip h8 hf
    refine x_iconst (v := (nI 0)) B dX12_pour_81 (by decide) ?_
    refine x_istore_n (lv' := [(3, .int (nI 0)), (0, .ref (gz G + 107)), (1, .int x1), (2, .int x2)]) B dX12_pour_82 rfl hl (by decide) rfl (fun ls hl => ?_)
    exact fX12_pour_83L_ok B hR  n _ _ _ _ _ (lv_sub hl [1, 2, 3, 0] rfl) hf
  · have hf := iq h8 hf
    refine x_ldc (v := (-1000000003 : Int32)) B q_1224 dX12_pour_78 ?_
    obtain ⟨rfl, rfl⟩ := rt2 hf
    exact x_iret B dX12_pour_80
def fX12_pour_25 (n : Nat)   (k25 : Int32 → Int32 → Mm → Option (Int32 × Mm)) (x1 : Int32) (x2 : Int32) (m : Mm) : Option (Int32 × Mm) :=
  gd (ib x1 4) <|
  if (m 122 x1.toNatClampNeg) ≤ x2 then (
  fX12_pour_64 n x1 x2 m) else (
  gd (ib (((nI 24) * x1) + x2) 96) <|
  bn (fX12_in n (m 123 (((nI 24) * x1) + x2).toNatClampNeg) (-999 : Int32) (nI 999)) fun r18 =>
  if r18 = 0 then (
  fX12_pour_64 n x1 x2 m) else (
  k25 x1 (x2 + (nI 1)) m))
def fX12_pour_25L (n : Nat)   : Nat → Int32 → Int32 → Mm → Option (Int32 × Mm)
  | 0 => fun _ _ _ => none
  | q + 1 => fX12_pour_25 n   (fX12_pour_25L n   q)
set_option maxHeartbeats 4000000 in
set_option maxRecDepth 100000 in
theorem fX12_pour_25_ok {V : VE} {G : GE} {N : Nat} {f m : Mm} {n : Nat} {ls : Array Slot} {r : Int32} {g : Mm} (B : CX V G cX12_pour 4 "FluxWatchModel" (some .int)) (hR : V.2.2.2.1 = rmX12_pour)   {k25 : Int32 → Int32 → Mm → Option (Int32 × Mm)} (hk25 : ∀ (x1 : Int32) (x2 : Int32) (mm : Mm) (ls : Array Slot),  lv_has ls 4 [(0, .ref (gz G + 107)), (1, .int x1), (2, .int x2)] → k25 x1 x2 mm = some (r, g) → WX V G N f mm 0 0 (QQ V G (some (.int r)) N f g 0 0) 25 ls []) {x1 : Int32} {x2 : Int32}  (hl : lv_has ls 4 [(0, .ref (gz G + 107)), (1, .int x1), (2, .int x2)]) (hf : fX12_pour_25 n  k25 x1 x2 m = some (r, g)) : WX V G N f m 0 0 (QQ V G (some (.int r)) N f g 0 0) 25 ls [] := by
  unfold fX12_pour_25 at hf
  refine x_iload_n B dX12_pour_25 rfl (lv_at hl 2 rfl) ?_
  refine x_aload_n B dX12_pour_26 rfl (lv_at hl 0 rfl) ?_
  refine y_getMr (C := RX12) (T := TX12) (NN := 34) (d := 14) (k2 := 122) B aM_107 inX12 rfl (j := 25) (by decide) q_1137 rfl rfl rfl dX12_pour_27 ?_
  refine x_iload_n B dX12_pour_30 rfl (lv_at hl 1 rfl) ?_
  obtain ⟨h6, hf⟩ := gd_some hf
  refine x_ialdM B aM_122 h6 dX12_pour_31 ?_
  refine x_icmp_ge (tgt := 64) B dX12_pour_32 (by decide) (fun h7 => ?_) (fun h7 => ?_)
  · have hf := ip h7 hf
    exact fX12_pour_64_ok B hR  hl hf
  · have hf := iq h7 hf
    refine x_aload_n B dX12_pour_35 rfl (lv_at hl 0 rfl) ?_
    refine y_getMr (C := RX12) (T := TX12) (NN := 34) (d := 15) (k2 := 123) B aM_107 inX12 rfl (j := 26) (by decide) q_1138 rfl rfl rfl dX12_pour_36 ?_
    refine x_bipush (v := (nI 24)) B dX12_pour_39 (by decide) ?_
    refine x_iload_n B dX12_pour_41 rfl (lv_at hl 1 rfl) ?_
    refine x_imul B dX12_pour_42 ?_
    refine x_iload_n B dX12_pour_43 rfl (lv_at hl 2 rfl) ?_
    refine x_iadd B dX12_pour_44 ?_
    obtain ⟨h16, hf⟩ := gd_some hf
    refine x_ialdM B aM_123 h16 dX12_pour_45 ?_
    refine x_sipush (v := (-999 : Int32)) B dX12_pour_46 (by decide) ?_
    refine x_sipush (v := (nI 999)) B dX12_pour_49 (by decide) ?_
    obtain ⟨r18, c17, hf⟩ := bn_some hf
    refine x_callS0 (rest := []) B (kX12_in c17) ⟨rfl, rfl⟩ q_1220 q_1221 (by rw [hR]; exact cw_X12_pour_X12_in) rfl rfl hl.1 (Nat.le_of_ble_eq_true rfl) dX12_pour_52 ⟨Nat.zero_le _, Nat.zero_le _⟩ ?_
    refine x_if_eq (tgt := 64) B dX12_pour_55 (by decide) (fun h19 => ?_) (fun h19 => ?_)
    · have hf := ip h19 hf
      exact fX12_pour_64_ok B hR  hl hf
    · have hf := iq h19 hf
      refine x_iinc (k := 2) (v := (nI 1)) (lv' := [(2, .int (x2 + (nI 1))), (0, .ref (gz G + 107)), (1, .int x1)]) B dX12_pour_58 hl rfl (by decide) (by decide) rfl (fun ls hl => ?_)
      refine x_goto (tgt := 25) B dX12_pour_61 (by decide) ?_
      exact hk25 _ _ _ _ (lv_sub hl [1, 2, 0] rfl) hf
set_option maxHeartbeats 4000000 in
set_option maxRecDepth 100000 in
theorem fX12_pour_25L_ok {V : VE} {G : GE} {N : Nat} {f : Mm} {n : Nat}  {r : Int32} {g : Mm} (B : CX V G cX12_pour 4 "FluxWatchModel" (some .int)) (hR : V.2.2.2.1 = rmX12_pour)   : ∀ (q : Nat) (x1 : Int32) (x2 : Int32) (mm : Mm) (ls : Array Slot),  lv_has ls 4 [(0, .ref (gz G + 107)), (1, .int x1), (2, .int x2)] → fX12_pour_25L n  q x1 x2 mm = some (r, g) → WX V G N f mm 0 0 (QQ V G (some (.int r)) N f g 0 0) 25 ls [] := by
  intro q
  induction q with
  | zero =>
    intro x1 x2 mm ls hl hf
    cases hf
  | succ q ih =>
    intro x1 x2 mm ls hl hf
    exact fX12_pour_25_ok B hR   ih  hl hf
def fX12_pour (n : Nat) (a1 : Int32) (m : Mm) : Option (Int32 × Mm) :=
  bn (fX12_isSheet n a1) fun r2 =>
  if r2 = 0 then (
  some ((-1000000001 : Int32), m)) else (
  gd (ib a1 4) <|
  if 0 ≤ (m 121 a1.toNatClampNeg) then (
  fX12_pour_25L n n a1 (nI 0) m) else (
  some ((-1000000011 : Int32), m)))
set_option maxHeartbeats 4000000 in
set_option maxRecDepth 100000 in
theorem kX12_pour {l : Launch} {G : GE} {N : Nat} {f m : Mm} {n : Nat} {a1 : Int32} {r : Int32} {g : Mm}  (hf : fX12_pour n a1 m = some (r, g)) : MT l G yX12_pour cX12_pour 4 (some .int) rmX12_pour [.ref (gz G + 107), .int a1] N f m (some (.int r)) N f g := by
  unfold fX12_pour at hf
  refine MT.of (by decide) (Nat.le_of_ble_eq_true rfl) (fun V ls hV hR B hl => ?_)
  have B : CX V G cX12_pour 4 "FluxWatchModel" (some .int) := B
  have hl : lv_has ls 4 [(0, .ref (gz G + 107)), (1, .int a1)] := hl
  show WX V G N f m 0 0 (QQ V G (some (.int r)) N f g 0 0) 0 ls []
  refine x_iload_n B dX12_pour_0 rfl (lv_at hl 1 rfl) ?_
  obtain ⟨r2, c1, hf⟩ := bn_some hf
  refine x_callS0 (rest := []) B (kX12_isSheet c1) ⟨rfl, rfl⟩ q_1548 q_1549 (by rw [hR]; exact cw_X12_pour_X12_isSheet) rfl rfl hl.1 (Nat.le_of_ble_eq_true rfl) dX12_pour_1 ⟨Nat.zero_le _, Nat.zero_le _⟩ ?_
  refine x_if_ne (tgt := 10) B dX12_pour_4 (by decide) (fun h3 => ?_) (fun h3 => ?_)
  · have hf := ip h3 hf
    refine x_ldc (v := (-1000000001 : Int32)) B q_1223 dX12_pour_7 ?_
    obtain ⟨rfl, rfl⟩ := rt2 hf
    exact x_iret B dX12_pour_9
  · have hf := iq h3 hf
    refine x_aload_n B dX12_pour_10 rfl (lv_at hl 0 rfl) ?_
    refine y_getMr (C := RX12) (T := TX12) (NN := 34) (d := 13) (k2 := 121) B aM_107 inX12 rfl (j := 24) (by decide) q_1136 rfl rfl rfl dX12_pour_11 ?_
    refine x_iload_n B dX12_pour_14 rfl (lv_at hl 1 rfl) ?_
    obtain ⟨h4, hf⟩ := gd_some hf
    refine x_ialdM B aM_121 h4 dX12_pour_15 ?_
    refine x_if_ge (tgt := 23) B dX12_pour_16 (by decide) (fun h5 => ?_) (fun h5 => ?_)
    · have hf := ip h5 hf
      refine x_iconst (v := (nI 0)) B dX12_pour_23 (by decide) ?_
      refine x_istore_n (lv' := [(2, .int (nI 0)), (0, .ref (gz G + 107)), (1, .int a1)]) B dX12_pour_24 rfl hl (by decide) rfl (fun ls hl => ?_)
      exact fX12_pour_25L_ok B hR  n _ _ _ _ (lv_sub hl [1, 2, 0] rfl) hf
    · have hf := iq h5 hf
      refine x_ldc_w (v := (-1000000011 : Int32)) B q_1556 dX12_pour_19 ?_
      obtain ⟨rfl, rfl⟩ := rt2 hf
      exact x_iret B dX12_pour_22
def rmX12_rank : Room := { frames := 0, cells := 0, slots := 0, locals := 0 }
def fX12_rank (n : Nat) (a1 : Int32)  : Option (Int32) :=
  if a1 = (-1 : Int32) then (
  some (nI 1)) else (
  if a1 = (-2 : Int32) then (
  some (nI 2)) else (
  if a1 < (-5 : Int32) then (
  if a1 < (-7 : Int32) then (
  if a1 < (-9 : Int32) then (
  some (nI 6)) else (
  some (nI 5))) else (
  some (nI 4))) else (
  some (nI 3))))
set_option maxHeartbeats 4000000 in
set_option maxRecDepth 100000 in
theorem kX12_rank {l : Launch} {G : GE} {N : Nat} {f m : Mm} {n : Nat} {a1 : Int32} {r : Int32}  (hf : fX12_rank n a1 = some r) : MT l G yX12_rank cX12_rank 1 (some .int) rmX12_rank [.int a1] N f m (some (.int r)) N f m := by
  unfold fX12_rank at hf
  refine MT.of (by decide) (Nat.le_of_ble_eq_true rfl) (fun V ls hV hR B hl => ?_)
  have B : CX V G cX12_rank 1 "FluxWatchModel" (some .int) := B
  have hl : lv_has ls 1 [(0, .int a1)] := hl
  show WX V G N f m 0 0 (QQ V G (some (.int r)) N f m 0 0) 0 ls []
  refine x_iload_n B dX12_rank_0 rfl (lv_at hl 0 rfl) ?_
  refine x_iconst (v := (-1 : Int32)) B dX12_rank_1 (by decide) ?_
  refine x_icmp_ne (tgt := 9) B dX12_rank_2 (by decide) (fun h1 => ?_) (fun h1 => ?_)
  · have hf := ip h1 hf
    refine x_iconst (v := (nI 1)) B dX12_rank_5 (by decide) ?_
    refine x_goto (tgt := 51) B dX12_rank_6 (by decide) ?_
    obtain rfl := rt1 hf
    exact x_iret B dX12_rank_51
  · have hf := iq h1 hf
    refine x_iload_n B dX12_rank_9 rfl (lv_at hl 0 rfl) ?_
    refine x_bipush (v := (-2 : Int32)) B dX12_rank_10 (by decide) ?_
    refine x_icmp_ne (tgt := 19) B dX12_rank_12 (by decide) (fun h2 => ?_) (fun h2 => ?_)
    · have hf := ip h2 hf
      refine x_iconst (v := (nI 2)) B dX12_rank_15 (by decide) ?_
      refine x_goto (tgt := 51) B dX12_rank_16 (by decide) ?_
      obtain rfl := rt1 hf
      exact x_iret B dX12_rank_51
    · have hf := iq h2 hf
      refine x_iload_n B dX12_rank_19 rfl (lv_at hl 0 rfl) ?_
      refine x_bipush (v := (-5 : Int32)) B dX12_rank_20 (by decide) ?_
      refine x_icmp_lt (tgt := 29) B dX12_rank_22 (by decide) (fun h3 => ?_) (fun h3 => ?_)
      · have hf := ip h3 hf
        refine x_iload_n B dX12_rank_29 rfl (lv_at hl 0 rfl) ?_
        refine x_bipush (v := (-7 : Int32)) B dX12_rank_30 (by decide) ?_
        refine x_icmp_lt (tgt := 39) B dX12_rank_32 (by decide) (fun h4 => ?_) (fun h4 => ?_)
        · have hf := ip h4 hf
          refine x_iload_n B dX12_rank_39 rfl (lv_at hl 0 rfl) ?_
          refine x_bipush (v := (-9 : Int32)) B dX12_rank_40 (by decide) ?_
          refine x_icmp_lt (tgt := 49) B dX12_rank_42 (by decide) (fun h5 => ?_) (fun h5 => ?_)
          · have hf := ip h5 hf
            refine x_bipush (v := (nI 6)) B dX12_rank_49 (by decide) ?_
            obtain rfl := rt1 hf
            exact x_iret B dX12_rank_51
          · have hf := iq h5 hf
            refine x_iconst (v := (nI 5)) B dX12_rank_45 (by decide) ?_
            refine x_goto (tgt := 51) B dX12_rank_46 (by decide) ?_
            obtain rfl := rt1 hf
            exact x_iret B dX12_rank_51
        · have hf := iq h4 hf
          refine x_iconst (v := (nI 4)) B dX12_rank_35 (by decide) ?_
          refine x_goto (tgt := 51) B dX12_rank_36 (by decide) ?_
          obtain rfl := rt1 hf
          exact x_iret B dX12_rank_51
      · have hf := iq h3 hf
        refine x_iconst (v := (nI 3)) B dX12_rank_25 (by decide) ?_
        refine x_goto (tgt := 51) B dX12_rank_26 (by decide) ?_
        obtain rfl := rt1 hf
        exact x_iret B dX12_rank_51
def rmX12_reads : Room := { frames := 2, cells := 0, slots := 0, locals := 46 }
set_option maxHeartbeats 4000000 in
set_option maxRecDepth 100000 in
theorem cw_X12_reads_X12_isCoil : cwB rmX12_reads rmX12_isCoil yX12_isCoil cX12_isCoil 2 (some .boolean) 1 := ⟨q_1232, q_57, by decide, by decide⟩
set_option maxHeartbeats 4000000 in
set_option maxRecDepth 100000 in
theorem cw_X12_reads_X12_isDay : cwB rmX12_reads rmX12_isDay yX12_isDay cX12_isDay 1 (some .boolean) 1 := ⟨q_1268, q_57, by decide, by decide⟩
set_option maxHeartbeats 4000000 in
set_option maxRecDepth 100000 in
theorem cw_X12_reads_X12_isSheet : cwB rmX12_reads rmX12_isSheet yX12_isSheet cX12_isSheet 1 (some .boolean) 1 := ⟨q_1550, q_57, by decide, by decide⟩
set_option maxHeartbeats 4000000 in
set_option maxRecDepth 100000 in
theorem cw_X12_reads_X12_lineOf : cwB rmX12_reads rmX12_lineOf yX12_lineOf cX12_lineOf 5 (some .int) 2 := ⟨q_1284, q_57, by decide, by decide⟩
def fX12_reads_90 (n : Nat)  (k41 : Int32 → Int32 → Int32 → Int32 → Mm → Option (Int32)) (x1 : Int32) (x2 : Int32) (x3 : Int32) (x4 : Int32) (m : Mm) : Option (Int32) :=
  k41 x1 x2 x3 (x4 + (nI 1)) m
set_option maxHeartbeats 4000000 in
set_option maxRecDepth 100000 in
theorem fX12_reads_90_ok {V : VE} {G : GE} {N : Nat} {f m : Mm} {n : Nat} {ls : Array Slot} {r : Int32} (B : CX V G cX12_reads 6 "FluxWatchModel" (some .int)) (hR : V.2.2.2.1 = rmX12_reads)  {k41 : Int32 → Int32 → Int32 → Int32 → Mm → Option (Int32)} (hk41 : ∀ (x1 : Int32) (x2 : Int32) (x3 : Int32) (x4 : Int32) (mm : Mm) (ls : Array Slot),  lv_has ls 6 [(0, .ref (gz G + 107)), (1, .int x1), (2, .int x2), (3, .int x3), (4, .int x4)] → k41 x1 x2 x3 x4 mm = some r → WX V G N f mm 0 0 (QQ V G (some (.int r)) N f mm 0 0) 41 ls []) {x1 : Int32} {x2 : Int32} {x3 : Int32} {x4 : Int32}  (hl : lv_has ls 6 [(0, .ref (gz G + 107)), (1, .int x1), (2, .int x2), (3, .int x3), (4, .int x4)]) (hf : fX12_reads_90 n  k41 x1 x2 x3 x4 m = some r) : WX V G N f m 0 0 (QQ V G (some (.int r)) N f m 0 0) 90 ls [] := by
  unfold fX12_reads_90 at hf
  refine x_iinc (k := 4) (v := (nI 1)) (lv' := [(4, .int (x4 + (nI 1))), (0, .ref (gz G + 107)), (1, .int x1), (2, .int x2), (3, .int x3)]) B dX12_reads_90 hl rfl (by decide) (by decide) rfl (fun ls hl => ?_)
  refine x_goto (tgt := 41) B dX12_reads_93 (by decide) ?_
  exact hk41 _ _ _ _ _ _ (lv_sub hl [1, 2, 3, 4, 0] rfl) hf
def fX12_reads_41 (n : Nat)   (k41 : Int32 → Int32 → Int32 → Int32 → Mm → Option (Int32)) (x1 : Int32) (x2 : Int32) (x3 : Int32) (x4 : Int32) (m : Mm) : Option (Int32) :=
  gd (ib x1 4) <|
  if (m 122 x1.toNatClampNeg) ≤ x4 then (
  some (-1000000005 : Int32)) else (
  gd (ib (((nI 24) * x1) + x4) 96) <|
  lt (m 123 (((nI 24) * x1) + x4).toNatClampNeg) fun v15 =>
  if v15 = (-1000000005 : Int32) then (
  fX12_reads_90 n k41 x1 x2 x3 x4 m) else (
  bn (fX12_lineOf n x2 (x3 + x4) m) fun r19 =>
  if v15 = r19 then (
  fX12_reads_90 n k41 x1 x2 x3 x4 m) else (
  some x4)))
def fX12_reads_41L (n : Nat)   : Nat → Int32 → Int32 → Int32 → Int32 → Mm → Option (Int32)
  | 0 => fun _ _ _ _ _ => none
  | q + 1 => fX12_reads_41 n   (fX12_reads_41L n   q)
set_option maxHeartbeats 4000000 in
set_option maxRecDepth 100000 in
theorem fX12_reads_41_ok {V : VE} {G : GE} {N : Nat} {f m : Mm} {n : Nat} {ls : Array Slot} {r : Int32} (B : CX V G cX12_reads 6 "FluxWatchModel" (some .int)) (hR : V.2.2.2.1 = rmX12_reads)   {k41 : Int32 → Int32 → Int32 → Int32 → Mm → Option (Int32)} (hk41 : ∀ (x1 : Int32) (x2 : Int32) (x3 : Int32) (x4 : Int32) (mm : Mm) (ls : Array Slot),  lv_has ls 6 [(0, .ref (gz G + 107)), (1, .int x1), (2, .int x2), (3, .int x3), (4, .int x4)] → k41 x1 x2 x3 x4 mm = some r → WX V G N f mm 0 0 (QQ V G (some (.int r)) N f mm 0 0) 41 ls []) {x1 : Int32} {x2 : Int32} {x3 : Int32} {x4 : Int32}  (hl : lv_has ls 6 [(0, .ref (gz G + 107)), (1, .int x1), (2, .int x2), (3, .int x3), (4, .int x4)]) (hf : fX12_reads_41 n  k41 x1 x2 x3 x4 m = some r) : WX V G N f m 0 0 (QQ V G (some (.int r)) N f m 0 0) 41 ls [] := by
  unfold fX12_reads_41 at hf
  refine x_iload B dX12_reads_41 (lv_at hl 4 rfl) ?_
  refine x_aload_n B dX12_reads_43 rfl (lv_at hl 0 rfl) ?_
  refine y_getMr (C := RX12) (T := TX12) (NN := 34) (d := 14) (k2 := 122) B aM_107 inX12 rfl (j := 25) (by decide) q_1137 rfl rfl rfl dX12_reads_44 ?_
  refine x_iload_n B dX12_reads_47 rfl (lv_at hl 1 rfl) ?_
  obtain ⟨h12, hf⟩ := gd_some hf
  refine x_ialdM B aM_122 h12 dX12_reads_48 ?_
  refine x_icmp_ge (tgt := 96) B dX12_reads_49 (by decide) (fun h13 => ?_) (fun h13 => ?_)
  · have hf := ip h13 hf
    refine x_ldc (v := (-1000000005 : Int32)) B q_1237 dX12_reads_96 ?_
    obtain rfl := rt1 hf
    exact x_iret B dX12_reads_98
  · have hf := iq h13 hf
    refine x_aload_n B dX12_reads_52 rfl (lv_at hl 0 rfl) ?_
    refine y_getMr (C := RX12) (T := TX12) (NN := 34) (d := 15) (k2 := 123) B aM_107 inX12 rfl (j := 26) (by decide) q_1138 rfl rfl rfl dX12_reads_53 ?_
    refine x_bipush (v := (nI 24)) B dX12_reads_56 (by decide) ?_
    refine x_iload_n B dX12_reads_58 rfl (lv_at hl 1 rfl) ?_
    refine x_imul B dX12_reads_59 ?_
    refine x_iload B dX12_reads_60 (lv_at hl 4 rfl) ?_
    refine x_iadd B dX12_reads_62 ?_
    obtain ⟨h14, hf⟩ := gd_some hf
    refine x_ialdM B aM_123 h14 dX12_reads_63 ?_
    refine x_nm (fun v15 e16 => ?_)
    have hf := lt_some hf e16
    refine x_istore (lv' := [(5, .int v15), (0, .ref (gz G + 107)), (1, .int x1), (2, .int x2), (3, .int x3), (4, .int x4)]) B dX12_reads_64 hl (by decide) rfl (fun ls hl => ?_)
    refine x_iload B dX12_reads_66 (lv_at hl 0 rfl) ?_
    refine x_ldc (v := (-1000000005 : Int32)) B q_1237 dX12_reads_68 ?_
    refine x_icmp_eq (tgt := 90) B dX12_reads_70 (by decide) (fun h17 => ?_) (fun h17 => ?_)
    · have hf := ip h17 hf
      exact fX12_reads_90_ok B hR hk41 (lv_sub hl [1, 2, 3, 4, 5] rfl) hf
    · have hf := iq h17 hf
      refine x_iload B dX12_reads_73 (lv_at hl 0 rfl) ?_
      refine x_aload_n B dX12_reads_75 rfl (lv_at hl 1 rfl) ?_
      refine x_iload_n B dX12_reads_76 rfl (lv_at hl 3 rfl) ?_
      refine x_iload_n B dX12_reads_77 rfl (lv_at hl 4 rfl) ?_
      refine x_iload B dX12_reads_78 (lv_at hl 5 rfl) ?_
      refine x_iadd B dX12_reads_80 ?_
      obtain ⟨r19, c18, hf⟩ := bn_some hf
      refine x_callV0 (rest := [.int v15]) B (kX12_lineOf c18) ⟨rfl, rfl⟩ aM_107.lt aM_107.2 rfl (by decide) q_1281 q_1283 q_12 (by rw [hR]; exact cw_X12_reads_X12_lineOf) rfl rfl hl.1 (Nat.le_of_ble_eq_true rfl) dX12_reads_81 ⟨Nat.zero_le _, Nat.zero_le _⟩ ?_
      refine x_icmp_eq (tgt := 90) B dX12_reads_84 (by decide) (fun h20 => ?_) (fun h20 => ?_)
      · have hf := ip h20 hf
        exact fX12_reads_90_ok B hR hk41 (lv_sub hl [1, 2, 3, 4, 5] rfl) hf
      · have hf := iq h20 hf
        refine x_iload B dX12_reads_87 (lv_at hl 5 rfl) ?_
        obtain rfl := rt1 hf
        exact x_iret B dX12_reads_89
set_option maxHeartbeats 4000000 in
set_option maxRecDepth 100000 in
theorem fX12_reads_41L_ok {V : VE} {G : GE} {N : Nat} {f : Mm} {n : Nat}  {r : Int32} (B : CX V G cX12_reads 6 "FluxWatchModel" (some .int)) (hR : V.2.2.2.1 = rmX12_reads)   : ∀ (q : Nat) (x1 : Int32) (x2 : Int32) (x3 : Int32) (x4 : Int32) (mm : Mm) (ls : Array Slot),  lv_has ls 6 [(0, .ref (gz G + 107)), (1, .int x1), (2, .int x2), (3, .int x3), (4, .int x4)] → fX12_reads_41L n  q x1 x2 x3 x4 mm = some r → WX V G N f mm 0 0 (QQ V G (some (.int r)) N f mm 0 0) 41 ls [] := by
  intro q
  induction q with
  | zero =>
    intro x1 x2 x3 x4 mm ls hl hf
    cases hf
  | succ q ih =>
    intro x1 x2 x3 x4 mm ls hl hf
    exact fX12_reads_41_ok B hR   ih  hl hf
def fX12_reads (n : Nat) (a1 : Int32) (a2 : Int32) (a3 : Int32) (m : Mm) : Option (Int32) :=
  bn (fX12_isSheet n a1) fun r2 =>
  if r2 = 0 then (
  some (-1000000001 : Int32)) else (
  bn (fX12_isCoil n a2 m) fun r5 =>
  if r5 = 0 then (
  some (-1000000001 : Int32)) else (
  bn (fX12_isDay n a3) fun r8 =>
  if r8 = 0 then (
  some (-1000000001 : Int32)) else (
  gd (ib a1 4) <|
  if 0 ≤ (m 121 a1.toNatClampNeg) then (
  fX12_reads_41L n n a1 a2 a3 (nI 0) m) else (
  some (-1000000011 : Int32)))))
set_option maxHeartbeats 4000000 in
set_option maxRecDepth 100000 in
theorem kX12_reads {l : Launch} {G : GE} {N : Nat} {f m : Mm} {n : Nat} {a1 : Int32} {a2 : Int32} {a3 : Int32} {r : Int32}  (hf : fX12_reads n a1 a2 a3 m = some r) : MT l G yX12_reads cX12_reads 6 (some .int) rmX12_reads [.ref (gz G + 107), .int a1, .int a2, .int a3] N f m (some (.int r)) N f m := by
  unfold fX12_reads at hf
  refine MT.of (by decide) (Nat.le_of_ble_eq_true rfl) (fun V ls hV hR B hl => ?_)
  have B : CX V G cX12_reads 6 "FluxWatchModel" (some .int) := B
  have hl : lv_has ls 6 [(0, .ref (gz G + 107)), (1, .int a1), (2, .int a2), (3, .int a3)] := hl
  show WX V G N f m 0 0 (QQ V G (some (.int r)) N f m 0 0) 0 ls []
  refine x_iload_n B dX12_reads_0 rfl (lv_at hl 1 rfl) ?_
  obtain ⟨r2, c1, hf⟩ := bn_some hf
  refine x_callS0 (rest := []) B (kX12_isSheet c1) ⟨rfl, rfl⟩ q_1548 q_1549 (by rw [hR]; exact cw_X12_reads_X12_isSheet) rfl rfl hl.1 (Nat.le_of_ble_eq_true rfl) dX12_reads_1 ⟨Nat.zero_le _, Nat.zero_le _⟩ ?_
  refine x_if_eq (tgt := 22) B dX12_reads_4 (by decide) (fun h3 => ?_) (fun h3 => ?_)
  · have hf := ip h3 hf
    refine x_ldc (v := (-1000000001 : Int32)) B q_1223 dX12_reads_22 ?_
    obtain rfl := rt1 hf
    exact x_iret B dX12_reads_24
  · have hf := iq h3 hf
    refine x_aload_n B dX12_reads_7 rfl (lv_at hl 0 rfl) ?_
    refine x_iload_n B dX12_reads_8 rfl (lv_at hl 2 rfl) ?_
    obtain ⟨r5, c4, hf⟩ := bn_some hf
    refine x_callV0 (rest := []) B (kX12_isCoil c4) ⟨rfl, rfl⟩ aM_107.lt aM_107.2 rfl (by decide) q_1229 q_1231 q_7 (by rw [hR]; exact cw_X12_reads_X12_isCoil) rfl rfl hl.1 (Nat.le_of_ble_eq_true rfl) dX12_reads_9 ⟨Nat.zero_le _, Nat.zero_le _⟩ ?_
    refine x_if_eq (tgt := 22) B dX12_reads_12 (by decide) (fun h6 => ?_) (fun h6 => ?_)
    · have hf := ip h6 hf
      refine x_ldc (v := (-1000000001 : Int32)) B q_1223 dX12_reads_22 ?_
      obtain rfl := rt1 hf
      exact x_iret B dX12_reads_24
    · have hf := iq h6 hf
      refine x_iload_n B dX12_reads_15 rfl (lv_at hl 3 rfl) ?_
      obtain ⟨r8, c7, hf⟩ := bn_some hf
      refine x_callS0 (rest := []) B (kX12_isDay c7) ⟨rfl, rfl⟩ q_1266 q_1267 (by rw [hR]; exact cw_X12_reads_X12_isDay) rfl rfl hl.1 (Nat.le_of_ble_eq_true rfl) dX12_reads_16 ⟨Nat.zero_le _, Nat.zero_le _⟩ ?_
      refine x_if_ne (tgt := 25) B dX12_reads_19 (by decide) (fun h9 => ?_) (fun h9 => ?_)
      · have hf := ip h9 hf
        refine x_ldc (v := (-1000000001 : Int32)) B q_1223 dX12_reads_22 ?_
        obtain rfl := rt1 hf
        exact x_iret B dX12_reads_24
      · have hf := iq h9 hf
        refine x_aload_n B dX12_reads_25 rfl (lv_at hl 0 rfl) ?_
        refine y_getMr (C := RX12) (T := TX12) (NN := 34) (d := 13) (k2 := 121) B aM_107 inX12 rfl (j := 24) (by decide) q_1136 rfl rfl rfl dX12_reads_26 ?_
        refine x_iload_n B dX12_reads_29 rfl (lv_at hl 1 rfl) ?_
        obtain ⟨h10, hf⟩ := gd_some hf
        refine x_ialdM B aM_121 h10 dX12_reads_30 ?_
        refine x_if_ge (tgt := 38) B dX12_reads_31 (by decide) (fun h11 => ?_) (fun h11 => ?_)
        · have hf := ip h11 hf
          refine x_iconst (v := (nI 0)) B dX12_reads_38 (by decide) ?_
          refine x_istore (lv' := [(4, .int (nI 0)), (0, .ref (gz G + 107)), (1, .int a1), (2, .int a2), (3, .int a3)]) B dX12_reads_39 hl (by decide) rfl (fun ls hl => ?_)
          exact fX12_reads_41L_ok B hR  n _ _ _ _ _ _ (lv_sub hl [1, 2, 3, 4, 0] rfl) hf
        · have hf := iq h11 hf
          refine x_ldc_w (v := (-1000000011 : Int32)) B q_1556 dX12_reads_34 ?_
          obtain rfl := rt1 hf
          exact x_iret B dX12_reads_37
def rmX12_rest : Room := { frames := 2, cells := 0, slots := 0, locals := 42 }
set_option maxHeartbeats 4000000 in
set_option maxRecDepth 100000 in
theorem cw_X12_rest_X12_isSlot : cwB rmX12_rest rmX12_isSlot yX12_isSlot cX12_isSlot 1 (some .boolean) 1 := ⟨q_1578, q_57, by decide, by decide⟩
def fX12_rest (n : Nat) (a1 : Int32) (a2 : Int32) (m : Mm) : Option (Int32) :=
  bn (fX12_isSlot n a1) fun r2 =>
  if r2 = 0 then (
  some (-1000000001 : Int32)) else (
  gd (ib a1 5) <|
  if (m 124 a1.toNatClampNeg) = 0 then (
  some (-1000000011 : Int32)) else (
  gd (ib a1 5) <|
  if (m 124 a1.toNatClampNeg) = (nI 3) then (
  if a2 = 0 then (
  some (-1000000002 : Int32)) else (
  if a2 = (-1 : Int32) then (
  some (nI 0)) else (
  gd (ib a1 5) <|
  gd (nz a2) <|
  some (irm (m 125 a1.toNatClampNeg) a2)))) else (
  some (-1000000012 : Int32))))
set_option maxHeartbeats 4000000 in
set_option maxRecDepth 100000 in
theorem kX12_rest {l : Launch} {G : GE} {N : Nat} {f m : Mm} {n : Nat} {a1 : Int32} {a2 : Int32} {r : Int32}  (hf : fX12_rest n a1 a2 m = some r) : MT l G yX12_rest cX12_rest 3 (some .int) rmX12_rest [.ref (gz G + 107), .int a1, .int a2] N f m (some (.int r)) N f m := by
  unfold fX12_rest at hf
  refine MT.of (by decide) (Nat.le_of_ble_eq_true rfl) (fun V ls hV hR B hl => ?_)
  have B : CX V G cX12_rest 3 "FluxWatchModel" (some .int) := B
  have hl : lv_has ls 3 [(0, .ref (gz G + 107)), (1, .int a1), (2, .int a2)] := hl
  show WX V G N f m 0 0 (QQ V G (some (.int r)) N f m 0 0) 0 ls []
  refine x_iload_n B dX12_rest_0 rfl (lv_at hl 1 rfl) ?_
  obtain ⟨r2, c1, hf⟩ := bn_some hf
  refine x_callS0 (rest := []) B (kX12_isSlot c1) ⟨rfl, rfl⟩ q_1576 q_1577 (by rw [hR]; exact cw_X12_rest_X12_isSlot) rfl rfl hl.1 (Nat.le_of_ble_eq_true rfl) dX12_rest_1 ⟨Nat.zero_le _, Nat.zero_le _⟩ ?_
  refine x_if_ne (tgt := 10) B dX12_rest_4 (by decide) (fun h3 => ?_) (fun h3 => ?_)
  · have hf := ip h3 hf
    refine x_ldc (v := (-1000000001 : Int32)) B q_1223 dX12_rest_7 ?_
    obtain rfl := rt1 hf
    exact x_iret B dX12_rest_9
  · have hf := iq h3 hf
    refine x_aload_n B dX12_rest_10 rfl (lv_at hl 0 rfl) ?_
    refine y_getMr (C := RX12) (T := TX12) (NN := 34) (d := 16) (k2 := 124) B aM_107 inX12 rfl (j := 27) (by decide) q_1139 rfl rfl rfl dX12_rest_11 ?_
    refine x_iload_n B dX12_rest_14 rfl (lv_at hl 1 rfl) ?_
    obtain ⟨h4, hf⟩ := gd_some hf
    refine x_ialdM B aM_124 h4 dX12_rest_15 ?_
    refine x_if_ne (tgt := 23) B dX12_rest_16 (by decide) (fun h5 => ?_) (fun h5 => ?_)
    · have hf := ip h5 hf
      refine x_ldc_w (v := (-1000000011 : Int32)) B q_1556 dX12_rest_19 ?_
      obtain rfl := rt1 hf
      exact x_iret B dX12_rest_22
    · have hf := iq h5 hf
      refine x_aload_n B dX12_rest_23 rfl (lv_at hl 0 rfl) ?_
      refine y_getMr (C := RX12) (T := TX12) (NN := 34) (d := 16) (k2 := 124) B aM_107 inX12 rfl (j := 27) (by decide) q_1139 rfl rfl rfl dX12_rest_24 ?_
      refine x_iload_n B dX12_rest_27 rfl (lv_at hl 1 rfl) ?_
      obtain ⟨h6, hf⟩ := gd_some hf
      refine x_ialdM B aM_124 h6 dX12_rest_28 ?_
      refine x_iconst (v := (nI 3)) B dX12_rest_29 (by decide) ?_
      refine x_icmp_eq (tgt := 36) B dX12_rest_30 (by decide) (fun h7 => ?_) (fun h7 => ?_)
      · have hf := ip h7 hf
        refine x_iload_n B dX12_rest_36 rfl (lv_at hl 2 rfl) ?_
        refine x_if_ne (tgt := 45) B dX12_rest_37 (by decide) (fun h8 => ?_) (fun h8 => ?_)
        · have hf := ip h8 hf
          refine x_ldc (v := (-1000000002 : Int32)) B q_1254 dX12_rest_40 ?_
          refine x_goto (tgt := 62) B dX12_rest_42 (by decide) ?_
          obtain rfl := rt1 hf
          exact x_iret B dX12_rest_62
        · have hf := iq h8 hf
          refine x_iload_n B dX12_rest_45 rfl (lv_at hl 2 rfl) ?_
          refine x_iconst (v := (-1 : Int32)) B dX12_rest_46 (by decide) ?_
          refine x_icmp_ne (tgt := 54) B dX12_rest_47 (by decide) (fun h9 => ?_) (fun h9 => ?_)
          · have hf := ip h9 hf
            refine x_iconst (v := (nI 0)) B dX12_rest_50 (by decide) ?_
            refine x_goto (tgt := 62) B dX12_rest_51 (by decide) ?_
            obtain rfl := rt1 hf
            exact x_iret B dX12_rest_62
          · have hf := iq h9 hf
            refine x_aload_n B dX12_rest_54 rfl (lv_at hl 0 rfl) ?_
            refine y_getMr (C := RX12) (T := TX12) (NN := 34) (d := 17) (k2 := 125) B aM_107 inX12 rfl (j := 28) (by decide) q_1140 rfl rfl rfl dX12_rest_55 ?_
            refine x_iload_n B dX12_rest_58 rfl (lv_at hl 1 rfl) ?_
            obtain ⟨h10, hf⟩ := gd_some hf
            refine x_ialdM B aM_125 h10 dX12_rest_59 ?_
            refine x_iload_n B dX12_rest_60 rfl (lv_at hl 2 rfl) ?_
            obtain ⟨h11, hf⟩ := gd_some hf
            refine y_irem B dX12_rest_61 (nz_ne h11) ?_
            obtain rfl := rt1 hf
            exact x_iret B dX12_rest_62
      · have hf := iq h7 hf
        refine x_ldc (v := (-1000000012 : Int32)) B q_1327 dX12_rest_33 ?_
        obtain rfl := rt1 hf
        exact x_iret B dX12_rest_35
def rmX12_run : Room := { frames := 5, cells := 0, slots := 0, locals := 119 }
set_option maxHeartbeats 4000000 in
set_option maxRecDepth 100000 in
theorem cw_X12_run_X12_aDay : cwB rmX12_run rmX12_aDay yX12_aDay cX12_aDay 8 none 0 := ⟨q_1351, q_57, by decide, by decide⟩
set_option maxHeartbeats 4000000 in
set_option maxRecDepth 100000 in
theorem cw_X12_run_X12_in : cwB rmX12_run rmX12_in yX12_in cX12_in 3 (some .boolean) 3 := ⟨q_1222, q_57, by decide, by decide⟩
def fX12_run_32 (n : Nat)   (k32 : Int32 → Int32 → Mm → Option (Int32 × Mm)) (x1 : Int32) (x2 : Int32) (m : Mm) : Option (Int32 × Mm) :=
  if x1 ≤ x2 then (
  some (m 108 (nI 4).toNatClampNeg, m)) else (
  bn (fX12_aDay n m) fun f7 =>
  k32 x1 (x2 + (nI 1)) f7)
def fX12_run_32L (n : Nat)   : Nat → Int32 → Int32 → Mm → Option (Int32 × Mm)
  | 0 => fun _ _ _ => none
  | q + 1 => fX12_run_32 n   (fX12_run_32L n   q)
set_option maxHeartbeats 4000000 in
set_option maxRecDepth 100000 in
theorem fX12_run_32_ok {V : VE} {G : GE} {N : Nat} {f m : Mm} {n : Nat} {ls : Array Slot} {r : Int32} {g : Mm} (B : CX V G cX12_run 3 "FluxWatchModel" (some .int)) (hR : V.2.2.2.1 = rmX12_run)   {k32 : Int32 → Int32 → Mm → Option (Int32 × Mm)} (hk32 : ∀ (x1 : Int32) (x2 : Int32) (mm : Mm) (ls : Array Slot),  lv_has ls 3 [(0, .ref (gz G + 107)), (1, .int x1), (2, .int x2)] → k32 x1 x2 mm = some (r, g) → WX V G N f mm 0 0 (QQ V G (some (.int r)) N f g 0 0) 32 ls []) {x1 : Int32} {x2 : Int32}  (hl : lv_has ls 3 [(0, .ref (gz G + 107)), (1, .int x1), (2, .int x2)]) (hf : fX12_run_32 n  k32 x1 x2 m = some (r, g)) : WX V G N f m 0 0 (QQ V G (some (.int r)) N f g 0 0) 32 ls [] := by
  unfold fX12_run_32 at hf
  refine x_iload_n B dX12_run_32 rfl (lv_at hl 2 rfl) ?_
  refine x_iload_n B dX12_run_33 rfl (lv_at hl 1 rfl) ?_
  refine x_icmp_ge (tgt := 47) B dX12_run_34 (by decide) (fun h5 => ?_) (fun h5 => ?_)
  · have hf := ip h5 hf
    refine x_aload_n B dX12_run_47 rfl (lv_at hl 0 rfl) ?_
    refine y_getMr (C := RX12) (T := TX12) (NN := 34) (d := 0) (k2 := 108) B aM_107 inX12 rfl (j := 0) (by decide) q_1112 rfl rfl rfl dX12_run_48 ?_
    refine x_iconst (v := (nI 4)) B dX12_run_51 (by decide) ?_
    refine x_ialdM B aM_108 (by decide) dX12_run_52 ?_
    obtain ⟨rfl, rfl⟩ := rt2 hf
    exact x_iret B dX12_run_53
  · have hf := iq h5 hf
    refine x_aload_n B dX12_run_37 rfl (lv_at hl 0 rfl) ?_
    obtain ⟨f7, c6, hf⟩ := bn_some hf
    refine x_callV0 (rest := []) B (kX12_aDay c6) ⟨rfl, rfl⟩ aM_107.lt aM_107.2 rfl (by decide) q_1348 q_1350 q_19 (by rw [hR]; exact cw_X12_run_X12_aDay) rfl rfl hl.1 (Nat.le_of_ble_eq_true rfl) dX12_run_38 ⟨Nat.zero_le _, Nat.zero_le _⟩ ?_
    refine x_iinc (k := 2) (v := (nI 1)) (lv' := [(2, .int (x2 + (nI 1))), (0, .ref (gz G + 107)), (1, .int x1)]) B dX12_run_41 hl rfl (by decide) (by decide) rfl (fun ls hl => ?_)
    refine x_goto (tgt := 32) B dX12_run_44 (by decide) ?_
    exact hk32 _ _ _ _ (lv_sub hl [1, 2, 0] rfl) hf
set_option maxHeartbeats 4000000 in
set_option maxRecDepth 100000 in
theorem fX12_run_32L_ok {V : VE} {G : GE} {N : Nat} {f : Mm} {n : Nat}  {r : Int32} {g : Mm} (B : CX V G cX12_run 3 "FluxWatchModel" (some .int)) (hR : V.2.2.2.1 = rmX12_run)   : ∀ (q : Nat) (x1 : Int32) (x2 : Int32) (mm : Mm) (ls : Array Slot),  lv_has ls 3 [(0, .ref (gz G + 107)), (1, .int x1), (2, .int x2)] → fX12_run_32L n  q x1 x2 mm = some (r, g) → WX V G N f mm 0 0 (QQ V G (some (.int r)) N f g 0 0) 32 ls [] := by
  intro q
  induction q with
  | zero =>
    intro x1 x2 mm ls hl hf
    cases hf
  | succ q ih =>
    intro x1 x2 mm ls hl hf
    exact fX12_run_32_ok B hR   ih  hl hf
def fX12_run (n : Nat) (a1 : Int32) (m : Mm) : Option (Int32 × Mm) :=
  bn (fX12_in n a1 (nI 1) (nI 60)) fun r2 =>
  if r2 = 0 then (
  some ((-1000000001 : Int32), m)) else (
  if ((m 108 (nI 1).toNatClampNeg) + a1) ≤ (nI 1999) then (
  fX12_run_32L n n a1 (nI 0) m) else (
  some ((-1000000003 : Int32), m)))
set_option maxHeartbeats 4000000 in
set_option maxRecDepth 100000 in
theorem kX12_run {l : Launch} {G : GE} {N : Nat} {f m : Mm} {n : Nat} {a1 : Int32} {r : Int32} {g : Mm}  (hf : fX12_run n a1 m = some (r, g)) : MT l G yX12_run cX12_run 3 (some .int) rmX12_run [.ref (gz G + 107), .int a1] N f m (some (.int r)) N f g := by
  unfold fX12_run at hf
  refine MT.of (by decide) (Nat.le_of_ble_eq_true rfl) (fun V ls hV hR B hl => ?_)
  have B : CX V G cX12_run 3 "FluxWatchModel" (some .int) := B
  have hl : lv_has ls 3 [(0, .ref (gz G + 107)), (1, .int a1)] := hl
  show WX V G N f m 0 0 (QQ V G (some (.int r)) N f g 0 0) 0 ls []
  refine x_iload_n B dX12_run_0 rfl (lv_at hl 1 rfl) ?_
  refine x_iconst (v := (nI 1)) B dX12_run_1 (by decide) ?_
  refine x_bipush (v := (nI 60)) B dX12_run_2 (by decide) ?_
  obtain ⟨r2, c1, hf⟩ := bn_some hf
  refine x_callS0 (rest := []) B (kX12_in c1) ⟨rfl, rfl⟩ q_1220 q_1221 (by rw [hR]; exact cw_X12_run_X12_in) rfl rfl hl.1 (Nat.le_of_ble_eq_true rfl) dX12_run_4 ⟨Nat.zero_le _, Nat.zero_le _⟩ ?_
  refine x_if_ne (tgt := 13) B dX12_run_7 (by decide) (fun h3 => ?_) (fun h3 => ?_)
  · have hf := ip h3 hf
    refine x_ldc (v := (-1000000001 : Int32)) B q_1223 dX12_run_10 ?_
    obtain ⟨rfl, rfl⟩ := rt2 hf
    exact x_iret B dX12_run_12
  · have hf := iq h3 hf
    refine x_aload_n B dX12_run_13 rfl (lv_at hl 0 rfl) ?_
    refine y_getMr (C := RX12) (T := TX12) (NN := 34) (d := 0) (k2 := 108) B aM_107 inX12 rfl (j := 0) (by decide) q_1112 rfl rfl rfl dX12_run_14 ?_
    refine x_iconst (v := (nI 1)) B dX12_run_17 (by decide) ?_
    refine x_ialdM B aM_108 (by decide) dX12_run_18 ?_
    refine x_iload_n B dX12_run_19 rfl (lv_at hl 1 rfl) ?_
    refine x_iadd B dX12_run_20 ?_
    refine x_sipush (v := (nI 1999)) B dX12_run_21 (by decide) ?_
    refine x_icmp_le (tgt := 30) B dX12_run_24 (by decide) (fun h4 => ?_) (fun h4 => ?_)
    · have hf := ip h4 hf
      refine x_iconst (v := (nI 0)) B dX12_run_30 (by decide) ?_
      refine x_istore_n (lv' := [(2, .int (nI 0)), (0, .ref (gz G + 107)), (1, .int a1)]) B dX12_run_31 rfl hl (by decide) rfl (fun ls hl => ?_)
      exact fX12_run_32L_ok B hR  n _ _ _ _ (lv_sub hl [1, 2, 0] rfl) hf
    · have hf := iq h4 hf
      refine x_ldc (v := (-1000000003 : Int32)) B q_1224 dX12_run_27 ?_
      obtain ⟨rfl, rfl⟩ := rt2 hf
      exact x_iret B dX12_run_29
def rmX12_seed : Room := { frames := 0, cells := 0, slots := 0, locals := 0 }
def fX12_seed (n : Nat) (a1 : Int32) (m : Mm) : Option (Int32 × Mm) :=
  lt (m 108 (nI 0).toNatClampNeg) fun v1 =>
  lt (up m 108 (nI 0).toNatClampNeg a1) fun f3 =>
  some (v1, f3)
set_option maxHeartbeats 4000000 in
set_option maxRecDepth 100000 in
theorem kX12_seed {l : Launch} {G : GE} {N : Nat} {f m : Mm} {n : Nat} {a1 : Int32} {r : Int32} {g : Mm}  (hf : fX12_seed n a1 m = some (r, g)) : MT l G yX12_seed cX12_seed 3 (some .int) rmX12_seed [.ref (gz G + 107), .int a1] N f m (some (.int r)) N f g := by
  unfold fX12_seed at hf
  refine MT.of (by decide) (Nat.le_of_ble_eq_true rfl) (fun V ls hV hR B hl => ?_)
  have B : CX V G cX12_seed 3 "FluxWatchModel" (some .int) := B
  have hl : lv_has ls 3 [(0, .ref (gz G + 107)), (1, .int a1)] := hl
  show WX V G N f m 0 0 (QQ V G (some (.int r)) N f g 0 0) 0 ls []
  refine x_aload_n B dX12_seed_0 rfl (lv_at hl 0 rfl) ?_
  refine y_getMr (C := RX12) (T := TX12) (NN := 34) (d := 0) (k2 := 108) B aM_107 inX12 rfl (j := 0) (by decide) q_1112 rfl rfl rfl dX12_seed_1 ?_
  refine x_iconst (v := (nI 0)) B dX12_seed_4 (by decide) ?_
  refine x_ialdM B aM_108 (by decide) dX12_seed_5 ?_
  refine x_nm (fun v1 e2 => ?_)
  have hf := lt_some hf e2
  refine x_istore_n (lv' := [(2, .int v1), (0, .ref (gz G + 107)), (1, .int a1)]) B dX12_seed_6 rfl hl (by decide) rfl (fun ls hl => ?_)
  refine x_aload_n B dX12_seed_7 rfl (lv_at hl 1 rfl) ?_
  refine y_getMr (C := RX12) (T := TX12) (NN := 34) (d := 0) (k2 := 108) B aM_107 inX12 rfl (j := 0) (by decide) q_1112 rfl rfl rfl dX12_seed_8 ?_
  refine x_iconst (v := (nI 0)) B dX12_seed_11 (by decide) ?_
  refine x_iload_n B dX12_seed_12 rfl (lv_at hl 2 rfl) ?_
  refine x_iastM B aM_108 (by decide) dX12_seed_13 (fun f3 e4 => ?_)
  have hf := lt_some hf e4
  refine x_iload_n B dX12_seed_14 rfl (lv_at hl 0 rfl) ?_
  obtain ⟨rfl, rfl⟩ := rt2 hf
  exact x_iret B dX12_seed_15
def rmX12_seen : Room := { frames := 3, cells := 0, slots := 0, locals := 69 }
set_option maxHeartbeats 4000000 in
set_option maxRecDepth 100000 in
theorem cw_X12_seen_X12_isDay : cwB rmX12_seen rmX12_isDay yX12_isDay cX12_isDay 1 (some .boolean) 1 := ⟨q_1268, q_57, by decide, by decide⟩
set_option maxHeartbeats 4000000 in
set_option maxRecDepth 100000 in
theorem cw_X12_seen_X12_seenOn : cwB rmX12_seen rmX12_seenOn yX12_seenOn cX12_seenOn 4 (some .int) 1 := ⟨q_1276, q_57, by decide, by decide⟩
def fX12_seen (n : Nat) (a1 : Int32) (m : Mm) : Option (Int32) :=
  bn (fX12_isDay n a1) fun r2 =>
  if r2 = 0 then (
  some (-1000000001 : Int32)) else (
  bn (fX12_seenOn n a1 m) fun r5 =>
  some r5)
set_option maxHeartbeats 4000000 in
set_option maxRecDepth 100000 in
theorem kX12_seen {l : Launch} {G : GE} {N : Nat} {f m : Mm} {n : Nat} {a1 : Int32} {r : Int32}  (hf : fX12_seen n a1 m = some r) : MT l G yX12_seen cX12_seen 2 (some .int) rmX12_seen [.ref (gz G + 107), .int a1] N f m (some (.int r)) N f m := by
  unfold fX12_seen at hf
  refine MT.of (by decide) (Nat.le_of_ble_eq_true rfl) (fun V ls hV hR B hl => ?_)
  have B : CX V G cX12_seen 2 "FluxWatchModel" (some .int) := B
  have hl : lv_has ls 2 [(0, .ref (gz G + 107)), (1, .int a1)] := hl
  show WX V G N f m 0 0 (QQ V G (some (.int r)) N f m 0 0) 0 ls []
  refine x_iload_n B dX12_seen_0 rfl (lv_at hl 1 rfl) ?_
  obtain ⟨r2, c1, hf⟩ := bn_some hf
  refine x_callS0 (rest := []) B (kX12_isDay c1) ⟨rfl, rfl⟩ q_1266 q_1267 (by rw [hR]; exact cw_X12_seen_X12_isDay) rfl rfl hl.1 (Nat.le_of_ble_eq_true rfl) dX12_seen_1 ⟨Nat.zero_le _, Nat.zero_le _⟩ ?_
  refine x_if_eq (tgt := 15) B dX12_seen_4 (by decide) (fun h3 => ?_) (fun h3 => ?_)
  · have hf := ip h3 hf
    refine x_ldc (v := (-1000000001 : Int32)) B q_1223 dX12_seen_15 ?_
    obtain rfl := rt1 hf
    exact x_iret B dX12_seen_17
  · have hf := iq h3 hf
    refine x_aload_n B dX12_seen_7 rfl (lv_at hl 0 rfl) ?_
    refine x_iload_n B dX12_seen_8 rfl (lv_at hl 1 rfl) ?_
    obtain ⟨r5, c4, hf⟩ := bn_some hf
    refine x_callV0 (rest := []) B (kX12_seenOn c4) ⟨rfl, rfl⟩ aM_107.lt aM_107.2 rfl (by decide) q_1273 q_1275 q_11 (by rw [hR]; exact cw_X12_seen_X12_seenOn) rfl rfl hl.1 (Nat.le_of_ble_eq_true rfl) dX12_seen_9 ⟨Nat.zero_le _, Nat.zero_le _⟩ ?_
    refine x_goto (tgt := 17) B dX12_seen_12 (by decide) ?_
    obtain rfl := rt1 hf
    exact x_iret B dX12_seen_17
def rmX12_set : Room := { frames := 1, cells := 0, slots := 0, locals := 22 }
set_option maxHeartbeats 4000000 in
set_option maxRecDepth 100000 in
theorem cw_X12_set_X12_in : cwB rmX12_set rmX12_in yX12_in cX12_in 3 (some .boolean) 3 := ⟨q_1222, q_57, by decide, by decide⟩
def fX12_set_51 (n : Nat)   (x1 : Int32) (x2 : Int32) (s0 : Int32) (s1 : Int32) (s2 : Int32) (m : Mm) : Option (Int32 × Mm) :=
  bn (fX12_in n s2 s1 s0) fun r7 =>
  if r7 = 0 then (
  some ((-1000000001 : Int32), m)) else (
  gd (ib ((nI 2) + x1) 1719) <|
  lt (m 108 ((nI 2) + x1).toNatClampNeg) fun v10 =>
  gd (ib ((nI 2) + x1) 1719) <|
  lt (up m 108 ((nI 2) + x1).toNatClampNeg x2) fun f13 =>
  some (v10, f13))
set_option maxHeartbeats 4000000 in
set_option maxRecDepth 100000 in
theorem fX12_set_51_ok {V : VE} {G : GE} {N : Nat} {f m : Mm} {n : Nat} {ls : Array Slot} {r : Int32} {g : Mm} (B : CX V G cX12_set 4 "FluxWatchModel" (some .int)) (hR : V.2.2.2.1 = rmX12_set)   {x1 : Int32} {x2 : Int32} {s0 : Int32} {s1 : Int32} {s2 : Int32}  (hl : lv_has ls 4 [(0, .ref (gz G + 107)), (1, .int x1), (2, .int x2)]) (hf : fX12_set_51 n  x1 x2 s0 s1 s2 m = some (r, g)) : WX V G N f m 0 0 (QQ V G (some (.int r)) N f g 0 0) 51 ls [.int s0, .int s1, .int s2] := by
  unfold fX12_set_51 at hf
  obtain ⟨r7, c6, hf⟩ := bn_some hf
  refine x_callS0 (rest := []) B (kX12_in c6) ⟨rfl, rfl⟩ q_1220 q_1221 (by rw [hR]; exact cw_X12_set_X12_in) rfl rfl hl.1 (Nat.le_of_ble_eq_true rfl) dX12_set_51 ⟨Nat.zero_le _, Nat.zero_le _⟩ ?_
  refine x_if_ne (tgt := 60) B dX12_set_54 (by decide) (fun h8 => ?_) (fun h8 => ?_)
  · have hf := ip h8 hf
    refine x_ldc (v := (-1000000001 : Int32)) B q_1223 dX12_set_57 ?_
    obtain ⟨rfl, rfl⟩ := rt2 hf
    exact x_iret B dX12_set_59
  · have hf := iq h8 hf
    refine x_aload_n B dX12_set_60 rfl (lv_at hl 0 rfl) ?_
    refine y_getMr (C := RX12) (T := TX12) (NN := 34) (d := 0) (k2 := 108) B aM_107 inX12 rfl (j := 0) (by decide) q_1112 rfl rfl rfl dX12_set_61 ?_
    refine x_iconst (v := (nI 2)) B dX12_set_64 (by decide) ?_
    refine x_iload_n B dX12_set_65 rfl (lv_at hl 1 rfl) ?_
    refine x_iadd B dX12_set_66 ?_
    obtain ⟨h9, hf⟩ := gd_some hf
    refine x_ialdM B aM_108 h9 dX12_set_67 ?_
    refine x_nm (fun v10 e11 => ?_)
    have hf := lt_some hf e11
    refine x_istore_n (lv' := [(3, .int v10), (0, .ref (gz G + 107)), (1, .int x1), (2, .int x2)]) B dX12_set_68 rfl hl (by decide) rfl (fun ls hl => ?_)
    refine x_aload_n B dX12_set_69 rfl (lv_at hl 1 rfl) ?_
    refine y_getMr (C := RX12) (T := TX12) (NN := 34) (d := 0) (k2 := 108) B aM_107 inX12 rfl (j := 0) (by decide) q_1112 rfl rfl rfl dX12_set_70 ?_
    refine x_iconst (v := (nI 2)) B dX12_set_73 (by decide) ?_
    refine x_iload_n B dX12_set_74 rfl (lv_at hl 2 rfl) ?_
    refine x_iadd B dX12_set_75 ?_
    refine x_iload_n B dX12_set_76 rfl (lv_at hl 3 rfl) ?_
    obtain ⟨h12, hf⟩ := gd_some hf
    refine x_iastM B aM_108 h12 dX12_set_77 (fun f13 e14 => ?_)
    have hf := lt_some hf e14
    refine x_iload_n B dX12_set_78 rfl (lv_at hl 0 rfl) ?_
    obtain ⟨rfl, rfl⟩ := rt2 hf
    exact x_iret B dX12_set_79
def fX12_set_19 (n : Nat)   (x1 : Int32) (x2 : Int32) (s0 : Int32) (s1 : Int32) (m : Mm) : Option (Int32 × Mm) :=
  if x1 = 0 then (
  fX12_set_51 n x1 x2 (nI 999) s0 s1 m) else (
  if x1 = (nI 1) then (
  fX12_set_51 n x1 x2 (nI 99) s0 s1 m) else (
  if x1 = (nI 2) then (
  fX12_set_51 n x1 x2 (nI 10000) s0 s1 m) else (
  fX12_set_51 n x1 x2 (nI 1) s0 s1 m)))
set_option maxHeartbeats 4000000 in
set_option maxRecDepth 100000 in
theorem fX12_set_19_ok {V : VE} {G : GE} {N : Nat} {f m : Mm} {n : Nat} {ls : Array Slot} {r : Int32} {g : Mm} (B : CX V G cX12_set 4 "FluxWatchModel" (some .int)) (hR : V.2.2.2.1 = rmX12_set)   {x1 : Int32} {x2 : Int32} {s0 : Int32} {s1 : Int32}  (hl : lv_has ls 4 [(0, .ref (gz G + 107)), (1, .int x1), (2, .int x2)]) (hf : fX12_set_19 n  x1 x2 s0 s1 m = some (r, g)) : WX V G N f m 0 0 (QQ V G (some (.int r)) N f g 0 0) 19 ls [.int s0, .int s1] := by
  unfold fX12_set_19 at hf
  refine x_iload_n B dX12_set_19 rfl (lv_at hl 1 rfl) ?_
  refine x_if_ne (tgt := 29) B dX12_set_20 (by decide) (fun h5 => ?_) (fun h5 => ?_)
  · have hf := ip h5 hf
    refine x_sipush (v := (nI 999)) B dX12_set_23 (by decide) ?_
    refine x_goto (tgt := 51) B dX12_set_26 (by decide) ?_
    exact fX12_set_51_ok B hR  hl hf
  · have hf := iq h5 hf
    refine x_iload_n B dX12_set_29 rfl (lv_at hl 1 rfl) ?_
    refine x_iconst (v := (nI 1)) B dX12_set_30 (by decide) ?_
    refine x_icmp_ne (tgt := 39) B dX12_set_31 (by decide) (fun h15 => ?_) (fun h15 => ?_)
    · have hf := ip h15 hf
      refine x_bipush (v := (nI 99)) B dX12_set_34 (by decide) ?_
      refine x_goto (tgt := 51) B dX12_set_36 (by decide) ?_
      exact fX12_set_51_ok B hR  hl hf
    · have hf := iq h15 hf
      refine x_iload_n B dX12_set_39 rfl (lv_at hl 1 rfl) ?_
      refine x_iconst (v := (nI 2)) B dX12_set_40 (by decide) ?_
      refine x_icmp_ne (tgt := 50) B dX12_set_41 (by decide) (fun h16 => ?_) (fun h16 => ?_)
      · have hf := ip h16 hf
        refine x_sipush (v := (nI 10000)) B dX12_set_44 (by decide) ?_
        refine x_goto (tgt := 51) B dX12_set_47 (by decide) ?_
        exact fX12_set_51_ok B hR  hl hf
      · have hf := iq h16 hf
        refine x_iconst (v := (nI 1)) B dX12_set_50 (by decide) ?_
        exact fX12_set_51_ok B hR  hl hf
def fX12_set (n : Nat) (a1 : Int32) (a2 : Int32) (m : Mm) : Option (Int32 × Mm) :=
  bn (fX12_in n a1 (nI 0) (nI 3)) fun r2 =>
  if r2 = 0 then (
  some ((-1000000001 : Int32), m)) else (
  if a1 = 0 then (
  fX12_set_19 n a1 a2 (nI 1) a2 m) else (
  fX12_set_19 n a1 a2 (nI 0) a2 m))
set_option maxHeartbeats 4000000 in
set_option maxRecDepth 100000 in
theorem kX12_set {l : Launch} {G : GE} {N : Nat} {f m : Mm} {n : Nat} {a1 : Int32} {a2 : Int32} {r : Int32} {g : Mm}  (hf : fX12_set n a1 a2 m = some (r, g)) : MT l G yX12_set cX12_set 4 (some .int) rmX12_set [.ref (gz G + 107), .int a1, .int a2] N f m (some (.int r)) N f g := by
  unfold fX12_set at hf
  refine MT.of (by decide) (Nat.le_of_ble_eq_true rfl) (fun V ls hV hR B hl => ?_)
  have B : CX V G cX12_set 4 "FluxWatchModel" (some .int) := B
  have hl : lv_has ls 4 [(0, .ref (gz G + 107)), (1, .int a1), (2, .int a2)] := hl
  show WX V G N f m 0 0 (QQ V G (some (.int r)) N f g 0 0) 0 ls []
  refine x_iload_n B dX12_set_0 rfl (lv_at hl 1 rfl) ?_
  refine x_iconst (v := (nI 0)) B dX12_set_1 (by decide) ?_
  refine x_iconst (v := (nI 3)) B dX12_set_2 (by decide) ?_
  obtain ⟨r2, c1, hf⟩ := bn_some hf
  refine x_callS0 (rest := []) B (kX12_in c1) ⟨rfl, rfl⟩ q_1220 q_1221 (by rw [hR]; exact cw_X12_set_X12_in) rfl rfl hl.1 (Nat.le_of_ble_eq_true rfl) dX12_set_3 ⟨Nat.zero_le _, Nat.zero_le _⟩ ?_
  refine x_if_eq (tgt := 57) B dX12_set_6 (by decide) (fun h3 => ?_) (fun h3 => ?_)
  · have hf := ip h3 hf
    refine x_ldc (v := (-1000000001 : Int32)) B q_1223 dX12_set_57 ?_
    obtain ⟨rfl, rfl⟩ := rt2 hf
    exact x_iret B dX12_set_59
  · have hf := iq h3 hf
    refine x_iload_n B dX12_set_9 rfl (lv_at hl 2 rfl) ?_
    refine x_iload_n B dX12_set_10 rfl (lv_at hl 1 rfl) ?_
    refine x_if_ne (tgt := 18) B dX12_set_11 (by decide) (fun h4 => ?_) (fun h4 => ?_)
    · have hf := ip h4 hf
      refine x_iconst (v := (nI 1)) B dX12_set_14 (by decide) ?_
      refine x_goto (tgt := 19) B dX12_set_15 (by decide) ?_
      exact fX12_set_19_ok B hR  hl hf
    · have hf := iq h4 hf
      refine x_iconst (v := (nI 0)) B dX12_set_18 (by decide) ?_
      exact fX12_set_19_ok B hR  hl hf
def rmX12_settle : Room := { frames := 1, cells := 0, slots := 0, locals := 20 }
set_option maxHeartbeats 4000000 in
set_option maxRecDepth 100000 in
theorem cw_X12_settle_X12_rank : cwB rmX12_settle rmX12_rank yX12_rank cX12_rank 1 (some .int) 1 := ⟨q_1471, q_57, by decide, by decide⟩
def fX12_settle_0 (n : Nat)   (k0 : Int32 → Mm → Option (Mm)) (x1 : Int32) (m : Mm) : Option (Mm) :=
  if (m 107 18) ≤ 0 then (
  some m) else (
  gd (ib ((m 107 18) - (nI 1)) 96) <|
  if (m 115 ((m 107 18) - (nI 1)).toNatClampNeg) = (-11 : Int32) then (
  some m) else (
  gd (ib ((m 107 18) - (nI 1)) 96) <|
  bn (fX12_rank n (m 115 ((m 107 18) - (nI 1)).toNatClampNeg)) fun r6 =>
  if r6 < x1 then (
  some m) else (
  lt (up m 107 18 ((m 107 18) - (nI 1))) fun f8 =>
  gd (ib (f8 107 18) 96) <|
  gd (ib (f8 107 15) 96) <|
  lt (up f8 114 (f8 107 15).toNatClampNeg (f8 115 (f8 107 18).toNatClampNeg)) fun f12 =>
  lt (up f12 107 15 ((f12 107 15) + (nI 1))) fun f14 =>
  k0 x1 f14)))
def fX12_settle_0L (n : Nat)   : Nat → Int32 → Mm → Option (Mm)
  | 0 => fun _ _ => none
  | q + 1 => fX12_settle_0 n   (fX12_settle_0L n   q)
set_option maxHeartbeats 4000000 in
set_option maxRecDepth 100000 in
theorem fX12_settle_0_ok {V : VE} {G : GE} {N : Nat} {f m : Mm} {n : Nat} {ls : Array Slot} {g : Mm} (B : CX V G cX12_settle 2 "FluxWatchModel" none) (hR : V.2.2.2.1 = rmX12_settle)   {k0 : Int32 → Mm → Option (Mm)} (hk0 : ∀ (x1 : Int32) (mm : Mm) (ls : Array Slot),  lv_has ls 2 [(0, .ref (gz G + 107)), (1, .int x1)] → k0 x1 mm = some g → WX V G N f mm 0 0 (QQ V G none N f g 0 0) 0 ls []) {x1 : Int32}  (hl : lv_has ls 2 [(0, .ref (gz G + 107)), (1, .int x1)]) (hf : fX12_settle_0 n  k0 x1 m = some g) : WX V G N f m 0 0 (QQ V G none N f g 0 0) 0 ls [] := by
  unfold fX12_settle_0 at hf
  refine x_aload_n B dX12_settle_0 rfl (lv_at hl 0 rfl) ?_
  refine y_getMi (C := RX12) (T := TX12) (NN := 34) B aM_107 inX12 rfl (j := 18) (by decide) q_1130 rfl rfl dX12_settle_1 ?_
  refine x_if_le (tgt := 82) B dX12_settle_4 (by decide) (fun h1 => ?_) (fun h1 => ?_)
  · have hf := ip h1 hf
    obtain rfl := rt1 hf
    exact x_vret B dX12_settle_82
  · have hf := iq h1 hf
    refine x_aload_n B dX12_settle_7 rfl (lv_at hl 0 rfl) ?_
    refine y_getMr (C := RX12) (T := TX12) (NN := 34) (d := 7) (k2 := 115) B aM_107 inX12 rfl (j := 17) (by decide) q_1129 rfl rfl rfl dX12_settle_8 ?_
    refine x_aload_n B dX12_settle_11 rfl (lv_at hl 0 rfl) ?_
    refine y_getMi (C := RX12) (T := TX12) (NN := 34) B aM_107 inX12 rfl (j := 18) (by decide) q_1130 rfl rfl dX12_settle_12 ?_
    refine x_iconst (v := (nI 1)) B dX12_settle_15 (by decide) ?_
    refine x_isub B dX12_settle_16 ?_
    obtain ⟨h2, hf⟩ := gd_some hf
    refine x_ialdM B aM_115 h2 dX12_settle_17 ?_
    refine x_bipush (v := (-11 : Int32)) B dX12_settle_18 (by decide) ?_
    refine x_icmp_eq (tgt := 82) B dX12_settle_20 (by decide) (fun h3 => ?_) (fun h3 => ?_)
    · have hf := ip h3 hf
      obtain rfl := rt1 hf
      exact x_vret B dX12_settle_82
    · have hf := iq h3 hf
      refine x_aload_n B dX12_settle_23 rfl (lv_at hl 0 rfl) ?_
      refine y_getMr (C := RX12) (T := TX12) (NN := 34) (d := 7) (k2 := 115) B aM_107 inX12 rfl (j := 17) (by decide) q_1129 rfl rfl rfl dX12_settle_24 ?_
      refine x_aload_n B dX12_settle_27 rfl (lv_at hl 0 rfl) ?_
      refine y_getMi (C := RX12) (T := TX12) (NN := 34) B aM_107 inX12 rfl (j := 18) (by decide) q_1130 rfl rfl dX12_settle_28 ?_
      refine x_iconst (v := (nI 1)) B dX12_settle_31 (by decide) ?_
      refine x_isub B dX12_settle_32 ?_
      obtain ⟨h4, hf⟩ := gd_some hf
      refine x_ialdM B aM_115 h4 dX12_settle_33 ?_
      obtain ⟨r6, c5, hf⟩ := bn_some hf
      refine x_callS0 (rest := []) B (kX12_rank c5) ⟨rfl, rfl⟩ q_1469 q_1470 (by rw [hR]; exact cw_X12_settle_X12_rank) rfl rfl hl.1 (Nat.le_of_ble_eq_true rfl) dX12_settle_34 ⟨Nat.zero_le _, Nat.zero_le _⟩ ?_
      refine x_iload_n B dX12_settle_37 rfl (lv_at hl 1 rfl) ?_
      refine x_icmp_lt (tgt := 82) B dX12_settle_38 (by decide) (fun h7 => ?_) (fun h7 => ?_)
      · have hf := ip h7 hf
        obtain rfl := rt1 hf
        exact x_vret B dX12_settle_82
      · have hf := iq h7 hf
        refine x_aload_n B dX12_settle_41 rfl (lv_at hl 0 rfl) ?_
        refine x_dup B dX12_settle_42 rfl ?_
        refine y_getMi (C := RX12) (T := TX12) (NN := 34) B aM_107 inX12 rfl (j := 18) (by decide) q_1130 rfl rfl dX12_settle_43 ?_
        refine x_iconst (v := (nI 1)) B dX12_settle_46 (by decide) ?_
        refine x_isub B dX12_settle_47 ?_
        refine x_putM (C := RX12) (T := TX12) (NN := 34) (ty0 := tyX12) (ty := .int) B aM_107 inX12 tyX12_ok nmX12 rfl (j := 18) (by decide) q_1130 rfl rfl rfl rfl rfl rfl dX12_settle_48 (fun f8 e9 => ?_)
        have hf := lt_some hf e9
        refine x_aload_n B dX12_settle_51 rfl (lv_at hl 0 rfl) ?_
        refine y_getMr (C := RX12) (T := TX12) (NN := 34) (d := 6) (k2 := 114) B aM_107 inX12 rfl (j := 14) (by decide) q_1126 rfl rfl rfl dX12_settle_52 ?_
        refine x_aload_n B dX12_settle_55 rfl (lv_at hl 0 rfl) ?_
        refine y_getMi (C := RX12) (T := TX12) (NN := 34) B aM_107 inX12 rfl (j := 15) (by decide) q_1127 rfl rfl dX12_settle_56 ?_
        refine x_aload_n B dX12_settle_59 rfl (lv_at hl 0 rfl) ?_
        refine y_getMr (C := RX12) (T := TX12) (NN := 34) (d := 7) (k2 := 115) B aM_107 inX12 rfl (j := 17) (by decide) q_1129 rfl rfl rfl dX12_settle_60 ?_
        refine x_aload_n B dX12_settle_63 rfl (lv_at hl 0 rfl) ?_
        refine y_getMi (C := RX12) (T := TX12) (NN := 34) B aM_107 inX12 rfl (j := 18) (by decide) q_1130 rfl rfl dX12_settle_64 ?_
        obtain ⟨h10, hf⟩ := gd_some hf
        refine x_ialdM B aM_115 h10 dX12_settle_67 ?_
        obtain ⟨h11, hf⟩ := gd_some hf
        refine x_iastM B aM_114 h11 dX12_settle_68 (fun f12 e13 => ?_)
        have hf := lt_some hf e13
        refine x_aload_n B dX12_settle_69 rfl (lv_at hl 0 rfl) ?_
        refine x_dup B dX12_settle_70 rfl ?_
        refine y_getMi (C := RX12) (T := TX12) (NN := 34) B aM_107 inX12 rfl (j := 15) (by decide) q_1127 rfl rfl dX12_settle_71 ?_
        refine x_iconst (v := (nI 1)) B dX12_settle_74 (by decide) ?_
        refine x_iadd B dX12_settle_75 ?_
        refine x_putM (C := RX12) (T := TX12) (NN := 34) (ty0 := tyX12) (ty := .int) B aM_107 inX12 tyX12_ok nmX12 rfl (j := 15) (by decide) q_1127 rfl rfl rfl rfl rfl rfl dX12_settle_76 (fun f14 e15 => ?_)
        have hf := lt_some hf e15
        refine x_goto (tgt := 0) B dX12_settle_79 (by decide) ?_
        exact hk0 _ _ _ hl hf
set_option maxHeartbeats 4000000 in
set_option maxRecDepth 100000 in
theorem fX12_settle_0L_ok {V : VE} {G : GE} {N : Nat} {f : Mm} {n : Nat}  {g : Mm} (B : CX V G cX12_settle 2 "FluxWatchModel" none) (hR : V.2.2.2.1 = rmX12_settle)   : ∀ (q : Nat) (x1 : Int32) (mm : Mm) (ls : Array Slot),  lv_has ls 2 [(0, .ref (gz G + 107)), (1, .int x1)] → fX12_settle_0L n  q x1 mm = some g → WX V G N f mm 0 0 (QQ V G none N f g 0 0) 0 ls [] := by
  intro q
  induction q with
  | zero =>
    intro x1 mm ls hl hf
    cases hf
  | succ q ih =>
    intro x1 mm ls hl hf
    exact fX12_settle_0_ok B hR   ih  hl hf
def fX12_settle (n : Nat) (a1 : Int32) (m : Mm) : Option (Mm) :=
  fX12_settle_0L n n a1 m
set_option maxHeartbeats 4000000 in
set_option maxRecDepth 100000 in
theorem kX12_settle {l : Launch} {G : GE} {N : Nat} {f m : Mm} {n : Nat} {a1 : Int32} {g : Mm}  (hf : fX12_settle n a1 m = some g) : MT l G yX12_settle cX12_settle 2 none rmX12_settle [.ref (gz G + 107), .int a1] N f m none N f g := by
  unfold fX12_settle at hf
  refine MT.of (by decide) (Nat.le_of_ble_eq_true rfl) (fun V ls hV hR B hl => ?_)
  have B : CX V G cX12_settle 2 "FluxWatchModel" none := B
  have hl : lv_has ls 2 [(0, .ref (gz G + 107)), (1, .int a1)] := hl
  show WX V G N f m 0 0 (QQ V G none N f g 0 0) 0 ls []
  exact fX12_settle_0L_ok B hR  n _ _ _ hl hf
def rmX12_sheet : Room := { frames := 2, cells := 0, slots := 0, locals := 42 }
set_option maxHeartbeats 4000000 in
set_option maxRecDepth 100000 in
theorem cw_X12_sheet_X12_in : cwB rmX12_sheet rmX12_in yX12_in cX12_in 3 (some .boolean) 3 := ⟨q_1222, q_57, by decide, by decide⟩
set_option maxHeartbeats 4000000 in
set_option maxRecDepth 100000 in
theorem cw_X12_sheet_X12_isSheet : cwB rmX12_sheet rmX12_isSheet yX12_isSheet cX12_isSheet 1 (some .boolean) 1 := ⟨q_1550, q_57, by decide, by decide⟩
def fX12_sheet_66 (n : Nat)   (k66 : Int32 → Int32 → Mm → Option (Int32 × Mm)) (x1 : Int32) (x4 : Int32) (m : Mm) : Option (Int32 × Mm) :=
  if (nI 24) ≤ x4 then (
  gd (ib x1 4) <|
  some (m 122 x1.toNatClampNeg, m)) else (
  gd (ib (((nI 24) * x1) + x4) 96) <|
  lt (up m 123 (((nI 24) * x1) + x4).toNatClampNeg (nI 0)) fun f19 =>
  k66 x1 (x4 + (nI 1)) f19)
def fX12_sheet_66L (n : Nat)   : Nat → Int32 → Int32 → Mm → Option (Int32 × Mm)
  | 0 => fun _ _ _ => none
  | q + 1 => fX12_sheet_66 n   (fX12_sheet_66L n   q)
set_option maxHeartbeats 4000000 in
set_option maxRecDepth 100000 in
theorem fX12_sheet_66_ok {V : VE} {G : GE} {N : Nat} {f m : Mm} {n : Nat} {ls : Array Slot} {r : Int32} {g : Mm} (B : CX V G cX12_sheet 5 "FluxWatchModel" (some .int)) (hR : V.2.2.2.1 = rmX12_sheet)   {k66 : Int32 → Int32 → Mm → Option (Int32 × Mm)} (hk66 : ∀ (x1 : Int32) (x4 : Int32) (mm : Mm) (ls : Array Slot),  lv_has ls 5 [(0, .ref (gz G + 107)), (1, .int x1), (4, .int x4)] → k66 x1 x4 mm = some (r, g) → WX V G N f mm 0 0 (QQ V G (some (.int r)) N f g 0 0) 66 ls []) {x1 : Int32} {x4 : Int32}  (hl : lv_has ls 5 [(0, .ref (gz G + 107)), (1, .int x1), (4, .int x4)]) (hf : fX12_sheet_66 n  k66 x1 x4 m = some (r, g)) : WX V G N f m 0 0 (QQ V G (some (.int r)) N f g 0 0) 66 ls [] := by
  unfold fX12_sheet_66 at hf
  refine x_iload B dX12_sheet_66 (lv_at hl 2 rfl) ?_
  refine x_bipush (v := (nI 24)) B dX12_sheet_68 (by decide) ?_
  refine x_icmp_ge (tgt := 92) B dX12_sheet_70 (by decide) (fun h16 => ?_) (fun h16 => ?_)
  · have hf := ip h16 hf
    refine x_aload_n B dX12_sheet_92 rfl (lv_at hl 0 rfl) ?_
    refine y_getMr (C := RX12) (T := TX12) (NN := 34) (d := 14) (k2 := 122) B aM_107 inX12 rfl (j := 25) (by decide) q_1137 rfl rfl rfl dX12_sheet_93 ?_
    refine x_iload_n B dX12_sheet_96 rfl (lv_at hl 1 rfl) ?_
    obtain ⟨h17, hf⟩ := gd_some hf
    refine x_ialdM B aM_122 h17 dX12_sheet_97 ?_
    obtain ⟨rfl, rfl⟩ := rt2 hf
    exact x_iret B dX12_sheet_98
  · have hf := iq h16 hf
    refine x_aload_n B dX12_sheet_73 rfl (lv_at hl 0 rfl) ?_
    refine y_getMr (C := RX12) (T := TX12) (NN := 34) (d := 15) (k2 := 123) B aM_107 inX12 rfl (j := 26) (by decide) q_1138 rfl rfl rfl dX12_sheet_74 ?_
    refine x_bipush (v := (nI 24)) B dX12_sheet_77 (by decide) ?_
    refine x_iload_n B dX12_sheet_79 rfl (lv_at hl 1 rfl) ?_
    refine x_imul B dX12_sheet_80 ?_
    refine x_iload B dX12_sheet_81 (lv_at hl 2 rfl) ?_
    refine x_iadd B dX12_sheet_83 ?_
    refine x_iconst (v := (nI 0)) B dX12_sheet_84 (by decide) ?_
    obtain ⟨h18, hf⟩ := gd_some hf
    refine x_iastM B aM_123 h18 dX12_sheet_85 (fun f19 e20 => ?_)
    have hf := lt_some hf e20
    refine x_iinc (k := 2) (v := (nI 1)) (lv' := [(4, .int (x4 + (nI 1))), (0, .ref (gz G + 107)), (1, .int x1)]) B dX12_sheet_86 hl rfl (by decide) (by decide) rfl (fun ls hl => ?_)
    refine x_goto (tgt := 66) B dX12_sheet_89 (by decide) ?_
    exact hk66 _ _ _ _ (lv_sub hl [1, 2, 0] rfl) hf
set_option maxHeartbeats 4000000 in
set_option maxRecDepth 100000 in
theorem fX12_sheet_66L_ok {V : VE} {G : GE} {N : Nat} {f : Mm} {n : Nat}  {r : Int32} {g : Mm} (B : CX V G cX12_sheet 5 "FluxWatchModel" (some .int)) (hR : V.2.2.2.1 = rmX12_sheet)   : ∀ (q : Nat) (x1 : Int32) (x4 : Int32) (mm : Mm) (ls : Array Slot),  lv_has ls 5 [(0, .ref (gz G + 107)), (1, .int x1), (4, .int x4)] → fX12_sheet_66L n  q x1 x4 mm = some (r, g) → WX V G N f mm 0 0 (QQ V G (some (.int r)) N f g 0 0) 66 ls [] := by
  intro q
  induction q with
  | zero =>
    intro x1 x4 mm ls hl hf
    cases hf
  | succ q ih =>
    intro x1 x4 mm ls hl hf
    exact fX12_sheet_66_ok B hR   ih  hl hf
def fX12_sheet_62 (n : Nat)   (x1 : Int32) (s0 : Int32) (s1 : Int32) (m : Mm) : Option (Int32 × Mm) :=
  gd (ib s1 4) <|
  lt (up m 122 s1.toNatClampNeg s0) fun f14 =>
  fX12_sheet_66L n n x1 (nI 0) f14
set_option maxHeartbeats 4000000 in
set_option maxRecDepth 100000 in
theorem fX12_sheet_62_ok {V : VE} {G : GE} {N : Nat} {f m : Mm} {n : Nat} {ls : Array Slot} {r : Int32} {g : Mm} (B : CX V G cX12_sheet 5 "FluxWatchModel" (some .int)) (hR : V.2.2.2.1 = rmX12_sheet)   {x1 : Int32} {s0 : Int32} {s1 : Int32}  (hl : lv_has ls 5 [(0, .ref (gz G + 107)), (1, .int x1)]) (hf : fX12_sheet_62 n  x1 s0 s1 m = some (r, g)) : WX V G N f m 0 0 (QQ V G (some (.int r)) N f g 0 0) 62 ls [.int s0, .int s1, .ref (gz G + 122)] := by
  unfold fX12_sheet_62 at hf
  obtain ⟨h13, hf⟩ := gd_some hf
  refine x_iastM B aM_122 h13 dX12_sheet_62 (fun f14 e15 => ?_)
  have hf := lt_some hf e15
  refine x_iconst (v := (nI 0)) B dX12_sheet_63 (by decide) ?_
  refine x_istore (lv' := [(4, .int (nI 0)), (0, .ref (gz G + 107)), (1, .int x1)]) B dX12_sheet_64 hl (by decide) rfl (fun ls hl => ?_)
  exact fX12_sheet_66L_ok B hR  n _ _ _ _ (lv_sub hl [1, 2, 0] rfl) hf
def fX12_sheet_41 (n : Nat)   (x1 : Int32) (x2 : Int32) (x3 : Int32) (m : Mm) : Option (Int32 × Mm) :=
  gd (ib x1 4) <|
  lt (up m 121 x1.toNatClampNeg x2) fun f10 =>
  if 0 ≤ x2 then (
  fX12_sheet_62 n x1 x3 x1 f10) else (
  fX12_sheet_62 n x1 (nI 0) x1 f10)
set_option maxHeartbeats 4000000 in
set_option maxRecDepth 100000 in
theorem fX12_sheet_41_ok {V : VE} {G : GE} {N : Nat} {f m : Mm} {n : Nat} {ls : Array Slot} {r : Int32} {g : Mm} (B : CX V G cX12_sheet 5 "FluxWatchModel" (some .int)) (hR : V.2.2.2.1 = rmX12_sheet)   {x1 : Int32} {x2 : Int32} {x3 : Int32}  (hl : lv_has ls 5 [(0, .ref (gz G + 107)), (1, .int x1), (2, .int x2), (3, .int x3)]) (hf : fX12_sheet_41 n  x1 x2 x3 m = some (r, g)) : WX V G N f m 0 0 (QQ V G (some (.int r)) N f g 0 0) 41 ls [] := by
  unfold fX12_sheet_41 at hf
  refine x_aload_n B dX12_sheet_41 rfl (lv_at hl 0 rfl) ?_
  refine y_getMr (C := RX12) (T := TX12) (NN := 34) (d := 13) (k2 := 121) B aM_107 inX12 rfl (j := 24) (by decide) q_1136 rfl rfl rfl dX12_sheet_42 ?_
  refine x_iload_n B dX12_sheet_45 rfl (lv_at hl 1 rfl) ?_
  refine x_iload_n B dX12_sheet_46 rfl (lv_at hl 2 rfl) ?_
  obtain ⟨h9, hf⟩ := gd_some hf
  refine x_iastM B aM_121 h9 dX12_sheet_47 (fun f10 e11 => ?_)
  have hf := lt_some hf e11
  refine x_aload_n B dX12_sheet_48 rfl (lv_at hl 0 rfl) ?_
  refine y_getMr (C := RX12) (T := TX12) (NN := 34) (d := 14) (k2 := 122) B aM_107 inX12 rfl (j := 25) (by decide) q_1137 rfl rfl rfl dX12_sheet_49 ?_
  refine x_iload_n B dX12_sheet_52 rfl (lv_at hl 1 rfl) ?_
  refine x_iload_n B dX12_sheet_53 rfl (lv_at hl 2 rfl) ?_
  refine x_if_ge (tgt := 61) B dX12_sheet_54 (by decide) (fun h12 => ?_) (fun h12 => ?_)
  · have hf := ip h12 hf
    refine x_iload_n B dX12_sheet_61 rfl (lv_at hl 3 rfl) ?_
    exact fX12_sheet_62_ok B hR  (lv_sub hl [0, 1] rfl) hf
  · have hf := iq h12 hf
    refine x_iconst (v := (nI 0)) B dX12_sheet_57 (by decide) ?_
    refine x_goto (tgt := 62) B dX12_sheet_58 (by decide) ?_
    exact fX12_sheet_62_ok B hR  (lv_sub hl [0, 1] rfl) hf
def fX12_sheet_29 (n : Nat)   (x1 : Int32) (x2 : Int32) (x3 : Int32) (m : Mm) : Option (Int32 × Mm) :=
  if x2 < 0 then (
  fX12_sheet_41 n x1 x2 x3 m) else (
  if 0 ≤ x3 then (
  fX12_sheet_41 n x1 x2 x3 m) else (
  some ((-1000000014 : Int32), m)))
set_option maxHeartbeats 4000000 in
set_option maxRecDepth 100000 in
theorem fX12_sheet_29_ok {V : VE} {G : GE} {N : Nat} {f m : Mm} {n : Nat} {ls : Array Slot} {r : Int32} {g : Mm} (B : CX V G cX12_sheet 5 "FluxWatchModel" (some .int)) (hR : V.2.2.2.1 = rmX12_sheet)   {x1 : Int32} {x2 : Int32} {x3 : Int32}  (hl : lv_has ls 5 [(0, .ref (gz G + 107)), (1, .int x1), (2, .int x2), (3, .int x3)]) (hf : fX12_sheet_29 n  x1 x2 x3 m = some (r, g)) : WX V G N f m 0 0 (QQ V G (some (.int r)) N f g 0 0) 29 ls [] := by
  unfold fX12_sheet_29 at hf
  refine x_iload_n B dX12_sheet_29 rfl (lv_at hl 2 rfl) ?_
  refine x_if_lt (tgt := 41) B dX12_sheet_30 (by decide) (fun h8 => ?_) (fun h8 => ?_)
  · have hf := ip h8 hf
    exact fX12_sheet_41_ok B hR  hl hf
  · have hf := iq h8 hf
    refine x_iload_n B dX12_sheet_33 rfl (lv_at hl 3 rfl) ?_
    refine x_if_ge (tgt := 41) B dX12_sheet_34 (by decide) (fun h21 => ?_) (fun h21 => ?_)
    · have hf := ip h21 hf
      exact fX12_sheet_41_ok B hR  hl hf
    · have hf := iq h21 hf
      refine x_ldc_w (v := (-1000000014 : Int32)) B q_1551 dX12_sheet_37 ?_
      obtain ⟨rfl, rfl⟩ := rt2 hf
      exact x_iret B dX12_sheet_40
def fX12_sheet (n : Nat) (a1 : Int32) (a2 : Int32) (a3 : Int32) (m : Mm) : Option (Int32 × Mm) :=
  bn (fX12_isSheet n a1) fun r2 =>
  if r2 = 0 then (
  some ((-1000000001 : Int32), m)) else (
  bn (fX12_in n a2 (-1 : Int32) (nI 1)) fun r5 =>
  if r5 = 0 then (
  some ((-1000000001 : Int32), m)) else (
  if a2 < 0 then (
  fX12_sheet_29 n a1 a2 a3 m) else (
  if a3 ≤ (nI 24) then (
  fX12_sheet_29 n a1 a2 a3 m) else (
  some ((-1000000001 : Int32), m)))))
set_option maxHeartbeats 4000000 in
set_option maxRecDepth 100000 in
theorem kX12_sheet {l : Launch} {G : GE} {N : Nat} {f m : Mm} {n : Nat} {a1 : Int32} {a2 : Int32} {a3 : Int32} {r : Int32} {g : Mm}  (hf : fX12_sheet n a1 a2 a3 m = some (r, g)) : MT l G yX12_sheet cX12_sheet 5 (some .int) rmX12_sheet [.ref (gz G + 107), .int a1, .int a2, .int a3] N f m (some (.int r)) N f g := by
  unfold fX12_sheet at hf
  refine MT.of (by decide) (Nat.le_of_ble_eq_true rfl) (fun V ls hV hR B hl => ?_)
  have B : CX V G cX12_sheet 5 "FluxWatchModel" (some .int) := B
  have hl : lv_has ls 5 [(0, .ref (gz G + 107)), (1, .int a1), (2, .int a2), (3, .int a3)] := hl
  show WX V G N f m 0 0 (QQ V G (some (.int r)) N f g 0 0) 0 ls []
  refine x_iload_n B dX12_sheet_0 rfl (lv_at hl 1 rfl) ?_
  obtain ⟨r2, c1, hf⟩ := bn_some hf
  refine x_callS0 (rest := []) B (kX12_isSheet c1) ⟨rfl, rfl⟩ q_1548 q_1549 (by rw [hR]; exact cw_X12_sheet_X12_isSheet) rfl rfl hl.1 (Nat.le_of_ble_eq_true rfl) dX12_sheet_1 ⟨Nat.zero_le _, Nat.zero_le _⟩ ?_
  refine x_if_eq (tgt := 26) B dX12_sheet_4 (by decide) (fun h3 => ?_) (fun h3 => ?_)
  · have hf := ip h3 hf
    refine x_ldc (v := (-1000000001 : Int32)) B q_1223 dX12_sheet_26 ?_
    obtain ⟨rfl, rfl⟩ := rt2 hf
    exact x_iret B dX12_sheet_28
  · have hf := iq h3 hf
    refine x_iload_n B dX12_sheet_7 rfl (lv_at hl 2 rfl) ?_
    refine x_iconst (v := (-1 : Int32)) B dX12_sheet_8 (by decide) ?_
    refine x_iconst (v := (nI 1)) B dX12_sheet_9 (by decide) ?_
    obtain ⟨r5, c4, hf⟩ := bn_some hf
    refine x_callS0 (rest := []) B (kX12_in c4) ⟨rfl, rfl⟩ q_1220 q_1221 (by rw [hR]; exact cw_X12_sheet_X12_in) rfl rfl hl.1 (Nat.le_of_ble_eq_true rfl) dX12_sheet_10 ⟨Nat.zero_le _, Nat.zero_le _⟩ ?_
    refine x_if_eq (tgt := 26) B dX12_sheet_13 (by decide) (fun h6 => ?_) (fun h6 => ?_)
    · have hf := ip h6 hf
      refine x_ldc (v := (-1000000001 : Int32)) B q_1223 dX12_sheet_26 ?_
      obtain ⟨rfl, rfl⟩ := rt2 hf
      exact x_iret B dX12_sheet_28
    · have hf := iq h6 hf
      refine x_iload_n B dX12_sheet_16 rfl (lv_at hl 2 rfl) ?_
      refine x_if_lt (tgt := 29) B dX12_sheet_17 (by decide) (fun h7 => ?_) (fun h7 => ?_)
      · have hf := ip h7 hf
        exact fX12_sheet_29_ok B hR  hl hf
      · have hf := iq h7 hf
        refine x_iload_n B dX12_sheet_20 rfl (lv_at hl 3 rfl) ?_
        refine x_bipush (v := (nI 24)) B dX12_sheet_21 (by decide) ?_
        refine x_icmp_le (tgt := 29) B dX12_sheet_23 (by decide) (fun h22 => ?_) (fun h22 => ?_)
        · have hf := ip h22 hf
          exact fX12_sheet_29_ok B hR  hl hf
        · have hf := iq h22 hf
          refine x_ldc (v := (-1000000001 : Int32)) B q_1223 dX12_sheet_26 ?_
          obtain ⟨rfl, rfl⟩ := rt2 hf
          exact x_iret B dX12_sheet_28
def rmX12_signHere : Room := { frames := 0, cells := 0, slots := 0, locals := 0 }
def fX12_signHere (n : Nat)  (m : Mm) : Option (Int32) :=
  if (m 107 8) = (nI 3) then (
  if (m 107 9) = (nI 38) then (
  some (-2 : Int32)) else (
  if (m 107 9) = (nI 42) then (
  some (-8 : Int32)) else (
  if (m 107 9) = (nI 43) then (
  some (-6 : Int32)) else (
  if (m 107 9) = (nI 45) then (
  some (-7 : Int32)) else (
  if (m 107 9) = (nI 47) then (
  some (-9 : Int32)) else (
  if (m 107 9) = (nI 60) then (
  some (-3 : Int32)) else (
  if (m 107 9) = (nI 61) then (
  some (-4 : Int32)) else (
  if (m 107 9) = (nI 62) then (
  some (-5 : Int32)) else (
  if (m 107 9) = (nI 124) then (
  some (-1 : Int32)) else (
  some (nI 0))))))))))) else (
  some (nI 0))
set_option maxHeartbeats 4000000 in
set_option maxRecDepth 100000 in
theorem kX12_signHere {l : Launch} {G : GE} {N : Nat} {f m : Mm} {n : Nat}  {r : Int32}  (hf : fX12_signHere n m = some r) : MT l G yX12_signHere cX12_signHere 1 (some .int) rmX12_signHere [.ref (gz G + 107)] N f m (some (.int r)) N f m := by
  unfold fX12_signHere at hf
  refine MT.of (by decide) (Nat.le_of_ble_eq_true rfl) (fun V ls hV hR B hl => ?_)
  have B : CX V G cX12_signHere 1 "FluxWatchModel" (some .int) := B
  have hl : lv_has ls 1 [(0, .ref (gz G + 107))] := hl
  show WX V G N f m 0 0 (QQ V G (some (.int r)) N f m 0 0) 0 ls []
  refine x_aload_n B dX12_signHere_0 rfl (lv_at hl 0 rfl) ?_
  refine y_getMi (C := RX12) (T := TX12) (NN := 34) B aM_107 inX12 rfl (j := 8) (by decide) q_1120 rfl rfl dX12_signHere_1 ?_
  refine x_iconst (v := (nI 3)) B dX12_signHere_4 (by decide) ?_
  refine x_icmp_eq (tgt := 10) B dX12_signHere_5 (by decide) (fun h1 => ?_) (fun h1 => ?_)
  · have hf := ip h1 hf
    refine x_aload_n B dX12_signHere_10 rfl (lv_at hl 0 rfl) ?_
    refine y_getMi (C := RX12) (T := TX12) (NN := 34) B aM_107 inX12 rfl (j := 9) (by decide) q_1121 rfl rfl dX12_signHere_11 ?_
    by_cases h2 : (m 107 9) = (nI 38)
    · have hf := ip h2 hf
      refine x_look (tgt := 98) (off := 84) B dX12_signHere_14 (by decide) (by rw [h2]; first | done | rfl) (by decide) ?_
      refine x_bipush (v := (-2 : Int32)) B dX12_signHere_98 (by decide) ?_
      obtain rfl := rt1 hf
      exact x_iret B dX12_signHere_100
    · have hf := iq h2 hf
      by_cases h3 : (m 107 9) = (nI 42)
      · have hf := ip h3 hf
        refine x_look (tgt := 116) (off := 102) B dX12_signHere_14 (by decide) (by rw [h3]; first | done | rfl) (by decide) ?_
        refine x_bipush (v := (-8 : Int32)) B dX12_signHere_116 (by decide) ?_
        obtain rfl := rt1 hf
        exact x_iret B dX12_signHere_118
      · have hf := iq h3 hf
        by_cases h4 : (m 107 9) = (nI 43)
        · have hf := ip h4 hf
          refine x_look (tgt := 110) (off := 96) B dX12_signHere_14 (by decide) (by rw [h4]; first | done | rfl) (by decide) ?_
          refine x_bipush (v := (-6 : Int32)) B dX12_signHere_110 (by decide) ?_
          obtain rfl := rt1 hf
          exact x_iret B dX12_signHere_112
        · have hf := iq h4 hf
          by_cases h5 : (m 107 9) = (nI 45)
          · have hf := ip h5 hf
            refine x_look (tgt := 113) (off := 99) B dX12_signHere_14 (by decide) (by rw [h5]; first | done | rfl) (by decide) ?_
            refine x_bipush (v := (-7 : Int32)) B dX12_signHere_113 (by decide) ?_
            obtain rfl := rt1 hf
            exact x_iret B dX12_signHere_115
          · have hf := iq h5 hf
            by_cases h6 : (m 107 9) = (nI 47)
            · have hf := ip h6 hf
              refine x_look (tgt := 119) (off := 105) B dX12_signHere_14 (by decide) (by rw [h6]; first | done | rfl) (by decide) ?_
              refine x_bipush (v := (-9 : Int32)) B dX12_signHere_119 (by decide) ?_
              obtain rfl := rt1 hf
              exact x_iret B dX12_signHere_121
            · have hf := iq h6 hf
              by_cases h7 : (m 107 9) = (nI 60)
              · have hf := ip h7 hf
                refine x_look (tgt := 101) (off := 87) B dX12_signHere_14 (by decide) (by rw [h7]; first | done | rfl) (by decide) ?_
                refine x_bipush (v := (-3 : Int32)) B dX12_signHere_101 (by decide) ?_
                obtain rfl := rt1 hf
                exact x_iret B dX12_signHere_103
              · have hf := iq h7 hf
                by_cases h8 : (m 107 9) = (nI 61)
                · have hf := ip h8 hf
                  refine x_look (tgt := 104) (off := 90) B dX12_signHere_14 (by decide) (by rw [h8]; first | done | rfl) (by decide) ?_
                  refine x_bipush (v := (-4 : Int32)) B dX12_signHere_104 (by decide) ?_
                  obtain rfl := rt1 hf
                  exact x_iret B dX12_signHere_106
                · have hf := iq h8 hf
                  by_cases h9 : (m 107 9) = (nI 62)
                  · have hf := ip h9 hf
                    refine x_look (tgt := 107) (off := 93) B dX12_signHere_14 (by decide) (by rw [h9]; first | done | rfl) (by decide) ?_
                    refine x_bipush (v := (-5 : Int32)) B dX12_signHere_107 (by decide) ?_
                    obtain rfl := rt1 hf
                    exact x_iret B dX12_signHere_109
                  · have hf := iq h9 hf
                    by_cases h10 : (m 107 9) = (nI 124)
                    · have hf := ip h10 hf
                      refine x_look (tgt := 96) (off := 82) B dX12_signHere_14 (by decide) (by rw [h10]; first | done | rfl) (by decide) ?_
                      refine x_iconst (v := (-1 : Int32)) B dX12_signHere_96 (by decide) ?_
                      obtain rfl := rt1 hf
                      exact x_iret B dX12_signHere_97
                    · have hf := iq h10 hf
                      refine x_look (tgt := 122) (off := 108) B dX12_signHere_14 (by decide) ((lv_osw h2 rfl).trans ((lv_osw h3 rfl).trans ((lv_osw h4 rfl).trans ((lv_osw h5 rfl).trans ((lv_osw h6 rfl).trans ((lv_osw h7 rfl).trans ((lv_osw h8 rfl).trans ((lv_osw h9 rfl).trans ((lv_osw h10 rfl).trans rfl))))))))) (by decide) ?_
                      refine x_iconst (v := (nI 0)) B dX12_signHere_122 (by decide) ?_
                      obtain rfl := rt1 hf
                      exact x_iret B dX12_signHere_123
  · have hf := iq h1 hf
    refine x_iconst (v := (nI 0)) B dX12_signHere_8 (by decide) ?_
    obtain rfl := rt1 hf
    exact x_iret B dX12_signHere_9
def rmX12_since : Room := { frames := 5, cells := 0, slots := 0, locals := 115 }
set_option maxHeartbeats 4000000 in
set_option maxRecDepth 100000 in
theorem cw_X12_since_X12_goesOn : cwB rmX12_since rmX12_goesOn yX12_goesOn cX12_goesOn 4 (some .int) 2 := ⟨q_1406, q_57, by decide, by decide⟩
set_option maxHeartbeats 4000000 in
set_option maxRecDepth 100000 in
theorem cw_X12_since_X12_in : cwB rmX12_since rmX12_in yX12_in cX12_in 3 (some .boolean) 3 := ⟨q_1222, q_57, by decide, by decide⟩
def fX12_since_23 (n : Nat)   (k23 : Int32 → Int32 → Int32 → Mm → Option (Int32 × Mm)) (x1 : Int32) (x2 : Int32) (x3 : Int32) (m : Mm) : Option (Int32 × Mm) :=
  if x1 ≤ x3 then (
  some (x2, m)) else (
  bn2 (fX12_goesOn n x2 ((m 108 (nI 1).toNatClampNeg) + x3) m) fun r9 f8 =>
  k23 x1 r9 (x3 + (nI 1)) f8)
def fX12_since_23L (n : Nat)   : Nat → Int32 → Int32 → Int32 → Mm → Option (Int32 × Mm)
  | 0 => fun _ _ _ _ => none
  | q + 1 => fX12_since_23 n   (fX12_since_23L n   q)
set_option maxHeartbeats 4000000 in
set_option maxRecDepth 100000 in
theorem fX12_since_23_ok {V : VE} {G : GE} {N : Nat} {f m : Mm} {n : Nat} {ls : Array Slot} {r : Int32} {g : Mm} (B : CX V G cX12_since 4 "FluxWatchModel" (some .int)) (hR : V.2.2.2.1 = rmX12_since)   {k23 : Int32 → Int32 → Int32 → Mm → Option (Int32 × Mm)} (hk23 : ∀ (x1 : Int32) (x2 : Int32) (x3 : Int32) (mm : Mm) (ls : Array Slot),  lv_has ls 4 [(0, .ref (gz G + 107)), (1, .int x1), (2, .int x2), (3, .int x3)] → k23 x1 x2 x3 mm = some (r, g) → WX V G N f mm 0 0 (QQ V G (some (.int r)) N f g 0 0) 23 ls []) {x1 : Int32} {x2 : Int32} {x3 : Int32}  (hl : lv_has ls 4 [(0, .ref (gz G + 107)), (1, .int x1), (2, .int x2), (3, .int x3)]) (hf : fX12_since_23 n  k23 x1 x2 x3 m = some (r, g)) : WX V G N f m 0 0 (QQ V G (some (.int r)) N f g 0 0) 23 ls [] := by
  unfold fX12_since_23 at hf
  refine x_iload_n B dX12_since_23 rfl (lv_at hl 3 rfl) ?_
  refine x_iload_n B dX12_since_24 rfl (lv_at hl 1 rfl) ?_
  refine x_icmp_ge (tgt := 48) B dX12_since_25 (by decide) (fun h6 => ?_) (fun h6 => ?_)
  · have hf := ip h6 hf
    refine x_iload_n B dX12_since_48 rfl (lv_at hl 2 rfl) ?_
    obtain ⟨rfl, rfl⟩ := rt2 hf
    exact x_iret B dX12_since_49
  · have hf := iq h6 hf
    refine x_aload_n B dX12_since_28 rfl (lv_at hl 0 rfl) ?_
    refine x_iload_n B dX12_since_29 rfl (lv_at hl 2 rfl) ?_
    refine x_aload_n B dX12_since_30 rfl (lv_at hl 0 rfl) ?_
    refine y_getMr (C := RX12) (T := TX12) (NN := 34) (d := 0) (k2 := 108) B aM_107 inX12 rfl (j := 0) (by decide) q_1112 rfl rfl rfl dX12_since_31 ?_
    refine x_iconst (v := (nI 1)) B dX12_since_34 (by decide) ?_
    refine x_ialdM B aM_108 (by decide) dX12_since_35 ?_
    refine x_iload_n B dX12_since_36 rfl (lv_at hl 3 rfl) ?_
    refine x_iadd B dX12_since_37 ?_
    obtain ⟨r9, f8, c7, hf⟩ := bn2_some hf
    refine x_callV0 (rest := []) B (kX12_goesOn c7) ⟨rfl, rfl⟩ aM_107.lt aM_107.2 rfl (by decide) q_1403 q_1405 q_28 (by rw [hR]; exact cw_X12_since_X12_goesOn) rfl rfl hl.1 (Nat.le_of_ble_eq_true rfl) dX12_since_38 ⟨Nat.zero_le _, Nat.zero_le _⟩ ?_
    refine x_istore_n (lv' := [(2, .int r9), (0, .ref (gz G + 107)), (1, .int x1), (3, .int x3)]) B dX12_since_41 rfl hl (by decide) rfl (fun ls hl => ?_)
    refine x_iinc (k := 3) (v := (nI 1)) (lv' := [(3, .int (x3 + (nI 1))), (2, .int r9), (0, .ref (gz G + 107)), (1, .int x1)]) B dX12_since_42 hl rfl (by decide) (by decide) rfl (fun ls hl => ?_)
    refine x_goto (tgt := 23) B dX12_since_45 (by decide) ?_
    exact hk23 _ _ _ _ _ (lv_sub hl [2, 3, 1, 0] rfl) hf
set_option maxHeartbeats 4000000 in
set_option maxRecDepth 100000 in
theorem fX12_since_23L_ok {V : VE} {G : GE} {N : Nat} {f : Mm} {n : Nat}  {r : Int32} {g : Mm} (B : CX V G cX12_since 4 "FluxWatchModel" (some .int)) (hR : V.2.2.2.1 = rmX12_since)   : ∀ (q : Nat) (x1 : Int32) (x2 : Int32) (x3 : Int32) (mm : Mm) (ls : Array Slot),  lv_has ls 4 [(0, .ref (gz G + 107)), (1, .int x1), (2, .int x2), (3, .int x3)] → fX12_since_23L n  q x1 x2 x3 mm = some (r, g) → WX V G N f mm 0 0 (QQ V G (some (.int r)) N f g 0 0) 23 ls [] := by
  intro q
  induction q with
  | zero =>
    intro x1 x2 x3 mm ls hl hf
    cases hf
  | succ q ih =>
    intro x1 x2 x3 mm ls hl hf
    exact fX12_since_23_ok B hR   ih  hl hf
def fX12_since (n : Nat) (a1 : Int32) (m : Mm) : Option (Int32 × Mm) :=
  bn (fX12_in n a1 (nI 0) (nI 200)) fun r2 =>
  if r2 = 0 then (
  some ((-1000000001 : Int32), m)) else (
  lt (m 108 (nI 4).toNatClampNeg) fun v4 =>
  fX12_since_23L n n a1 v4 (nI 0) m)
set_option maxHeartbeats 4000000 in
set_option maxRecDepth 100000 in
theorem kX12_since {l : Launch} {G : GE} {N : Nat} {f m : Mm} {n : Nat} {a1 : Int32} {r : Int32} {g : Mm}  (hf : fX12_since n a1 m = some (r, g)) : MT l G yX12_since cX12_since 4 (some .int) rmX12_since [.ref (gz G + 107), .int a1] N f m (some (.int r)) N f g := by
  unfold fX12_since at hf
  refine MT.of (by decide) (Nat.le_of_ble_eq_true rfl) (fun V ls hV hR B hl => ?_)
  have B : CX V G cX12_since 4 "FluxWatchModel" (some .int) := B
  have hl : lv_has ls 4 [(0, .ref (gz G + 107)), (1, .int a1)] := hl
  show WX V G N f m 0 0 (QQ V G (some (.int r)) N f g 0 0) 0 ls []
  refine x_iload_n B dX12_since_0 rfl (lv_at hl 1 rfl) ?_
  refine x_iconst (v := (nI 0)) B dX12_since_1 (by decide) ?_
  refine x_sipush (v := (nI 200)) B dX12_since_2 (by decide) ?_
  obtain ⟨r2, c1, hf⟩ := bn_some hf
  refine x_callS0 (rest := []) B (kX12_in c1) ⟨rfl, rfl⟩ q_1220 q_1221 (by rw [hR]; exact cw_X12_since_X12_in) rfl rfl hl.1 (Nat.le_of_ble_eq_true rfl) dX12_since_5 ⟨Nat.zero_le _, Nat.zero_le _⟩ ?_
  refine x_if_ne (tgt := 14) B dX12_since_8 (by decide) (fun h3 => ?_) (fun h3 => ?_)
  · have hf := ip h3 hf
    refine x_ldc (v := (-1000000001 : Int32)) B q_1223 dX12_since_11 ?_
    obtain ⟨rfl, rfl⟩ := rt2 hf
    exact x_iret B dX12_since_13
  · have hf := iq h3 hf
    refine x_aload_n B dX12_since_14 rfl (lv_at hl 0 rfl) ?_
    refine y_getMr (C := RX12) (T := TX12) (NN := 34) (d := 0) (k2 := 108) B aM_107 inX12 rfl (j := 0) (by decide) q_1112 rfl rfl rfl dX12_since_15 ?_
    refine x_iconst (v := (nI 4)) B dX12_since_18 (by decide) ?_
    refine x_ialdM B aM_108 (by decide) dX12_since_19 ?_
    refine x_nm (fun v4 e5 => ?_)
    have hf := lt_some hf e5
    refine x_istore_n (lv' := [(2, .int v4), (0, .ref (gz G + 107)), (1, .int a1)]) B dX12_since_20 rfl hl (by decide) rfl (fun ls hl => ?_)
    refine x_iconst (v := (nI 0)) B dX12_since_21 (by decide) ?_
    refine x_istore_n (lv' := [(3, .int (nI 0)), (2, .int v4), (0, .ref (gz G + 107)), (1, .int a1)]) B dX12_since_22 rfl hl (by decide) rfl (fun ls hl => ?_)
    exact fX12_since_23L_ok B hR  n _ _ _ _ _ (lv_sub hl [2, 3, 1, 0] rfl) hf
def rmX12_soonest : Room := { frames := 4, cells := 0, slots := 0, locals := 95 }
set_option maxHeartbeats 4000000 in
set_option maxRecDepth 100000 in
theorem cw_X12_soonest_X12_daysFor : cwB rmX12_soonest rmX12_daysFor yX12_daysFor cX12_daysFor 6 (some .int) 2 := ⟨q_1543, q_57, by decide, by decide⟩
set_option maxHeartbeats 4000000 in
set_option maxRecDepth 100000 in
theorem cw_X12_soonest_X12_fitsOn : cwB rmX12_soonest rmX12_fitsOn yX12_fitsOn cX12_fitsOn 3 (some .boolean) 1 := ⟨q_1390, q_57, by decide, by decide⟩
set_option maxHeartbeats 4000000 in
set_option maxRecDepth 100000 in
theorem cw_X12_soonest_X12_in : cwB rmX12_soonest rmX12_in yX12_in cX12_in 3 (some .boolean) 3 := ⟨q_1222, q_57, by decide, by decide⟩
set_option maxHeartbeats 4000000 in
set_option maxRecDepth 100000 in
theorem cw_X12_soonest_X12_seenOn : cwB rmX12_soonest rmX12_seenOn yX12_seenOn cX12_seenOn 4 (some .int) 1 := ⟨q_1276, q_57, by decide, by decide⟩
set_option maxHeartbeats 4000000 in
set_option maxRecDepth 100000 in
theorem cw_X12_soonest_X12_sumOf : cwB rmX12_soonest rmX12_sumOf yX12_sumOf cX12_sumOf 5 (some .int) 2 := ⟨q_1535, q_57, by decide, by decide⟩
def fX12_soonest_179 (n : Nat)  (k103 : Int32 → Int32 → Int32 → Int32 → Int32 → Int32 → Int32 → Mm → Option (Int32 × Mm)) (x1 : Int32) (x2 : Int32) (x3 : Int32) (x4 : Int32) (x5 : Int32) (x6 : Int32) (x7 : Int32) (m : Mm) : Option (Int32 × Mm) :=
  k103 x1 x2 x3 x4 x5 x6 (x7 + (nI 1)) m
set_option maxHeartbeats 4000000 in
set_option maxRecDepth 100000 in
theorem fX12_soonest_179_ok {V : VE} {G : GE} {N : Nat} {f m : Mm} {n : Nat} {ls : Array Slot} {r : Int32} {g : Mm} (B : CX V G cX12_soonest 10 "FluxWatchModel" (some .int)) (hR : V.2.2.2.1 = rmX12_soonest)  {k103 : Int32 → Int32 → Int32 → Int32 → Int32 → Int32 → Int32 → Mm → Option (Int32 × Mm)} (hk103 : ∀ (x1 : Int32) (x2 : Int32) (x3 : Int32) (x4 : Int32) (x5 : Int32) (x6 : Int32) (x7 : Int32) (mm : Mm) (ls : Array Slot),  lv_has ls 10 [(0, .ref (gz G + 107)), (1, .int x1), (2, .int x2), (3, .int x3), (4, .int x4), (5, .int x5), (6, .int x6), (7, .int x7)] → k103 x1 x2 x3 x4 x5 x6 x7 mm = some (r, g) → WX V G N f mm 0 0 (QQ V G (some (.int r)) N f g 0 0) 103 ls []) {x1 : Int32} {x2 : Int32} {x3 : Int32} {x4 : Int32} {x5 : Int32} {x6 : Int32} {x7 : Int32}  (hl : lv_has ls 10 [(0, .ref (gz G + 107)), (1, .int x1), (2, .int x2), (3, .int x3), (4, .int x4), (5, .int x5), (6, .int x6), (7, .int x7)]) (hf : fX12_soonest_179 n  k103 x1 x2 x3 x4 x5 x6 x7 m = some (r, g)) : WX V G N f m 0 0 (QQ V G (some (.int r)) N f g 0 0) 179 ls [] := by
  unfold fX12_soonest_179 at hf
  refine x_iinc (k := 7) (v := (nI 1)) (lv' := [(7, .int (x7 + (nI 1))), (0, .ref (gz G + 107)), (1, .int x1), (2, .int x2), (3, .int x3), (4, .int x4), (5, .int x5), (6, .int x6)]) B dX12_soonest_179 hl rfl (by decide) (by decide) rfl (fun ls hl => ?_)
  refine x_goto (tgt := 103) B dX12_soonest_182 (by decide) ?_
  exact hk103 _ _ _ _ _ _ _ _ _ (lv_sub hl [1, 2, 3, 4, 5, 6, 7, 0] rfl) hf
def fX12_soonest_167 (n : Nat)  (k103 : Int32 → Int32 → Int32 → Int32 → Int32 → Int32 → Int32 → Mm → Option (Int32 × Mm)) (x1 : Int32) (x2 : Int32) (x3 : Int32) (x7 : Int32) (x8 : Int32) (x9 : Int32) (m : Mm) : Option (Int32 × Mm) :=
  fX12_soonest_179 n k103 x1 x2 x3 x7 x9 x8 x7 m
set_option maxHeartbeats 4000000 in
set_option maxRecDepth 100000 in
theorem fX12_soonest_167_ok {V : VE} {G : GE} {N : Nat} {f m : Mm} {n : Nat} {ls : Array Slot} {r : Int32} {g : Mm} (B : CX V G cX12_soonest 10 "FluxWatchModel" (some .int)) (hR : V.2.2.2.1 = rmX12_soonest)  {k103 : Int32 → Int32 → Int32 → Int32 → Int32 → Int32 → Int32 → Mm → Option (Int32 × Mm)} (hk103 : ∀ (x1 : Int32) (x2 : Int32) (x3 : Int32) (x4 : Int32) (x5 : Int32) (x6 : Int32) (x7 : Int32) (mm : Mm) (ls : Array Slot),  lv_has ls 10 [(0, .ref (gz G + 107)), (1, .int x1), (2, .int x2), (3, .int x3), (4, .int x4), (5, .int x5), (6, .int x6), (7, .int x7)] → k103 x1 x2 x3 x4 x5 x6 x7 mm = some (r, g) → WX V G N f mm 0 0 (QQ V G (some (.int r)) N f g 0 0) 103 ls []) {x1 : Int32} {x2 : Int32} {x3 : Int32} {x7 : Int32} {x8 : Int32} {x9 : Int32}  (hl : lv_has ls 10 [(0, .ref (gz G + 107)), (1, .int x1), (2, .int x2), (3, .int x3), (7, .int x7), (8, .int x8), (9, .int x9)]) (hf : fX12_soonest_167 n  k103 x1 x2 x3 x7 x8 x9 m = some (r, g)) : WX V G N f m 0 0 (QQ V G (some (.int r)) N f g 0 0) 167 ls [] := by
  unfold fX12_soonest_167 at hf
  refine x_iload B dX12_soonest_167 (lv_at hl 4 rfl) ?_
  refine x_istore (lv' := [(4, .int x7), (0, .ref (gz G + 107)), (1, .int x1), (2, .int x2), (3, .int x3), (7, .int x7), (8, .int x8), (9, .int x9)]) B dX12_soonest_169 hl (by decide) rfl (fun ls hl => ?_)
  refine x_iload B dX12_soonest_171 (lv_at hl 7 rfl) ?_
  refine x_istore (lv' := [(5, .int x9), (4, .int x7), (0, .ref (gz G + 107)), (1, .int x1), (2, .int x2), (3, .int x3), (7, .int x7), (8, .int x8), (9, .int x9)]) B dX12_soonest_173 hl (by decide) rfl (fun ls hl => ?_)
  refine x_iload B dX12_soonest_175 (lv_at hl 7 rfl) ?_
  refine x_istore (lv' := [(6, .int x8), (5, .int x9), (4, .int x7), (0, .ref (gz G + 107)), (1, .int x1), (2, .int x2), (3, .int x3), (7, .int x7), (8, .int x8), (9, .int x9)]) B dX12_soonest_177 hl (by decide) rfl (fun ls hl => ?_)
  exact fX12_soonest_179_ok B hR hk103 (lv_sub hl [3, 4, 5, 6, 2, 1, 0, 7] rfl) hf
def fX12_soonest_103 (n : Nat)   (k103 : Int32 → Int32 → Int32 → Int32 → Int32 → Int32 → Int32 → Mm → Option (Int32 × Mm)) (x1 : Int32) (x2 : Int32) (x3 : Int32) (x4 : Int32) (x5 : Int32) (x6 : Int32) (x7 : Int32) (m : Mm) : Option (Int32 × Mm) :=
  if (shlI (nI 1) (m 108 (nI 12).toNatClampNeg)) ≤ x7 then (
  if x5 ≤ (nI 60) then (
  if x3 = 0 then (
  some (x4, m)) else (
  if x3 = (nI 1) then (
  some (x5, m)) else (
  some (x6, m)))) else (
  some ((-1000000005 : Int32), m))) else (
  bn (fX12_sumOf n x7 (nI 1) m) fun r16 =>
  if x1 < r16 then (
  fX12_soonest_179 n k103 x1 x2 x3 x4 x5 x6 x7 m) else (
  bn (fX12_sumOf n x7 (nI 0) m) fun r19 =>
  bn2 (fX12_daysFor n r19 x2 m) fun r22 f21 =>
  if r22 < x5 then (
  fX12_soonest_167 n k103 x1 x2 x3 x7 r16 r22 f21) else (
  if r22 = x5 then (
  if x6 ≤ r16 then (
  fX12_soonest_179 n k103 x1 x2 x3 x4 x5 x6 x7 f21) else (
  fX12_soonest_167 n k103 x1 x2 x3 x7 r16 r22 f21)) else (
  fX12_soonest_179 n k103 x1 x2 x3 x4 x5 x6 x7 f21))))
def fX12_soonest_103L (n : Nat)   : Nat → Int32 → Int32 → Int32 → Int32 → Int32 → Int32 → Int32 → Mm → Option (Int32 × Mm)
  | 0 => fun _ _ _ _ _ _ _ _ => none
  | q + 1 => fX12_soonest_103 n   (fX12_soonest_103L n   q)
set_option maxHeartbeats 4000000 in
set_option maxRecDepth 100000 in
theorem fX12_soonest_103_ok {V : VE} {G : GE} {N : Nat} {f m : Mm} {n : Nat} {ls : Array Slot} {r : Int32} {g : Mm} (B : CX V G cX12_soonest 10 "FluxWatchModel" (some .int)) (hR : V.2.2.2.1 = rmX12_soonest)   {k103 : Int32 → Int32 → Int32 → Int32 → Int32 → Int32 → Int32 → Mm → Option (Int32 × Mm)} (hk103 : ∀ (x1 : Int32) (x2 : Int32) (x3 : Int32) (x4 : Int32) (x5 : Int32) (x6 : Int32) (x7 : Int32) (mm : Mm) (ls : Array Slot),  lv_has ls 10 [(0, .ref (gz G + 107)), (1, .int x1), (2, .int x2), (3, .int x3), (4, .int x4), (5, .int x5), (6, .int x6), (7, .int x7)] → k103 x1 x2 x3 x4 x5 x6 x7 mm = some (r, g) → WX V G N f mm 0 0 (QQ V G (some (.int r)) N f g 0 0) 103 ls []) {x1 : Int32} {x2 : Int32} {x3 : Int32} {x4 : Int32} {x5 : Int32} {x6 : Int32} {x7 : Int32}  (hl : lv_has ls 10 [(0, .ref (gz G + 107)), (1, .int x1), (2, .int x2), (3, .int x3), (4, .int x4), (5, .int x5), (6, .int x6), (7, .int x7)]) (hf : fX12_soonest_103 n  k103 x1 x2 x3 x4 x5 x6 x7 m = some (r, g)) : WX V G N f m 0 0 (QQ V G (some (.int r)) N f g 0 0) 103 ls [] := by
  unfold fX12_soonest_103 at hf
  refine x_iload B dX12_soonest_103 (lv_at hl 7 rfl) ?_
  refine x_iconst (v := (nI 1)) B dX12_soonest_105 (by decide) ?_
  refine x_aload_n B dX12_soonest_106 rfl (lv_at hl 0 rfl) ?_
  refine y_getMr (C := RX12) (T := TX12) (NN := 34) (d := 0) (k2 := 108) B aM_107 inX12 rfl (j := 0) (by decide) q_1112 rfl rfl rfl dX12_soonest_107 ?_
  refine x_bipush (v := (nI 12)) B dX12_soonest_110 (by decide) ?_
  refine x_ialdM B aM_108 (by decide) dX12_soonest_112 ?_
  refine y_ishl B dX12_soonest_113 ?_
  refine x_icmp_ge (tgt := 185) B dX12_soonest_114 (by decide) (fun h11 => ?_) (fun h11 => ?_)
  · have hf := ip h11 hf
    refine x_iload B dX12_soonest_185 (lv_at hl 5 rfl) ?_
    refine x_bipush (v := (nI 60)) B dX12_soonest_187 (by decide) ?_
    refine x_icmp_le (tgt := 195) B dX12_soonest_189 (by decide) (fun h12 => ?_) (fun h12 => ?_)
    · have hf := ip h12 hf
      refine x_iload_n B dX12_soonest_195 rfl (lv_at hl 3 rfl) ?_
      refine x_if_ne (tgt := 204) B dX12_soonest_196 (by decide) (fun h13 => ?_) (fun h13 => ?_)
      · have hf := ip h13 hf
        refine x_iload B dX12_soonest_199 (lv_at hl 4 rfl) ?_
        refine x_goto (tgt := 216) B dX12_soonest_201 (by decide) ?_
        obtain ⟨rfl, rfl⟩ := rt2 hf
        exact x_iret B dX12_soonest_216
      · have hf := iq h13 hf
        refine x_iload_n B dX12_soonest_204 rfl (lv_at hl 3 rfl) ?_
        refine x_iconst (v := (nI 1)) B dX12_soonest_205 (by decide) ?_
        refine x_icmp_ne (tgt := 214) B dX12_soonest_206 (by decide) (fun h14 => ?_) (fun h14 => ?_)
        · have hf := ip h14 hf
          refine x_iload B dX12_soonest_209 (lv_at hl 5 rfl) ?_
          refine x_goto (tgt := 216) B dX12_soonest_211 (by decide) ?_
          obtain ⟨rfl, rfl⟩ := rt2 hf
          exact x_iret B dX12_soonest_216
        · have hf := iq h14 hf
          refine x_iload B dX12_soonest_214 (lv_at hl 6 rfl) ?_
          obtain ⟨rfl, rfl⟩ := rt2 hf
          exact x_iret B dX12_soonest_216
    · have hf := iq h12 hf
      refine x_ldc (v := (-1000000005 : Int32)) B q_1237 dX12_soonest_192 ?_
      obtain ⟨rfl, rfl⟩ := rt2 hf
      exact x_iret B dX12_soonest_194
  · have hf := iq h11 hf
    refine x_aload_n B dX12_soonest_117 rfl (lv_at hl 0 rfl) ?_
    refine x_iload B dX12_soonest_118 (lv_at hl 7 rfl) ?_
    refine x_iconst (v := (nI 1)) B dX12_soonest_120 (by decide) ?_
    obtain ⟨r16, c15, hf⟩ := bn_some hf
    refine x_callV0 (rest := []) B (kX12_sumOf c15) ⟨rfl, rfl⟩ aM_107.lt aM_107.2 rfl (by decide) q_1532 q_1534 q_41 (by rw [hR]; exact cw_X12_soonest_X12_sumOf) rfl rfl hl.1 (Nat.le_of_ble_eq_true rfl) dX12_soonest_121 ⟨Nat.zero_le _, Nat.zero_le _⟩ ?_
    refine x_istore (lv' := [(8, .int r16), (0, .ref (gz G + 107)), (1, .int x1), (2, .int x2), (3, .int x3), (4, .int x4), (5, .int x5), (6, .int x6), (7, .int x7)]) B dX12_soonest_124 hl (by decide) rfl (fun ls hl => ?_)
    refine x_iload B dX12_soonest_126 (lv_at hl 0 rfl) ?_
    refine x_iload_n B dX12_soonest_128 rfl (lv_at hl 2 rfl) ?_
    refine x_icmp_gt (tgt := 179) B dX12_soonest_129 (by decide) (fun h17 => ?_) (fun h17 => ?_)
    · have hf := ip h17 hf
      exact fX12_soonest_179_ok B hR hk103 (lv_sub hl [1, 2, 3, 4, 5, 6, 7, 8] rfl) hf
    · have hf := iq h17 hf
      refine x_aload_n B dX12_soonest_132 rfl (lv_at hl 1 rfl) ?_
      refine x_aload_n B dX12_soonest_133 rfl (lv_at hl 1 rfl) ?_
      refine x_iload B dX12_soonest_134 (lv_at hl 8 rfl) ?_
      refine x_iconst (v := (nI 0)) B dX12_soonest_136 (by decide) ?_
      obtain ⟨r19, c18, hf⟩ := bn_some hf
      refine x_callV0 (rest := [.ref (gz G + 107)]) B (kX12_sumOf c18) ⟨rfl, rfl⟩ aM_107.lt aM_107.2 rfl (by decide) q_1532 q_1534 q_41 (by rw [hR]; exact cw_X12_soonest_X12_sumOf) rfl rfl hl.1 (Nat.le_of_ble_eq_true rfl) dX12_soonest_137 ⟨Nat.zero_le _, Nat.zero_le _⟩ ?_
      refine x_iload_n B dX12_soonest_140 rfl (lv_at hl 3 rfl) ?_
      obtain ⟨r22, f21, c20, hf⟩ := bn2_some hf
      refine x_callV0 (rest := []) B (kX12_daysFor c20) ⟨rfl, rfl⟩ aM_107.lt aM_107.2 rfl (by decide) q_1540 q_1542 q_42 (by rw [hR]; exact cw_X12_soonest_X12_daysFor) rfl rfl hl.1 (Nat.le_of_ble_eq_true rfl) dX12_soonest_141 ⟨Nat.zero_le _, Nat.zero_le _⟩ ?_
      refine x_istore (lv' := [(9, .int r22), (8, .int r16), (0, .ref (gz G + 107)), (1, .int x1), (2, .int x2), (3, .int x3), (4, .int x4), (5, .int x5), (6, .int x6), (7, .int x7)]) B dX12_soonest_144 hl (by decide) rfl (fun ls hl => ?_)
      refine x_iload B dX12_soonest_146 (lv_at hl 0 rfl) ?_
      refine x_iload B dX12_soonest_148 (lv_at hl 7 rfl) ?_
      refine x_icmp_lt (tgt := 167) B dX12_soonest_150 (by decide) (fun h23 => ?_) (fun h23 => ?_)
      · have hf := ip h23 hf
        exact fX12_soonest_167_ok B hR hk103 (lv_sub hl [2, 3, 4, 5, 9, 1, 0] rfl) hf
      · have hf := iq h23 hf
        refine x_iload B dX12_soonest_153 (lv_at hl 0 rfl) ?_
        refine x_iload B dX12_soonest_155 (lv_at hl 7 rfl) ?_
        refine x_icmp_ne (tgt := 179) B dX12_soonest_157 (by decide) (fun h24 => ?_) (fun h24 => ?_)
        · have hf := ip h24 hf
          refine x_iload B dX12_soonest_160 (lv_at hl 1 rfl) ?_
          refine x_iload B dX12_soonest_162 (lv_at hl 8 rfl) ?_
          refine x_icmp_ge (tgt := 179) B dX12_soonest_164 (by decide) (fun h25 => ?_) (fun h25 => ?_)
          · have hf := ip h25 hf
            exact fX12_soonest_179_ok B hR hk103 (lv_sub hl [2, 3, 4, 5, 6, 7, 8, 9] rfl) hf
          · have hf := iq h25 hf
            exact fX12_soonest_167_ok B hR hk103 (lv_sub hl [2, 3, 4, 5, 9, 1, 0] rfl) hf
        · have hf := iq h24 hf
          exact fX12_soonest_179_ok B hR hk103 (lv_sub hl [2, 3, 4, 5, 6, 7, 8, 9] rfl) hf
set_option maxHeartbeats 4000000 in
set_option maxRecDepth 100000 in
theorem fX12_soonest_103L_ok {V : VE} {G : GE} {N : Nat} {f : Mm} {n : Nat}  {r : Int32} {g : Mm} (B : CX V G cX12_soonest 10 "FluxWatchModel" (some .int)) (hR : V.2.2.2.1 = rmX12_soonest)   : ∀ (q : Nat) (x1 : Int32) (x2 : Int32) (x3 : Int32) (x4 : Int32) (x5 : Int32) (x6 : Int32) (x7 : Int32) (mm : Mm) (ls : Array Slot),  lv_has ls 10 [(0, .ref (gz G + 107)), (1, .int x1), (2, .int x2), (3, .int x3), (4, .int x4), (5, .int x5), (6, .int x6), (7, .int x7)] → fX12_soonest_103L n  q x1 x2 x3 x4 x5 x6 x7 mm = some (r, g) → WX V G N f mm 0 0 (QQ V G (some (.int r)) N f g 0 0) 103 ls [] := by
  intro q
  induction q with
  | zero =>
    intro x1 x2 x3 x4 x5 x6 x7 mm ls hl hf
    cases hf
  | succ q ih =>
    intro x1 x2 x3 x4 x5 x6 x7 mm ls hl hf
    exact fX12_soonest_103_ok B hR   ih  hl hf
def fX12_soonest_37 (n : Nat)   (k37 : Int32 → Int32 → Int32 → Int32 → Mm → Option (Int32 × Mm)) (x1 : Int32) (x2 : Int32) (x3 : Int32) (x4 : Int32) (m : Mm) : Option (Int32 × Mm) :=
  if (nI 60) ≤ x4 then (
  fX12_soonest_103L n n x1 x2 x3 (nI 0) (nI 61) (nI 0) (nI 0) m) else (
  bn (fX12_seenOn n ((m 108 (nI 1).toNatClampNeg) + x4) m) fun r27 =>
  gd (ib x4 60) <|
  lt (up m 119 x4.toNatClampNeg r27) fun f29 =>
  bn (fX12_fitsOn n ((f29 108 (nI 1).toNatClampNeg) + x4) f29) fun r32 =>
  gd (ib x4 60) <|
  lt (up f29 120 x4.toNatClampNeg (vp_nar .boolean r32)) fun f34 =>
  k37 x1 x2 x3 (x4 + (nI 1)) f34)
def fX12_soonest_37L (n : Nat)   : Nat → Int32 → Int32 → Int32 → Int32 → Mm → Option (Int32 × Mm)
  | 0 => fun _ _ _ _ _ => none
  | q + 1 => fX12_soonest_37 n   (fX12_soonest_37L n   q)
set_option maxHeartbeats 4000000 in
set_option maxRecDepth 100000 in
theorem fX12_soonest_37_ok {V : VE} {G : GE} {N : Nat} {f m : Mm} {n : Nat} {ls : Array Slot} {r : Int32} {g : Mm} (B : CX V G cX12_soonest 10 "FluxWatchModel" (some .int)) (hR : V.2.2.2.1 = rmX12_soonest)   {k37 : Int32 → Int32 → Int32 → Int32 → Mm → Option (Int32 × Mm)} (hk37 : ∀ (x1 : Int32) (x2 : Int32) (x3 : Int32) (x4 : Int32) (mm : Mm) (ls : Array Slot),  lv_has ls 10 [(0, .ref (gz G + 107)), (1, .int x1), (2, .int x2), (3, .int x3), (4, .int x4)] → k37 x1 x2 x3 x4 mm = some (r, g) → WX V G N f mm 0 0 (QQ V G (some (.int r)) N f g 0 0) 37 ls []) {x1 : Int32} {x2 : Int32} {x3 : Int32} {x4 : Int32}  (hl : lv_has ls 10 [(0, .ref (gz G + 107)), (1, .int x1), (2, .int x2), (3, .int x3), (4, .int x4)]) (hf : fX12_soonest_37 n  k37 x1 x2 x3 x4 m = some (r, g)) : WX V G N f m 0 0 (QQ V G (some (.int r)) N f g 0 0) 37 ls [] := by
  unfold fX12_soonest_37 at hf
  refine x_iload B dX12_soonest_37 (lv_at hl 4 rfl) ?_
  refine x_bipush (v := (nI 60)) B dX12_soonest_39 (by decide) ?_
  refine x_icmp_ge (tgt := 90) B dX12_soonest_41 (by decide) (fun h10 => ?_) (fun h10 => ?_)
  · have hf := ip h10 hf
    refine x_iconst (v := (nI 0)) B dX12_soonest_90 (by decide) ?_
    refine x_istore (lv' := [(4, .int (nI 0)), (0, .ref (gz G + 107)), (1, .int x1), (2, .int x2), (3, .int x3)]) B dX12_soonest_91 hl (by decide) rfl (fun ls hl => ?_)
    refine x_bipush (v := (nI 61)) B dX12_soonest_93 (by decide) ?_
    refine x_istore (lv' := [(5, .int (nI 61)), (4, .int (nI 0)), (0, .ref (gz G + 107)), (1, .int x1), (2, .int x2), (3, .int x3)]) B dX12_soonest_95 hl (by decide) rfl (fun ls hl => ?_)
    refine x_iconst (v := (nI 0)) B dX12_soonest_97 (by decide) ?_
    refine x_istore (lv' := [(6, .int (nI 0)), (5, .int (nI 61)), (4, .int (nI 0)), (0, .ref (gz G + 107)), (1, .int x1), (2, .int x2), (3, .int x3)]) B dX12_soonest_98 hl (by decide) rfl (fun ls hl => ?_)
    refine x_iconst (v := (nI 0)) B dX12_soonest_100 (by decide) ?_
    refine x_istore (lv' := [(7, .int (nI 0)), (6, .int (nI 0)), (5, .int (nI 61)), (4, .int (nI 0)), (0, .ref (gz G + 107)), (1, .int x1), (2, .int x2), (3, .int x3)]) B dX12_soonest_101 hl (by decide) rfl (fun ls hl => ?_)
    exact fX12_soonest_103L_ok B hR  n _ _ _ _ _ _ _ _ _ (lv_sub hl [4, 5, 6, 7, 3, 2, 1, 0] rfl) hf
  · have hf := iq h10 hf
    refine x_aload_n B dX12_soonest_44 rfl (lv_at hl 0 rfl) ?_
    refine y_getMr (C := RX12) (T := TX12) (NN := 34) (d := 11) (k2 := 119) B aM_107 inX12 rfl (j := 22) (by decide) q_1134 rfl rfl rfl dX12_soonest_45 ?_
    refine x_iload B dX12_soonest_48 (lv_at hl 4 rfl) ?_
    refine x_aload_n B dX12_soonest_50 rfl (lv_at hl 0 rfl) ?_
    refine x_aload_n B dX12_soonest_51 rfl (lv_at hl 0 rfl) ?_
    refine y_getMr (C := RX12) (T := TX12) (NN := 34) (d := 0) (k2 := 108) B aM_107 inX12 rfl (j := 0) (by decide) q_1112 rfl rfl rfl dX12_soonest_52 ?_
    refine x_iconst (v := (nI 1)) B dX12_soonest_55 (by decide) ?_
    refine x_ialdM B aM_108 (by decide) dX12_soonest_56 ?_
    refine x_iload B dX12_soonest_57 (lv_at hl 4 rfl) ?_
    refine x_iadd B dX12_soonest_59 ?_
    obtain ⟨r27, c26, hf⟩ := bn_some hf
    refine x_callV0 (rest := [.int x4, .ref (gz G + 119)]) B (kX12_seenOn c26) ⟨rfl, rfl⟩ aM_107.lt aM_107.2 rfl (by decide) q_1273 q_1275 q_11 (by rw [hR]; exact cw_X12_soonest_X12_seenOn) rfl rfl hl.1 (Nat.le_of_ble_eq_true rfl) dX12_soonest_60 ⟨Nat.zero_le _, Nat.zero_le _⟩ ?_
    obtain ⟨h28, hf⟩ := gd_some hf
    refine x_iastM B aM_119 h28 dX12_soonest_63 (fun f29 e30 => ?_)
    have hf := lt_some hf e30
    refine x_aload_n B dX12_soonest_64 rfl (lv_at hl 0 rfl) ?_
    refine y_getMr (C := RX12) (T := TX12) (NN := 34) (d := 12) (k2 := 120) B aM_107 inX12 rfl (j := 23) (by decide) q_1135 rfl rfl rfl dX12_soonest_65 ?_
    refine x_iload B dX12_soonest_68 (lv_at hl 4 rfl) ?_
    refine x_aload_n B dX12_soonest_70 rfl (lv_at hl 0 rfl) ?_
    refine x_aload_n B dX12_soonest_71 rfl (lv_at hl 0 rfl) ?_
    refine y_getMr (C := RX12) (T := TX12) (NN := 34) (d := 0) (k2 := 108) B aM_107 inX12 rfl (j := 0) (by decide) q_1112 rfl rfl rfl dX12_soonest_72 ?_
    refine x_iconst (v := (nI 1)) B dX12_soonest_75 (by decide) ?_
    refine x_ialdM B aM_108 (by decide) dX12_soonest_76 ?_
    refine x_iload B dX12_soonest_77 (lv_at hl 4 rfl) ?_
    refine x_iadd B dX12_soonest_79 ?_
    obtain ⟨r32, c31, hf⟩ := bn_some hf
    refine x_callV0 (rest := [.int x4, .ref (gz G + 120)]) B (kX12_fitsOn c31) ⟨rfl, rfl⟩ aM_107.lt aM_107.2 rfl (by decide) q_1387 q_1389 q_27 (by rw [hR]; exact cw_X12_soonest_X12_fitsOn) rfl rfl hl.1 (Nat.le_of_ble_eq_true rfl) dX12_soonest_80 ⟨Nat.zero_le _, Nat.zero_le _⟩ ?_
    obtain ⟨h33, hf⟩ := gd_some hf
    refine x_zastM B aM_120 h33 dX12_soonest_83 (fun f34 e35 => ?_)
    have hf := lt_some hf e35
    refine x_iinc (k := 4) (v := (nI 1)) (lv' := [(4, .int (x4 + (nI 1))), (0, .ref (gz G + 107)), (1, .int x1), (2, .int x2), (3, .int x3)]) B dX12_soonest_84 hl rfl (by decide) (by decide) rfl (fun ls hl => ?_)
    refine x_goto (tgt := 37) B dX12_soonest_87 (by decide) ?_
    exact hk37 _ _ _ _ _ _ (lv_sub hl [1, 2, 3, 4, 0] rfl) hf
set_option maxHeartbeats 4000000 in
set_option maxRecDepth 100000 in
theorem fX12_soonest_37L_ok {V : VE} {G : GE} {N : Nat} {f : Mm} {n : Nat}  {r : Int32} {g : Mm} (B : CX V G cX12_soonest 10 "FluxWatchModel" (some .int)) (hR : V.2.2.2.1 = rmX12_soonest)   : ∀ (q : Nat) (x1 : Int32) (x2 : Int32) (x3 : Int32) (x4 : Int32) (mm : Mm) (ls : Array Slot),  lv_has ls 10 [(0, .ref (gz G + 107)), (1, .int x1), (2, .int x2), (3, .int x3), (4, .int x4)] → fX12_soonest_37L n  q x1 x2 x3 x4 mm = some (r, g) → WX V G N f mm 0 0 (QQ V G (some (.int r)) N f g 0 0) 37 ls [] := by
  intro q
  induction q with
  | zero =>
    intro x1 x2 x3 x4 mm ls hl hf
    cases hf
  | succ q ih =>
    intro x1 x2 x3 x4 mm ls hl hf
    exact fX12_soonest_37_ok B hR   ih  hl hf
def fX12_soonest (n : Nat) (a1 : Int32) (a2 : Int32) (a3 : Int32) (m : Mm) : Option (Int32 × Mm) :=
  bn (fX12_in n a1 (nI 0) (nI 9999)) fun r2 =>
  if r2 = 0 then (
  some ((-1000000001 : Int32), m)) else (
  bn (fX12_in n a2 (nI 0) (nI 10000)) fun r5 =>
  if r5 = 0 then (
  some ((-1000000001 : Int32), m)) else (
  bn (fX12_in n a3 (nI 0) (nI 2)) fun r8 =>
  if r8 = 0 then (
  some ((-1000000001 : Int32), m)) else (
  fX12_soonest_37L n n a1 a2 a3 (nI 0) m)))
set_option maxHeartbeats 4000000 in
set_option maxRecDepth 100000 in
theorem kX12_soonest {l : Launch} {G : GE} {N : Nat} {f m : Mm} {n : Nat} {a1 : Int32} {a2 : Int32} {a3 : Int32} {r : Int32} {g : Mm}  (hf : fX12_soonest n a1 a2 a3 m = some (r, g)) : MT l G yX12_soonest cX12_soonest 10 (some .int) rmX12_soonest [.ref (gz G + 107), .int a1, .int a2, .int a3] N f m (some (.int r)) N f g := by
  unfold fX12_soonest at hf
  refine MT.of (by decide) (Nat.le_of_ble_eq_true rfl) (fun V ls hV hR B hl => ?_)
  have B : CX V G cX12_soonest 10 "FluxWatchModel" (some .int) := B
  have hl : lv_has ls 10 [(0, .ref (gz G + 107)), (1, .int a1), (2, .int a2), (3, .int a3)] := hl
  show WX V G N f m 0 0 (QQ V G (some (.int r)) N f g 0 0) 0 ls []
  refine x_iload_n B dX12_soonest_0 rfl (lv_at hl 1 rfl) ?_
  refine x_iconst (v := (nI 0)) B dX12_soonest_1 (by decide) ?_
  refine x_sipush (v := (nI 9999)) B dX12_soonest_2 (by decide) ?_
  obtain ⟨r2, c1, hf⟩ := bn_some hf
  refine x_callS0 (rest := []) B (kX12_in c1) ⟨rfl, rfl⟩ q_1220 q_1221 (by rw [hR]; exact cw_X12_soonest_X12_in) rfl rfl hl.1 (Nat.le_of_ble_eq_true rfl) dX12_soonest_5 ⟨Nat.zero_le _, Nat.zero_le _⟩ ?_
  refine x_if_eq (tgt := 31) B dX12_soonest_8 (by decide) (fun h3 => ?_) (fun h3 => ?_)
  · have hf := ip h3 hf
    refine x_ldc (v := (-1000000001 : Int32)) B q_1223 dX12_soonest_31 ?_
    obtain ⟨rfl, rfl⟩ := rt2 hf
    exact x_iret B dX12_soonest_33
  · have hf := iq h3 hf
    refine x_iload_n B dX12_soonest_11 rfl (lv_at hl 2 rfl) ?_
    refine x_iconst (v := (nI 0)) B dX12_soonest_12 (by decide) ?_
    refine x_sipush (v := (nI 10000)) B dX12_soonest_13 (by decide) ?_
    obtain ⟨r5, c4, hf⟩ := bn_some hf
    refine x_callS0 (rest := []) B (kX12_in c4) ⟨rfl, rfl⟩ q_1220 q_1221 (by rw [hR]; exact cw_X12_soonest_X12_in) rfl rfl hl.1 (Nat.le_of_ble_eq_true rfl) dX12_soonest_16 ⟨Nat.zero_le _, Nat.zero_le _⟩ ?_
    refine x_if_eq (tgt := 31) B dX12_soonest_19 (by decide) (fun h6 => ?_) (fun h6 => ?_)
    · have hf := ip h6 hf
      refine x_ldc (v := (-1000000001 : Int32)) B q_1223 dX12_soonest_31 ?_
      obtain ⟨rfl, rfl⟩ := rt2 hf
      exact x_iret B dX12_soonest_33
    · have hf := iq h6 hf
      refine x_iload_n B dX12_soonest_22 rfl (lv_at hl 3 rfl) ?_
      refine x_iconst (v := (nI 0)) B dX12_soonest_23 (by decide) ?_
      refine x_iconst (v := (nI 2)) B dX12_soonest_24 (by decide) ?_
      obtain ⟨r8, c7, hf⟩ := bn_some hf
      refine x_callS0 (rest := []) B (kX12_in c7) ⟨rfl, rfl⟩ q_1220 q_1221 (by rw [hR]; exact cw_X12_soonest_X12_in) rfl rfl hl.1 (Nat.le_of_ble_eq_true rfl) dX12_soonest_25 ⟨Nat.zero_le _, Nat.zero_le _⟩ ?_
      refine x_if_ne (tgt := 34) B dX12_soonest_28 (by decide) (fun h9 => ?_) (fun h9 => ?_)
      · have hf := ip h9 hf
        refine x_ldc (v := (-1000000001 : Int32)) B q_1223 dX12_soonest_31 ?_
        obtain ⟨rfl, rfl⟩ := rt2 hf
        exact x_iret B dX12_soonest_33
      · have hf := iq h9 hf
        refine x_iconst (v := (nI 0)) B dX12_soonest_34 (by decide) ?_
        refine x_istore (lv' := [(4, .int (nI 0)), (0, .ref (gz G + 107)), (1, .int a1), (2, .int a2), (3, .int a3)]) B dX12_soonest_35 hl (by decide) rfl (fun ls hl => ?_)
        exact fX12_soonest_37L_ok B hR  n _ _ _ _ _ _ (lv_sub hl [1, 2, 3, 4, 0] rfl) hf
def rmX12_step : Room := { frames := 2, cells := 0, slots := 0, locals := 43 }
set_option maxHeartbeats 4000000 in
set_option maxRecDepth 100000 in
theorem cw_X12_step_X12_comes : cwB rmX12_step rmX12_comes yX12_comes cX12_comes 6 none 4 := ⟨q_1292, q_57, by decide, by decide⟩
set_option maxHeartbeats 4000000 in
set_option maxRecDepth 100000 in
theorem cw_X12_step_X12_in : cwB rmX12_step rmX12_in yX12_in cX12_in 3 (some .boolean) 3 := ⟨q_1222, q_57, by decide, by decide⟩
set_option maxHeartbeats 4000000 in
set_option maxRecDepth 100000 in
theorem cw_X12_step_X12_isCoil : cwB rmX12_step rmX12_isCoil yX12_isCoil cX12_isCoil 2 (some .boolean) 1 := ⟨q_1232, q_57, by decide, by decide⟩
def fX12_step (n : Nat) (a1 : Int32) (a2 : Int32) (a3 : Int32) (a4 : Int32) (m : Mm) : Option (Int32 × Mm) :=
  bn (fX12_in n a1 (nI 0) (nI 5)) fun r2 =>
  if r2 = 0 then (
  some ((-1000000001 : Int32), m)) else (
  bn (fX12_isCoil n a2 m) fun r5 =>
  if r5 = 0 then (
  some ((-1000000001 : Int32), m)) else (
  bn (fX12_in n a3 (nI 0) (m 108 (nI 1).toNatClampNeg)) fun r8 =>
  if r8 = 0 then (
  some ((-1000000001 : Int32), m)) else (
  bn (fX12_in n a4 (-999 : Int32) (nI 999)) fun r11 =>
  if r11 = 0 then (
  some ((-1000000001 : Int32), m)) else (
  if (m 108 (nI 8).toNatClampNeg) = (nI 40) then (
  some ((-1000000003 : Int32), m)) else (
  bn (fX12_comes n a1 a2 a3 a4 m) fun f15 =>
  some ((f15 108 (nI 8).toNatClampNeg) - (nI 1), f15))))))
set_option maxHeartbeats 4000000 in
set_option maxRecDepth 100000 in
theorem kX12_step {l : Launch} {G : GE} {N : Nat} {f m : Mm} {n : Nat} {a1 : Int32} {a2 : Int32} {a3 : Int32} {a4 : Int32} {r : Int32} {g : Mm}  (hf : fX12_step n a1 a2 a3 a4 m = some (r, g)) : MT l G yX12_step cX12_step 5 (some .int) rmX12_step [.ref (gz G + 107), .int a1, .int a2, .int a3, .int a4] N f m (some (.int r)) N f g := by
  unfold fX12_step at hf
  refine MT.of (by decide) (Nat.le_of_ble_eq_true rfl) (fun V ls hV hR B hl => ?_)
  have B : CX V G cX12_step 5 "FluxWatchModel" (some .int) := B
  have hl : lv_has ls 5 [(0, .ref (gz G + 107)), (1, .int a1), (2, .int a2), (3, .int a3), (4, .int a4)] := hl
  show WX V G N f m 0 0 (QQ V G (some (.int r)) N f g 0 0) 0 ls []
  refine x_iload_n B dX12_step_0 rfl (lv_at hl 1 rfl) ?_
  refine x_iconst (v := (nI 0)) B dX12_step_1 (by decide) ?_
  refine x_iconst (v := (nI 5)) B dX12_step_2 (by decide) ?_
  obtain ⟨r2, c1, hf⟩ := bn_some hf
  refine x_callS0 (rest := []) B (kX12_in c1) ⟨rfl, rfl⟩ q_1220 q_1221 (by rw [hR]; exact cw_X12_step_X12_in) rfl rfl hl.1 (Nat.le_of_ble_eq_true rfl) dX12_step_3 ⟨Nat.zero_le _, Nat.zero_le _⟩ ?_
  refine x_if_eq (tgt := 45) B dX12_step_6 (by decide) (fun h3 => ?_) (fun h3 => ?_)
  · have hf := ip h3 hf
    refine x_ldc (v := (-1000000001 : Int32)) B q_1223 dX12_step_45 ?_
    obtain ⟨rfl, rfl⟩ := rt2 hf
    exact x_iret B dX12_step_47
  · have hf := iq h3 hf
    refine x_aload_n B dX12_step_9 rfl (lv_at hl 0 rfl) ?_
    refine x_iload_n B dX12_step_10 rfl (lv_at hl 2 rfl) ?_
    obtain ⟨r5, c4, hf⟩ := bn_some hf
    refine x_callV0 (rest := []) B (kX12_isCoil c4) ⟨rfl, rfl⟩ aM_107.lt aM_107.2 rfl (by decide) q_1229 q_1231 q_7 (by rw [hR]; exact cw_X12_step_X12_isCoil) rfl rfl hl.1 (Nat.le_of_ble_eq_true rfl) dX12_step_11 ⟨Nat.zero_le _, Nat.zero_le _⟩ ?_
    refine x_if_eq (tgt := 45) B dX12_step_14 (by decide) (fun h6 => ?_) (fun h6 => ?_)
    · have hf := ip h6 hf
      refine x_ldc (v := (-1000000001 : Int32)) B q_1223 dX12_step_45 ?_
      obtain ⟨rfl, rfl⟩ := rt2 hf
      exact x_iret B dX12_step_47
    · have hf := iq h6 hf
      refine x_iload_n B dX12_step_17 rfl (lv_at hl 3 rfl) ?_
      refine x_iconst (v := (nI 0)) B dX12_step_18 (by decide) ?_
      refine x_aload_n B dX12_step_19 rfl (lv_at hl 0 rfl) ?_
      refine y_getMr (C := RX12) (T := TX12) (NN := 34) (d := 0) (k2 := 108) B aM_107 inX12 rfl (j := 0) (by decide) q_1112 rfl rfl rfl dX12_step_20 ?_
      refine x_iconst (v := (nI 1)) B dX12_step_23 (by decide) ?_
      refine x_ialdM B aM_108 (by decide) dX12_step_24 ?_
      obtain ⟨r8, c7, hf⟩ := bn_some hf
      refine x_callS0 (rest := []) B (kX12_in c7) ⟨rfl, rfl⟩ q_1220 q_1221 (by rw [hR]; exact cw_X12_step_X12_in) rfl rfl hl.1 (Nat.le_of_ble_eq_true rfl) dX12_step_25 ⟨Nat.zero_le _, Nat.zero_le _⟩ ?_
      refine x_if_eq (tgt := 45) B dX12_step_28 (by decide) (fun h9 => ?_) (fun h9 => ?_)
      · have hf := ip h9 hf
        refine x_ldc (v := (-1000000001 : Int32)) B q_1223 dX12_step_45 ?_
        obtain ⟨rfl, rfl⟩ := rt2 hf
        exact x_iret B dX12_step_47
      · have hf := iq h9 hf
        refine x_iload B dX12_step_31 (lv_at hl 4 rfl) ?_
        refine x_sipush (v := (-999 : Int32)) B dX12_step_33 (by decide) ?_
        refine x_sipush (v := (nI 999)) B dX12_step_36 (by decide) ?_
        obtain ⟨r11, c10, hf⟩ := bn_some hf
        refine x_callS0 (rest := []) B (kX12_in c10) ⟨rfl, rfl⟩ q_1220 q_1221 (by rw [hR]; exact cw_X12_step_X12_in) rfl rfl hl.1 (Nat.le_of_ble_eq_true rfl) dX12_step_39 ⟨Nat.zero_le _, Nat.zero_le _⟩ ?_
        refine x_if_ne (tgt := 48) B dX12_step_42 (by decide) (fun h12 => ?_) (fun h12 => ?_)
        · have hf := ip h12 hf
          refine x_ldc (v := (-1000000001 : Int32)) B q_1223 dX12_step_45 ?_
          obtain ⟨rfl, rfl⟩ := rt2 hf
          exact x_iret B dX12_step_47
        · have hf := iq h12 hf
          refine x_aload_n B dX12_step_48 rfl (lv_at hl 0 rfl) ?_
          refine y_getMr (C := RX12) (T := TX12) (NN := 34) (d := 0) (k2 := 108) B aM_107 inX12 rfl (j := 0) (by decide) q_1112 rfl rfl rfl dX12_step_49 ?_
          refine x_bipush (v := (nI 8)) B dX12_step_52 (by decide) ?_
          refine x_ialdM B aM_108 (by decide) dX12_step_54 ?_
          refine x_bipush (v := (nI 40)) B dX12_step_55 (by decide) ?_
          refine x_icmp_ne (tgt := 63) B dX12_step_57 (by decide) (fun h13 => ?_) (fun h13 => ?_)
          · have hf := ip h13 hf
            refine x_ldc (v := (-1000000003 : Int32)) B q_1224 dX12_step_60 ?_
            obtain ⟨rfl, rfl⟩ := rt2 hf
            exact x_iret B dX12_step_62
          · have hf := iq h13 hf
            refine x_aload_n B dX12_step_63 rfl (lv_at hl 0 rfl) ?_
            refine x_iload_n B dX12_step_64 rfl (lv_at hl 1 rfl) ?_
            refine x_iload_n B dX12_step_65 rfl (lv_at hl 2 rfl) ?_
            refine x_iload_n B dX12_step_66 rfl (lv_at hl 3 rfl) ?_
            refine x_iload B dX12_step_67 (lv_at hl 4 rfl) ?_
            obtain ⟨f15, c14, hf⟩ := bn_some hf
            refine x_callV0 (rest := []) B (kX12_comes c14) ⟨rfl, rfl⟩ aM_107.lt aM_107.2 rfl (by decide) q_1289 q_1291 q_13 (by rw [hR]; exact cw_X12_step_X12_comes) rfl rfl hl.1 (Nat.le_of_ble_eq_true rfl) dX12_step_69 ⟨Nat.zero_le _, Nat.zero_le _⟩ ?_
            refine x_aload_n B dX12_step_72 rfl (lv_at hl 0 rfl) ?_
            refine y_getMr (C := RX12) (T := TX12) (NN := 34) (d := 0) (k2 := 108) B aM_107 inX12 rfl (j := 0) (by decide) q_1112 rfl rfl rfl dX12_step_73 ?_
            refine x_bipush (v := (nI 8)) B dX12_step_76 (by decide) ?_
            refine x_ialdM B aM_108 (by decide) dX12_step_78 ?_
            refine x_iconst (v := (nI 1)) B dX12_step_79 (by decide) ?_
            refine x_isub B dX12_step_80 ?_
            obtain ⟨rfl, rfl⟩ := rt2 hf
            exact x_iret B dX12_step_81
def rmX12_takesPart : Room := { frames := 2, cells := 0, slots := 0, locals := 42 }
set_option maxHeartbeats 4000000 in
set_option maxRecDepth 100000 in
theorem cw_X12_takesPart_X12_go : cwB rmX12_takesPart rmX12_go yX12_go cX12_go 2 none 0 := ⟨q_1440, q_57, by decide, by decide⟩
set_option maxHeartbeats 4000000 in
set_option maxRecDepth 100000 in
theorem cw_X12_takesPart_X12_nameOf : cwB rmX12_takesPart rmX12_nameOf yX12_nameOf cX12_nameOf 3 (some .int) 1 := ⟨q_1464, q_57, by decide, by decide⟩
set_option maxHeartbeats 4000000 in
set_option maxRecDepth 100000 in
theorem cw_X12_takesPart_X12_settle : cwB rmX12_takesPart rmX12_settle yX12_settle cX12_settle 2 none 1 := ⟨q_1468, q_57, by decide, by decide⟩
def fX12_takesPart_87 (n : Nat)   (s0 : Int32) (s1 : Int32) (m : Mm) : Option (Int32 × Mm) :=
  gd (ib s1 96) <|
  lt (up m 114 s1.toNatClampNeg s0) fun f9 =>
  lt (up f9 107 15 ((f9 107 15) + (nI 1))) fun f11 =>
  lt (up f11 107 16 ((f11 107 16) + (nI 1))) fun f13 =>
  bn (fX12_settle n (nI 6) f13) fun f16 =>
  bn (fX12_go n f16) fun f18 =>
  some ((nI 1), f18)
set_option maxHeartbeats 4000000 in
set_option maxRecDepth 100000 in
theorem fX12_takesPart_87_ok {V : VE} {G : GE} {N : Nat} {f m : Mm} {n : Nat} {ls : Array Slot} {r : Int32} {g : Mm} (B : CX V G cX12_takesPart 2 "FluxWatchModel" (some .boolean)) (hR : V.2.2.2.1 = rmX12_takesPart)   {s0 : Int32} {s1 : Int32}  (hl : lv_has ls 2 [(0, .ref (gz G + 107))]) (hf : fX12_takesPart_87 n  s0 s1 m = some (r, g)) : WX V G N f m 0 0 (QQ V G (some (.int r)) N f g 0 0) 87 ls [.int s0, .int s1, .ref (gz G + 114)] := by
  unfold fX12_takesPart_87 at hf
  obtain ⟨h8, hf⟩ := gd_some hf
  refine x_iastM B aM_114 h8 dX12_takesPart_87 (fun f9 e10 => ?_)
  have hf := lt_some hf e10
  refine x_aload_n B dX12_takesPart_88 rfl (lv_at hl 0 rfl) ?_
  refine x_dup B dX12_takesPart_89 rfl ?_
  refine y_getMi (C := RX12) (T := TX12) (NN := 34) B aM_107 inX12 rfl (j := 15) (by decide) q_1127 rfl rfl dX12_takesPart_90 ?_
  refine x_iconst (v := (nI 1)) B dX12_takesPart_93 (by decide) ?_
  refine x_iadd B dX12_takesPart_94 ?_
  refine x_putM (C := RX12) (T := TX12) (NN := 34) (ty0 := tyX12) (ty := .int) B aM_107 inX12 tyX12_ok nmX12 rfl (j := 15) (by decide) q_1127 rfl rfl rfl rfl rfl rfl dX12_takesPart_95 (fun f11 e12 => ?_)
  have hf := lt_some hf e12
  refine x_aload_n B dX12_takesPart_98 rfl (lv_at hl 0 rfl) ?_
  refine x_dup B dX12_takesPart_99 rfl ?_
  refine y_getMi (C := RX12) (T := TX12) (NN := 34) B aM_107 inX12 rfl (j := 16) (by decide) q_1128 rfl rfl dX12_takesPart_100 ?_
  refine x_iconst (v := (nI 1)) B dX12_takesPart_103 (by decide) ?_
  refine x_iadd B dX12_takesPart_104 ?_
  refine x_putM (C := RX12) (T := TX12) (NN := 34) (ty0 := tyX12) (ty := .int) B aM_107 inX12 tyX12_ok nmX12 rfl (j := 16) (by decide) q_1128 rfl rfl rfl rfl rfl rfl dX12_takesPart_105 (fun f13 e14 => ?_)
  have hf := lt_some hf e14
  refine x_aload_n B dX12_takesPart_108 rfl (lv_at hl 0 rfl) ?_
  refine x_bipush (v := (nI 6)) B dX12_takesPart_109 (by decide) ?_
  obtain ⟨f16, c15, hf⟩ := bn_some hf
  refine x_callV0 (rest := []) B (kX12_settle c15) ⟨rfl, rfl⟩ aM_107.lt aM_107.2 rfl (by decide) q_1465 q_1467 q_36 (by rw [hR]; exact cw_X12_takesPart_X12_settle) rfl rfl hl.1 (Nat.le_of_ble_eq_true rfl) dX12_takesPart_111 ⟨Nat.zero_le _, Nat.zero_le _⟩ ?_
  refine x_aload_n B dX12_takesPart_114 rfl (lv_at hl 0 rfl) ?_
  obtain ⟨f18, c17, hf⟩ := bn_some hf
  refine x_callV0 (rest := []) B (kX12_go c17) ⟨rfl, rfl⟩ aM_107.lt aM_107.2 rfl (by decide) q_1437 q_1439 q_29 (by rw [hR]; exact cw_X12_takesPart_X12_go) rfl rfl hl.1 (Nat.le_of_ble_eq_true rfl) dX12_takesPart_115 ⟨Nat.zero_le _, Nat.zero_le _⟩ ?_
  refine x_iconst (v := (nI 1)) B dX12_takesPart_118 (by decide) ?_
  obtain ⟨rfl, rfl⟩ := rt2 hf
  exact x_zret B (by decide) dX12_takesPart_119
def fX12_takesPart_52 (n : Nat)    (m : Mm) : Option (Int32 × Mm) :=
  if (m 107 8) = (nI 2) then (
  fX12_takesPart_87 n (m 107 9) (m 107 15) m) else (
  bn (fX12_nameOf n (m 107 9) m) fun r20 =>
  fX12_takesPart_87 n ((nI 10000) + r20) (m 107 15) m)
set_option maxHeartbeats 4000000 in
set_option maxRecDepth 100000 in
theorem fX12_takesPart_52_ok {V : VE} {G : GE} {N : Nat} {f m : Mm} {n : Nat} {ls : Array Slot} {r : Int32} {g : Mm} (B : CX V G cX12_takesPart 2 "FluxWatchModel" (some .boolean)) (hR : V.2.2.2.1 = rmX12_takesPart)     (hl : lv_has ls 2 [(0, .ref (gz G + 107))]) (hf : fX12_takesPart_52 n  m = some (r, g)) : WX V G N f m 0 0 (QQ V G (some (.int r)) N f g 0 0) 52 ls [] := by
  unfold fX12_takesPart_52 at hf
  refine x_aload_n B dX12_takesPart_52 rfl (lv_at hl 0 rfl) ?_
  refine y_getMr (C := RX12) (T := TX12) (NN := 34) (d := 6) (k2 := 114) B aM_107 inX12 rfl (j := 14) (by decide) q_1126 rfl rfl rfl dX12_takesPart_53 ?_
  refine x_aload_n B dX12_takesPart_56 rfl (lv_at hl 0 rfl) ?_
  refine y_getMi (C := RX12) (T := TX12) (NN := 34) B aM_107 inX12 rfl (j := 15) (by decide) q_1127 rfl rfl dX12_takesPart_57 ?_
  refine x_aload_n B dX12_takesPart_60 rfl (lv_at hl 0 rfl) ?_
  refine y_getMi (C := RX12) (T := TX12) (NN := 34) B aM_107 inX12 rfl (j := 8) (by decide) q_1120 rfl rfl dX12_takesPart_61 ?_
  refine x_iconst (v := (nI 2)) B dX12_takesPart_64 (by decide) ?_
  refine x_icmp_ne (tgt := 75) B dX12_takesPart_65 (by decide) (fun h7 => ?_) (fun h7 => ?_)
  · have hf := ip h7 hf
    refine x_aload_n B dX12_takesPart_68 rfl (lv_at hl 0 rfl) ?_
    refine y_getMi (C := RX12) (T := TX12) (NN := 34) B aM_107 inX12 rfl (j := 9) (by decide) q_1121 rfl rfl dX12_takesPart_69 ?_
    refine x_goto (tgt := 87) B dX12_takesPart_72 (by decide) ?_
    exact fX12_takesPart_87_ok B hR  hl hf
  · have hf := iq h7 hf
    refine x_sipush (v := (nI 10000)) B dX12_takesPart_75 (by decide) ?_
    refine x_aload_n B dX12_takesPart_78 rfl (lv_at hl 0 rfl) ?_
    refine x_aload_n B dX12_takesPart_79 rfl (lv_at hl 0 rfl) ?_
    refine y_getMi (C := RX12) (T := TX12) (NN := 34) B aM_107 inX12 rfl (j := 9) (by decide) q_1121 rfl rfl dX12_takesPart_80 ?_
    obtain ⟨r20, c19, hf⟩ := bn_some hf
    refine x_callV0 (rest := [.int (nI 10000), .int (m 107 15), .ref (gz G + 114)]) B (kX12_nameOf c19) ⟨rfl, rfl⟩ aM_107.lt aM_107.2 rfl (by decide) q_1461 q_1463 q_35 (by rw [hR]; exact cw_X12_takesPart_X12_nameOf) rfl rfl hl.1 (Nat.le_of_ble_eq_true rfl) dX12_takesPart_83 ⟨Nat.zero_le _, Nat.zero_le _⟩ ?_
    refine x_iadd B dX12_takesPart_86 ?_
    exact fX12_takesPart_87_ok B hR  hl hf
def fX12_takesPart_37 (n : Nat)   (s0 : Int32) (m : Mm) : Option (Int32 × Mm) :=
  if (m 107 8) = (nI 2) then (
  fX12_takesPart_52 n m) else (
  if s0 = 0 then (
  some ((nI 0), m)) else (
  fX12_takesPart_52 n m))
set_option maxHeartbeats 4000000 in
set_option maxRecDepth 100000 in
theorem fX12_takesPart_37_ok {V : VE} {G : GE} {N : Nat} {f m : Mm} {n : Nat} {ls : Array Slot} {r : Int32} {g : Mm} (B : CX V G cX12_takesPart 2 "FluxWatchModel" (some .boolean)) (hR : V.2.2.2.1 = rmX12_takesPart)   {s0 : Int32}  (hl : lv_has ls 2 [(0, .ref (gz G + 107))]) (hf : fX12_takesPart_37 n  s0 m = some (r, g)) : WX V G N f m 0 0 (QQ V G (some (.int r)) N f g 0 0) 37 ls [.int s0] := by
  unfold fX12_takesPart_37 at hf
  refine x_istore_n (lv' := [(1, .int s0), (0, .ref (gz G + 107))]) B dX12_takesPart_37 rfl hl (by decide) rfl (fun ls hl => ?_)
  refine x_aload_n B dX12_takesPart_38 rfl (lv_at hl 1 rfl) ?_
  refine y_getMi (C := RX12) (T := TX12) (NN := 34) B aM_107 inX12 rfl (j := 8) (by decide) q_1120 rfl rfl dX12_takesPart_39 ?_
  refine x_iconst (v := (nI 2)) B dX12_takesPart_42 (by decide) ?_
  refine x_icmp_eq (tgt := 52) B dX12_takesPart_43 (by decide) (fun h6 => ?_) (fun h6 => ?_)
  · have hf := ip h6 hf
    exact fX12_takesPart_52_ok B hR  (lv_sub hl [1] rfl) hf
  · have hf := iq h6 hf
    refine x_iload_n B dX12_takesPart_46 rfl (lv_at hl 0 rfl) ?_
    refine x_if_ne (tgt := 52) B dX12_takesPart_47 (by decide) (fun h21 => ?_) (fun h21 => ?_)
    · have hf := ip h21 hf
      refine x_iconst (v := (nI 0)) B dX12_takesPart_50 (by decide) ?_
      obtain ⟨rfl, rfl⟩ := rt2 hf
      exact x_zret B (by decide) dX12_takesPart_51
    · have hf := iq h21 hf
      exact fX12_takesPart_52_ok B hR  (lv_sub hl [1] rfl) hf
def fX12_takesPart_36 (n : Nat)    (m : Mm) : Option (Int32 × Mm) :=
  fX12_takesPart_37 n (nI 0) m
set_option maxHeartbeats 4000000 in
set_option maxRecDepth 100000 in
theorem fX12_takesPart_36_ok {V : VE} {G : GE} {N : Nat} {f m : Mm} {n : Nat} {ls : Array Slot} {r : Int32} {g : Mm} (B : CX V G cX12_takesPart 2 "FluxWatchModel" (some .boolean)) (hR : V.2.2.2.1 = rmX12_takesPart)     (hl : lv_has ls 2 [(0, .ref (gz G + 107))]) (hf : fX12_takesPart_36 n  m = some (r, g)) : WX V G N f m 0 0 (QQ V G (some (.int r)) N f g 0 0) 36 ls [] := by
  unfold fX12_takesPart_36 at hf
  refine x_iconst (v := (nI 0)) B dX12_takesPart_36 (by decide) ?_
  exact fX12_takesPart_37_ok B hR  hl hf
def fX12_takesPart (n : Nat)  (m : Mm) : Option (Int32 × Mm) :=
  if (m 107 8) = (nI 1) then (
  if ((m 107 6) - (m 107 7)) = (nI 1) then (
  bn (fX12_nameOf n (m 107 9) m) fun r4 =>
  if r4 < 0 then (
  fX12_takesPart_36 n m) else (
  fX12_takesPart_37 n (nI 1) m)) else (
  fX12_takesPart_36 n m)) else (
  fX12_takesPart_36 n m)
set_option maxHeartbeats 4000000 in
set_option maxRecDepth 100000 in
theorem kX12_takesPart {l : Launch} {G : GE} {N : Nat} {f m : Mm} {n : Nat}  {r : Int32} {g : Mm}  (hf : fX12_takesPart n m = some (r, g)) : MT l G yX12_takesPart cX12_takesPart 2 (some .boolean) rmX12_takesPart [.ref (gz G + 107)] N f m (some (.int r)) N f g := by
  unfold fX12_takesPart at hf
  refine MT.of (by decide) (Nat.le_of_ble_eq_true rfl) (fun V ls hV hR B hl => ?_)
  have B : CX V G cX12_takesPart 2 "FluxWatchModel" (some .boolean) := B
  have hl : lv_has ls 2 [(0, .ref (gz G + 107))] := hl
  show WX V G N f m 0 0 (QQ V G (some (.int r)) N f g 0 0) 0 ls []
  refine x_aload_n B dX12_takesPart_0 rfl (lv_at hl 0 rfl) ?_
  refine y_getMi (C := RX12) (T := TX12) (NN := 34) B aM_107 inX12 rfl (j := 8) (by decide) q_1120 rfl rfl dX12_takesPart_1 ?_
  refine x_iconst (v := (nI 1)) B dX12_takesPart_4 (by decide) ?_
  refine x_icmp_ne (tgt := 36) B dX12_takesPart_5 (by decide) (fun h1 => ?_) (fun h1 => ?_)
  · have hf := ip h1 hf
    refine x_aload_n B dX12_takesPart_8 rfl (lv_at hl 0 rfl) ?_
    refine y_getMi (C := RX12) (T := TX12) (NN := 34) B aM_107 inX12 rfl (j := 6) (by decide) q_1118 rfl rfl dX12_takesPart_9 ?_
    refine x_aload_n B dX12_takesPart_12 rfl (lv_at hl 0 rfl) ?_
    refine y_getMi (C := RX12) (T := TX12) (NN := 34) B aM_107 inX12 rfl (j := 7) (by decide) q_1119 rfl rfl dX12_takesPart_13 ?_
    refine x_isub B dX12_takesPart_16 ?_
    refine x_iconst (v := (nI 1)) B dX12_takesPart_17 (by decide) ?_
    refine x_icmp_ne (tgt := 36) B dX12_takesPart_18 (by decide) (fun h2 => ?_) (fun h2 => ?_)
    · have hf := ip h2 hf
      refine x_aload_n B dX12_takesPart_21 rfl (lv_at hl 0 rfl) ?_
      refine x_aload_n B dX12_takesPart_22 rfl (lv_at hl 0 rfl) ?_
      refine y_getMi (C := RX12) (T := TX12) (NN := 34) B aM_107 inX12 rfl (j := 9) (by decide) q_1121 rfl rfl dX12_takesPart_23 ?_
      obtain ⟨r4, c3, hf⟩ := bn_some hf
      refine x_callV0 (rest := []) B (kX12_nameOf c3) ⟨rfl, rfl⟩ aM_107.lt aM_107.2 rfl (by decide) q_1461 q_1463 q_35 (by rw [hR]; exact cw_X12_takesPart_X12_nameOf) rfl rfl hl.1 (Nat.le_of_ble_eq_true rfl) dX12_takesPart_26 ⟨Nat.zero_le _, Nat.zero_le _⟩ ?_
      refine x_if_lt (tgt := 36) B dX12_takesPart_29 (by decide) (fun h5 => ?_) (fun h5 => ?_)
      · have hf := ip h5 hf
        exact fX12_takesPart_36_ok B hR  hl hf
      · have hf := iq h5 hf
        refine x_iconst (v := (nI 1)) B dX12_takesPart_32 (by decide) ?_
        refine x_goto (tgt := 37) B dX12_takesPart_33 (by decide) ?_
        exact fX12_takesPart_37_ok B hR  hl hf
    · have hf := iq h2 hf
      exact fX12_takesPart_36_ok B hR  hl hf
  · have hf := iq h1 hf
    exact fX12_takesPart_36_ok B hR  hl hf
def rmX12_takesE : Room := { frames := 3, cells := 0, slots := 0, locals := 63 }
set_option maxHeartbeats 4000000 in
set_option maxRecDepth 100000 in
theorem cw_X12_takesE_X12_go : cwB rmX12_takesE rmX12_go yX12_go cX12_go 2 none 0 := ⟨q_1440, q_57, by decide, by decide⟩
set_option maxHeartbeats 4000000 in
set_option maxRecDepth 100000 in
theorem cw_X12_takesE_X12_notsOpen : cwB rmX12_takesE rmX12_notsOpen yX12_notsOpen cX12_notsOpen 3 (some .int) 0 := ⟨q_1475, q_57, by decide, by decide⟩
set_option maxHeartbeats 4000000 in
set_option maxRecDepth 100000 in
theorem cw_X12_takesE_X12_rank : cwB rmX12_takesE rmX12_rank yX12_rank cX12_rank 1 (some .int) 1 := ⟨q_1471, q_57, by decide, by decide⟩
set_option maxHeartbeats 4000000 in
set_option maxRecDepth 100000 in
theorem cw_X12_takesE_X12_settle : cwB rmX12_takesE rmX12_settle yX12_settle cX12_settle 2 none 1 := ⟨q_1468, q_57, by decide, by decide⟩
set_option maxHeartbeats 4000000 in
set_option maxRecDepth 100000 in
theorem cw_X12_takesE_X12_signHere : cwB rmX12_takesE rmX12_signHere yX12_signHere cX12_signHere 1 (some .int) 0 := ⟨q_1479, q_57, by decide, by decide⟩
set_option maxHeartbeats 4000000 in
set_option maxRecDepth 100000 in
theorem cw_X12_takesE_X12_takesPart : cwB rmX12_takesE rmX12_takesPart yX12_takesPart cX12_takesPart 2 (some .boolean) 0 := ⟨q_1460, q_57, by decide, by decide⟩
def fX12_takesE_305 (n : Nat)  (k28 : Int32 → Int32 → Int32 → Mm → Option (Int32 × Mm)) (x1 : Int32) (x2 : Int32) (x4 : Int32) (s0 : Int32) (s1 : Int32) (m : Mm) : Option (Int32 × Mm) :=
  gd (ib s1 10) <|
  lt (up m 116 s1.toNatClampNeg (vp_nar .boolean s0)) fun f30 =>
  bn (fX12_rank n x4) fun r33 =>
  bn (fX12_settle n r33 f30) fun f35 =>
  gd (ib (f35 107 18) 96) <|
  lt (up f35 115 (f35 107 18).toNatClampNeg x4) fun f37 =>
  lt (up f37 107 18 ((f37 107 18) + (nI 1))) fun f39 =>
  bn (fX12_go n f39) fun f42 =>
  k28 x1 x2 (nI 1) f42
set_option maxHeartbeats 4000000 in
set_option maxRecDepth 100000 in
theorem fX12_takesE_305_ok {V : VE} {G : GE} {N : Nat} {f m : Mm} {n : Nat} {ls : Array Slot} {r : Int32} {g : Mm} (B : CX V G cX12_takesE 5 "FluxWatchModel" (some .boolean)) (hR : V.2.2.2.1 = rmX12_takesE)  {k28 : Int32 → Int32 → Int32 → Mm → Option (Int32 × Mm)} (hk28 : ∀ (x1 : Int32) (x2 : Int32) (x3 : Int32) (mm : Mm) (ls : Array Slot),  lv_has ls 5 [(0, .ref (gz G + 107)), (1, .int x1), (2, .int x2), (3, .int x3)] → k28 x1 x2 x3 mm = some (r, g) → WX V G N f mm 0 0 (QQ V G (some (.int r)) N f g 0 0) 28 ls []) {x1 : Int32} {x2 : Int32} {x4 : Int32} {s0 : Int32} {s1 : Int32}  (hl : lv_has ls 5 [(0, .ref (gz G + 107)), (1, .int x1), (2, .int x2), (4, .int x4)]) (hf : fX12_takesE_305 n  k28 x1 x2 x4 s0 s1 m = some (r, g)) : WX V G N f m 0 0 (QQ V G (some (.int r)) N f g 0 0) 305 ls [.int s0, .int s1, .ref (gz G + 116)] := by
  unfold fX12_takesE_305 at hf
  obtain ⟨h29, hf⟩ := gd_some hf
  refine x_zastM B aM_116 h29 dX12_takesE_305 (fun f30 e31 => ?_)
  have hf := lt_some hf e31
  refine x_aload_n B dX12_takesE_306 rfl (lv_at hl 0 rfl) ?_
  refine x_iload B dX12_takesE_307 (lv_at hl 3 rfl) ?_
  obtain ⟨r33, c32, hf⟩ := bn_some hf
  refine x_callS0 (rest := [.ref (gz G + 107)]) B (kX12_rank c32) ⟨rfl, rfl⟩ q_1469 q_1470 (by rw [hR]; exact cw_X12_takesE_X12_rank) rfl rfl hl.1 (Nat.le_of_ble_eq_true rfl) dX12_takesE_309 ⟨Nat.zero_le _, Nat.zero_le _⟩ ?_
  obtain ⟨f35, c34, hf⟩ := bn_some hf
  refine x_callV0 (rest := []) B (kX12_settle c34) ⟨rfl, rfl⟩ aM_107.lt aM_107.2 rfl (by decide) q_1465 q_1467 q_36 (by rw [hR]; exact cw_X12_takesE_X12_settle) rfl rfl hl.1 (Nat.le_of_ble_eq_true rfl) dX12_takesE_312 ⟨Nat.zero_le _, Nat.zero_le _⟩ ?_
  refine x_aload_n B dX12_takesE_315 rfl (lv_at hl 0 rfl) ?_
  refine y_getMr (C := RX12) (T := TX12) (NN := 34) (d := 7) (k2 := 115) B aM_107 inX12 rfl (j := 17) (by decide) q_1129 rfl rfl rfl dX12_takesE_316 ?_
  refine x_aload_n B dX12_takesE_319 rfl (lv_at hl 0 rfl) ?_
  refine y_getMi (C := RX12) (T := TX12) (NN := 34) B aM_107 inX12 rfl (j := 18) (by decide) q_1130 rfl rfl dX12_takesE_320 ?_
  refine x_iload B dX12_takesE_323 (lv_at hl 3 rfl) ?_
  obtain ⟨h36, hf⟩ := gd_some hf
  refine x_iastM B aM_115 h36 dX12_takesE_325 (fun f37 e38 => ?_)
  have hf := lt_some hf e38
  refine x_aload_n B dX12_takesE_326 rfl (lv_at hl 0 rfl) ?_
  refine x_dup B dX12_takesE_327 rfl ?_
  refine y_getMi (C := RX12) (T := TX12) (NN := 34) B aM_107 inX12 rfl (j := 18) (by decide) q_1130 rfl rfl dX12_takesE_328 ?_
  refine x_iconst (v := (nI 1)) B dX12_takesE_331 (by decide) ?_
  refine x_iadd B dX12_takesE_332 ?_
  refine x_putM (C := RX12) (T := TX12) (NN := 34) (ty0 := tyX12) (ty := .int) B aM_107 inX12 tyX12_ok nmX12 rfl (j := 18) (by decide) q_1130 rfl rfl rfl rfl rfl rfl dX12_takesE_333 (fun f39 e40 => ?_)
  have hf := lt_some hf e40
  refine x_iconst (v := (nI 1)) B dX12_takesE_336 (by decide) ?_
  refine x_istore_n (lv' := [(3, .int (nI 1)), (0, .ref (gz G + 107)), (1, .int x1), (2, .int x2), (4, .int x4)]) B dX12_takesE_337 rfl hl (by decide) rfl (fun ls hl => ?_)
  refine x_aload_n B dX12_takesE_338 rfl (lv_at hl 1 rfl) ?_
  obtain ⟨f42, c41, hf⟩ := bn_some hf
  refine x_callV0 (rest := []) B (kX12_go c41) ⟨rfl, rfl⟩ aM_107.lt aM_107.2 rfl (by decide) q_1437 q_1439 q_29 (by rw [hR]; exact cw_X12_takesE_X12_go) rfl rfl hl.1 (Nat.le_of_ble_eq_true rfl) dX12_takesE_339 ⟨Nat.zero_le _, Nat.zero_le _⟩ ?_
  refine x_goto (tgt := 28) B dX12_takesE_342 (by decide) ?_
  exact hk28 _ _ _ _ _ (lv_sub hl [1, 2, 3, 0] rfl) hf
def fX12_takesE_300 (n : Nat)  (k28 : Int32 → Int32 → Int32 → Mm → Option (Int32 × Mm)) (x1 : Int32) (x2 : Int32) (x4 : Int32) (s0 : Int32) (m : Mm) : Option (Int32 × Mm) :=
  fX12_takesE_305 n k28 x1 x2 x4 (nI 1) s0 m
set_option maxHeartbeats 4000000 in
set_option maxRecDepth 100000 in
theorem fX12_takesE_300_ok {V : VE} {G : GE} {N : Nat} {f m : Mm} {n : Nat} {ls : Array Slot} {r : Int32} {g : Mm} (B : CX V G cX12_takesE 5 "FluxWatchModel" (some .boolean)) (hR : V.2.2.2.1 = rmX12_takesE)  {k28 : Int32 → Int32 → Int32 → Mm → Option (Int32 × Mm)} (hk28 : ∀ (x1 : Int32) (x2 : Int32) (x3 : Int32) (mm : Mm) (ls : Array Slot),  lv_has ls 5 [(0, .ref (gz G + 107)), (1, .int x1), (2, .int x2), (3, .int x3)] → k28 x1 x2 x3 mm = some (r, g) → WX V G N f mm 0 0 (QQ V G (some (.int r)) N f g 0 0) 28 ls []) {x1 : Int32} {x2 : Int32} {x4 : Int32} {s0 : Int32}  (hl : lv_has ls 5 [(0, .ref (gz G + 107)), (1, .int x1), (2, .int x2), (4, .int x4)]) (hf : fX12_takesE_300 n  k28 x1 x2 x4 s0 m = some (r, g)) : WX V G N f m 0 0 (QQ V G (some (.int r)) N f g 0 0) 300 ls [.int s0, .ref (gz G + 116)] := by
  unfold fX12_takesE_300 at hf
  refine x_iconst (v := (nI 1)) B dX12_takesE_300 (by decide) ?_
  refine x_goto (tgt := 305) B dX12_takesE_301 (by decide) ?_
  exact fX12_takesE_305_ok B hR hk28 hl hf
def fX12_takesE_304 (n : Nat)  (k28 : Int32 → Int32 → Int32 → Mm → Option (Int32 × Mm)) (x1 : Int32) (x2 : Int32) (x4 : Int32) (s0 : Int32) (m : Mm) : Option (Int32 × Mm) :=
  fX12_takesE_305 n k28 x1 x2 x4 (nI 0) s0 m
set_option maxHeartbeats 4000000 in
set_option maxRecDepth 100000 in
theorem fX12_takesE_304_ok {V : VE} {G : GE} {N : Nat} {f m : Mm} {n : Nat} {ls : Array Slot} {r : Int32} {g : Mm} (B : CX V G cX12_takesE 5 "FluxWatchModel" (some .boolean)) (hR : V.2.2.2.1 = rmX12_takesE)  {k28 : Int32 → Int32 → Int32 → Mm → Option (Int32 × Mm)} (hk28 : ∀ (x1 : Int32) (x2 : Int32) (x3 : Int32) (mm : Mm) (ls : Array Slot),  lv_has ls 5 [(0, .ref (gz G + 107)), (1, .int x1), (2, .int x2), (3, .int x3)] → k28 x1 x2 x3 mm = some (r, g) → WX V G N f mm 0 0 (QQ V G (some (.int r)) N f g 0 0) 28 ls []) {x1 : Int32} {x2 : Int32} {x4 : Int32} {s0 : Int32}  (hl : lv_has ls 5 [(0, .ref (gz G + 107)), (1, .int x1), (2, .int x2), (4, .int x4)]) (hf : fX12_takesE_304 n  k28 x1 x2 x4 s0 m = some (r, g)) : WX V G N f m 0 0 (QQ V G (some (.int r)) N f g 0 0) 304 ls [.int s0, .ref (gz G + 116)] := by
  unfold fX12_takesE_304 at hf
  refine x_iconst (v := (nI 0)) B dX12_takesE_304 (by decide) ?_
  exact fX12_takesE_305_ok B hR hk28 hl hf
def fX12_takesE_268 (n : Nat)  (k28 : Int32 → Int32 → Int32 → Mm → Option (Int32 × Mm)) (x1 : Int32) (x2 : Int32) (x4 : Int32) (m : Mm) : Option (Int32 × Mm) :=
  bn (fX12_rank n x4) fun r27 =>
  if r27 = (nI 3) then (
  fX12_takesE_300 n k28 x1 x2 x4 x1 m) else (
  bn (fX12_rank n x4) fun r44 =>
  if r44 ≤ (nI 3) then (
  fX12_takesE_304 n k28 x1 x2 x4 x1 m) else (
  gd (ib x1 10) <|
  if (m 116 x1.toNatClampNeg) = 0 then (
  fX12_takesE_304 n k28 x1 x2 x4 x1 m) else (
  fX12_takesE_300 n k28 x1 x2 x4 x1 m)))
set_option maxHeartbeats 4000000 in
set_option maxRecDepth 100000 in
theorem fX12_takesE_268_ok {V : VE} {G : GE} {N : Nat} {f m : Mm} {n : Nat} {ls : Array Slot} {r : Int32} {g : Mm} (B : CX V G cX12_takesE 5 "FluxWatchModel" (some .boolean)) (hR : V.2.2.2.1 = rmX12_takesE)  {k28 : Int32 → Int32 → Int32 → Mm → Option (Int32 × Mm)} (hk28 : ∀ (x1 : Int32) (x2 : Int32) (x3 : Int32) (mm : Mm) (ls : Array Slot),  lv_has ls 5 [(0, .ref (gz G + 107)), (1, .int x1), (2, .int x2), (3, .int x3)] → k28 x1 x2 x3 mm = some (r, g) → WX V G N f mm 0 0 (QQ V G (some (.int r)) N f g 0 0) 28 ls []) {x1 : Int32} {x2 : Int32} {x4 : Int32}  (hl : lv_has ls 5 [(0, .ref (gz G + 107)), (1, .int x1), (2, .int x2), (4, .int x4)]) (hf : fX12_takesE_268 n  k28 x1 x2 x4 m = some (r, g)) : WX V G N f m 0 0 (QQ V G (some (.int r)) N f g 0 0) 268 ls [] := by
  unfold fX12_takesE_268 at hf
  refine x_aload_n B dX12_takesE_268 rfl (lv_at hl 0 rfl) ?_
  refine y_getMr (C := RX12) (T := TX12) (NN := 34) (d := 8) (k2 := 116) B aM_107 inX12 rfl (j := 19) (by decide) q_1131 rfl rfl rfl dX12_takesE_269 ?_
  refine x_iload_n B dX12_takesE_272 rfl (lv_at hl 1 rfl) ?_
  refine x_iload B dX12_takesE_273 (lv_at hl 3 rfl) ?_
  obtain ⟨r27, c26, hf⟩ := bn_some hf
  refine x_callS0 (rest := [.int x1, .ref (gz G + 116)]) B (kX12_rank c26) ⟨rfl, rfl⟩ q_1469 q_1470 (by rw [hR]; exact cw_X12_takesE_X12_rank) rfl rfl hl.1 (Nat.le_of_ble_eq_true rfl) dX12_takesE_275 ⟨Nat.zero_le _, Nat.zero_le _⟩ ?_
  refine x_iconst (v := (nI 3)) B dX12_takesE_278 (by decide) ?_
  refine x_icmp_eq (tgt := 300) B dX12_takesE_279 (by decide) (fun h28 => ?_) (fun h28 => ?_)
  · have hf := ip h28 hf
    exact fX12_takesE_300_ok B hR hk28 hl hf
  · have hf := iq h28 hf
    refine x_iload B dX12_takesE_282 (lv_at hl 3 rfl) ?_
    obtain ⟨r44, c43, hf⟩ := bn_some hf
    refine x_callS0 (rest := [.int x1, .ref (gz G + 116)]) B (kX12_rank c43) ⟨rfl, rfl⟩ q_1469 q_1470 (by rw [hR]; exact cw_X12_takesE_X12_rank) rfl rfl hl.1 (Nat.le_of_ble_eq_true rfl) dX12_takesE_284 ⟨Nat.zero_le _, Nat.zero_le _⟩ ?_
    refine x_iconst (v := (nI 3)) B dX12_takesE_287 (by decide) ?_
    refine x_icmp_le (tgt := 304) B dX12_takesE_288 (by decide) (fun h45 => ?_) (fun h45 => ?_)
    · have hf := ip h45 hf
      exact fX12_takesE_304_ok B hR hk28 hl hf
    · have hf := iq h45 hf
      refine x_aload_n B dX12_takesE_291 rfl (lv_at hl 0 rfl) ?_
      refine y_getMr (C := RX12) (T := TX12) (NN := 34) (d := 8) (k2 := 116) B aM_107 inX12 rfl (j := 19) (by decide) q_1131 rfl rfl rfl dX12_takesE_292 ?_
      refine x_iload_n B dX12_takesE_295 rfl (lv_at hl 1 rfl) ?_
      obtain ⟨h46, hf⟩ := gd_some hf
      refine x_zaldM B aM_116 h46 dX12_takesE_296 ?_
      refine x_if_eq (tgt := 304) B dX12_takesE_297 (by decide) (fun h47 => ?_) (fun h47 => ?_)
      · have hf := ip h47 hf
        exact fX12_takesE_304_ok B hR hk28 hl hf
      · have hf := iq h47 hf
        exact fX12_takesE_300_ok B hR hk28 hl hf
def fX12_takesE_237 (n : Nat)  (k28 : Int32 → Int32 → Int32 → Mm → Option (Int32 × Mm)) (x1 : Int32) (x2 : Int32) (m : Mm) : Option (Int32 × Mm) :=
  bn (fX12_signHere n m) fun r19 =>
  if r19 = 0 then (
  some ((nI 0), m)) else (
  bn (fX12_rank n r19) fun r22 =>
  if r22 = (nI 3) then (
  gd (ib x1 10) <|
  if (m 116 x1.toNatClampNeg) = 0 then (
  fX12_takesE_268 n k28 x1 x2 r19 m) else (
  some ((nI 0), m))) else (
  fX12_takesE_268 n k28 x1 x2 r19 m))
set_option maxHeartbeats 4000000 in
set_option maxRecDepth 100000 in
theorem fX12_takesE_237_ok {V : VE} {G : GE} {N : Nat} {f m : Mm} {n : Nat} {ls : Array Slot} {r : Int32} {g : Mm} (B : CX V G cX12_takesE 5 "FluxWatchModel" (some .boolean)) (hR : V.2.2.2.1 = rmX12_takesE)  {k28 : Int32 → Int32 → Int32 → Mm → Option (Int32 × Mm)} (hk28 : ∀ (x1 : Int32) (x2 : Int32) (x3 : Int32) (mm : Mm) (ls : Array Slot),  lv_has ls 5 [(0, .ref (gz G + 107)), (1, .int x1), (2, .int x2), (3, .int x3)] → k28 x1 x2 x3 mm = some (r, g) → WX V G N f mm 0 0 (QQ V G (some (.int r)) N f g 0 0) 28 ls []) {x1 : Int32} {x2 : Int32}  (hl : lv_has ls 5 [(0, .ref (gz G + 107)), (1, .int x1), (2, .int x2)]) (hf : fX12_takesE_237 n  k28 x1 x2 m = some (r, g)) : WX V G N f m 0 0 (QQ V G (some (.int r)) N f g 0 0) 237 ls [] := by
  unfold fX12_takesE_237 at hf
  refine x_aload_n B dX12_takesE_237 rfl (lv_at hl 0 rfl) ?_
  obtain ⟨r19, c18, hf⟩ := bn_some hf
  refine x_callV0 (rest := []) B (kX12_signHere c18) ⟨rfl, rfl⟩ aM_107.lt aM_107.2 rfl (by decide) q_1476 q_1478 q_38 (by rw [hR]; exact cw_X12_takesE_X12_signHere) rfl rfl hl.1 (Nat.le_of_ble_eq_true rfl) dX12_takesE_238 ⟨Nat.zero_le _, Nat.zero_le _⟩ ?_
  refine x_istore (lv' := [(4, .int r19), (0, .ref (gz G + 107)), (1, .int x1), (2, .int x2)]) B dX12_takesE_241 hl (by decide) rfl (fun ls hl => ?_)
  refine x_iload B dX12_takesE_243 (lv_at hl 0 rfl) ?_
  refine x_if_eq (tgt := 266) B dX12_takesE_245 (by decide) (fun h20 => ?_) (fun h20 => ?_)
  · have hf := ip h20 hf
    refine x_iconst (v := (nI 0)) B dX12_takesE_266 (by decide) ?_
    obtain ⟨rfl, rfl⟩ := rt2 hf
    exact x_zret B (by decide) dX12_takesE_267
  · have hf := iq h20 hf
    refine x_iload B dX12_takesE_248 (lv_at hl 0 rfl) ?_
    obtain ⟨r22, c21, hf⟩ := bn_some hf
    refine x_callS0 (rest := []) B (kX12_rank c21) ⟨rfl, rfl⟩ q_1469 q_1470 (by rw [hR]; exact cw_X12_takesE_X12_rank) rfl rfl hl.1 (Nat.le_of_ble_eq_true rfl) dX12_takesE_250 ⟨Nat.zero_le _, Nat.zero_le _⟩ ?_
    refine x_iconst (v := (nI 3)) B dX12_takesE_253 (by decide) ?_
    refine x_icmp_ne (tgt := 268) B dX12_takesE_254 (by decide) (fun h23 => ?_) (fun h23 => ?_)
    · have hf := ip h23 hf
      refine x_aload_n B dX12_takesE_257 rfl (lv_at hl 1 rfl) ?_
      refine y_getMr (C := RX12) (T := TX12) (NN := 34) (d := 8) (k2 := 116) B aM_107 inX12 rfl (j := 19) (by decide) q_1131 rfl rfl rfl dX12_takesE_258 ?_
      refine x_iload_n B dX12_takesE_261 rfl (lv_at hl 2 rfl) ?_
      obtain ⟨h24, hf⟩ := gd_some hf
      refine x_zaldM B aM_116 h24 dX12_takesE_262 ?_
      refine x_if_eq (tgt := 268) B dX12_takesE_263 (by decide) (fun h25 => ?_) (fun h25 => ?_)
      · have hf := ip h25 hf
        exact fX12_takesE_268_ok B hR hk28 (lv_sub hl [1, 2, 3, 0] rfl) hf
      · have hf := iq h25 hf
        refine x_iconst (v := (nI 0)) B dX12_takesE_266 (by decide) ?_
        obtain ⟨rfl, rfl⟩ := rt2 hf
        exact x_zret B (by decide) dX12_takesE_267
    · have hf := iq h23 hf
      exact fX12_takesE_268_ok B hR hk28 (lv_sub hl [1, 2, 3, 0] rfl) hf
def fX12_takesE_172 (n : Nat)  (k28 : Int32 → Int32 → Int32 → Mm → Option (Int32 × Mm)) (x1 : Int32) (x3 : Int32) (m : Mm) : Option (Int32 × Mm) :=
  bn (fX12_notsOpen n m) fun r69 =>
  k28 x1 r69 x3 m
set_option maxHeartbeats 4000000 in
set_option maxRecDepth 100000 in
theorem fX12_takesE_172_ok {V : VE} {G : GE} {N : Nat} {f m : Mm} {n : Nat} {ls : Array Slot} {r : Int32} {g : Mm} (B : CX V G cX12_takesE 5 "FluxWatchModel" (some .boolean)) (hR : V.2.2.2.1 = rmX12_takesE)  {k28 : Int32 → Int32 → Int32 → Mm → Option (Int32 × Mm)} (hk28 : ∀ (x1 : Int32) (x2 : Int32) (x3 : Int32) (mm : Mm) (ls : Array Slot),  lv_has ls 5 [(0, .ref (gz G + 107)), (1, .int x1), (2, .int x2), (3, .int x3)] → k28 x1 x2 x3 mm = some (r, g) → WX V G N f mm 0 0 (QQ V G (some (.int r)) N f g 0 0) 28 ls []) {x1 : Int32} {x3 : Int32}  (hl : lv_has ls 5 [(0, .ref (gz G + 107)), (1, .int x1), (3, .int x3)]) (hf : fX12_takesE_172 n  k28 x1 x3 m = some (r, g)) : WX V G N f m 0 0 (QQ V G (some (.int r)) N f g 0 0) 172 ls [] := by
  unfold fX12_takesE_172 at hf
  refine x_aload_n B dX12_takesE_172 rfl (lv_at hl 0 rfl) ?_
  obtain ⟨r69, c68, hf⟩ := bn_some hf
  refine x_callV0 (rest := []) B (kX12_notsOpen c68) ⟨rfl, rfl⟩ aM_107.lt aM_107.2 rfl (by decide) q_1472 q_1474 q_37 (by rw [hR]; exact cw_X12_takesE_X12_notsOpen) rfl rfl hl.1 (Nat.le_of_ble_eq_true rfl) dX12_takesE_173 ⟨Nat.zero_le _, Nat.zero_le _⟩ ?_
  refine x_istore_n (lv' := [(2, .int r69), (0, .ref (gz G + 107)), (1, .int x1), (3, .int x3)]) B dX12_takesE_176 rfl hl (by decide) rfl (fun ls hl => ?_)
  refine x_goto (tgt := 28) B dX12_takesE_177 (by decide) ?_
  exact hk28 _ _ _ _ _ (lv_sub hl [1, 2, 0, 3] rfl) hf
def fX12_takesE_158 (n : Nat)  (k28 : Int32 → Int32 → Int32 → Mm → Option (Int32 × Mm)) (x1 : Int32) (m : Mm) : Option (Int32 × Mm) :=
  bn2 (fX12_takesPart n m) fun r66 f65 =>
  if r66 = 0 then (
  some ((nI 0), f65)) else (
  fX12_takesE_172 n k28 x1 (nI 0) f65)
set_option maxHeartbeats 4000000 in
set_option maxRecDepth 100000 in
theorem fX12_takesE_158_ok {V : VE} {G : GE} {N : Nat} {f m : Mm} {n : Nat} {ls : Array Slot} {r : Int32} {g : Mm} (B : CX V G cX12_takesE 5 "FluxWatchModel" (some .boolean)) (hR : V.2.2.2.1 = rmX12_takesE)  {k28 : Int32 → Int32 → Int32 → Mm → Option (Int32 × Mm)} (hk28 : ∀ (x1 : Int32) (x2 : Int32) (x3 : Int32) (mm : Mm) (ls : Array Slot),  lv_has ls 5 [(0, .ref (gz G + 107)), (1, .int x1), (2, .int x2), (3, .int x3)] → k28 x1 x2 x3 mm = some (r, g) → WX V G N f mm 0 0 (QQ V G (some (.int r)) N f g 0 0) 28 ls []) {x1 : Int32}  (hl : lv_has ls 5 [(0, .ref (gz G + 107)), (1, .int x1)]) (hf : fX12_takesE_158 n  k28 x1 m = some (r, g)) : WX V G N f m 0 0 (QQ V G (some (.int r)) N f g 0 0) 158 ls [] := by
  unfold fX12_takesE_158 at hf
  refine x_aload_n B dX12_takesE_158 rfl (lv_at hl 0 rfl) ?_
  obtain ⟨r66, f65, c64, hf⟩ := bn2_some hf
  refine x_callV0 (rest := []) B (kX12_takesPart c64) ⟨rfl, rfl⟩ aM_107.lt aM_107.2 rfl (by decide) q_1457 q_1459 q_34 (by rw [hR]; exact cw_X12_takesE_X12_takesPart) rfl rfl hl.1 (Nat.le_of_ble_eq_true rfl) dX12_takesE_159 ⟨Nat.zero_le _, Nat.zero_le _⟩ ?_
  refine x_if_eq (tgt := 170) B dX12_takesE_162 (by decide) (fun h67 => ?_) (fun h67 => ?_)
  · have hf := ip h67 hf
    refine x_iconst (v := (nI 0)) B dX12_takesE_170 (by decide) ?_
    obtain ⟨rfl, rfl⟩ := rt2 hf
    exact x_zret B (by decide) dX12_takesE_171
  · have hf := iq h67 hf
    refine x_iconst (v := (nI 0)) B dX12_takesE_165 (by decide) ?_
    refine x_istore_n (lv' := [(3, .int (nI 0)), (0, .ref (gz G + 107)), (1, .int x1)]) B dX12_takesE_166 rfl hl (by decide) rfl (fun ls hl => ?_)
    refine x_goto (tgt := 172) B dX12_takesE_167 (by decide) ?_
    exact fX12_takesE_172_ok B hR hk28 (lv_sub hl [1, 2, 0] rfl) hf
def fX12_takesE_97 (n : Nat)  (k28 : Int32 → Int32 → Int32 → Mm → Option (Int32 × Mm)) (x1 : Int32) (x3 : Int32) (m : Mm) : Option (Int32 × Mm) :=
  if (m 107 8) = (nI 3) then (
  if (m 107 9) = (nI 40) then (
  if (nI 8) ≤ x1 then (
  fX12_takesE_158 n k28 x1 m) else (
  gd (ib (m 107 18) 96) <|
  lt (up m 115 (m 107 18).toNatClampNeg (-11 : Int32)) fun f71 =>
  lt (up f71 107 18 ((f71 107 18) + (nI 1))) fun f73 =>
  gd (ib (x1 + (nI 1)) 10) <|
  lt (up f73 116 (x1 + (nI 1)).toNatClampNeg (vp_nar .boolean (nI 0))) fun f76 =>
  bn (fX12_go n f76) fun f79 =>
  fX12_takesE_172 n k28 (x1 + (nI 1)) x3 f79)) else (
  fX12_takesE_158 n k28 x1 m)) else (
  fX12_takesE_158 n k28 x1 m)
set_option maxHeartbeats 4000000 in
set_option maxRecDepth 100000 in
theorem fX12_takesE_97_ok {V : VE} {G : GE} {N : Nat} {f m : Mm} {n : Nat} {ls : Array Slot} {r : Int32} {g : Mm} (B : CX V G cX12_takesE 5 "FluxWatchModel" (some .boolean)) (hR : V.2.2.2.1 = rmX12_takesE)  {k28 : Int32 → Int32 → Int32 → Mm → Option (Int32 × Mm)} (hk28 : ∀ (x1 : Int32) (x2 : Int32) (x3 : Int32) (mm : Mm) (ls : Array Slot),  lv_has ls 5 [(0, .ref (gz G + 107)), (1, .int x1), (2, .int x2), (3, .int x3)] → k28 x1 x2 x3 mm = some (r, g) → WX V G N f mm 0 0 (QQ V G (some (.int r)) N f g 0 0) 28 ls []) {x1 : Int32} {x3 : Int32}  (hl : lv_has ls 5 [(0, .ref (gz G + 107)), (1, .int x1), (3, .int x3)]) (hf : fX12_takesE_97 n  k28 x1 x3 m = some (r, g)) : WX V G N f m 0 0 (QQ V G (some (.int r)) N f g 0 0) 97 ls [] := by
  unfold fX12_takesE_97 at hf
  refine x_aload_n B dX12_takesE_97 rfl (lv_at hl 0 rfl) ?_
  refine y_getMi (C := RX12) (T := TX12) (NN := 34) B aM_107 inX12 rfl (j := 8) (by decide) q_1120 rfl rfl dX12_takesE_98 ?_
  refine x_iconst (v := (nI 3)) B dX12_takesE_101 (by decide) ?_
  refine x_icmp_ne (tgt := 158) B dX12_takesE_102 (by decide) (fun h61 => ?_) (fun h61 => ?_)
  · have hf := ip h61 hf
    refine x_aload_n B dX12_takesE_105 rfl (lv_at hl 0 rfl) ?_
    refine y_getMi (C := RX12) (T := TX12) (NN := 34) B aM_107 inX12 rfl (j := 9) (by decide) q_1121 rfl rfl dX12_takesE_106 ?_
    refine x_bipush (v := (nI 40)) B dX12_takesE_109 (by decide) ?_
    refine x_icmp_ne (tgt := 158) B dX12_takesE_111 (by decide) (fun h62 => ?_) (fun h62 => ?_)
    · have hf := ip h62 hf
      refine x_iload_n B dX12_takesE_114 rfl (lv_at hl 1 rfl) ?_
      refine x_bipush (v := (nI 8)) B dX12_takesE_115 (by decide) ?_
      refine x_icmp_ge (tgt := 158) B dX12_takesE_117 (by decide) (fun h63 => ?_) (fun h63 => ?_)
      · have hf := ip h63 hf
        exact fX12_takesE_158_ok B hR hk28 (lv_sub hl [0, 1] rfl) hf
      · have hf := iq h63 hf
        refine x_aload_n B dX12_takesE_120 rfl (lv_at hl 0 rfl) ?_
        refine y_getMr (C := RX12) (T := TX12) (NN := 34) (d := 7) (k2 := 115) B aM_107 inX12 rfl (j := 17) (by decide) q_1129 rfl rfl rfl dX12_takesE_121 ?_
        refine x_aload_n B dX12_takesE_124 rfl (lv_at hl 0 rfl) ?_
        refine y_getMi (C := RX12) (T := TX12) (NN := 34) B aM_107 inX12 rfl (j := 18) (by decide) q_1130 rfl rfl dX12_takesE_125 ?_
        refine x_bipush (v := (-11 : Int32)) B dX12_takesE_128 (by decide) ?_
        obtain ⟨h70, hf⟩ := gd_some hf
        refine x_iastM B aM_115 h70 dX12_takesE_130 (fun f71 e72 => ?_)
        have hf := lt_some hf e72
        refine x_aload_n B dX12_takesE_131 rfl (lv_at hl 0 rfl) ?_
        refine x_dup B dX12_takesE_132 rfl ?_
        refine y_getMi (C := RX12) (T := TX12) (NN := 34) B aM_107 inX12 rfl (j := 18) (by decide) q_1130 rfl rfl dX12_takesE_133 ?_
        refine x_iconst (v := (nI 1)) B dX12_takesE_136 (by decide) ?_
        refine x_iadd B dX12_takesE_137 ?_
        refine x_putM (C := RX12) (T := TX12) (NN := 34) (ty0 := tyX12) (ty := .int) B aM_107 inX12 tyX12_ok nmX12 rfl (j := 18) (by decide) q_1130 rfl rfl rfl rfl rfl rfl dX12_takesE_138 (fun f73 e74 => ?_)
        have hf := lt_some hf e74
        refine x_iinc (k := 1) (v := (nI 1)) (lv' := [(1, .int (x1 + (nI 1))), (0, .ref (gz G + 107)), (3, .int x3)]) B dX12_takesE_141 hl rfl (by decide) (by decide) rfl (fun ls hl => ?_)
        refine x_aload_n B dX12_takesE_144 rfl (lv_at hl 1 rfl) ?_
        refine y_getMr (C := RX12) (T := TX12) (NN := 34) (d := 8) (k2 := 116) B aM_107 inX12 rfl (j := 19) (by decide) q_1131 rfl rfl rfl dX12_takesE_145 ?_
        refine x_iload_n B dX12_takesE_148 rfl (lv_at hl 0 rfl) ?_
        refine x_iconst (v := (nI 0)) B dX12_takesE_149 (by decide) ?_
        obtain ⟨h75, hf⟩ := gd_some hf
        refine x_zastM B aM_116 h75 dX12_takesE_150 (fun f76 e77 => ?_)
        have hf := lt_some hf e77
        refine x_aload_n B dX12_takesE_151 rfl (lv_at hl 1 rfl) ?_
        obtain ⟨f79, c78, hf⟩ := bn_some hf
        refine x_callV0 (rest := []) B (kX12_go c78) ⟨rfl, rfl⟩ aM_107.lt aM_107.2 rfl (by decide) q_1437 q_1439 q_29 (by rw [hR]; exact cw_X12_takesE_X12_go) rfl rfl hl.1 (Nat.le_of_ble_eq_true rfl) dX12_takesE_152 ⟨Nat.zero_le _, Nat.zero_le _⟩ ?_
        refine x_goto (tgt := 172) B dX12_takesE_155 (by decide) ?_
        exact fX12_takesE_172_ok B hR hk28 (lv_sub hl [1, 0, 2] rfl) hf
    · have hf := iq h62 hf
      exact fX12_takesE_158_ok B hR hk28 (lv_sub hl [0, 1] rfl) hf
  · have hf := iq h61 hf
    exact fX12_takesE_158_ok B hR hk28 (lv_sub hl [0, 1] rfl) hf
def fX12_takesE_39 (n : Nat)  (k28 : Int32 → Int32 → Int32 → Mm → Option (Int32 × Mm)) (x1 : Int32) (x2 : Int32) (x3 : Int32) (m : Mm) : Option (Int32 × Mm) :=
  if x3 = 0 then (
  if (m 107 8) = (nI 3) then (
  if (m 107 9) = (nI 41) then (
  if x1 ≤ 0 then (
  fX12_takesE_237 n k28 x1 x2 m) else (
  bn (fX12_settle n (nI 0) m) fun f49 =>
  lt (up f49 107 18 ((f49 107 18) - (nI 1))) fun f50 =>
  bn (fX12_settle n (nI 6) f50) fun f53 =>
  bn (fX12_notsOpen n f53) fun r55 =>
  bn (fX12_go n f53) fun f57 =>
  k28 (x1 + (-1 : Int32)) r55 x3 f57)) else (
  fX12_takesE_237 n k28 x1 x2 m)) else (
  fX12_takesE_237 n k28 x1 x2 m)) else (
  if (m 107 8) = (nI 3) then (
  if (m 107 9) = (nI 33) then (
  if (nI 8) ≤ x2 then (
  fX12_takesE_97 n k28 x1 x3 m) else (
  gd (ib (m 107 18) 96) <|
  lt (up m 115 (m 107 18).toNatClampNeg (-10 : Int32)) fun f81 =>
  lt (up f81 107 18 ((f81 107 18) + (nI 1))) fun f83 =>
  bn (fX12_go n f83) fun f86 =>
  fX12_takesE_172 n k28 x1 x3 f86)) else (
  fX12_takesE_97 n k28 x1 x3 m)) else (
  fX12_takesE_97 n k28 x1 x3 m))
set_option maxHeartbeats 4000000 in
set_option maxRecDepth 100000 in
theorem fX12_takesE_39_ok {V : VE} {G : GE} {N : Nat} {f m : Mm} {n : Nat} {ls : Array Slot} {r : Int32} {g : Mm} (B : CX V G cX12_takesE 5 "FluxWatchModel" (some .boolean)) (hR : V.2.2.2.1 = rmX12_takesE)  {k28 : Int32 → Int32 → Int32 → Mm → Option (Int32 × Mm)} (hk28 : ∀ (x1 : Int32) (x2 : Int32) (x3 : Int32) (mm : Mm) (ls : Array Slot),  lv_has ls 5 [(0, .ref (gz G + 107)), (1, .int x1), (2, .int x2), (3, .int x3)] → k28 x1 x2 x3 mm = some (r, g) → WX V G N f mm 0 0 (QQ V G (some (.int r)) N f g 0 0) 28 ls []) {x1 : Int32} {x2 : Int32} {x3 : Int32}  (hl : lv_has ls 5 [(0, .ref (gz G + 107)), (1, .int x1), (2, .int x2), (3, .int x3)]) (hf : fX12_takesE_39 n  k28 x1 x2 x3 m = some (r, g)) : WX V G N f m 0 0 (QQ V G (some (.int r)) N f g 0 0) 39 ls [] := by
  unfold fX12_takesE_39 at hf
  refine x_iload_n B dX12_takesE_39 rfl (lv_at hl 3 rfl) ?_
  refine x_if_eq (tgt := 180) B dX12_takesE_40 (by decide) (fun h14 => ?_) (fun h14 => ?_)
  · have hf := ip h14 hf
    refine x_aload_n B dX12_takesE_180 rfl (lv_at hl 0 rfl) ?_
    refine y_getMi (C := RX12) (T := TX12) (NN := 34) B aM_107 inX12 rfl (j := 8) (by decide) q_1120 rfl rfl dX12_takesE_181 ?_
    refine x_iconst (v := (nI 3)) B dX12_takesE_184 (by decide) ?_
    refine x_icmp_ne (tgt := 237) B dX12_takesE_185 (by decide) (fun h15 => ?_) (fun h15 => ?_)
    · have hf := ip h15 hf
      refine x_aload_n B dX12_takesE_188 rfl (lv_at hl 0 rfl) ?_
      refine y_getMi (C := RX12) (T := TX12) (NN := 34) B aM_107 inX12 rfl (j := 9) (by decide) q_1121 rfl rfl dX12_takesE_189 ?_
      refine x_bipush (v := (nI 41)) B dX12_takesE_192 (by decide) ?_
      refine x_icmp_ne (tgt := 237) B dX12_takesE_194 (by decide) (fun h16 => ?_) (fun h16 => ?_)
      · have hf := ip h16 hf
        refine x_iload_n B dX12_takesE_197 rfl (lv_at hl 1 rfl) ?_
        refine x_if_le (tgt := 237) B dX12_takesE_198 (by decide) (fun h17 => ?_) (fun h17 => ?_)
        · have hf := ip h17 hf
          exact fX12_takesE_237_ok B hR hk28 (lv_sub hl [0, 1, 2] rfl) hf
        · have hf := iq h17 hf
          refine x_aload_n B dX12_takesE_201 rfl (lv_at hl 0 rfl) ?_
          refine x_iconst (v := (nI 0)) B dX12_takesE_202 (by decide) ?_
          obtain ⟨f49, c48, hf⟩ := bn_some hf
          refine x_callV0 (rest := []) B (kX12_settle c48) ⟨rfl, rfl⟩ aM_107.lt aM_107.2 rfl (by decide) q_1465 q_1467 q_36 (by rw [hR]; exact cw_X12_takesE_X12_settle) rfl rfl hl.1 (Nat.le_of_ble_eq_true rfl) dX12_takesE_203 ⟨Nat.zero_le _, Nat.zero_le _⟩ ?_
          refine x_aload_n B dX12_takesE_206 rfl (lv_at hl 0 rfl) ?_
          refine x_dup B dX12_takesE_207 rfl ?_
          refine y_getMi (C := RX12) (T := TX12) (NN := 34) B aM_107 inX12 rfl (j := 18) (by decide) q_1130 rfl rfl dX12_takesE_208 ?_
          refine x_iconst (v := (nI 1)) B dX12_takesE_211 (by decide) ?_
          refine x_isub B dX12_takesE_212 ?_
          refine x_putM (C := RX12) (T := TX12) (NN := 34) (ty0 := tyX12) (ty := .int) B aM_107 inX12 tyX12_ok nmX12 rfl (j := 18) (by decide) q_1130 rfl rfl rfl rfl rfl rfl dX12_takesE_213 (fun f50 e51 => ?_)
          have hf := lt_some hf e51
          refine x_iinc (k := 1) (v := (-1 : Int32)) (lv' := [(1, .int (x1 + (-1 : Int32))), (0, .ref (gz G + 107)), (2, .int x2), (3, .int x3)]) B dX12_takesE_216 hl rfl (by decide) (by decide) rfl (fun ls hl => ?_)
          refine x_aload_n B dX12_takesE_219 rfl (lv_at hl 1 rfl) ?_
          refine x_bipush (v := (nI 6)) B dX12_takesE_220 (by decide) ?_
          obtain ⟨f53, c52, hf⟩ := bn_some hf
          refine x_callV0 (rest := []) B (kX12_settle c52) ⟨rfl, rfl⟩ aM_107.lt aM_107.2 rfl (by decide) q_1465 q_1467 q_36 (by rw [hR]; exact cw_X12_takesE_X12_settle) rfl rfl hl.1 (Nat.le_of_ble_eq_true rfl) dX12_takesE_222 ⟨Nat.zero_le _, Nat.zero_le _⟩ ?_
          refine x_aload_n B dX12_takesE_225 rfl (lv_at hl 1 rfl) ?_
          obtain ⟨r55, c54, hf⟩ := bn_some hf
          refine x_callV0 (rest := []) B (kX12_notsOpen c54) ⟨rfl, rfl⟩ aM_107.lt aM_107.2 rfl (by decide) q_1472 q_1474 q_37 (by rw [hR]; exact cw_X12_takesE_X12_notsOpen) rfl rfl hl.1 (Nat.le_of_ble_eq_true rfl) dX12_takesE_226 ⟨Nat.zero_le _, Nat.zero_le _⟩ ?_
          refine x_istore_n (lv' := [(2, .int r55), (1, .int (x1 + (-1 : Int32))), (0, .ref (gz G + 107)), (3, .int x3)]) B dX12_takesE_229 rfl hl (by decide) rfl (fun ls hl => ?_)
          refine x_aload_n B dX12_takesE_230 rfl (lv_at hl 2 rfl) ?_
          obtain ⟨f57, c56, hf⟩ := bn_some hf
          refine x_callV0 (rest := []) B (kX12_go c56) ⟨rfl, rfl⟩ aM_107.lt aM_107.2 rfl (by decide) q_1437 q_1439 q_29 (by rw [hR]; exact cw_X12_takesE_X12_go) rfl rfl hl.1 (Nat.le_of_ble_eq_true rfl) dX12_takesE_231 ⟨Nat.zero_le _, Nat.zero_le _⟩ ?_
          refine x_goto (tgt := 28) B dX12_takesE_234 (by decide) ?_
          exact hk28 _ _ _ _ _ (lv_sub hl [2, 1, 0, 3] rfl) hf
      · have hf := iq h16 hf
        exact fX12_takesE_237_ok B hR hk28 (lv_sub hl [0, 1, 2] rfl) hf
    · have hf := iq h15 hf
      exact fX12_takesE_237_ok B hR hk28 (lv_sub hl [0, 1, 2] rfl) hf
  · have hf := iq h14 hf
    refine x_aload_n B dX12_takesE_43 rfl (lv_at hl 0 rfl) ?_
    refine y_getMi (C := RX12) (T := TX12) (NN := 34) B aM_107 inX12 rfl (j := 8) (by decide) q_1120 rfl rfl dX12_takesE_44 ?_
    refine x_iconst (v := (nI 3)) B dX12_takesE_47 (by decide) ?_
    refine x_icmp_ne (tgt := 97) B dX12_takesE_48 (by decide) (fun h58 => ?_) (fun h58 => ?_)
    · have hf := ip h58 hf
      refine x_aload_n B dX12_takesE_51 rfl (lv_at hl 0 rfl) ?_
      refine y_getMi (C := RX12) (T := TX12) (NN := 34) B aM_107 inX12 rfl (j := 9) (by decide) q_1121 rfl rfl dX12_takesE_52 ?_
      refine x_bipush (v := (nI 33)) B dX12_takesE_55 (by decide) ?_
      refine x_icmp_ne (tgt := 97) B dX12_takesE_57 (by decide) (fun h59 => ?_) (fun h59 => ?_)
      · have hf := ip h59 hf
        refine x_iload_n B dX12_takesE_60 rfl (lv_at hl 2 rfl) ?_
        refine x_bipush (v := (nI 8)) B dX12_takesE_61 (by decide) ?_
        refine x_icmp_ge (tgt := 97) B dX12_takesE_63 (by decide) (fun h60 => ?_) (fun h60 => ?_)
        · have hf := ip h60 hf
          exact fX12_takesE_97_ok B hR hk28 (lv_sub hl [0, 1, 3] rfl) hf
        · have hf := iq h60 hf
          refine x_aload_n B dX12_takesE_66 rfl (lv_at hl 0 rfl) ?_
          refine y_getMr (C := RX12) (T := TX12) (NN := 34) (d := 7) (k2 := 115) B aM_107 inX12 rfl (j := 17) (by decide) q_1129 rfl rfl rfl dX12_takesE_67 ?_
          refine x_aload_n B dX12_takesE_70 rfl (lv_at hl 0 rfl) ?_
          refine y_getMi (C := RX12) (T := TX12) (NN := 34) B aM_107 inX12 rfl (j := 18) (by decide) q_1130 rfl rfl dX12_takesE_71 ?_
          refine x_bipush (v := (-10 : Int32)) B dX12_takesE_74 (by decide) ?_
          obtain ⟨h80, hf⟩ := gd_some hf
          refine x_iastM B aM_115 h80 dX12_takesE_76 (fun f81 e82 => ?_)
          have hf := lt_some hf e82
          refine x_aload_n B dX12_takesE_77 rfl (lv_at hl 0 rfl) ?_
          refine x_dup B dX12_takesE_78 rfl ?_
          refine y_getMi (C := RX12) (T := TX12) (NN := 34) B aM_107 inX12 rfl (j := 18) (by decide) q_1130 rfl rfl dX12_takesE_79 ?_
          refine x_iconst (v := (nI 1)) B dX12_takesE_82 (by decide) ?_
          refine x_iadd B dX12_takesE_83 ?_
          refine x_putM (C := RX12) (T := TX12) (NN := 34) (ty0 := tyX12) (ty := .int) B aM_107 inX12 tyX12_ok nmX12 rfl (j := 18) (by decide) q_1130 rfl rfl rfl rfl rfl rfl dX12_takesE_84 (fun f83 e84 => ?_)
          have hf := lt_some hf e84
          refine x_iinc (k := 2) (v := (nI 1)) (lv' := [(2, .int (x2 + (nI 1))), (0, .ref (gz G + 107)), (1, .int x1), (3, .int x3)]) B dX12_takesE_87 hl rfl (by decide) (by decide) rfl (fun ls hl => ?_)
          refine x_aload_n B dX12_takesE_90 rfl (lv_at hl 1 rfl) ?_
          obtain ⟨f86, c85, hf⟩ := bn_some hf
          refine x_callV0 (rest := []) B (kX12_go c85) ⟨rfl, rfl⟩ aM_107.lt aM_107.2 rfl (by decide) q_1437 q_1439 q_29 (by rw [hR]; exact cw_X12_takesE_X12_go) rfl rfl hl.1 (Nat.le_of_ble_eq_true rfl) dX12_takesE_91 ⟨Nat.zero_le _, Nat.zero_le _⟩ ?_
          refine x_goto (tgt := 172) B dX12_takesE_94 (by decide) ?_
          exact fX12_takesE_172_ok B hR hk28 (lv_sub hl [1, 2, 3] rfl) hf
      · have hf := iq h59 hf
        exact fX12_takesE_97_ok B hR hk28 (lv_sub hl [0, 1, 3] rfl) hf
    · have hf := iq h58 hf
      exact fX12_takesE_97_ok B hR hk28 (lv_sub hl [0, 1, 3] rfl) hf
def fX12_takesE_28 (n : Nat)   (k28 : Int32 → Int32 → Int32 → Mm → Option (Int32 × Mm)) (x1 : Int32) (x2 : Int32) (x3 : Int32) (m : Mm) : Option (Int32 × Mm) :=
  if x3 = 0 then (
  if (m 107 8) = 0 then (
  bn (fX12_settle n (nI 0) m) fun f12 =>
  if x1 = 0 then (
  some ((nI 1), f12)) else (
  some ((nI 0), f12))) else (
  fX12_takesE_39 n k28 x1 x2 x3 m)) else (
  fX12_takesE_39 n k28 x1 x2 x3 m)
def fX12_takesE_28L (n : Nat)   : Nat → Int32 → Int32 → Int32 → Mm → Option (Int32 × Mm)
  | 0 => fun _ _ _ _ => none
  | q + 1 => fX12_takesE_28 n   (fX12_takesE_28L n   q)
set_option maxHeartbeats 4000000 in
set_option maxRecDepth 100000 in
theorem fX12_takesE_28_ok {V : VE} {G : GE} {N : Nat} {f m : Mm} {n : Nat} {ls : Array Slot} {r : Int32} {g : Mm} (B : CX V G cX12_takesE 5 "FluxWatchModel" (some .boolean)) (hR : V.2.2.2.1 = rmX12_takesE)   {k28 : Int32 → Int32 → Int32 → Mm → Option (Int32 × Mm)} (hk28 : ∀ (x1 : Int32) (x2 : Int32) (x3 : Int32) (mm : Mm) (ls : Array Slot),  lv_has ls 5 [(0, .ref (gz G + 107)), (1, .int x1), (2, .int x2), (3, .int x3)] → k28 x1 x2 x3 mm = some (r, g) → WX V G N f mm 0 0 (QQ V G (some (.int r)) N f g 0 0) 28 ls []) {x1 : Int32} {x2 : Int32} {x3 : Int32}  (hl : lv_has ls 5 [(0, .ref (gz G + 107)), (1, .int x1), (2, .int x2), (3, .int x3)]) (hf : fX12_takesE_28 n  k28 x1 x2 x3 m = some (r, g)) : WX V G N f m 0 0 (QQ V G (some (.int r)) N f g 0 0) 28 ls [] := by
  unfold fX12_takesE_28 at hf
  refine x_iload_n B dX12_takesE_28 rfl (lv_at hl 3 rfl) ?_
  refine x_if_ne (tgt := 39) B dX12_takesE_29 (by decide) (fun h9 => ?_) (fun h9 => ?_)
  · have hf := ip h9 hf
    refine x_aload_n B dX12_takesE_32 rfl (lv_at hl 0 rfl) ?_
    refine y_getMi (C := RX12) (T := TX12) (NN := 34) B aM_107 inX12 rfl (j := 8) (by decide) q_1120 rfl rfl dX12_takesE_33 ?_
    refine x_if_eq (tgt := 345) B dX12_takesE_36 (by decide) (fun h10 => ?_) (fun h10 => ?_)
    · have hf := ip h10 hf
      refine x_aload_n B dX12_takesE_345 rfl (lv_at hl 0 rfl) ?_
      refine x_iconst (v := (nI 0)) B dX12_takesE_346 (by decide) ?_
      obtain ⟨f12, c11, hf⟩ := bn_some hf
      refine x_callV0 (rest := []) B (kX12_settle c11) ⟨rfl, rfl⟩ aM_107.lt aM_107.2 rfl (by decide) q_1465 q_1467 q_36 (by rw [hR]; exact cw_X12_takesE_X12_settle) rfl rfl hl.1 (Nat.le_of_ble_eq_true rfl) dX12_takesE_347 ⟨Nat.zero_le _, Nat.zero_le _⟩ ?_
      refine x_iload_n B dX12_takesE_350 rfl (lv_at hl 1 rfl) ?_
      refine x_if_ne (tgt := 358) B dX12_takesE_351 (by decide) (fun h13 => ?_) (fun h13 => ?_)
      · have hf := ip h13 hf
        refine x_iconst (v := (nI 1)) B dX12_takesE_354 (by decide) ?_
        refine x_goto (tgt := 359) B dX12_takesE_355 (by decide) ?_
        obtain ⟨rfl, rfl⟩ := rt2 hf
        exact x_zret B (by decide) dX12_takesE_359
      · have hf := iq h13 hf
        refine x_iconst (v := (nI 0)) B dX12_takesE_358 (by decide) ?_
        obtain ⟨rfl, rfl⟩ := rt2 hf
        exact x_zret B (by decide) dX12_takesE_359
    · have hf := iq h10 hf
      exact fX12_takesE_39_ok B hR hk28 hl hf
  · have hf := iq h9 hf
    exact fX12_takesE_39_ok B hR hk28 hl hf
set_option maxHeartbeats 4000000 in
set_option maxRecDepth 100000 in
theorem fX12_takesE_28L_ok {V : VE} {G : GE} {N : Nat} {f : Mm} {n : Nat}  {r : Int32} {g : Mm} (B : CX V G cX12_takesE 5 "FluxWatchModel" (some .boolean)) (hR : V.2.2.2.1 = rmX12_takesE)   : ∀ (q : Nat) (x1 : Int32) (x2 : Int32) (x3 : Int32) (mm : Mm) (ls : Array Slot),  lv_has ls 5 [(0, .ref (gz G + 107)), (1, .int x1), (2, .int x2), (3, .int x3)] → fX12_takesE_28L n  q x1 x2 x3 mm = some (r, g) → WX V G N f mm 0 0 (QQ V G (some (.int r)) N f g 0 0) 28 ls [] := by
  intro q
  induction q with
  | zero =>
    intro x1 x2 x3 mm ls hl hf
    cases hf
  | succ q ih =>
    intro x1 x2 x3 mm ls hl hf
    exact fX12_takesE_28_ok B hR   ih  hl hf
def fX12_takesE (n : Nat)  (m : Mm) : Option (Int32 × Mm) :=
  lt (up m 107 15 (nI 0)) fun f1 =>
  lt (up f1 107 16 (nI 0)) fun f3 =>
  lt (up f3 107 18 (nI 0)) fun f5 =>
  lt (up f5 116 (nI 0).toNatClampNeg (vp_nar .boolean (nI 0))) fun f7 =>
  fX12_takesE_28L n n (nI 0) (nI 0) (nI 1) f7
set_option maxHeartbeats 4000000 in
set_option maxRecDepth 100000 in
theorem kX12_takesE {l : Launch} {G : GE} {N : Nat} {f m : Mm} {n : Nat}  {r : Int32} {g : Mm}  (hf : fX12_takesE n m = some (r, g)) : MT l G yX12_takesE cX12_takesE 5 (some .boolean) rmX12_takesE [.ref (gz G + 107)] N f m (some (.int r)) N f g := by
  unfold fX12_takesE at hf
  refine MT.of (by decide) (Nat.le_of_ble_eq_true rfl) (fun V ls hV hR B hl => ?_)
  have B : CX V G cX12_takesE 5 "FluxWatchModel" (some .boolean) := B
  have hl : lv_has ls 5 [(0, .ref (gz G + 107))] := hl
  show WX V G N f m 0 0 (QQ V G (some (.int r)) N f g 0 0) 0 ls []
  refine x_iconst (v := (nI 0)) B dX12_takesE_0 (by decide) ?_
  refine x_istore_n (lv' := [(1, .int (nI 0)), (0, .ref (gz G + 107))]) B dX12_takesE_1 rfl hl (by decide) rfl (fun ls hl => ?_)
  refine x_iconst (v := (nI 0)) B dX12_takesE_2 (by decide) ?_
  refine x_istore_n (lv' := [(2, .int (nI 0)), (1, .int (nI 0)), (0, .ref (gz G + 107))]) B dX12_takesE_3 rfl hl (by decide) rfl (fun ls hl => ?_)
  refine x_iconst (v := (nI 1)) B dX12_takesE_4 (by decide) ?_
  refine x_istore_n (lv' := [(3, .int (nI 1)), (2, .int (nI 0)), (1, .int (nI 0)), (0, .ref (gz G + 107))]) B dX12_takesE_5 rfl hl (by decide) rfl (fun ls hl => ?_)
  refine x_aload_n B dX12_takesE_6 rfl (lv_at hl 3 rfl) ?_
  refine x_iconst (v := (nI 0)) B dX12_takesE_7 (by decide) ?_
  refine x_putM (C := RX12) (T := TX12) (NN := 34) (ty0 := tyX12) (ty := .int) B aM_107 inX12 tyX12_ok nmX12 rfl (j := 15) (by decide) q_1127 rfl rfl rfl rfl rfl rfl dX12_takesE_8 (fun f1 e2 => ?_)
  have hf := lt_some hf e2
  refine x_aload_n B dX12_takesE_11 rfl (lv_at hl 3 rfl) ?_
  refine x_iconst (v := (nI 0)) B dX12_takesE_12 (by decide) ?_
  refine x_putM (C := RX12) (T := TX12) (NN := 34) (ty0 := tyX12) (ty := .int) B aM_107 inX12 tyX12_ok nmX12 rfl (j := 16) (by decide) q_1128 rfl rfl rfl rfl rfl rfl dX12_takesE_13 (fun f3 e4 => ?_)
  have hf := lt_some hf e4
  refine x_aload_n B dX12_takesE_16 rfl (lv_at hl 3 rfl) ?_
  refine x_iconst (v := (nI 0)) B dX12_takesE_17 (by decide) ?_
  refine x_putM (C := RX12) (T := TX12) (NN := 34) (ty0 := tyX12) (ty := .int) B aM_107 inX12 tyX12_ok nmX12 rfl (j := 18) (by decide) q_1130 rfl rfl rfl rfl rfl rfl dX12_takesE_18 (fun f5 e6 => ?_)
  have hf := lt_some hf e6
  refine x_aload_n B dX12_takesE_21 rfl (lv_at hl 3 rfl) ?_
  refine y_getMr (C := RX12) (T := TX12) (NN := 34) (d := 8) (k2 := 116) B aM_107 inX12 rfl (j := 19) (by decide) q_1131 rfl rfl rfl dX12_takesE_22 ?_
  refine x_iconst (v := (nI 0)) B dX12_takesE_25 (by decide) ?_
  refine x_iconst (v := (nI 0)) B dX12_takesE_26 (by decide) ?_
  refine x_zastM B aM_116 (by decide) dX12_takesE_27 (fun f7 e8 => ?_)
  have hf := lt_some hf e8
  exact fX12_takesE_28L_ok B hR  n _ _ _ _ _ (lv_sub hl [3, 2, 1, 0] rfl) hf
def rmX12_takesKey : Room := { frames := 2, cells := 0, slots := 0, locals := 42 }
set_option maxHeartbeats 4000000 in
set_option maxRecDepth 100000 in
theorem cw_X12_takesKey_X12_go : cwB rmX12_takesKey rmX12_go yX12_go cX12_go 2 none 0 := ⟨q_1440, q_57, by decide, by decide⟩
def fX12_takesKey_106 (n : Nat)  (k12 : Int32 → Mm → Option (Int32 × Mm)) (x1 : Int32) (x3 : Int32) (m : Mm) : Option (Int32 × Mm) :=
  if x3 = 0 then (
  k12 (x1 + (nI 1)) m) else (
  lt (up m 107 11 x1) fun f10 =>
  bn (fX12_go n f10) fun f13 =>
  some ((nI 1), f13))
set_option maxHeartbeats 4000000 in
set_option maxRecDepth 100000 in
theorem fX12_takesKey_106_ok {V : VE} {G : GE} {N : Nat} {f m : Mm} {n : Nat} {ls : Array Slot} {r : Int32} {g : Mm} (B : CX V G cX12_takesKey 5 "FluxWatchModel" (some .boolean)) (hR : V.2.2.2.1 = rmX12_takesKey)  {k12 : Int32 → Mm → Option (Int32 × Mm)} (hk12 : ∀ (x1 : Int32) (mm : Mm) (ls : Array Slot),  lv_has ls 5 [(0, .ref (gz G + 107)), (1, .int x1)] → k12 x1 mm = some (r, g) → WX V G N f mm 0 0 (QQ V G (some (.int r)) N f g 0 0) 12 ls []) {x1 : Int32} {x3 : Int32}  (hl : lv_has ls 5 [(0, .ref (gz G + 107)), (1, .int x1), (3, .int x3)]) (hf : fX12_takesKey_106 n  k12 x1 x3 m = some (r, g)) : WX V G N f m 0 0 (QQ V G (some (.int r)) N f g 0 0) 106 ls [] := by
  unfold fX12_takesKey_106 at hf
  refine x_iload_n B dX12_takesKey_106 rfl (lv_at hl 2 rfl) ?_
  refine x_if_eq (tgt := 121) B dX12_takesKey_107 (by decide) (fun h9 => ?_) (fun h9 => ?_)
  · have hf := ip h9 hf
    refine x_iinc (k := 1) (v := (nI 1)) (lv' := [(1, .int (x1 + (nI 1))), (0, .ref (gz G + 107)), (3, .int x3)]) B dX12_takesKey_121 hl rfl (by decide) (by decide) rfl (fun ls hl => ?_)
    refine x_goto (tgt := 12) B dX12_takesKey_124 (by decide) ?_
    exact hk12 _ _ _ (lv_sub hl [1, 0] rfl) hf
  · have hf := iq h9 hf
    refine x_aload_n B dX12_takesKey_110 rfl (lv_at hl 0 rfl) ?_
    refine x_iload_n B dX12_takesKey_111 rfl (lv_at hl 1 rfl) ?_
    refine x_putM (C := RX12) (T := TX12) (NN := 34) (ty0 := tyX12) (ty := .int) B aM_107 inX12 tyX12_ok nmX12 rfl (j := 11) (by decide) q_1123 rfl rfl rfl rfl rfl rfl dX12_takesKey_112 (fun f10 e11 => ?_)
    have hf := lt_some hf e11
    refine x_aload_n B dX12_takesKey_115 rfl (lv_at hl 0 rfl) ?_
    obtain ⟨f13, c12, hf⟩ := bn_some hf
    refine x_callV0 (rest := []) B (kX12_go c12) ⟨rfl, rfl⟩ aM_107.lt aM_107.2 rfl (by decide) q_1437 q_1439 q_29 (by rw [hR]; exact cw_X12_takesKey_X12_go) rfl rfl hl.1 (Nat.le_of_ble_eq_true rfl) dX12_takesKey_116 ⟨Nat.zero_le _, Nat.zero_le _⟩ ?_
    refine x_iconst (v := (nI 1)) B dX12_takesKey_119 (by decide) ?_
    obtain ⟨rfl, rfl⟩ := rt2 hf
    exact x_zret B (by decide) dX12_takesKey_120
def fX12_takesKey_99 (n : Nat)  (k12 : Int32 → Mm → Option (Int32 × Mm)) (k55 : Int32 → Int32 → Int32 → Int32 → Mm → Option (Int32 × Mm)) (x1 : Int32) (x2 : Int32) (x4 : Int32) (s0 : Int32) (m : Mm) : Option (Int32 × Mm) :=
  k55 x1 x2 s0 (x4 + (nI 1)) m
set_option maxHeartbeats 4000000 in
set_option maxRecDepth 100000 in
theorem fX12_takesKey_99_ok {V : VE} {G : GE} {N : Nat} {f m : Mm} {n : Nat} {ls : Array Slot} {r : Int32} {g : Mm} (B : CX V G cX12_takesKey 5 "FluxWatchModel" (some .boolean)) (hR : V.2.2.2.1 = rmX12_takesKey)  {k12 : Int32 → Mm → Option (Int32 × Mm)} (hk12 : ∀ (x1 : Int32) (mm : Mm) (ls : Array Slot),  lv_has ls 5 [(0, .ref (gz G + 107)), (1, .int x1)] → k12 x1 mm = some (r, g) → WX V G N f mm 0 0 (QQ V G (some (.int r)) N f g 0 0) 12 ls []) {k55 : Int32 → Int32 → Int32 → Int32 → Mm → Option (Int32 × Mm)} (hk55 : ∀ (x1 : Int32) (x2 : Int32) (x3 : Int32) (x4 : Int32) (mm : Mm) (ls : Array Slot),  lv_has ls 5 [(0, .ref (gz G + 107)), (1, .int x1), (2, .int x2), (3, .int x3), (4, .int x4)] → k55 x1 x2 x3 x4 mm = some (r, g) → WX V G N f mm 0 0 (QQ V G (some (.int r)) N f g 0 0) 55 ls []) {x1 : Int32} {x2 : Int32} {x4 : Int32} {s0 : Int32}  (hl : lv_has ls 5 [(0, .ref (gz G + 107)), (1, .int x1), (2, .int x2), (4, .int x4)]) (hf : fX12_takesKey_99 n  k12 k55 x1 x2 x4 s0 m = some (r, g)) : WX V G N f m 0 0 (QQ V G (some (.int r)) N f g 0 0) 99 ls [.int s0] := by
  unfold fX12_takesKey_99 at hf
  refine x_istore_n (lv' := [(3, .int s0), (0, .ref (gz G + 107)), (1, .int x1), (2, .int x2), (4, .int x4)]) B dX12_takesKey_99 rfl hl (by decide) rfl (fun ls hl => ?_)
  refine x_iinc (k := 4) (v := (nI 1)) (lv' := [(4, .int (x4 + (nI 1))), (3, .int s0), (0, .ref (gz G + 107)), (1, .int x1), (2, .int x2)]) B dX12_takesKey_100 hl rfl (by decide) (by decide) rfl (fun ls hl => ?_)
  refine x_goto (tgt := 55) B dX12_takesKey_103 (by decide) ?_
  exact hk55 _ _ _ _ _ _ (lv_sub hl [2, 3, 4, 1, 0] rfl) hf
def fX12_takesKey_55 (n : Nat)  (k12 : Int32 → Mm → Option (Int32 × Mm)) (k55 : Int32 → Int32 → Int32 → Int32 → Mm → Option (Int32 × Mm)) (x1 : Int32) (x2 : Int32) (x3 : Int32) (x4 : Int32) (m : Mm) : Option (Int32 × Mm) :=
  if x2 ≤ x4 then (
  fX12_takesKey_106 n k12 x1 x3 m) else (
  if x3 = 0 then (
  fX12_takesKey_106 n k12 x1 x3 m) else (
  gd (ib ((m 107 7) + x4) 96) <|
  gd (ib x1 4) <|
  gd (ib ((m 113 x1.toNatClampNeg) + x4) 14) <|
  if (m 111 ((m 107 7) + x4).toNatClampNeg) = (m 112 ((m 113 x1.toNatClampNeg) + x4).toNatClampNeg) then (
  fX12_takesKey_99 n k12 k55 x1 x2 x4 (nI 1) m) else (
  fX12_takesKey_99 n k12 k55 x1 x2 x4 (nI 0) m)))
def fX12_takesKey_55L (n : Nat)  (k12 : Int32 → Mm → Option (Int32 × Mm)) : Nat → Int32 → Int32 → Int32 → Int32 → Mm → Option (Int32 × Mm)
  | 0 => fun _ _ _ _ _ => none
  | q + 1 => fX12_takesKey_55 n  k12 (fX12_takesKey_55L n  k12 q)
set_option maxHeartbeats 4000000 in
set_option maxRecDepth 100000 in
theorem fX12_takesKey_55_ok {V : VE} {G : GE} {N : Nat} {f m : Mm} {n : Nat} {ls : Array Slot} {r : Int32} {g : Mm} (B : CX V G cX12_takesKey 5 "FluxWatchModel" (some .boolean)) (hR : V.2.2.2.1 = rmX12_takesKey)  {k12 : Int32 → Mm → Option (Int32 × Mm)} (hk12 : ∀ (x1 : Int32) (mm : Mm) (ls : Array Slot),  lv_has ls 5 [(0, .ref (gz G + 107)), (1, .int x1)] → k12 x1 mm = some (r, g) → WX V G N f mm 0 0 (QQ V G (some (.int r)) N f g 0 0) 12 ls []) {k55 : Int32 → Int32 → Int32 → Int32 → Mm → Option (Int32 × Mm)} (hk55 : ∀ (x1 : Int32) (x2 : Int32) (x3 : Int32) (x4 : Int32) (mm : Mm) (ls : Array Slot),  lv_has ls 5 [(0, .ref (gz G + 107)), (1, .int x1), (2, .int x2), (3, .int x3), (4, .int x4)] → k55 x1 x2 x3 x4 mm = some (r, g) → WX V G N f mm 0 0 (QQ V G (some (.int r)) N f g 0 0) 55 ls []) {x1 : Int32} {x2 : Int32} {x3 : Int32} {x4 : Int32}  (hl : lv_has ls 5 [(0, .ref (gz G + 107)), (1, .int x1), (2, .int x2), (3, .int x3), (4, .int x4)]) (hf : fX12_takesKey_55 n  k12 k55 x1 x2 x3 x4 m = some (r, g)) : WX V G N f m 0 0 (QQ V G (some (.int r)) N f g 0 0) 55 ls [] := by
  unfold fX12_takesKey_55 at hf
  refine x_iload B dX12_takesKey_55 (lv_at hl 4 rfl) ?_
  refine x_iload_n B dX12_takesKey_57 rfl (lv_at hl 2 rfl) ?_
  refine x_icmp_ge (tgt := 106) B dX12_takesKey_58 (by decide) (fun h8 => ?_) (fun h8 => ?_)
  · have hf := ip h8 hf
    exact fX12_takesKey_106_ok B hR hk12 (lv_sub hl [0, 1, 3] rfl) hf
  · have hf := iq h8 hf
    refine x_iload_n B dX12_takesKey_61 rfl (lv_at hl 3 rfl) ?_
    refine x_if_eq (tgt := 106) B dX12_takesKey_62 (by decide) (fun h14 => ?_) (fun h14 => ?_)
    · have hf := ip h14 hf
      exact fX12_takesKey_106_ok B hR hk12 (lv_sub hl [0, 1, 3] rfl) hf
    · have hf := iq h14 hf
      refine x_aload_n B dX12_takesKey_65 rfl (lv_at hl 0 rfl) ?_
      refine y_getMr (C := RX12) (T := TX12) (NN := 34) (d := 3) (k2 := 111) B aM_107 inX12 rfl (j := 4) (by decide) q_1116 rfl rfl rfl dX12_takesKey_66 ?_
      refine x_aload_n B dX12_takesKey_69 rfl (lv_at hl 0 rfl) ?_
      refine y_getMi (C := RX12) (T := TX12) (NN := 34) B aM_107 inX12 rfl (j := 7) (by decide) q_1119 rfl rfl dX12_takesKey_70 ?_
      refine x_iload B dX12_takesKey_73 (lv_at hl 4 rfl) ?_
      refine x_iadd B dX12_takesKey_75 ?_
      obtain ⟨h15, hf⟩ := gd_some hf
      refine x_ialdM B aM_111 h15 dX12_takesKey_76 ?_
      refine x_aload_n B dX12_takesKey_77 rfl (lv_at hl 0 rfl) ?_
      refine y_getMr (C := RX12) (T := TX12) (NN := 34) (d := 4) (k2 := 112) B aM_107 inX12 rfl (j := 12) (by decide) q_1124 rfl rfl rfl dX12_takesKey_78 ?_
      refine x_aload_n B dX12_takesKey_81 rfl (lv_at hl 0 rfl) ?_
      refine y_getMr (C := RX12) (T := TX12) (NN := 34) (d := 5) (k2 := 113) B aM_107 inX12 rfl (j := 13) (by decide) q_1125 rfl rfl rfl dX12_takesKey_82 ?_
      refine x_iload_n B dX12_takesKey_85 rfl (lv_at hl 1 rfl) ?_
      obtain ⟨h16, hf⟩ := gd_some hf
      refine x_ialdM B aM_113 h16 dX12_takesKey_86 ?_
      refine x_iload B dX12_takesKey_87 (lv_at hl 4 rfl) ?_
      refine x_iadd B dX12_takesKey_89 ?_
      obtain ⟨h17, hf⟩ := gd_some hf
      refine x_caldM B aM_112 h17 dX12_takesKey_90 ?_
      refine x_icmp_ne (tgt := 98) B dX12_takesKey_91 (by decide) (fun h18 => ?_) (fun h18 => ?_)
      · have hf := ip h18 hf
        refine x_iconst (v := (nI 1)) B dX12_takesKey_94 (by decide) ?_
        refine x_goto (tgt := 99) B dX12_takesKey_95 (by decide) ?_
        exact fX12_takesKey_99_ok B hR hk12 hk55 (lv_sub hl [0, 1, 2, 4] rfl) hf
      · have hf := iq h18 hf
        refine x_iconst (v := (nI 0)) B dX12_takesKey_98 (by decide) ?_
        exact fX12_takesKey_99_ok B hR hk12 hk55 (lv_sub hl [0, 1, 2, 4] rfl) hf
set_option maxHeartbeats 4000000 in
set_option maxRecDepth 100000 in
theorem fX12_takesKey_55L_ok {V : VE} {G : GE} {N : Nat} {f : Mm} {n : Nat}  {r : Int32} {g : Mm} (B : CX V G cX12_takesKey 5 "FluxWatchModel" (some .boolean)) (hR : V.2.2.2.1 = rmX12_takesKey)  {k12 : Int32 → Mm → Option (Int32 × Mm)} (hk12 : ∀ (x1 : Int32) (mm : Mm) (ls : Array Slot),  lv_has ls 5 [(0, .ref (gz G + 107)), (1, .int x1)] → k12 x1 mm = some (r, g) → WX V G N f mm 0 0 (QQ V G (some (.int r)) N f g 0 0) 12 ls []) : ∀ (q : Nat) (x1 : Int32) (x2 : Int32) (x3 : Int32) (x4 : Int32) (mm : Mm) (ls : Array Slot),  lv_has ls 5 [(0, .ref (gz G + 107)), (1, .int x1), (2, .int x2), (3, .int x3), (4, .int x4)] → fX12_takesKey_55L n  k12 q x1 x2 x3 x4 mm = some (r, g) → WX V G N f mm 0 0 (QQ V G (some (.int r)) N f g 0 0) 55 ls [] := by
  intro q
  induction q with
  | zero =>
    intro x1 x2 x3 x4 mm ls hl hf
    cases hf
  | succ q ih =>
    intro x1 x2 x3 x4 mm ls hl hf
    exact fX12_takesKey_55_ok B hR  hk12 ih  hl hf
def fX12_takesKey_51 (n : Nat)  (k12 : Int32 → Mm → Option (Int32 × Mm)) (x1 : Int32) (x2 : Int32) (s0 : Int32) (m : Mm) : Option (Int32 × Mm) :=
  fX12_takesKey_55L n k12 n x1 x2 s0 (nI 0) m
set_option maxHeartbeats 4000000 in
set_option maxRecDepth 100000 in
theorem fX12_takesKey_51_ok {V : VE} {G : GE} {N : Nat} {f m : Mm} {n : Nat} {ls : Array Slot} {r : Int32} {g : Mm} (B : CX V G cX12_takesKey 5 "FluxWatchModel" (some .boolean)) (hR : V.2.2.2.1 = rmX12_takesKey)  {k12 : Int32 → Mm → Option (Int32 × Mm)} (hk12 : ∀ (x1 : Int32) (mm : Mm) (ls : Array Slot),  lv_has ls 5 [(0, .ref (gz G + 107)), (1, .int x1)] → k12 x1 mm = some (r, g) → WX V G N f mm 0 0 (QQ V G (some (.int r)) N f g 0 0) 12 ls []) {x1 : Int32} {x2 : Int32} {s0 : Int32}  (hl : lv_has ls 5 [(0, .ref (gz G + 107)), (1, .int x1), (2, .int x2)]) (hf : fX12_takesKey_51 n  k12 x1 x2 s0 m = some (r, g)) : WX V G N f m 0 0 (QQ V G (some (.int r)) N f g 0 0) 51 ls [.int s0] := by
  unfold fX12_takesKey_51 at hf
  refine x_istore_n (lv' := [(3, .int s0), (0, .ref (gz G + 107)), (1, .int x1), (2, .int x2)]) B dX12_takesKey_51 rfl hl (by decide) rfl (fun ls hl => ?_)
  refine x_iconst (v := (nI 0)) B dX12_takesKey_52 (by decide) ?_
  refine x_istore (lv' := [(4, .int (nI 0)), (3, .int s0), (0, .ref (gz G + 107)), (1, .int x1), (2, .int x2)]) B dX12_takesKey_53 hl (by decide) rfl (fun ls hl => ?_)
  exact fX12_takesKey_55L_ok B hR hk12 n _ _ _ _ _ _ (lv_sub hl [2, 3, 4, 1, 0] rfl) hf
def fX12_takesKey_12 (n : Nat)   (k12 : Int32 → Mm → Option (Int32 × Mm)) (x1 : Int32) (m : Mm) : Option (Int32 × Mm) :=
  if (nI 3) ≤ x1 then (
  some ((nI 0), m)) else (
  gd (ib (x1 + (nI 1)) 4) <|
  gd (ib x1 4) <|
  lt ((m 113 (x1 + (nI 1)).toNatClampNeg) - (m 113 x1.toNatClampNeg)) fun v5 =>
  if v5 = ((m 107 6) - (m 107 7)) then (
  fX12_takesKey_51 n k12 x1 v5 (nI 1) m) else (
  fX12_takesKey_51 n k12 x1 v5 (nI 0) m))
def fX12_takesKey_12L (n : Nat)   : Nat → Int32 → Mm → Option (Int32 × Mm)
  | 0 => fun _ _ => none
  | q + 1 => fX12_takesKey_12 n   (fX12_takesKey_12L n   q)
set_option maxHeartbeats 4000000 in
set_option maxRecDepth 100000 in
theorem fX12_takesKey_12_ok {V : VE} {G : GE} {N : Nat} {f m : Mm} {n : Nat} {ls : Array Slot} {r : Int32} {g : Mm} (B : CX V G cX12_takesKey 5 "FluxWatchModel" (some .boolean)) (hR : V.2.2.2.1 = rmX12_takesKey)   {k12 : Int32 → Mm → Option (Int32 × Mm)} (hk12 : ∀ (x1 : Int32) (mm : Mm) (ls : Array Slot),  lv_has ls 5 [(0, .ref (gz G + 107)), (1, .int x1)] → k12 x1 mm = some (r, g) → WX V G N f mm 0 0 (QQ V G (some (.int r)) N f g 0 0) 12 ls []) {x1 : Int32}  (hl : lv_has ls 5 [(0, .ref (gz G + 107)), (1, .int x1)]) (hf : fX12_takesKey_12 n  k12 x1 m = some (r, g)) : WX V G N f m 0 0 (QQ V G (some (.int r)) N f g 0 0) 12 ls [] := by
  unfold fX12_takesKey_12 at hf
  refine x_iload_n B dX12_takesKey_12 rfl (lv_at hl 1 rfl) ?_
  refine x_iconst (v := (nI 3)) B dX12_takesKey_13 (by decide) ?_
  refine x_icmp_ge (tgt := 127) B dX12_takesKey_14 (by decide) (fun h2 => ?_) (fun h2 => ?_)
  · have hf := ip h2 hf
    refine x_iconst (v := (nI 0)) B dX12_takesKey_127 (by decide) ?_
    obtain ⟨rfl, rfl⟩ := rt2 hf
    exact x_zret B (by decide) dX12_takesKey_128
  · have hf := iq h2 hf
    refine x_aload_n B dX12_takesKey_17 rfl (lv_at hl 0 rfl) ?_
    refine y_getMr (C := RX12) (T := TX12) (NN := 34) (d := 5) (k2 := 113) B aM_107 inX12 rfl (j := 13) (by decide) q_1125 rfl rfl rfl dX12_takesKey_18 ?_
    refine x_iload_n B dX12_takesKey_21 rfl (lv_at hl 1 rfl) ?_
    refine x_iconst (v := (nI 1)) B dX12_takesKey_22 (by decide) ?_
    refine x_iadd B dX12_takesKey_23 ?_
    obtain ⟨h3, hf⟩ := gd_some hf
    refine x_ialdM B aM_113 h3 dX12_takesKey_24 ?_
    refine x_aload_n B dX12_takesKey_25 rfl (lv_at hl 0 rfl) ?_
    refine y_getMr (C := RX12) (T := TX12) (NN := 34) (d := 5) (k2 := 113) B aM_107 inX12 rfl (j := 13) (by decide) q_1125 rfl rfl rfl dX12_takesKey_26 ?_
    refine x_iload_n B dX12_takesKey_29 rfl (lv_at hl 1 rfl) ?_
    obtain ⟨h4, hf⟩ := gd_some hf
    refine x_ialdM B aM_113 h4 dX12_takesKey_30 ?_
    refine x_isub B dX12_takesKey_31 ?_
    refine x_nm (fun v5 e6 => ?_)
    have hf := lt_some hf e6
    refine x_istore_n (lv' := [(2, .int v5), (0, .ref (gz G + 107)), (1, .int x1)]) B dX12_takesKey_32 rfl hl (by decide) rfl (fun ls hl => ?_)
    refine x_iload_n B dX12_takesKey_33 rfl (lv_at hl 0 rfl) ?_
    refine x_aload_n B dX12_takesKey_34 rfl (lv_at hl 1 rfl) ?_
    refine y_getMi (C := RX12) (T := TX12) (NN := 34) B aM_107 inX12 rfl (j := 6) (by decide) q_1118 rfl rfl dX12_takesKey_35 ?_
    refine x_aload_n B dX12_takesKey_38 rfl (lv_at hl 1 rfl) ?_
    refine y_getMi (C := RX12) (T := TX12) (NN := 34) B aM_107 inX12 rfl (j := 7) (by decide) q_1119 rfl rfl dX12_takesKey_39 ?_
    refine x_isub B dX12_takesKey_42 ?_
    refine x_icmp_ne (tgt := 50) B dX12_takesKey_43 (by decide) (fun h7 => ?_) (fun h7 => ?_)
    · have hf := ip h7 hf
      refine x_iconst (v := (nI 1)) B dX12_takesKey_46 (by decide) ?_
      refine x_goto (tgt := 51) B dX12_takesKey_47 (by decide) ?_
      exact fX12_takesKey_51_ok B hR hk12 (lv_sub hl [1, 2, 0] rfl) hf
    · have hf := iq h7 hf
      refine x_iconst (v := (nI 0)) B dX12_takesKey_50 (by decide) ?_
      exact fX12_takesKey_51_ok B hR hk12 (lv_sub hl [1, 2, 0] rfl) hf
set_option maxHeartbeats 4000000 in
set_option maxRecDepth 100000 in
theorem fX12_takesKey_12L_ok {V : VE} {G : GE} {N : Nat} {f : Mm} {n : Nat}  {r : Int32} {g : Mm} (B : CX V G cX12_takesKey 5 "FluxWatchModel" (some .boolean)) (hR : V.2.2.2.1 = rmX12_takesKey)   : ∀ (q : Nat) (x1 : Int32) (mm : Mm) (ls : Array Slot),  lv_has ls 5 [(0, .ref (gz G + 107)), (1, .int x1)] → fX12_takesKey_12L n  q x1 mm = some (r, g) → WX V G N f mm 0 0 (QQ V G (some (.int r)) N f g 0 0) 12 ls [] := by
  intro q
  induction q with
  | zero =>
    intro x1 mm ls hl hf
    cases hf
  | succ q ih =>
    intro x1 mm ls hl hf
    exact fX12_takesKey_12_ok B hR   ih  hl hf
def fX12_takesKey (n : Nat)  (m : Mm) : Option (Int32 × Mm) :=
  if (m 107 8) = (nI 1) then (
  fX12_takesKey_12L n n (nI 0) m) else (
  some ((nI 0), m))
set_option maxHeartbeats 4000000 in
set_option maxRecDepth 100000 in
theorem kX12_takesKey {l : Launch} {G : GE} {N : Nat} {f m : Mm} {n : Nat}  {r : Int32} {g : Mm}  (hf : fX12_takesKey n m = some (r, g)) : MT l G yX12_takesKey cX12_takesKey 5 (some .boolean) rmX12_takesKey [.ref (gz G + 107)] N f m (some (.int r)) N f g := by
  unfold fX12_takesKey at hf
  refine MT.of (by decide) (Nat.le_of_ble_eq_true rfl) (fun V ls hV hR B hl => ?_)
  have B : CX V G cX12_takesKey 5 "FluxWatchModel" (some .boolean) := B
  have hl : lv_has ls 5 [(0, .ref (gz G + 107))] := hl
  show WX V G N f m 0 0 (QQ V G (some (.int r)) N f g 0 0) 0 ls []
  refine x_aload_n B dX12_takesKey_0 rfl (lv_at hl 0 rfl) ?_
  refine y_getMi (C := RX12) (T := TX12) (NN := 34) B aM_107 inX12 rfl (j := 8) (by decide) q_1120 rfl rfl dX12_takesKey_1 ?_
  refine x_iconst (v := (nI 1)) B dX12_takesKey_4 (by decide) ?_
  refine x_icmp_eq (tgt := 10) B dX12_takesKey_5 (by decide) (fun h1 => ?_) (fun h1 => ?_)
  · have hf := ip h1 hf
    refine x_iconst (v := (nI 0)) B dX12_takesKey_10 (by decide) ?_
    refine x_istore_n (lv' := [(1, .int (nI 0)), (0, .ref (gz G + 107))]) B dX12_takesKey_11 rfl hl (by decide) rfl (fun ls hl => ?_)
    exact fX12_takesKey_12L_ok B hR  n _ _ _ (lv_sub hl [1, 0] rfl) hf
  · have hf := iq h1 hf
    refine x_iconst (v := (nI 0)) B dX12_takesKey_8 (by decide) ?_
    obtain ⟨rfl, rfl⟩ := rt2 hf
    exact x_zret B (by decide) dX12_takesKey_9
def rmX12_tell : Room := { frames := 0, cells := 0, slots := 0, locals := 0 }
def fX12_tell (n : Nat) (a1 : Int32) (m : Mm) : Option (Int32 × Mm) :=
  if (m 107 33) = (nI 60) then (
  some ((-1000000003 : Int32), m)) else (
  gd (ib (m 107 33) 60) <|
  lt (up m 129 (m 107 33).toNatClampNeg a1) fun f3 =>
  lt (up f3 107 33 ((f3 107 33) + (nI 1))) fun f5 =>
  some (f5 107 33, f5))
set_option maxHeartbeats 4000000 in
set_option maxRecDepth 100000 in
theorem kX12_tell {l : Launch} {G : GE} {N : Nat} {f m : Mm} {n : Nat} {a1 : Int32} {r : Int32} {g : Mm}  (hf : fX12_tell n a1 m = some (r, g)) : MT l G yX12_tell cX12_tell 2 (some .int) rmX12_tell [.ref (gz G + 107), .int a1] N f m (some (.int r)) N f g := by
  unfold fX12_tell at hf
  refine MT.of (by decide) (Nat.le_of_ble_eq_true rfl) (fun V ls hV hR B hl => ?_)
  have B : CX V G cX12_tell 2 "FluxWatchModel" (some .int) := B
  have hl : lv_has ls 2 [(0, .ref (gz G + 107)), (1, .int a1)] := hl
  show WX V G N f m 0 0 (QQ V G (some (.int r)) N f g 0 0) 0 ls []
  refine x_aload_n B dX12_tell_0 rfl (lv_at hl 0 rfl) ?_
  refine y_getMi (C := RX12) (T := TX12) (NN := 34) B aM_107 inX12 rfl (j := 33) (by decide) q_1145 rfl rfl dX12_tell_1 ?_
  refine x_bipush (v := (nI 60)) B dX12_tell_4 (by decide) ?_
  refine x_icmp_ne (tgt := 12) B dX12_tell_6 (by decide) (fun h1 => ?_) (fun h1 => ?_)
  · have hf := ip h1 hf
    refine x_ldc (v := (-1000000003 : Int32)) B q_1224 dX12_tell_9 ?_
    obtain ⟨rfl, rfl⟩ := rt2 hf
    exact x_iret B dX12_tell_11
  · have hf := iq h1 hf
    refine x_aload_n B dX12_tell_12 rfl (lv_at hl 0 rfl) ?_
    refine y_getMr (C := RX12) (T := TX12) (NN := 34) (d := 21) (k2 := 129) B aM_107 inX12 rfl (j := 32) (by decide) q_1144 rfl rfl rfl dX12_tell_13 ?_
    refine x_aload_n B dX12_tell_16 rfl (lv_at hl 0 rfl) ?_
    refine y_getMi (C := RX12) (T := TX12) (NN := 34) B aM_107 inX12 rfl (j := 33) (by decide) q_1145 rfl rfl dX12_tell_17 ?_
    refine x_iload_n B dX12_tell_20 rfl (lv_at hl 1 rfl) ?_
    obtain ⟨h2, hf⟩ := gd_some hf
    refine x_iastM B aM_129 h2 dX12_tell_21 (fun f3 e4 => ?_)
    have hf := lt_some hf e4
    refine x_aload_n B dX12_tell_22 rfl (lv_at hl 0 rfl) ?_
    refine x_dup B dX12_tell_23 rfl ?_
    refine y_getMi (C := RX12) (T := TX12) (NN := 34) B aM_107 inX12 rfl (j := 33) (by decide) q_1145 rfl rfl dX12_tell_24 ?_
    refine x_iconst (v := (nI 1)) B dX12_tell_27 (by decide) ?_
    refine x_iadd B dX12_tell_28 ?_
    refine x_putM (C := RX12) (T := TX12) (NN := 34) (ty0 := tyX12) (ty := .int) B aM_107 inX12 tyX12_ok nmX12 rfl (j := 33) (by decide) q_1145 rfl rfl rfl rfl rfl rfl dX12_tell_29 (fun f5 e6 => ?_)
    have hf := lt_some hf e6
    refine x_aload_n B dX12_tell_32 rfl (lv_at hl 0 rfl) ?_
    refine y_getMi (C := RX12) (T := TX12) (NN := 34) B aM_107 inX12 rfl (j := 33) (by decide) q_1145 rfl rfl dX12_tell_33 ?_
    obtain ⟨rfl, rfl⟩ := rt2 hf
    exact x_iret B dX12_tell_36
def rmX12_text : Room := { frames := 4, cells := 0, slots := 0, locals := 87 }
set_option maxHeartbeats 4000000 in
set_option maxRecDepth 100000 in
theorem cw_X12_text_X12_go : cwB rmX12_text rmX12_go yX12_go cX12_go 2 none 0 := ⟨q_1440, q_57, by decide, by decide⟩
set_option maxHeartbeats 4000000 in
set_option maxRecDepth 100000 in
theorem cw_X12_text_X12_takesE : cwB rmX12_text rmX12_takesE yX12_takesE cX12_takesE 5 (some .boolean) 0 := ⟨q_1456, q_57, by decide, by decide⟩
set_option maxHeartbeats 4000000 in
set_option maxRecDepth 100000 in
theorem cw_X12_text_X12_takesKey : cwB rmX12_text rmX12_takesKey yX12_takesKey cX12_takesKey 5 (some .boolean) 0 := ⟨q_1452, q_57, by decide, by decide⟩
def fX12_text_119 (n : Nat)   (k119 : Int32 → Int32 → Mm → Option (Int32 × Mm)) (x2 : Int32) (x3 : Int32) (m : Mm) : Option (Int32 × Mm) :=
  if (m 107 15) ≤ x3 then (
  lt (up m 108 (nI 9).toNatClampNeg ((m 108 (nI 9).toNatClampNeg) + (nI 1))) fun f24 =>
  some (x2, f24)) else (
  gd (ib x3 96) <|
  gd (ib (((nI 375) + ((nI 96) * x2)) + x3) 1719) <|
  lt (up m 108 (((nI 375) + ((nI 96) * x2)) + x3).toNatClampNeg (m 114 x3.toNatClampNeg)) fun f28 =>
  k119 x2 (x3 + (nI 1)) f28)
def fX12_text_119L (n : Nat)   : Nat → Int32 → Int32 → Mm → Option (Int32 × Mm)
  | 0 => fun _ _ _ => none
  | q + 1 => fX12_text_119 n   (fX12_text_119L n   q)
set_option maxHeartbeats 4000000 in
set_option maxRecDepth 100000 in
theorem fX12_text_119_ok {V : VE} {G : GE} {N : Nat} {f m : Mm} {n : Nat} {ls : Array Slot} {r : Int32} {g : Mm} (B : CX V G cX12_text 4 "FluxWatchModel" (some .int)) (hR : V.2.2.2.1 = rmX12_text)   {k119 : Int32 → Int32 → Mm → Option (Int32 × Mm)} (hk119 : ∀ (x2 : Int32) (x3 : Int32) (mm : Mm) (ls : Array Slot),  lv_has ls 4 [(0, .ref (gz G + 107)), (2, .int x2), (3, .int x3)] → k119 x2 x3 mm = some (r, g) → WX V G N f mm 0 0 (QQ V G (some (.int r)) N f g 0 0) 119 ls []) {x2 : Int32} {x3 : Int32}  (hl : lv_has ls 4 [(0, .ref (gz G + 107)), (2, .int x2), (3, .int x3)]) (hf : fX12_text_119 n  k119 x2 x3 m = some (r, g)) : WX V G N f m 0 0 (QQ V G (some (.int r)) N f g 0 0) 119 ls [] := by
  unfold fX12_text_119 at hf
  refine x_iload_n B dX12_text_119 rfl (lv_at hl 2 rfl) ?_
  refine x_aload_n B dX12_text_120 rfl (lv_at hl 0 rfl) ?_
  refine y_getMi (C := RX12) (T := TX12) (NN := 34) B aM_107 inX12 rfl (j := 15) (by decide) q_1127 rfl rfl dX12_text_121 ?_
  refine x_icmp_ge (tgt := 154) B dX12_text_124 (by decide) (fun h23 => ?_) (fun h23 => ?_)
  · have hf := ip h23 hf
    refine x_aload_n B dX12_text_154 rfl (lv_at hl 0 rfl) ?_
    refine y_getMr (C := RX12) (T := TX12) (NN := 34) (d := 0) (k2 := 108) B aM_107 inX12 rfl (j := 0) (by decide) q_1112 rfl rfl rfl dX12_text_155 ?_
    refine x_bipush (v := (nI 9)) B dX12_text_158 (by decide) ?_
    refine x_dup2 B dX12_text_160 rfl rfl ?_
    refine x_ialdM B aM_108 (by decide) dX12_text_161 ?_
    refine x_iconst (v := (nI 1)) B dX12_text_162 (by decide) ?_
    refine x_iadd B dX12_text_163 ?_
    refine x_iastM B aM_108 (by decide) dX12_text_164 (fun f24 e25 => ?_)
    have hf := lt_some hf e25
    refine x_iload_n B dX12_text_165 rfl (lv_at hl 1 rfl) ?_
    obtain ⟨rfl, rfl⟩ := rt2 hf
    exact x_iret B dX12_text_166
  · have hf := iq h23 hf
    refine x_aload_n B dX12_text_127 rfl (lv_at hl 0 rfl) ?_
    refine y_getMr (C := RX12) (T := TX12) (NN := 34) (d := 0) (k2 := 108) B aM_107 inX12 rfl (j := 0) (by decide) q_1112 rfl rfl rfl dX12_text_128 ?_
    refine x_sipush (v := (nI 375)) B dX12_text_131 (by decide) ?_
    refine x_bipush (v := (nI 96)) B dX12_text_134 (by decide) ?_
    refine x_iload_n B dX12_text_136 rfl (lv_at hl 1 rfl) ?_
    refine x_imul B dX12_text_137 ?_
    refine x_iadd B dX12_text_138 ?_
    refine x_iload_n B dX12_text_139 rfl (lv_at hl 2 rfl) ?_
    refine x_iadd B dX12_text_140 ?_
    refine x_aload_n B dX12_text_141 rfl (lv_at hl 0 rfl) ?_
    refine y_getMr (C := RX12) (T := TX12) (NN := 34) (d := 6) (k2 := 114) B aM_107 inX12 rfl (j := 14) (by decide) q_1126 rfl rfl rfl dX12_text_142 ?_
    refine x_iload_n B dX12_text_145 rfl (lv_at hl 2 rfl) ?_
    obtain ⟨h26, hf⟩ := gd_some hf
    refine x_ialdM B aM_114 h26 dX12_text_146 ?_
    obtain ⟨h27, hf⟩ := gd_some hf
    refine x_iastM B aM_108 h27 dX12_text_147 (fun f28 e29 => ?_)
    have hf := lt_some hf e29
    refine x_iinc (k := 2) (v := (nI 1)) (lv' := [(3, .int (x3 + (nI 1))), (0, .ref (gz G + 107)), (2, .int x2)]) B dX12_text_148 hl rfl (by decide) (by decide) rfl (fun ls hl => ?_)
    refine x_goto (tgt := 119) B dX12_text_151 (by decide) ?_
    exact hk119 _ _ _ _ (lv_sub hl [1, 2, 0] rfl) hf
set_option maxHeartbeats 4000000 in
set_option maxRecDepth 100000 in
theorem fX12_text_119L_ok {V : VE} {G : GE} {N : Nat} {f : Mm} {n : Nat}  {r : Int32} {g : Mm} (B : CX V G cX12_text 4 "FluxWatchModel" (some .int)) (hR : V.2.2.2.1 = rmX12_text)   : ∀ (q : Nat) (x2 : Int32) (x3 : Int32) (mm : Mm) (ls : Array Slot),  lv_has ls 4 [(0, .ref (gz G + 107)), (2, .int x2), (3, .int x3)] → fX12_text_119L n  q x2 x3 mm = some (r, g) → WX V G N f mm 0 0 (QQ V G (some (.int r)) N f g 0 0) 119 ls [] := by
  intro q
  induction q with
  | zero =>
    intro x2 x3 mm ls hl hf
    cases hf
  | succ q ih =>
    intro x2 x3 mm ls hl hf
    exact fX12_text_119_ok B hR   ih  hl hf
def fX12_text_33 (n : Nat)   (s0 : Int32) (m : Mm) : Option (Int32 × Mm) :=
  lt (up m 107 5 (nI 0)) fun f11 =>
  if s0 = 0 then (
  some ((-100 : Int32) - (f11 107 7), f11)) else (
  if (f11 108 (nI 9).toNatClampNeg) = (nI 14) then (
  some ((-1000000003 : Int32), f11)) else (
  lt (f11 108 (nI 9).toNatClampNeg) fun v15 =>
  gd (ib ((nI 347) + ((nI 2) * v15)) 1719) <|
  lt (up f11 108 ((nI 347) + ((nI 2) * v15)).toNatClampNeg (((nI 1000) * (f11 107 11)) + (f11 107 15))) fun f18 =>
  gd (ib (((nI 347) + ((nI 2) * v15)) + (nI 1)) 1719) <|
  lt (up f18 108 (((nI 347) + ((nI 2) * v15)) + (nI 1)).toNatClampNeg (f18 107 16)) fun f21 =>
  fX12_text_119L n n v15 (nI 0) f21))
set_option maxHeartbeats 4000000 in
set_option maxRecDepth 100000 in
theorem fX12_text_33_ok {V : VE} {G : GE} {N : Nat} {f m : Mm} {n : Nat} {ls : Array Slot} {r : Int32} {g : Mm} (B : CX V G cX12_text 4 "FluxWatchModel" (some .int)) (hR : V.2.2.2.1 = rmX12_text)   {s0 : Int32}  (hl : lv_has ls 4 [(0, .ref (gz G + 107))]) (hf : fX12_text_33 n  s0 m = some (r, g)) : WX V G N f m 0 0 (QQ V G (some (.int r)) N f g 0 0) 33 ls [.int s0] := by
  unfold fX12_text_33 at hf
  refine x_istore_n (lv' := [(1, .int s0), (0, .ref (gz G + 107))]) B dX12_text_33 rfl hl (by decide) rfl (fun ls hl => ?_)
  refine x_aload_n B dX12_text_34 rfl (lv_at hl 1 rfl) ?_
  refine x_iconst (v := (nI 0)) B dX12_text_35 (by decide) ?_
  refine x_putM (C := RX12) (T := TX12) (NN := 34) (ty0 := tyX12) (ty := .int) B aM_107 inX12 tyX12_ok nmX12 rfl (j := 5) (by decide) q_1117 rfl rfl rfl rfl rfl rfl dX12_text_36 (fun f11 e12 => ?_)
  have hf := lt_some hf e12
  refine x_iload_n B dX12_text_39 rfl (lv_at hl 0 rfl) ?_
  refine x_if_ne (tgt := 51) B dX12_text_40 (by decide) (fun h13 => ?_) (fun h13 => ?_)
  · have hf := ip h13 hf
    refine x_bipush (v := (-100 : Int32)) B dX12_text_43 (by decide) ?_
    refine x_aload_n B dX12_text_45 rfl (lv_at hl 1 rfl) ?_
    refine y_getMi (C := RX12) (T := TX12) (NN := 34) B aM_107 inX12 rfl (j := 7) (by decide) q_1119 rfl rfl dX12_text_46 ?_
    refine x_isub B dX12_text_49 ?_
    obtain ⟨rfl, rfl⟩ := rt2 hf
    exact x_iret B dX12_text_50
  · have hf := iq h13 hf
    refine x_aload_n B dX12_text_51 rfl (lv_at hl 1 rfl) ?_
    refine y_getMr (C := RX12) (T := TX12) (NN := 34) (d := 0) (k2 := 108) B aM_107 inX12 rfl (j := 0) (by decide) q_1112 rfl rfl rfl dX12_text_52 ?_
    refine x_bipush (v := (nI 9)) B dX12_text_55 (by decide) ?_
    refine x_ialdM B aM_108 (by decide) dX12_text_57 ?_
    refine x_bipush (v := (nI 14)) B dX12_text_58 (by decide) ?_
    refine x_icmp_ne (tgt := 66) B dX12_text_60 (by decide) (fun h14 => ?_) (fun h14 => ?_)
    · have hf := ip h14 hf
      refine x_ldc (v := (-1000000003 : Int32)) B q_1224 dX12_text_63 ?_
      obtain ⟨rfl, rfl⟩ := rt2 hf
      exact x_iret B dX12_text_65
    · have hf := iq h14 hf
      refine x_aload_n B dX12_text_66 rfl (lv_at hl 1 rfl) ?_
      refine y_getMr (C := RX12) (T := TX12) (NN := 34) (d := 0) (k2 := 108) B aM_107 inX12 rfl (j := 0) (by decide) q_1112 rfl rfl rfl dX12_text_67 ?_
      refine x_bipush (v := (nI 9)) B dX12_text_70 (by decide) ?_
      refine x_ialdM B aM_108 (by decide) dX12_text_72 ?_
      refine x_nm (fun v15 e16 => ?_)
      have hf := lt_some hf e16
      refine x_istore_n (lv' := [(2, .int v15), (1, .int s0), (0, .ref (gz G + 107))]) B dX12_text_73 rfl hl (by decide) rfl (fun ls hl => ?_)
      refine x_aload_n B dX12_text_74 rfl (lv_at hl 2 rfl) ?_
      refine y_getMr (C := RX12) (T := TX12) (NN := 34) (d := 0) (k2 := 108) B aM_107 inX12 rfl (j := 0) (by decide) q_1112 rfl rfl rfl dX12_text_75 ?_
      refine x_sipush (v := (nI 347)) B dX12_text_78 (by decide) ?_
      refine x_iconst (v := (nI 2)) B dX12_text_81 (by decide) ?_
      refine x_iload_n B dX12_text_82 rfl (lv_at hl 0 rfl) ?_
      refine x_imul B dX12_text_83 ?_
      refine x_iadd B dX12_text_84 ?_
      refine x_sipush (v := (nI 1000)) B dX12_text_85 (by decide) ?_
      refine x_aload_n B dX12_text_88 rfl (lv_at hl 2 rfl) ?_
      refine y_getMi (C := RX12) (T := TX12) (NN := 34) B aM_107 inX12 rfl (j := 11) (by decide) q_1123 rfl rfl dX12_text_89 ?_
      refine x_imul B dX12_text_92 ?_
      refine x_aload_n B dX12_text_93 rfl (lv_at hl 2 rfl) ?_
      refine y_getMi (C := RX12) (T := TX12) (NN := 34) B aM_107 inX12 rfl (j := 15) (by decide) q_1127 rfl rfl dX12_text_94 ?_
      refine x_iadd B dX12_text_97 ?_
      obtain ⟨h17, hf⟩ := gd_some hf
      refine x_iastM B aM_108 h17 dX12_text_98 (fun f18 e19 => ?_)
      have hf := lt_some hf e19
      refine x_aload_n B dX12_text_99 rfl (lv_at hl 2 rfl) ?_
      refine y_getMr (C := RX12) (T := TX12) (NN := 34) (d := 0) (k2 := 108) B aM_107 inX12 rfl (j := 0) (by decide) q_1112 rfl rfl rfl dX12_text_100 ?_
      refine x_sipush (v := (nI 347)) B dX12_text_103 (by decide) ?_
      refine x_iconst (v := (nI 2)) B dX12_text_106 (by decide) ?_
      refine x_iload_n B dX12_text_107 rfl (lv_at hl 0 rfl) ?_
      refine x_imul B dX12_text_108 ?_
      refine x_iadd B dX12_text_109 ?_
      refine x_iconst (v := (nI 1)) B dX12_text_110 (by decide) ?_
      refine x_iadd B dX12_text_111 ?_
      refine x_aload_n B dX12_text_112 rfl (lv_at hl 2 rfl) ?_
      refine y_getMi (C := RX12) (T := TX12) (NN := 34) B aM_107 inX12 rfl (j := 16) (by decide) q_1128 rfl rfl dX12_text_113 ?_
      obtain ⟨h20, hf⟩ := gd_some hf
      refine x_iastM B aM_108 h20 dX12_text_116 (fun f21 e22 => ?_)
      have hf := lt_some hf e22
      refine x_iconst (v := (nI 0)) B dX12_text_117 (by decide) ?_
      refine x_istore_n (lv' := [(3, .int (nI 0)), (2, .int v15), (1, .int s0), (0, .ref (gz G + 107))]) B dX12_text_118 rfl hl (by decide) rfl (fun ls hl => ?_)
      exact fX12_text_119L_ok B hR  n _ _ _ _ (lv_sub hl [3, 1, 0] rfl) hf
def fX12_text_32 (n : Nat)    (m : Mm) : Option (Int32 × Mm) :=
  fX12_text_33 n (nI 0) m
set_option maxHeartbeats 4000000 in
set_option maxRecDepth 100000 in
theorem fX12_text_32_ok {V : VE} {G : GE} {N : Nat} {f m : Mm} {n : Nat} {ls : Array Slot} {r : Int32} {g : Mm} (B : CX V G cX12_text 4 "FluxWatchModel" (some .int)) (hR : V.2.2.2.1 = rmX12_text)     (hl : lv_has ls 4 [(0, .ref (gz G + 107))]) (hf : fX12_text_32 n  m = some (r, g)) : WX V G N f m 0 0 (QQ V G (some (.int r)) N f g 0 0) 32 ls [] := by
  unfold fX12_text_32 at hf
  refine x_iconst (v := (nI 0)) B dX12_text_32 (by decide) ?_
  exact fX12_text_33_ok B hR  hl hf
def fX12_text (n : Nat)  (m : Mm) : Option (Int32 × Mm) :=
  lt (up m 107 6 (nI 0)) fun f1 =>
  lt (up f1 107 10 (-1 : Int32)) fun f3 =>
  bn (fX12_go n f3) fun f6 =>
  bn2 (fX12_takesKey n f6) fun r9 f8 =>
  if r9 = 0 then (
  fX12_text_32 n f8) else (
  bn2 (fX12_takesE n f8) fun r32 f31 =>
  if r32 = 0 then (
  fX12_text_32 n f31) else (
  fX12_text_33 n (nI 1) f31))
set_option maxHeartbeats 4000000 in
set_option maxRecDepth 100000 in
theorem kX12_text {l : Launch} {G : GE} {N : Nat} {f m : Mm} {n : Nat}  {r : Int32} {g : Mm}  (hf : fX12_text n m = some (r, g)) : MT l G yX12_text cX12_text 4 (some .int) rmX12_text [.ref (gz G + 107)] N f m (some (.int r)) N f g := by
  unfold fX12_text at hf
  refine MT.of (by decide) (Nat.le_of_ble_eq_true rfl) (fun V ls hV hR B hl => ?_)
  have B : CX V G cX12_text 4 "FluxWatchModel" (some .int) := B
  have hl : lv_has ls 4 [(0, .ref (gz G + 107))] := hl
  show WX V G N f m 0 0 (QQ V G (some (.int r)) N f g 0 0) 0 ls []
  refine x_aload_n B dX12_text_0 rfl (lv_at hl 0 rfl) ?_
  refine x_iconst (v := (nI 0)) B dX12_text_1 (by decide) ?_
  refine x_putM (C := RX12) (T := TX12) (NN := 34) (ty0 := tyX12) (ty := .int) B aM_107 inX12 tyX12_ok nmX12 rfl (j := 6) (by decide) q_1118 rfl rfl rfl rfl rfl rfl dX12_text_2 (fun f1 e2 => ?_)
  have hf := lt_some hf e2
  refine x_aload_n B dX12_text_5 rfl (lv_at hl 0 rfl) ?_
  refine x_iconst (v := (-1 : Int32)) B dX12_text_6 (by decide) ?_
  refine x_putM (C := RX12) (T := TX12) (NN := 34) (ty0 := tyX12) (ty := .int) B aM_107 inX12 tyX12_ok nmX12 rfl (j := 10) (by decide) q_1122 rfl rfl rfl rfl rfl rfl dX12_text_7 (fun f3 e4 => ?_)
  have hf := lt_some hf e4
  refine x_aload_n B dX12_text_10 rfl (lv_at hl 0 rfl) ?_
  obtain ⟨f6, c5, hf⟩ := bn_some hf
  refine x_callV0 (rest := []) B (kX12_go c5) ⟨rfl, rfl⟩ aM_107.lt aM_107.2 rfl (by decide) q_1437 q_1439 q_29 (by rw [hR]; exact cw_X12_text_X12_go) rfl rfl hl.1 (Nat.le_of_ble_eq_true rfl) dX12_text_11 ⟨Nat.zero_le _, Nat.zero_le _⟩ ?_
  refine x_aload_n B dX12_text_14 rfl (lv_at hl 0 rfl) ?_
  obtain ⟨r9, f8, c7, hf⟩ := bn2_some hf
  refine x_callV0 (rest := []) B (kX12_takesKey c7) ⟨rfl, rfl⟩ aM_107.lt aM_107.2 rfl (by decide) q_1449 q_1451 q_32 (by rw [hR]; exact cw_X12_text_X12_takesKey) rfl rfl hl.1 (Nat.le_of_ble_eq_true rfl) dX12_text_15 ⟨Nat.zero_le _, Nat.zero_le _⟩ ?_
  refine x_if_eq (tgt := 32) B dX12_text_18 (by decide) (fun h10 => ?_) (fun h10 => ?_)
  · have hf := ip h10 hf
    exact fX12_text_32_ok B hR  hl hf
  · have hf := iq h10 hf
    refine x_aload_n B dX12_text_21 rfl (lv_at hl 0 rfl) ?_
    obtain ⟨r32, f31, c30, hf⟩ := bn2_some hf
    refine x_callV0 (rest := []) B (kX12_takesE c30) ⟨rfl, rfl⟩ aM_107.lt aM_107.2 rfl (by decide) q_1453 q_1455 q_33 (by rw [hR]; exact cw_X12_text_X12_takesE) rfl rfl hl.1 (Nat.le_of_ble_eq_true rfl) dX12_text_22 ⟨Nat.zero_le _, Nat.zero_le _⟩ ?_
    refine x_if_eq (tgt := 32) B dX12_text_25 (by decide) (fun h33 => ?_) (fun h33 => ?_)
    · have hf := ip h33 hf
      exact fX12_text_32_ok B hR  hl hf
    · have hf := iq h33 hf
      refine x_iconst (v := (nI 1)) B dX12_text_28 (by decide) ?_
      refine x_goto (tgt := 33) B dX12_text_29 (by decide) ?_
      exact fX12_text_33_ok B hR  hl hf
def rmX12_textTold : Room := { frames := 1, cells := 0, slots := 0, locals := 22 }
set_option maxHeartbeats 4000000 in
set_option maxRecDepth 100000 in
theorem cw_X12_textTold_X12_in : cwB rmX12_textTold rmX12_in yX12_in cX12_in 3 (some .boolean) 3 := ⟨q_1222, q_57, by decide, by decide⟩
def fX12_textTold (n : Nat) (a1 : Int32) (a2 : Int32) (m : Mm) : Option (Int32) :=
  bn (fX12_in n a1 (nI 0) ((m 108 (nI 9).toNatClampNeg) - (nI 1))) fun r2 =>
  if r2 = 0 then (
  some (-1000000001 : Int32)) else (
  bn (fX12_in n a2 (nI 0) (nI 1)) fun r5 =>
  if r5 = 0 then (
  some (-1000000001 : Int32)) else (
  if a2 = 0 then (
  gd (ib ((nI 347) + ((nI 2) * a1)) 1719) <|
  some ((m 108 ((nI 347) + ((nI 2) * a1)).toNatClampNeg) / (nI 1000))) else (
  gd (ib (((nI 347) + ((nI 2) * a1)) + (nI 1)) 1719) <|
  some (m 108 (((nI 347) + ((nI 2) * a1)) + (nI 1)).toNatClampNeg))))
set_option maxHeartbeats 4000000 in
set_option maxRecDepth 100000 in
theorem kX12_textTold {l : Launch} {G : GE} {N : Nat} {f m : Mm} {n : Nat} {a1 : Int32} {a2 : Int32} {r : Int32}  (hf : fX12_textTold n a1 a2 m = some r) : MT l G yX12_textTold cX12_textTold 3 (some .int) rmX12_textTold [.ref (gz G + 107), .int a1, .int a2] N f m (some (.int r)) N f m := by
  unfold fX12_textTold at hf
  refine MT.of (by decide) (Nat.le_of_ble_eq_true rfl) (fun V ls hV hR B hl => ?_)
  have B : CX V G cX12_textTold 3 "FluxWatchModel" (some .int) := B
  have hl : lv_has ls 3 [(0, .ref (gz G + 107)), (1, .int a1), (2, .int a2)] := hl
  show WX V G N f m 0 0 (QQ V G (some (.int r)) N f m 0 0) 0 ls []
  refine x_iload_n B dX12_textTold_0 rfl (lv_at hl 1 rfl) ?_
  refine x_iconst (v := (nI 0)) B dX12_textTold_1 (by decide) ?_
  refine x_aload_n B dX12_textTold_2 rfl (lv_at hl 0 rfl) ?_
  refine y_getMr (C := RX12) (T := TX12) (NN := 34) (d := 0) (k2 := 108) B aM_107 inX12 rfl (j := 0) (by decide) q_1112 rfl rfl rfl dX12_textTold_3 ?_
  refine x_bipush (v := (nI 9)) B dX12_textTold_6 (by decide) ?_
  refine x_ialdM B aM_108 (by decide) dX12_textTold_8 ?_
  refine x_iconst (v := (nI 1)) B dX12_textTold_9 (by decide) ?_
  refine x_isub B dX12_textTold_10 ?_
  obtain ⟨r2, c1, hf⟩ := bn_some hf
  refine x_callS0 (rest := []) B (kX12_in c1) ⟨rfl, rfl⟩ q_1220 q_1221 (by rw [hR]; exact cw_X12_textTold_X12_in) rfl rfl hl.1 (Nat.le_of_ble_eq_true rfl) dX12_textTold_11 ⟨Nat.zero_le _, Nat.zero_le _⟩ ?_
  refine x_if_eq (tgt := 26) B dX12_textTold_14 (by decide) (fun h3 => ?_) (fun h3 => ?_)
  · have hf := ip h3 hf
    refine x_ldc (v := (-1000000001 : Int32)) B q_1223 dX12_textTold_26 ?_
    obtain rfl := rt1 hf
    exact x_iret B dX12_textTold_28
  · have hf := iq h3 hf
    refine x_iload_n B dX12_textTold_17 rfl (lv_at hl 2 rfl) ?_
    refine x_iconst (v := (nI 0)) B dX12_textTold_18 (by decide) ?_
    refine x_iconst (v := (nI 1)) B dX12_textTold_19 (by decide) ?_
    obtain ⟨r5, c4, hf⟩ := bn_some hf
    refine x_callS0 (rest := []) B (kX12_in c4) ⟨rfl, rfl⟩ q_1220 q_1221 (by rw [hR]; exact cw_X12_textTold_X12_in) rfl rfl hl.1 (Nat.le_of_ble_eq_true rfl) dX12_textTold_20 ⟨Nat.zero_le _, Nat.zero_le _⟩ ?_
    refine x_if_ne (tgt := 29) B dX12_textTold_23 (by decide) (fun h6 => ?_) (fun h6 => ?_)
    · have hf := ip h6 hf
      refine x_ldc (v := (-1000000001 : Int32)) B q_1223 dX12_textTold_26 ?_
      obtain rfl := rt1 hf
      exact x_iret B dX12_textTold_28
    · have hf := iq h6 hf
      refine x_iload_n B dX12_textTold_29 rfl (lv_at hl 2 rfl) ?_
      refine x_if_ne (tgt := 52) B dX12_textTold_30 (by decide) (fun h7 => ?_) (fun h7 => ?_)
      · have hf := ip h7 hf
        refine x_aload_n B dX12_textTold_33 rfl (lv_at hl 0 rfl) ?_
        refine y_getMr (C := RX12) (T := TX12) (NN := 34) (d := 0) (k2 := 108) B aM_107 inX12 rfl (j := 0) (by decide) q_1112 rfl rfl rfl dX12_textTold_34 ?_
        refine x_sipush (v := (nI 347)) B dX12_textTold_37 (by decide) ?_
        refine x_iconst (v := (nI 2)) B dX12_textTold_40 (by decide) ?_
        refine x_iload_n B dX12_textTold_41 rfl (lv_at hl 1 rfl) ?_
        refine x_imul B dX12_textTold_42 ?_
        refine x_iadd B dX12_textTold_43 ?_
        obtain ⟨h8, hf⟩ := gd_some hf
        refine x_ialdM B aM_108 h8 dX12_textTold_44 ?_
        refine x_sipush (v := (nI 1000)) B dX12_textTold_45 (by decide) ?_
        refine x_idiv B dX12_textTold_48 (by decide) ?_
        refine x_goto (tgt := 66) B dX12_textTold_49 (by decide) ?_
        obtain rfl := rt1 hf
        exact x_iret B dX12_textTold_66
      · have hf := iq h7 hf
        refine x_aload_n B dX12_textTold_52 rfl (lv_at hl 0 rfl) ?_
        refine y_getMr (C := RX12) (T := TX12) (NN := 34) (d := 0) (k2 := 108) B aM_107 inX12 rfl (j := 0) (by decide) q_1112 rfl rfl rfl dX12_textTold_53 ?_
        refine x_sipush (v := (nI 347)) B dX12_textTold_56 (by decide) ?_
        refine x_iconst (v := (nI 2)) B dX12_textTold_59 (by decide) ?_
        refine x_iload_n B dX12_textTold_60 rfl (lv_at hl 1 rfl) ?_
        refine x_imul B dX12_textTold_61 ?_
        refine x_iadd B dX12_textTold_62 ?_
        refine x_iconst (v := (nI 1)) B dX12_textTold_63 (by decide) ?_
        refine x_iadd B dX12_textTold_64 ?_
        obtain ⟨h9, hf⟩ := gd_some hf
        refine x_ialdM B aM_108 h9 dX12_textTold_65 ?_
        obtain rfl := rt1 hf
        exact x_iret B dX12_textTold_66
def rmX12_told : Room := { frames := 3, cells := 0, slots := 0, locals := 70 }
set_option maxHeartbeats 4000000 in
set_option maxRecDepth 100000 in
theorem cw_X12_told_X12_fits : cwB rmX12_told rmX12_fits yX12_fits cX12_fits 5 (some .boolean) 1 := ⟨q_1304, q_57, by decide, by decide⟩
set_option maxHeartbeats 4000000 in
set_option maxRecDepth 100000 in
theorem cw_X12_told_X12_in : cwB rmX12_told rmX12_in yX12_in cX12_in 3 (some .boolean) 3 := ⟨q_1222, q_57, by decide, by decide⟩
set_option maxHeartbeats 4000000 in
set_option maxRecDepth 100000 in
theorem cw_X12_told_X12_isStep : cwB rmX12_told rmX12_isStep yX12_isStep cX12_isStep 2 (some .boolean) 1 := ⟨q_1300, q_57, by decide, by decide⟩
set_option maxHeartbeats 4000000 in
set_option maxRecDepth 100000 in
theorem cw_X12_told_X12_step4 : cwB rmX12_told rmX12_step4 yX12_step4 cX12_step4 3 (some .int) 2 := ⟨q_1245, q_57, by decide, by decide⟩
set_option maxHeartbeats 4000000 in
set_option maxRecDepth 100000 in
theorem cw_X12_told_X12_worthBy : cwB rmX12_told rmX12_worthBy yX12_worthBy cX12_worthBy 4 (some .int) 2 := ⟨q_1319, q_57, by decide, by decide⟩
def fX12_told (n : Nat) (a1 : Int32) (a2 : Int32) (m : Mm) : Option (Int32) :=
  bn (fX12_isStep n a1 m) fun r2 =>
  if r2 = 0 then (
  some (-1000000001 : Int32)) else (
  bn (fX12_in n a2 (nI 0) (nI 5)) fun r5 =>
  if r5 = 0 then (
  some (-1000000001 : Int32)) else (
  if (nI 4) ≤ a2 then (
  if a2 = (nI 4) then (
  bn (fX12_fits n a1 m) fun r10 =>
  if r10 = 0 then (
  some (nI 0)) else (
  some (nI 1))) else (
  bn (fX12_step4 n a1 (nI 0) m) fun r13 =>
  bn (fX12_step4 n a1 (nI 3) m) fun r15 =>
  bn (fX12_worthBy n r13 r15 m) fun r17 =>
  some r17)) else (
  bn (fX12_step4 n a1 a2 m) fun r19 =>
  some r19)))
set_option maxHeartbeats 4000000 in
set_option maxRecDepth 100000 in
theorem kX12_told {l : Launch} {G : GE} {N : Nat} {f m : Mm} {n : Nat} {a1 : Int32} {a2 : Int32} {r : Int32}  (hf : fX12_told n a1 a2 m = some r) : MT l G yX12_told cX12_told 3 (some .int) rmX12_told [.ref (gz G + 107), .int a1, .int a2] N f m (some (.int r)) N f m := by
  unfold fX12_told at hf
  refine MT.of (by decide) (Nat.le_of_ble_eq_true rfl) (fun V ls hV hR B hl => ?_)
  have B : CX V G cX12_told 3 "FluxWatchModel" (some .int) := B
  have hl : lv_has ls 3 [(0, .ref (gz G + 107)), (1, .int a1), (2, .int a2)] := hl
  show WX V G N f m 0 0 (QQ V G (some (.int r)) N f m 0 0) 0 ls []
  refine x_aload_n B dX12_told_0 rfl (lv_at hl 0 rfl) ?_
  refine x_iload_n B dX12_told_1 rfl (lv_at hl 1 rfl) ?_
  obtain ⟨r2, c1, hf⟩ := bn_some hf
  refine x_callV0 (rest := []) B (kX12_isStep c1) ⟨rfl, rfl⟩ aM_107.lt aM_107.2 rfl (by decide) q_1297 q_1299 q_14 (by rw [hR]; exact cw_X12_told_X12_isStep) rfl rfl hl.1 (Nat.le_of_ble_eq_true rfl) dX12_told_2 ⟨Nat.zero_le _, Nat.zero_le _⟩ ?_
  refine x_if_eq (tgt := 17) B dX12_told_5 (by decide) (fun h3 => ?_) (fun h3 => ?_)
  · have hf := ip h3 hf
    refine x_ldc (v := (-1000000001 : Int32)) B q_1223 dX12_told_17 ?_
    obtain rfl := rt1 hf
    exact x_iret B dX12_told_19
  · have hf := iq h3 hf
    refine x_iload_n B dX12_told_8 rfl (lv_at hl 2 rfl) ?_
    refine x_iconst (v := (nI 0)) B dX12_told_9 (by decide) ?_
    refine x_iconst (v := (nI 5)) B dX12_told_10 (by decide) ?_
    obtain ⟨r5, c4, hf⟩ := bn_some hf
    refine x_callS0 (rest := []) B (kX12_in c4) ⟨rfl, rfl⟩ q_1220 q_1221 (by rw [hR]; exact cw_X12_told_X12_in) rfl rfl hl.1 (Nat.le_of_ble_eq_true rfl) dX12_told_11 ⟨Nat.zero_le _, Nat.zero_le _⟩ ?_
    refine x_if_ne (tgt := 20) B dX12_told_14 (by decide) (fun h6 => ?_) (fun h6 => ?_)
    · have hf := ip h6 hf
      refine x_ldc (v := (-1000000001 : Int32)) B q_1223 dX12_told_17 ?_
      obtain rfl := rt1 hf
      exact x_iret B dX12_told_19
    · have hf := iq h6 hf
      refine x_iload_n B dX12_told_20 rfl (lv_at hl 2 rfl) ?_
      refine x_iconst (v := (nI 4)) B dX12_told_21 (by decide) ?_
      refine x_icmp_ge (tgt := 34) B dX12_told_22 (by decide) (fun h7 => ?_) (fun h7 => ?_)
      · have hf := ip h7 hf
        refine x_iload_n B dX12_told_34 rfl (lv_at hl 2 rfl) ?_
        refine x_iconst (v := (nI 4)) B dX12_told_35 (by decide) ?_
        refine x_icmp_ne (tgt := 55) B dX12_told_36 (by decide) (fun h8 => ?_) (fun h8 => ?_)
        · have hf := ip h8 hf
          refine x_aload_n B dX12_told_39 rfl (lv_at hl 0 rfl) ?_
          refine x_iload_n B dX12_told_40 rfl (lv_at hl 1 rfl) ?_
          obtain ⟨r10, c9, hf⟩ := bn_some hf
          refine x_callV0 (rest := []) B (kX12_fits c9) ⟨rfl, rfl⟩ aM_107.lt aM_107.2 rfl (by decide) q_1301 q_1303 q_15 (by rw [hR]; exact cw_X12_told_X12_fits) rfl rfl hl.1 (Nat.le_of_ble_eq_true rfl) dX12_told_41 ⟨Nat.zero_le _, Nat.zero_le _⟩ ?_
          refine x_if_eq (tgt := 51) B dX12_told_44 (by decide) (fun h11 => ?_) (fun h11 => ?_)
          · have hf := ip h11 hf
            refine x_iconst (v := (nI 0)) B dX12_told_51 (by decide) ?_
            refine x_goto (tgt := 71) B dX12_told_52 (by decide) ?_
            obtain rfl := rt1 hf
            exact x_iret B dX12_told_71
          · have hf := iq h11 hf
            refine x_iconst (v := (nI 1)) B dX12_told_47 (by decide) ?_
            refine x_goto (tgt := 71) B dX12_told_48 (by decide) ?_
            obtain rfl := rt1 hf
            exact x_iret B dX12_told_71
        · have hf := iq h8 hf
          refine x_aload_n B dX12_told_55 rfl (lv_at hl 0 rfl) ?_
          refine x_aload_n B dX12_told_56 rfl (lv_at hl 0 rfl) ?_
          refine x_iload_n B dX12_told_57 rfl (lv_at hl 1 rfl) ?_
          refine x_iconst (v := (nI 0)) B dX12_told_58 (by decide) ?_
          obtain ⟨r13, c12, hf⟩ := bn_some hf
          refine x_callV0 (rest := [.ref (gz G + 107)]) B (kX12_step4 c12) ⟨rfl, rfl⟩ aM_107.lt aM_107.2 rfl (by decide) q_1242 q_1244 q_10 (by rw [hR]; exact cw_X12_told_X12_step4) rfl rfl hl.1 (Nat.le_of_ble_eq_true rfl) dX12_told_59 ⟨Nat.zero_le _, Nat.zero_le _⟩ ?_
          refine x_aload_n B dX12_told_62 rfl (lv_at hl 0 rfl) ?_
          refine x_iload_n B dX12_told_63 rfl (lv_at hl 1 rfl) ?_
          refine x_iconst (v := (nI 3)) B dX12_told_64 (by decide) ?_
          obtain ⟨r15, c14, hf⟩ := bn_some hf
          refine x_callV0 (rest := [.int r13, .ref (gz G + 107)]) B (kX12_step4 c14) ⟨rfl, rfl⟩ aM_107.lt aM_107.2 rfl (by decide) q_1242 q_1244 q_10 (by rw [hR]; exact cw_X12_told_X12_step4) rfl rfl hl.1 (Nat.le_of_ble_eq_true rfl) dX12_told_65 ⟨Nat.zero_le _, Nat.zero_le _⟩ ?_
          obtain ⟨r17, c16, hf⟩ := bn_some hf
          refine x_callV0 (rest := []) B (kX12_worthBy c16) ⟨rfl, rfl⟩ aM_107.lt aM_107.2 rfl (by decide) q_1316 q_1318 q_18 (by rw [hR]; exact cw_X12_told_X12_worthBy) rfl rfl hl.1 (Nat.le_of_ble_eq_true rfl) dX12_told_68 ⟨Nat.zero_le _, Nat.zero_le _⟩ ?_
          obtain rfl := rt1 hf
          exact x_iret B dX12_told_71
      · have hf := iq h7 hf
        refine x_aload_n B dX12_told_25 rfl (lv_at hl 0 rfl) ?_
        refine x_iload_n B dX12_told_26 rfl (lv_at hl 1 rfl) ?_
        refine x_iload_n B dX12_told_27 rfl (lv_at hl 2 rfl) ?_
        obtain ⟨r19, c18, hf⟩ := bn_some hf
        refine x_callV0 (rest := []) B (kX12_step4 c18) ⟨rfl, rfl⟩ aM_107.lt aM_107.2 rfl (by decide) q_1242 q_1244 q_10 (by rw [hR]; exact cw_X12_told_X12_step4) rfl rfl hl.1 (Nat.le_of_ble_eq_true rfl) dX12_told_28 ⟨Nat.zero_le _, Nat.zero_le _⟩ ?_
        refine x_goto (tgt := 71) B dX12_told_31 (by decide) ?_
        obtain rfl := rt1 hf
        exact x_iret B dX12_told_71
def rmX12_trim : Room := { frames := 1, cells := 0, slots := 0, locals := 22 }
set_option maxHeartbeats 4000000 in
set_option maxRecDepth 100000 in
theorem cw_X12_trim_X12_in : cwB rmX12_trim rmX12_in yX12_in cX12_in 3 (some .boolean) 3 := ⟨q_1222, q_57, by decide, by decide⟩
def fX12_trim (n : Nat) (a1 : Int32) (m : Mm) : Option (Int32 × Mm) :=
  bn (fX12_in n a1 (nI 0) (m 107 5)) fun r2 =>
  if r2 = 0 then (
  some ((-1000000001 : Int32), m)) else (
  lt (up m 107 5 a1) fun f4 =>
  some (a1, f4))
set_option maxHeartbeats 4000000 in
set_option maxRecDepth 100000 in
theorem kX12_trim {l : Launch} {G : GE} {N : Nat} {f m : Mm} {n : Nat} {a1 : Int32} {r : Int32} {g : Mm}  (hf : fX12_trim n a1 m = some (r, g)) : MT l G yX12_trim cX12_trim 2 (some .int) rmX12_trim [.ref (gz G + 107), .int a1] N f m (some (.int r)) N f g := by
  unfold fX12_trim at hf
  refine MT.of (by decide) (Nat.le_of_ble_eq_true rfl) (fun V ls hV hR B hl => ?_)
  have B : CX V G cX12_trim 2 "FluxWatchModel" (some .int) := B
  have hl : lv_has ls 2 [(0, .ref (gz G + 107)), (1, .int a1)] := hl
  show WX V G N f m 0 0 (QQ V G (some (.int r)) N f g 0 0) 0 ls []
  refine x_iload_n B dX12_trim_0 rfl (lv_at hl 1 rfl) ?_
  refine x_iconst (v := (nI 0)) B dX12_trim_1 (by decide) ?_
  refine x_aload_n B dX12_trim_2 rfl (lv_at hl 0 rfl) ?_
  refine y_getMi (C := RX12) (T := TX12) (NN := 34) B aM_107 inX12 rfl (j := 5) (by decide) q_1117 rfl rfl dX12_trim_3 ?_
  obtain ⟨r2, c1, hf⟩ := bn_some hf
  refine x_callS0 (rest := []) B (kX12_in c1) ⟨rfl, rfl⟩ q_1220 q_1221 (by rw [hR]; exact cw_X12_trim_X12_in) rfl rfl hl.1 (Nat.le_of_ble_eq_true rfl) dX12_trim_6 ⟨Nat.zero_le _, Nat.zero_le _⟩ ?_
  refine x_if_ne (tgt := 15) B dX12_trim_9 (by decide) (fun h3 => ?_) (fun h3 => ?_)
  · have hf := ip h3 hf
    refine x_ldc (v := (-1000000001 : Int32)) B q_1223 dX12_trim_12 ?_
    obtain ⟨rfl, rfl⟩ := rt2 hf
    exact x_iret B dX12_trim_14
  · have hf := iq h3 hf
    refine x_aload_n B dX12_trim_15 rfl (lv_at hl 0 rfl) ?_
    refine x_iload_n B dX12_trim_16 rfl (lv_at hl 1 rfl) ?_
    refine x_putM (C := RX12) (T := TX12) (NN := 34) (ty0 := tyX12) (ty := .int) B aM_107 inX12 tyX12_ok nmX12 rfl (j := 5) (by decide) q_1117 rfl rfl rfl rfl rfl rfl dX12_trim_17 (fun f4 e5 => ?_)
    have hf := lt_some hf e5
    refine x_iload_n B dX12_trim_20 rfl (lv_at hl 1 rfl) ?_
    obtain ⟨rfl, rfl⟩ := rt2 hf
    exact x_iret B dX12_trim_21
def rmX12_turns : Room := { frames := 2, cells := 0, slots := 0, locals := 43 }
set_option maxHeartbeats 4000000 in
set_option maxRecDepth 100000 in
theorem cw_X12_turns_X12_in : cwB rmX12_turns rmX12_in yX12_in cX12_in 3 (some .boolean) 3 := ⟨q_1222, q_57, by decide, by decide⟩
set_option maxHeartbeats 4000000 in
set_option maxRecDepth 100000 in
theorem cw_X12_turns_X12_isStep : cwB rmX12_turns rmX12_isStep yX12_isStep cX12_isStep 2 (some .boolean) 1 := ⟨q_1300, q_57, by decide, by decide⟩
set_option maxHeartbeats 4000000 in
set_option maxRecDepth 100000 in
theorem cw_X12_turns_X12_step4 : cwB rmX12_turns rmX12_step4 yX12_step4 cX12_step4 3 (some .int) 2 := ⟨q_1245, q_57, by decide, by decide⟩
def fX12_turns (n : Nat) (a1 : Int32) (a2 : Int32) (m : Mm) : Option (Int32 × Mm) :=
  bn (fX12_isStep n a1 m) fun r2 =>
  if r2 = 0 then (
  some ((-1000000001 : Int32), m)) else (
  bn (fX12_in n a2 (nI 0) (nI 5)) fun r5 =>
  if r5 = 0 then (
  some ((-1000000001 : Int32), m)) else (
  bn (fX12_step4 n a1 (nI 0) m) fun r8 =>
  gd (ib ((nI 91) + ((nI 4) * a1)) 1719) <|
  lt (up m 108 ((nI 91) + ((nI 4) * a1)).toNatClampNeg a2) fun f10 =>
  some (r8, f10)))
set_option maxHeartbeats 4000000 in
set_option maxRecDepth 100000 in
theorem kX12_turns {l : Launch} {G : GE} {N : Nat} {f m : Mm} {n : Nat} {a1 : Int32} {a2 : Int32} {r : Int32} {g : Mm}  (hf : fX12_turns n a1 a2 m = some (r, g)) : MT l G yX12_turns cX12_turns 4 (some .int) rmX12_turns [.ref (gz G + 107), .int a1, .int a2] N f m (some (.int r)) N f g := by
  unfold fX12_turns at hf
  refine MT.of (by decide) (Nat.le_of_ble_eq_true rfl) (fun V ls hV hR B hl => ?_)
  have B : CX V G cX12_turns 4 "FluxWatchModel" (some .int) := B
  have hl : lv_has ls 4 [(0, .ref (gz G + 107)), (1, .int a1), (2, .int a2)] := hl
  show WX V G N f m 0 0 (QQ V G (some (.int r)) N f g 0 0) 0 ls []
  refine x_aload_n B dX12_turns_0 rfl (lv_at hl 0 rfl) ?_
  refine x_iload_n B dX12_turns_1 rfl (lv_at hl 1 rfl) ?_
  obtain ⟨r2, c1, hf⟩ := bn_some hf
  refine x_callV0 (rest := []) B (kX12_isStep c1) ⟨rfl, rfl⟩ aM_107.lt aM_107.2 rfl (by decide) q_1297 q_1299 q_14 (by rw [hR]; exact cw_X12_turns_X12_isStep) rfl rfl hl.1 (Nat.le_of_ble_eq_true rfl) dX12_turns_2 ⟨Nat.zero_le _, Nat.zero_le _⟩ ?_
  refine x_if_eq (tgt := 17) B dX12_turns_5 (by decide) (fun h3 => ?_) (fun h3 => ?_)
  · have hf := ip h3 hf
    refine x_ldc (v := (-1000000001 : Int32)) B q_1223 dX12_turns_17 ?_
    obtain ⟨rfl, rfl⟩ := rt2 hf
    exact x_iret B dX12_turns_19
  · have hf := iq h3 hf
    refine x_iload_n B dX12_turns_8 rfl (lv_at hl 2 rfl) ?_
    refine x_iconst (v := (nI 0)) B dX12_turns_9 (by decide) ?_
    refine x_iconst (v := (nI 5)) B dX12_turns_10 (by decide) ?_
    obtain ⟨r5, c4, hf⟩ := bn_some hf
    refine x_callS0 (rest := []) B (kX12_in c4) ⟨rfl, rfl⟩ q_1220 q_1221 (by rw [hR]; exact cw_X12_turns_X12_in) rfl rfl hl.1 (Nat.le_of_ble_eq_true rfl) dX12_turns_11 ⟨Nat.zero_le _, Nat.zero_le _⟩ ?_
    refine x_if_ne (tgt := 20) B dX12_turns_14 (by decide) (fun h6 => ?_) (fun h6 => ?_)
    · have hf := ip h6 hf
      refine x_ldc (v := (-1000000001 : Int32)) B q_1223 dX12_turns_17 ?_
      obtain ⟨rfl, rfl⟩ := rt2 hf
      exact x_iret B dX12_turns_19
    · have hf := iq h6 hf
      refine x_aload_n B dX12_turns_20 rfl (lv_at hl 0 rfl) ?_
      refine x_iload_n B dX12_turns_21 rfl (lv_at hl 1 rfl) ?_
      refine x_iconst (v := (nI 0)) B dX12_turns_22 (by decide) ?_
      obtain ⟨r8, c7, hf⟩ := bn_some hf
      refine x_callV0 (rest := []) B (kX12_step4 c7) ⟨rfl, rfl⟩ aM_107.lt aM_107.2 rfl (by decide) q_1242 q_1244 q_10 (by rw [hR]; exact cw_X12_turns_X12_step4) rfl rfl hl.1 (Nat.le_of_ble_eq_true rfl) dX12_turns_23 ⟨Nat.zero_le _, Nat.zero_le _⟩ ?_
      refine x_istore_n (lv' := [(3, .int r8), (0, .ref (gz G + 107)), (1, .int a1), (2, .int a2)]) B dX12_turns_26 rfl hl (by decide) rfl (fun ls hl => ?_)
      refine x_aload_n B dX12_turns_27 rfl (lv_at hl 1 rfl) ?_
      refine y_getMr (C := RX12) (T := TX12) (NN := 34) (d := 0) (k2 := 108) B aM_107 inX12 rfl (j := 0) (by decide) q_1112 rfl rfl rfl dX12_turns_28 ?_
      refine x_bipush (v := (nI 91)) B dX12_turns_31 (by decide) ?_
      refine x_iconst (v := (nI 4)) B dX12_turns_33 (by decide) ?_
      refine x_iload_n B dX12_turns_34 rfl (lv_at hl 2 rfl) ?_
      refine x_imul B dX12_turns_35 ?_
      refine x_iadd B dX12_turns_36 ?_
      refine x_iload_n B dX12_turns_37 rfl (lv_at hl 3 rfl) ?_
      obtain ⟨h9, hf⟩ := gd_some hf
      refine x_iastM B aM_108 h9 dX12_turns_38 (fun f10 e11 => ?_)
      have hf := lt_some hf e11
      refine x_iload_n B dX12_turns_39 rfl (lv_at hl 0 rfl) ?_
      obtain ⟨rfl, rfl⟩ := rt2 hf
      exact x_iret B dX12_turns_40
def rmX12_watch : Room := { frames := 3, cells := 0, slots := 0, locals := 63 }
set_option maxHeartbeats 4000000 in
set_option maxRecDepth 100000 in
theorem cw_X12_watch_X12_isCoil : cwB rmX12_watch rmX12_isCoil yX12_isCoil cX12_isCoil 2 (some .boolean) 1 := ⟨q_1232, q_57, by decide, by decide⟩
set_option maxHeartbeats 4000000 in
set_option maxRecDepth 100000 in
theorem cw_X12_watch_X12_isSpan : cwB rmX12_watch rmX12_isSpan yX12_isSpan cX12_isSpan 2 (some .boolean) 2 := ⟨q_1265, q_57, by decide, by decide⟩
def fX12_watch (n : Nat) (a1 : Int32) (a2 : Int32) (a3 : Int32) (m : Mm) : Option (Int32 × Mm) :=
  bn (fX12_isCoil n a1 m) fun r2 =>
  if r2 = 0 then (
  some ((-1000000001 : Int32), m)) else (
  bn (fX12_isSpan n a2 a3) fun r5 =>
  if r5 = 0 then (
  some ((-1000000001 : Int32), m)) else (
  if (m 108 (nI 7).toNatClampNeg) = (nI 20) then (
  some ((-1000000003 : Int32), m)) else (
  lt ((nI 31) + ((nI 3) * (m 108 (nI 7).toNatClampNeg))) fun v8 =>
  gd (ib v8 1719) <|
  lt (up m 108 v8.toNatClampNeg a1) fun f11 =>
  gd (ib (v8 + (nI 1)) 1719) <|
  lt (up f11 108 (v8 + (nI 1)).toNatClampNeg a2) fun f14 =>
  gd (ib (v8 + (nI 2)) 1719) <|
  lt (up f14 108 (v8 + (nI 2)).toNatClampNeg a3) fun f17 =>
  lt (up f17 108 (nI 7).toNatClampNeg ((f17 108 (nI 7).toNatClampNeg) + (nI 1))) fun f19 =>
  some ((f19 108 (nI 7).toNatClampNeg) - (nI 1), f19))))
set_option maxHeartbeats 4000000 in
set_option maxRecDepth 100000 in
theorem kX12_watch {l : Launch} {G : GE} {N : Nat} {f m : Mm} {n : Nat} {a1 : Int32} {a2 : Int32} {a3 : Int32} {r : Int32} {g : Mm}  (hf : fX12_watch n a1 a2 a3 m = some (r, g)) : MT l G yX12_watch cX12_watch 5 (some .int) rmX12_watch [.ref (gz G + 107), .int a1, .int a2, .int a3] N f m (some (.int r)) N f g := by
  unfold fX12_watch at hf
  refine MT.of (by decide) (Nat.le_of_ble_eq_true rfl) (fun V ls hV hR B hl => ?_)
  have B : CX V G cX12_watch 5 "FluxWatchModel" (some .int) := B
  have hl : lv_has ls 5 [(0, .ref (gz G + 107)), (1, .int a1), (2, .int a2), (3, .int a3)] := hl
  show WX V G N f m 0 0 (QQ V G (some (.int r)) N f g 0 0) 0 ls []
  refine x_aload_n B dX12_watch_0 rfl (lv_at hl 0 rfl) ?_
  refine x_iload_n B dX12_watch_1 rfl (lv_at hl 1 rfl) ?_
  obtain ⟨r2, c1, hf⟩ := bn_some hf
  refine x_callV0 (rest := []) B (kX12_isCoil c1) ⟨rfl, rfl⟩ aM_107.lt aM_107.2 rfl (by decide) q_1229 q_1231 q_7 (by rw [hR]; exact cw_X12_watch_X12_isCoil) rfl rfl hl.1 (Nat.le_of_ble_eq_true rfl) dX12_watch_2 ⟨Nat.zero_le _, Nat.zero_le _⟩ ?_
  refine x_if_eq (tgt := 16) B dX12_watch_5 (by decide) (fun h3 => ?_) (fun h3 => ?_)
  · have hf := ip h3 hf
    refine x_ldc (v := (-1000000001 : Int32)) B q_1223 dX12_watch_16 ?_
    obtain ⟨rfl, rfl⟩ := rt2 hf
    exact x_iret B dX12_watch_18
  · have hf := iq h3 hf
    refine x_iload_n B dX12_watch_8 rfl (lv_at hl 2 rfl) ?_
    refine x_iload_n B dX12_watch_9 rfl (lv_at hl 3 rfl) ?_
    obtain ⟨r5, c4, hf⟩ := bn_some hf
    refine x_callS0 (rest := []) B (kX12_isSpan c4) ⟨rfl, rfl⟩ q_1263 q_1264 (by rw [hR]; exact cw_X12_watch_X12_isSpan) rfl rfl hl.1 (Nat.le_of_ble_eq_true rfl) dX12_watch_10 ⟨Nat.zero_le _, Nat.zero_le _⟩ ?_
    refine x_if_ne (tgt := 19) B dX12_watch_13 (by decide) (fun h6 => ?_) (fun h6 => ?_)
    · have hf := ip h6 hf
      refine x_ldc (v := (-1000000001 : Int32)) B q_1223 dX12_watch_16 ?_
      obtain ⟨rfl, rfl⟩ := rt2 hf
      exact x_iret B dX12_watch_18
    · have hf := iq h6 hf
      refine x_aload_n B dX12_watch_19 rfl (lv_at hl 0 rfl) ?_
      refine y_getMr (C := RX12) (T := TX12) (NN := 34) (d := 0) (k2 := 108) B aM_107 inX12 rfl (j := 0) (by decide) q_1112 rfl rfl rfl dX12_watch_20 ?_
      refine x_bipush (v := (nI 7)) B dX12_watch_23 (by decide) ?_
      refine x_ialdM B aM_108 (by decide) dX12_watch_25 ?_
      refine x_bipush (v := (nI 20)) B dX12_watch_26 (by decide) ?_
      refine x_icmp_ne (tgt := 34) B dX12_watch_28 (by decide) (fun h7 => ?_) (fun h7 => ?_)
      · have hf := ip h7 hf
        refine x_ldc (v := (-1000000003 : Int32)) B q_1224 dX12_watch_31 ?_
        obtain ⟨rfl, rfl⟩ := rt2 hf
        exact x_iret B dX12_watch_33
      · have hf := iq h7 hf
        refine x_bipush (v := (nI 31)) B dX12_watch_34 (by decide) ?_
        refine x_iconst (v := (nI 3)) B dX12_watch_36 (by decide) ?_
        refine x_aload_n B dX12_watch_37 rfl (lv_at hl 0 rfl) ?_
        refine y_getMr (C := RX12) (T := TX12) (NN := 34) (d := 0) (k2 := 108) B aM_107 inX12 rfl (j := 0) (by decide) q_1112 rfl rfl rfl dX12_watch_38 ?_
        refine x_bipush (v := (nI 7)) B dX12_watch_41 (by decide) ?_
        refine x_ialdM B aM_108 (by decide) dX12_watch_43 ?_
        refine x_imul B dX12_watch_44 ?_
        refine x_iadd B dX12_watch_45 ?_
        refine x_nm (fun v8 e9 => ?_)
        have hf := lt_some hf e9
        refine x_istore (lv' := [(4, .int v8), (0, .ref (gz G + 107)), (1, .int a1), (2, .int a2), (3, .int a3)]) B dX12_watch_46 hl (by decide) rfl (fun ls hl => ?_)
        refine x_aload_n B dX12_watch_48 rfl (lv_at hl 1 rfl) ?_
        refine y_getMr (C := RX12) (T := TX12) (NN := 34) (d := 0) (k2 := 108) B aM_107 inX12 rfl (j := 0) (by decide) q_1112 rfl rfl rfl dX12_watch_49 ?_
        refine x_iload B dX12_watch_52 (lv_at hl 0 rfl) ?_
        refine x_iload_n B dX12_watch_54 rfl (lv_at hl 2 rfl) ?_
        obtain ⟨h10, hf⟩ := gd_some hf
        refine x_iastM B aM_108 h10 dX12_watch_55 (fun f11 e12 => ?_)
        have hf := lt_some hf e12
        refine x_aload_n B dX12_watch_56 rfl (lv_at hl 1 rfl) ?_
        refine y_getMr (C := RX12) (T := TX12) (NN := 34) (d := 0) (k2 := 108) B aM_107 inX12 rfl (j := 0) (by decide) q_1112 rfl rfl rfl dX12_watch_57 ?_
        refine x_iload B dX12_watch_60 (lv_at hl 0 rfl) ?_
        refine x_iconst (v := (nI 1)) B dX12_watch_62 (by decide) ?_
        refine x_iadd B dX12_watch_63 ?_
        refine x_iload_n B dX12_watch_64 rfl (lv_at hl 3 rfl) ?_
        obtain ⟨h13, hf⟩ := gd_some hf
        refine x_iastM B aM_108 h13 dX12_watch_65 (fun f14 e15 => ?_)
        have hf := lt_some hf e15
        refine x_aload_n B dX12_watch_66 rfl (lv_at hl 1 rfl) ?_
        refine y_getMr (C := RX12) (T := TX12) (NN := 34) (d := 0) (k2 := 108) B aM_107 inX12 rfl (j := 0) (by decide) q_1112 rfl rfl rfl dX12_watch_67 ?_
        refine x_iload B dX12_watch_70 (lv_at hl 0 rfl) ?_
        refine x_iconst (v := (nI 2)) B dX12_watch_72 (by decide) ?_
        refine x_iadd B dX12_watch_73 ?_
        refine x_iload_n B dX12_watch_74 rfl (lv_at hl 4 rfl) ?_
        obtain ⟨h16, hf⟩ := gd_some hf
        refine x_iastM B aM_108 h16 dX12_watch_75 (fun f17 e18 => ?_)
        have hf := lt_some hf e18
        refine x_aload_n B dX12_watch_76 rfl (lv_at hl 1 rfl) ?_
        refine y_getMr (C := RX12) (T := TX12) (NN := 34) (d := 0) (k2 := 108) B aM_107 inX12 rfl (j := 0) (by decide) q_1112 rfl rfl rfl dX12_watch_77 ?_
        refine x_bipush (v := (nI 7)) B dX12_watch_80 (by decide) ?_
        refine x_dup2 B dX12_watch_82 rfl rfl ?_
        refine x_ialdM B aM_108 (by decide) dX12_watch_83 ?_
        refine x_iconst (v := (nI 1)) B dX12_watch_84 (by decide) ?_
        refine x_iadd B dX12_watch_85 ?_
        refine x_iastM B aM_108 (by decide) dX12_watch_86 (fun f19 e20 => ?_)
        have hf := lt_some hf e20
        refine x_aload_n B dX12_watch_87 rfl (lv_at hl 1 rfl) ?_
        refine y_getMr (C := RX12) (T := TX12) (NN := 34) (d := 0) (k2 := 108) B aM_107 inX12 rfl (j := 0) (by decide) q_1112 rfl rfl rfl dX12_watch_88 ?_
        refine x_bipush (v := (nI 7)) B dX12_watch_91 (by decide) ?_
        refine x_ialdM B aM_108 (by decide) dX12_watch_93 ?_
        refine x_iconst (v := (nI 1)) B dX12_watch_94 (by decide) ?_
        refine x_isub B dX12_watch_95 ?_
        obtain ⟨rfl, rfl⟩ := rt2 hf
        exact x_iret B dX12_watch_96
def rmX12_why : Room := { frames := 1, cells := 0, slots := 0, locals := 22 }
set_option maxHeartbeats 4000000 in
set_option maxRecDepth 100000 in
theorem cw_X12_why_X12_counts : cwB rmX12_why rmX12_counts yX12_counts cX12_counts 3 (some .int) 1 := ⟨q_1359, q_57, by decide, by decide⟩
set_option maxHeartbeats 4000000 in
set_option maxRecDepth 100000 in
theorem cw_X12_why_X12_in : cwB rmX12_why rmX12_in yX12_in cX12_in 3 (some .boolean) 3 := ⟨q_1222, q_57, by decide, by decide⟩
def fX12_why (n : Nat) (a1 : Int32) (m : Mm) : Option (Int32) :=
  bn (fX12_in n a1 (nI 0) (nI 2)) fun r2 =>
  if r2 = 0 then (
  some (-1000000001 : Int32)) else (
  bn (fX12_counts n a1 m) fun r5 =>
  if 0 ≤ r5 then (
  some r5) else (
  some (-1000000005 : Int32)))
set_option maxHeartbeats 4000000 in
set_option maxRecDepth 100000 in
theorem kX12_why {l : Launch} {G : GE} {N : Nat} {f m : Mm} {n : Nat} {a1 : Int32} {r : Int32}  (hf : fX12_why n a1 m = some r) : MT l G yX12_why cX12_why 3 (some .int) rmX12_why [.ref (gz G + 107), .int a1] N f m (some (.int r)) N f m := by
  unfold fX12_why at hf
  refine MT.of (by decide) (Nat.le_of_ble_eq_true rfl) (fun V ls hV hR B hl => ?_)
  have B : CX V G cX12_why 3 "FluxWatchModel" (some .int) := B
  have hl : lv_has ls 3 [(0, .ref (gz G + 107)), (1, .int a1)] := hl
  show WX V G N f m 0 0 (QQ V G (some (.int r)) N f m 0 0) 0 ls []
  refine x_iload_n B dX12_why_0 rfl (lv_at hl 1 rfl) ?_
  refine x_iconst (v := (nI 0)) B dX12_why_1 (by decide) ?_
  refine x_iconst (v := (nI 2)) B dX12_why_2 (by decide) ?_
  obtain ⟨r2, c1, hf⟩ := bn_some hf
  refine x_callS0 (rest := []) B (kX12_in c1) ⟨rfl, rfl⟩ q_1220 q_1221 (by rw [hR]; exact cw_X12_why_X12_in) rfl rfl hl.1 (Nat.le_of_ble_eq_true rfl) dX12_why_3 ⟨Nat.zero_le _, Nat.zero_le _⟩ ?_
  refine x_if_ne (tgt := 12) B dX12_why_6 (by decide) (fun h3 => ?_) (fun h3 => ?_)
  · have hf := ip h3 hf
    refine x_ldc (v := (-1000000001 : Int32)) B q_1223 dX12_why_9 ?_
    obtain rfl := rt1 hf
    exact x_iret B dX12_why_11
  · have hf := iq h3 hf
    refine x_aload_n B dX12_why_12 rfl (lv_at hl 0 rfl) ?_
    refine x_iload_n B dX12_why_13 rfl (lv_at hl 1 rfl) ?_
    obtain ⟨r5, c4, hf⟩ := bn_some hf
    refine x_callV0 (rest := []) B (kX12_counts c4) ⟨rfl, rfl⟩ aM_107.lt aM_107.2 rfl (by decide) q_1356 q_1358 q_21 (by rw [hR]; exact cw_X12_why_X12_counts) rfl rfl hl.1 (Nat.le_of_ble_eq_true rfl) dX12_why_14 ⟨Nat.zero_le _, Nat.zero_le _⟩ ?_
    refine x_istore_n (lv' := [(2, .int r5), (0, .ref (gz G + 107)), (1, .int a1)]) B dX12_why_17 rfl hl (by decide) rfl (fun ls hl => ?_)
    refine x_iload_n B dX12_why_18 rfl (lv_at hl 0 rfl) ?_
    refine x_if_ge (tgt := 27) B dX12_why_19 (by decide) (fun h6 => ?_) (fun h6 => ?_)
    · have hf := ip h6 hf
      refine x_iload_n B dX12_why_27 rfl (lv_at hl 0 rfl) ?_
      obtain rfl := rt1 hf
      exact x_iret B dX12_why_28
    · have hf := iq h6 hf
      refine x_ldc (v := (-1000000005 : Int32)) B q_1237 dX12_why_22 ?_
      refine x_goto (tgt := 28) B dX12_why_24 (by decide) ?_
      obtain rfl := rt1 hf
      exact x_iret B dX12_why_28
def rmX12_width : Room := { frames := 3, cells := 0, slots := 0, locals := 67 }
set_option maxHeartbeats 4000000 in
set_option maxRecDepth 100000 in
theorem cw_X12_width_X12_fitting : cwB rmX12_width rmX12_fitting yX12_fitting cX12_fitting 4 (some .int) 1 := ⟨q_1499, q_57, by decide, by decide⟩
set_option maxHeartbeats 4000000 in
set_option maxRecDepth 100000 in
theorem cw_X12_width_X12_in : cwB rmX12_width rmX12_in yX12_in cX12_in 3 (some .boolean) 3 := ⟨q_1222, q_57, by decide, by decide⟩
def fX12_width_15 (n : Nat)   (k15 : Int32 → Int32 → Mm → Option (Int32)) (x1 : Int32) (x2 : Int32) (m : Mm) : Option (Int32) :=
  if (nI 100) ≤ x2 then (
  some (-1000000005 : Int32)) else (
  bn (fX12_fitting n x2 m) fun r6 =>
  if r6 < x1 then (
  k15 x1 (x2 + (nI 1)) m) else (
  some x2))
def fX12_width_15L (n : Nat)   : Nat → Int32 → Int32 → Mm → Option (Int32)
  | 0 => fun _ _ _ => none
  | q + 1 => fX12_width_15 n   (fX12_width_15L n   q)
set_option maxHeartbeats 4000000 in
set_option maxRecDepth 100000 in
theorem fX12_width_15_ok {V : VE} {G : GE} {N : Nat} {f m : Mm} {n : Nat} {ls : Array Slot} {r : Int32} (B : CX V G cX12_width 3 "FluxWatchModel" (some .int)) (hR : V.2.2.2.1 = rmX12_width)   {k15 : Int32 → Int32 → Mm → Option (Int32)} (hk15 : ∀ (x1 : Int32) (x2 : Int32) (mm : Mm) (ls : Array Slot),  lv_has ls 3 [(0, .ref (gz G + 107)), (1, .int x1), (2, .int x2)] → k15 x1 x2 mm = some r → WX V G N f mm 0 0 (QQ V G (some (.int r)) N f mm 0 0) 15 ls []) {x1 : Int32} {x2 : Int32}  (hl : lv_has ls 3 [(0, .ref (gz G + 107)), (1, .int x1), (2, .int x2)]) (hf : fX12_width_15 n  k15 x1 x2 m = some r) : WX V G N f m 0 0 (QQ V G (some (.int r)) N f m 0 0) 15 ls [] := by
  unfold fX12_width_15 at hf
  refine x_iload_n B dX12_width_15 rfl (lv_at hl 2 rfl) ?_
  refine x_bipush (v := (nI 100)) B dX12_width_16 (by decide) ?_
  refine x_icmp_ge (tgt := 38) B dX12_width_18 (by decide) (fun h4 => ?_) (fun h4 => ?_)
  · have hf := ip h4 hf
    refine x_ldc (v := (-1000000005 : Int32)) B q_1237 dX12_width_38 ?_
    obtain rfl := rt1 hf
    exact x_iret B dX12_width_40
  · have hf := iq h4 hf
    refine x_aload_n B dX12_width_21 rfl (lv_at hl 0 rfl) ?_
    refine x_iload_n B dX12_width_22 rfl (lv_at hl 2 rfl) ?_
    obtain ⟨r6, c5, hf⟩ := bn_some hf
    refine x_callV0 (rest := []) B (kX12_fitting c5) ⟨rfl, rfl⟩ aM_107.lt aM_107.2 rfl (by decide) q_1496 q_1498 q_39 (by rw [hR]; exact cw_X12_width_X12_fitting) rfl rfl hl.1 (Nat.le_of_ble_eq_true rfl) dX12_width_23 ⟨Nat.zero_le _, Nat.zero_le _⟩ ?_
    refine x_iload_n B dX12_width_26 rfl (lv_at hl 1 rfl) ?_
    refine x_icmp_lt (tgt := 32) B dX12_width_27 (by decide) (fun h7 => ?_) (fun h7 => ?_)
    · have hf := ip h7 hf
      refine x_iinc (k := 2) (v := (nI 1)) (lv' := [(2, .int (x2 + (nI 1))), (0, .ref (gz G + 107)), (1, .int x1)]) B dX12_width_32 hl rfl (by decide) (by decide) rfl (fun ls hl => ?_)
      refine x_goto (tgt := 15) B dX12_width_35 (by decide) ?_
      exact hk15 _ _ _ _ (lv_sub hl [1, 2, 0] rfl) hf
    · have hf := iq h7 hf
      refine x_iload_n B dX12_width_30 rfl (lv_at hl 2 rfl) ?_
      obtain rfl := rt1 hf
      exact x_iret B dX12_width_31
set_option maxHeartbeats 4000000 in
set_option maxRecDepth 100000 in
theorem fX12_width_15L_ok {V : VE} {G : GE} {N : Nat} {f : Mm} {n : Nat}  {r : Int32} (B : CX V G cX12_width 3 "FluxWatchModel" (some .int)) (hR : V.2.2.2.1 = rmX12_width)   : ∀ (q : Nat) (x1 : Int32) (x2 : Int32) (mm : Mm) (ls : Array Slot),  lv_has ls 3 [(0, .ref (gz G + 107)), (1, .int x1), (2, .int x2)] → fX12_width_15L n  q x1 x2 mm = some r → WX V G N f mm 0 0 (QQ V G (some (.int r)) N f mm 0 0) 15 ls [] := by
  intro q
  induction q with
  | zero =>
    intro x1 x2 mm ls hl hf
    cases hf
  | succ q ih =>
    intro x1 x2 mm ls hl hf
    exact fX12_width_15_ok B hR   ih  hl hf
def fX12_width (n : Nat) (a1 : Int32) (m : Mm) : Option (Int32) :=
  bn (fX12_in n a1 (nI 0) (nI 60)) fun r2 =>
  if r2 = 0 then (
  some (-1000000001 : Int32)) else (
  fX12_width_15L n n a1 (nI 0) m)
set_option maxHeartbeats 4000000 in
set_option maxRecDepth 100000 in
theorem kX12_width {l : Launch} {G : GE} {N : Nat} {f m : Mm} {n : Nat} {a1 : Int32} {r : Int32}  (hf : fX12_width n a1 m = some r) : MT l G yX12_width cX12_width 3 (some .int) rmX12_width [.ref (gz G + 107), .int a1] N f m (some (.int r)) N f m := by
  unfold fX12_width at hf
  refine MT.of (by decide) (Nat.le_of_ble_eq_true rfl) (fun V ls hV hR B hl => ?_)
  have B : CX V G cX12_width 3 "FluxWatchModel" (some .int) := B
  have hl : lv_has ls 3 [(0, .ref (gz G + 107)), (1, .int a1)] := hl
  show WX V G N f m 0 0 (QQ V G (some (.int r)) N f m 0 0) 0 ls []
  refine x_iload_n B dX12_width_0 rfl (lv_at hl 1 rfl) ?_
  refine x_iconst (v := (nI 0)) B dX12_width_1 (by decide) ?_
  refine x_bipush (v := (nI 60)) B dX12_width_2 (by decide) ?_
  obtain ⟨r2, c1, hf⟩ := bn_some hf
  refine x_callS0 (rest := []) B (kX12_in c1) ⟨rfl, rfl⟩ q_1220 q_1221 (by rw [hR]; exact cw_X12_width_X12_in) rfl rfl hl.1 (Nat.le_of_ble_eq_true rfl) dX12_width_4 ⟨Nat.zero_le _, Nat.zero_le _⟩ ?_
  refine x_if_ne (tgt := 13) B dX12_width_7 (by decide) (fun h3 => ?_) (fun h3 => ?_)
  · have hf := ip h3 hf
    refine x_ldc (v := (-1000000001 : Int32)) B q_1223 dX12_width_10 ?_
    obtain rfl := rt1 hf
    exact x_iret B dX12_width_12
  · have hf := iq h3 hf
    refine x_iconst (v := (nI 0)) B dX12_width_13 (by decide) ?_
    refine x_istore_n (lv' := [(2, .int (nI 0)), (0, .ref (gz G + 107)), (1, .int a1)]) B dX12_width_14 rfl hl (by decide) rfl (fun ls hl => ?_)
    exact fX12_width_15L_ok B hR  n _ _ _ _ (lv_sub hl [1, 2, 0] rfl) hf
