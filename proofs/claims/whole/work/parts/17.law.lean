section LAW
theorem x_scr {V : VE} {G : GE} {N : Nat} {f m : Mm} {ce sl : Nat} {Q : State → Prop} {pc : Nat} {ls : Array Slot} {rest : List Value} {cc : ByteArray} {nL : Nat} {own : String} {ret : Option FieldType} (B : CX V G cc nL own ret) {b L i : Nat} {xs : Nat → Int32} {ie : Int32} (hb : b < gz G) (hX : va_X b L xs V.2.2.2.2.1 (gH G)) (e : ie = nI i) (hi : i < L) (hL : L ≤ 384) (hd : decode cc pc = .ok (.iaload, 1)) (kk : WX V G N f m ce sl Q (pc + 1) ls (.int (xs i) :: rest)) : WX V G N f m ce sl Q pc ls (.int ie :: .ref b :: rest) := by
  subst e
  intro H locs g1 g2
  obtain ⟨scr, h1, h2, h3, h4, h5⟩ := hX
  have hc : (nI i).toNatClampNeg = i := nI_clamp (by omega)
  exact W.iald B.1 B.2.1 (by rw [g1.2.2 b hb]; exact h1) h2 h3 (by rw [h4]; exact nI_in hi (by omega)) (by rw [hc]; exact h5 i hi) rfl rfl hd (kk H locs g1 g2)
theorem x_scrL {V : VE} {G : GE} {N : Nat} {f m : Mm} {ce sl : Nat} {Q : State → Prop} {pc : Nat} {ls : Array Slot} {rest : List Value} {cc : ByteArray} {nL : Nat} {own : String} {ret : Option FieldType} (B : CX V G cc nL own ret) {b L : Nat} {xs : Nat → Int32} (hb : b < gz G) (hX : va_X b L xs V.2.2.2.2.1 (gH G)) (hd : decode cc pc = .ok (.arraylength, 1)) (kk : WX V G N f m ce sl Q (pc + 1) ls (.int (nI L) :: rest)) : WX V G N f m ce sl Q pc ls (.ref b :: rest) := by
  intro H locs g1 g2
  obtain ⟨scr, h1, h2, h3, h4, h5⟩ := hX
  exact W.alen (n := nI L) B.1 B.2.1 (by rw [g1.2.2 b hb]; exact h1) h2 (by rw [h4]; rfl) rfl rfl hd (kk H locs g1 g2)
set_option maxHeartbeats 4000000 in
set_option maxRecDepth 100000 in
theorem cwL_X11_coil : cwB room_1 rmX11_coil yX11_coil cX11_coil 2 (some .int) 1 := ⟨q_422, q_45, by decide, by decide⟩
set_option maxHeartbeats 4000000 in
set_option maxRecDepth 100000 in
theorem cwL_X12_coil : cwB room_1 rmX12_coil yX12_coil cX12_coil 3 (some .int) 1 := ⟨q_1219, q_57, by decide, by decide⟩
set_option maxHeartbeats 4000000 in
set_option maxRecDepth 100000 in
theorem cwL_X11_coilTold : cwB room_1 rmX11_coilTold yX11_coilTold cX11_coilTold 4 (some .int) 2 := ⟨q_436, q_45, by decide, by decide⟩
set_option maxHeartbeats 4000000 in
set_option maxRecDepth 100000 in
theorem cwL_X12_coilTold : cwB room_1 rmX12_coilTold yX12_coilTold cX12_coilTold 5 (some .int) 2 := ⟨q_1228, q_57, by decide, by decide⟩
set_option maxHeartbeats 4000000 in
set_option maxRecDepth 100000 in
theorem cwL_X11_creep : cwB room_1 rmX11_creep yX11_creep cX11_creep 4 (some .int) 2 := ⟨q_456, q_45, by decide, by decide⟩
set_option maxHeartbeats 4000000 in
set_option maxRecDepth 100000 in
theorem cwL_X12_creep : cwB room_1 rmX12_creep yX12_creep cX12_creep 4 (some .int) 2 := ⟨q_1249, q_57, by decide, by decide⟩
set_option maxHeartbeats 4000000 in
set_option maxRecDepth 100000 in
theorem cwL_X11_pair : cwB room_1 rmX11_pair yX11_pair cX11_pair 4 (some .int) 2 := ⟨q_460, q_45, by decide, by decide⟩
set_option maxHeartbeats 4000000 in
set_option maxRecDepth 100000 in
theorem cwL_X12_pair : cwB room_1 rmX12_pair yX12_pair cX12_pair 3 (some .int) 2 := ⟨q_1253, q_57, by decide, by decide⟩
set_option maxHeartbeats 4000000 in
set_option maxRecDepth 100000 in
theorem cwL_X11_part : cwB room_1 rmX11_part yX11_part cX11_part 4 (some .int) 1 := ⟨q_466, q_45, by decide, by decide⟩
set_option maxHeartbeats 4000000 in
set_option maxRecDepth 100000 in
theorem cwL_X12_part : cwB room_1 rmX12_part yX12_part cX12_part 3 (some .int) 1 := ⟨q_1258, q_57, by decide, by decide⟩
set_option maxHeartbeats 4000000 in
set_option maxRecDepth 100000 in
theorem cwL_X11_watch : cwB room_1 rmX11_watch yX11_watch cX11_watch 4 (some .int) 3 := ⟨q_470, q_45, by decide, by decide⟩
set_option maxHeartbeats 4000000 in
set_option maxRecDepth 100000 in
theorem cwL_X12_watch : cwB room_1 rmX12_watch yX12_watch cX12_watch 5 (some .int) 3 := ⟨q_1262, q_57, by decide, by decide⟩
set_option maxHeartbeats 4000000 in
set_option maxRecDepth 100000 in
theorem cwL_X11_seen : cwB room_1 rmX11_seen yX11_seen cX11_seen 2 (some .int) 1 := ⟨q_485, q_45, by decide, by decide⟩
set_option maxHeartbeats 4000000 in
set_option maxRecDepth 100000 in
theorem cwL_X12_seen : cwB room_1 rmX12_seen yX12_seen cX12_seen 2 (some .int) 1 := ⟨q_1272, q_57, by decide, by decide⟩
set_option maxHeartbeats 4000000 in
set_option maxRecDepth 100000 in
theorem cwL_X11_line : cwB room_1 rmX11_line yX11_line cX11_line 3 (some .int) 2 := ⟨q_496, q_45, by decide, by decide⟩
set_option maxHeartbeats 4000000 in
set_option maxRecDepth 100000 in
theorem cwL_X12_line : cwB room_1 rmX12_line yX12_line cX12_line 3 (some .int) 2 := ⟨q_1280, q_57, by decide, by decide⟩
set_option maxHeartbeats 4000000 in
set_option maxRecDepth 100000 in
theorem cwL_X11_step : cwB room_1 rmX11_step yX11_step cX11_step 5 (some .int) 4 := ⟨q_508, q_45, by decide, by decide⟩
set_option maxHeartbeats 4000000 in
set_option maxRecDepth 100000 in
theorem cwL_X12_step : cwB room_1 rmX12_step yX12_step cX12_step 5 (some .int) 4 := ⟨q_1288, q_57, by decide, by decide⟩
set_option maxHeartbeats 4000000 in
set_option maxRecDepth 100000 in
theorem cwL_X11_told : cwB room_1 rmX11_told yX11_told cX11_told 4 (some .int) 2 := ⟨q_527, q_45, by decide, by decide⟩
set_option maxHeartbeats 4000000 in
set_option maxRecDepth 100000 in
theorem cwL_X12_told : cwB room_1 rmX12_told yX12_told cX12_told 3 (some .int) 2 := ⟨q_1296, q_57, by decide, by decide⟩
set_option maxHeartbeats 4000000 in
set_option maxRecDepth 100000 in
theorem cwL_X11_as : cwB room_1 rmX11_as yX11_as cX11_as 3 (some .int) 2 := ⟨q_559, q_45, by decide, by decide⟩
set_option maxHeartbeats 4000000 in
set_option maxRecDepth 100000 in
theorem cwL_X12_as : cwB room_1 rmX12_as yX12_as cX12_as 3 (some .int) 2 := ⟨q_1323, q_57, by decide, by decide⟩
set_option maxHeartbeats 4000000 in
set_option maxRecDepth 100000 in
theorem cwL_X11_turns : cwB room_1 rmX11_turns yX11_turns cX11_turns 4 (some .int) 2 := ⟨q_569, q_45, by decide, by decide⟩
set_option maxHeartbeats 4000000 in
set_option maxRecDepth 100000 in
theorem cwL_X12_turns : cwB room_1 rmX12_turns yX12_turns cX12_turns 4 (some .int) 2 := ⟨q_1331, q_57, by decide, by decide⟩
set_option maxHeartbeats 4000000 in
set_option maxRecDepth 100000 in
theorem cwL_X11_drop : cwB room_1 rmX11_drop yX11_drop cX11_drop 2 (some .int) 1 := ⟨q_573, q_45, by decide, by decide⟩
set_option maxHeartbeats 4000000 in
set_option maxRecDepth 100000 in
theorem cwL_X12_drop : cwB room_1 rmX12_drop yX12_drop cX12_drop 3 (some .int) 1 := ⟨q_1335, q_57, by decide, by decide⟩
set_option maxHeartbeats 4000000 in
set_option maxRecDepth 100000 in
theorem cwL_X11_set : cwB room_1 rmX11_set yX11_set cX11_set 3 (some .int) 2 := ⟨q_584, q_45, by decide, by decide⟩
set_option maxHeartbeats 4000000 in
set_option maxRecDepth 100000 in
theorem cwL_X12_set : cwB room_1 rmX12_set yX12_set cX12_set 4 (some .int) 2 := ⟨q_1339, q_57, by decide, by decide⟩
set_option maxHeartbeats 4000000 in
set_option maxRecDepth 100000 in
theorem cwL_X11_fit : cwB room_1 rmX11_fit yX11_fit cX11_fit 3 (some .int) 0 := ⟨q_596, q_45, by decide, by decide⟩
set_option maxHeartbeats 4000000 in
set_option maxRecDepth 100000 in
theorem cwL_X12_fit : cwB room_1 rmX12_fit yX12_fit cX12_fit 3 (some .int) 0 := ⟨q_1343, q_57, by decide, by decide⟩
set_option maxHeartbeats 4000000 in
set_option maxRecDepth 100000 in
theorem cwL_X11_run : cwB room_1 rmX11_run yX11_run cX11_run 3 (some .int) 1 := ⟨q_600, q_45, by decide, by decide⟩
set_option maxHeartbeats 4000000 in
set_option maxRecDepth 100000 in
theorem cwL_X12_run : cwB room_1 rmX12_run yX12_run cX12_run 3 (some .int) 1 := ⟨q_1347, q_57, by decide, by decide⟩
set_option maxHeartbeats 4000000 in
set_option maxRecDepth 100000 in
theorem cwL_X11_news : cwB room_1 rmX11_news yX11_news cX11_news 3 (some .int) 2 := ⟨q_674, q_45, by decide, by decide⟩
set_option maxHeartbeats 4000000 in
set_option maxRecDepth 100000 in
theorem cwL_X12_news : cwB room_1 rmX12_news yX12_news cX12_news 3 (some .int) 2 := ⟨q_1398, q_57, by decide, by decide⟩
set_option maxHeartbeats 4000000 in
set_option maxRecDepth 100000 in
theorem cwL_X11_since : cwB room_1 rmX11_since yX11_since cX11_since 4 (some .int) 1 := ⟨q_681, q_45, by decide, by decide⟩
set_option maxHeartbeats 4000000 in
set_option maxRecDepth 100000 in
theorem cwL_X12_since : cwB room_1 rmX12_since yX12_since cX12_since 4 (some .int) 1 := ⟨q_1402, q_57, by decide, by decide⟩
set_option maxHeartbeats 4000000 in
set_option maxRecDepth 100000 in
theorem cwL_X11_falls : cwB room_1 rmX11_falls yX11_falls cX11_falls 4 (some .int) 1 := ⟨q_690, q_45, by decide, by decide⟩
set_option maxHeartbeats 4000000 in
set_option maxRecDepth 100000 in
theorem cwL_X12_falls : cwB room_1 rmX12_falls yX12_falls cX12_falls 4 (some .int) 1 := ⟨q_1410, q_57, by decide, by decide⟩
set_option maxHeartbeats 4000000 in
set_option maxRecDepth 100000 in
theorem cwL_X11_await : cwB room_1 rmX11_await yX11_await cX11_await 4 (some .int) 0 := ⟨q_694, q_45, by decide, by decide⟩
set_option maxHeartbeats 4000000 in
set_option maxRecDepth 100000 in
theorem cwL_X12_await : cwB room_1 rmX12_await yX12_await cX12_await 3 (some .int) 0 := ⟨q_1414, q_57, by decide, by decide⟩
set_option maxHeartbeats 4000000 in
set_option maxRecDepth 100000 in
theorem cwL_X11_beyond : cwB room_1 rmX11_beyond yX11_beyond cX11_beyond 5 (some .int) 0 := ⟨q_700, q_45, by decide, by decide⟩
set_option maxHeartbeats 4000000 in
set_option maxRecDepth 100000 in
theorem cwL_X12_beyond : cwB room_1 rmX12_beyond yX12_beyond cX12_beyond 5 (some .int) 0 := ⟨q_1420, q_57, by decide, by decide⟩
set_option maxHeartbeats 4000000 in
set_option maxRecDepth 100000 in
theorem cwL_X11_seed : cwB room_1 rmX11_seed yX11_seed cX11_seed 3 (some .int) 1 := ⟨q_706, q_45, by decide, by decide⟩
set_option maxHeartbeats 4000000 in
set_option maxRecDepth 100000 in
theorem cwL_X12_seed : cwB room_1 rmX12_seed yX12_seed cX12_seed 3 (some .int) 1 := ⟨q_1424, q_57, by decide, by decide⟩
set_option maxHeartbeats 4000000 in
set_option maxRecDepth 100000 in
theorem cwL_X11_feed : cwB room_1 rmX11_feed yX11_feed cX11_feed 5 (some .int) 3 := ⟨q_710, q_45, by decide, by decide⟩
set_option maxHeartbeats 4000000 in
set_option maxRecDepth 100000 in
theorem cwL_X12_feed : cwB room_1 rmX12_feed yX12_feed cX12_feed 6 (some .int) 3 := ⟨q_1428, q_57, by decide, by decide⟩
set_option maxHeartbeats 4000000 in
set_option maxRecDepth 100000 in
theorem cwL_X11_trim : cwB room_1 rmX11_trim yX11_trim cX11_trim 2 (some .int) 1 := ⟨q_718, q_45, by decide, by decide⟩
set_option maxHeartbeats 4000000 in
set_option maxRecDepth 100000 in
theorem cwL_X12_trim : cwB room_1 rmX12_trim yX12_trim cX12_trim 2 (some .int) 1 := ⟨q_1432, q_57, by decide, by decide⟩
set_option maxHeartbeats 4000000 in
set_option maxRecDepth 100000 in
theorem cwL_X11_textTold : cwB room_1 rmX11_textTold yX11_textTold cX11_textTold 4 (some .int) 2 := ⟨q_886, q_45, by decide, by decide⟩
set_option maxHeartbeats 4000000 in
set_option maxRecDepth 100000 in
theorem cwL_X12_textTold : cwB room_1 rmX12_textTold yX12_textTold cX12_textTold 3 (some .int) 2 := ⟨q_1483, q_57, by decide, by decide⟩
set_option maxHeartbeats 4000000 in
set_option maxRecDepth 100000 in
theorem cwL_X11_why : cwB room_1 rmX11_why yX11_why cX11_why 2 (some .int) 1 := ⟨q_890, q_45, by decide, by decide⟩
set_option maxHeartbeats 4000000 in
set_option maxRecDepth 100000 in
theorem cwL_X12_why : cwB room_1 rmX12_why yX12_why cX12_why 3 (some .int) 1 := ⟨q_1487, q_57, by decide, by decide⟩
set_option maxHeartbeats 4000000 in
set_option maxRecDepth 100000 in
theorem cwL_X11_knock : cwB room_1 rmX11_knock yX11_knock cX11_knock 2 (some .int) 1 := ⟨q_894, q_45, by decide, by decide⟩
set_option maxHeartbeats 4000000 in
set_option maxRecDepth 100000 in
theorem cwL_X12_knock : cwB room_1 rmX12_knock yX12_knock cX12_knock 2 (some .int) 1 := ⟨q_1491, q_57, by decide, by decide⟩
set_option maxHeartbeats 4000000 in
set_option maxRecDepth 100000 in
theorem cwL_X11_pour : cwB room_1 rmX11_pour yX11_pour cX11_pour 5 (some .int) 1 := ⟨q_902, q_45, by decide, by decide⟩
set_option maxHeartbeats 4000000 in
set_option maxRecDepth 100000 in
theorem cwL_X12_pour : cwB room_1 rmX12_pour yX12_pour cX12_pour 4 (some .int) 1 := ⟨q_1567, q_57, by decide, by decide⟩
set_option maxHeartbeats 4000000 in
set_option maxRecDepth 100000 in
theorem cwL_X11_chance : cwB room_1 rmX11_chance yX11_chance cX11_chance 1 (some .int) 0 := ⟨q_917, q_45, by decide, by decide⟩
set_option maxHeartbeats 4000000 in
set_option maxRecDepth 100000 in
theorem cwL_X12_chance : cwB room_1 rmX12_chance yX12_chance cX12_chance 1 (some .int) 0 := ⟨q_1495, q_57, by decide, by decide⟩
set_option maxHeartbeats 4000000 in
set_option maxRecDepth 100000 in
theorem cwL_X11_width : cwB room_1 rmX11_width yX11_width cX11_width 3 (some .int) 1 := ⟨q_925, q_45, by decide, by decide⟩
set_option maxHeartbeats 4000000 in
set_option maxRecDepth 100000 in
theorem cwL_X12_width : cwB room_1 rmX12_width yX12_width cX12_width 3 (some .int) 1 := ⟨q_1503, q_57, by decide, by decide⟩
set_option maxHeartbeats 4000000 in
set_option maxRecDepth 100000 in
theorem cwL_X11_key : cwB room_1 rmX11_key yX11_key cX11_key 3 (some .int) 2 := ⟨q_929, q_45, by decide, by decide⟩
set_option maxHeartbeats 4000000 in
set_option maxRecDepth 100000 in
theorem cwL_X12_key : cwB room_1 rmX12_key yX12_key cX12_key 3 (some .int) 2 := ⟨q_1507, q_57, by decide, by decide⟩
set_option maxHeartbeats 4000000 in
set_option maxRecDepth 100000 in
theorem cwL_X11_keys : cwB room_1 rmX11_keys yX11_keys cX11_keys 2 (some .int) 1 := ⟨q_933, q_45, by decide, by decide⟩
set_option maxHeartbeats 4000000 in
set_option maxRecDepth 100000 in
theorem cwL_X12_keys : cwB room_1 rmX12_keys yX12_keys cX12_keys 2 (some .int) 1 := ⟨q_1511, q_57, by decide, by decide⟩
set_option maxHeartbeats 4000000 in
set_option maxRecDepth 100000 in
theorem cwL_X11_jokes : cwB room_1 rmX11_jokes yX11_jokes cX11_jokes 3 (some .int) 0 := ⟨q_941, q_45, by decide, by decide⟩
set_option maxHeartbeats 4000000 in
set_option maxRecDepth 100000 in
theorem cwL_X12_jokes : cwB room_1 rmX12_jokes yX12_jokes cX12_jokes 3 (some .int) 0 := ⟨q_1519, q_57, by decide, by decide⟩
set_option maxHeartbeats 4000000 in
set_option maxRecDepth 100000 in
theorem cwL_X11_offer : cwB room_1 rmX11_offer yX11_offer cX11_offer 3 (some .int) 2 := ⟨q_945, q_45, by decide, by decide⟩
set_option maxHeartbeats 4000000 in
set_option maxRecDepth 100000 in
theorem cwL_X12_offer : cwB room_1 rmX12_offer yX12_offer cX12_offer 3 (some .int) 2 := ⟨q_1523, q_57, by decide, by decide⟩
set_option maxHeartbeats 4000000 in
set_option maxRecDepth 100000 in
theorem cwL_X11_clear : cwB room_1 rmX11_clear yX11_clear cX11_clear 2 (some .int) 0 := ⟨q_954, q_45, by decide, by decide⟩
set_option maxHeartbeats 4000000 in
set_option maxRecDepth 100000 in
theorem cwL_X12_clear : cwB room_1 rmX12_clear yX12_clear cX12_clear 2 (some .int) 0 := ⟨q_1527, q_57, by decide, by decide⟩
set_option maxHeartbeats 4000000 in
set_option maxRecDepth 100000 in
theorem cwL_X11_best : cwB room_1 rmX11_best yX11_best cX11_best 3 (some .int) 2 := ⟨q_958, q_45, by decide, by decide⟩
set_option maxHeartbeats 4000000 in
set_option maxRecDepth 100000 in
theorem cwL_X12_best : cwB room_1 rmX12_best yX12_best cX12_best 6 (some .int) 2 := ⟨q_1531, q_57, by decide, by decide⟩
set_option maxHeartbeats 4000000 in
set_option maxRecDepth 100000 in
theorem cwL_X11_soonest : cwB room_1 rmX11_soonest yX11_soonest cX11_soonest 4 (some .int) 3 := ⟨q_974, q_45, by decide, by decide⟩
set_option maxHeartbeats 4000000 in
set_option maxRecDepth 100000 in
theorem cwL_X12_soonest : cwB room_1 rmX12_soonest yX12_soonest cX12_soonest 10 (some .int) 3 := ⟨q_1539, q_57, by decide, by decide⟩
set_option maxHeartbeats 4000000 in
set_option maxRecDepth 100000 in
theorem cwL_X11_sheet : cwB room_1 rmX11_sheet yX11_sheet cX11_sheet 4 (some .int) 3 := ⟨q_1003, q_45, by decide, by decide⟩
set_option maxHeartbeats 4000000 in
set_option maxRecDepth 100000 in
theorem cwL_X12_sheet : cwB room_1 rmX12_sheet yX12_sheet cX12_sheet 5 (some .int) 3 := ⟨q_1547, q_57, by decide, by decide⟩
set_option maxHeartbeats 4000000 in
set_option maxRecDepth 100000 in
theorem cwL_X11_mark : cwB room_1 rmX11_mark yX11_mark cX11_mark 5 (some .int) 3 := ⟨q_1013, q_45, by decide, by decide⟩
set_option maxHeartbeats 4000000 in
set_option maxRecDepth 100000 in
theorem cwL_X12_mark : cwB room_1 rmX12_mark yX12_mark cX12_mark 4 (some .int) 3 := ⟨q_1555, q_57, by decide, by decide⟩
set_option maxHeartbeats 4000000 in
set_option maxRecDepth 100000 in
theorem cwL_X11_reads : cwB room_1 rmX11_reads yX11_reads cX11_reads 6 (some .int) 3 := ⟨q_1024, q_45, by decide, by decide⟩
set_option maxHeartbeats 4000000 in
set_option maxRecDepth 100000 in
theorem cwL_X12_reads : cwB room_1 rmX12_reads yX12_reads cX12_reads 6 (some .int) 3 := ⟨q_1563, q_57, by decide, by decide⟩
set_option maxHeartbeats 4000000 in
set_option maxRecDepth 100000 in
theorem cwL_X11_copy : cwB room_1 rmX11_copy yX11_copy cX11_copy 8 (some .int) 5 := ⟨q_1028, q_45, by decide, by decide⟩
set_option maxHeartbeats 4000000 in
set_option maxRecDepth 100000 in
theorem cwL_X12_copy : cwB room_1 rmX12_copy yX12_copy cX12_copy 7 (some .int) 5 := ⟨q_1571, q_57, by decide, by decide⟩
set_option maxHeartbeats 4000000 in
set_option maxRecDepth 100000 in
theorem cwL_X11_lay : cwB room_1 rmX11_lay yX11_lay cX11_lay 6 (some .int) 3 := ⟨q_1037, q_45, by decide, by decide⟩
set_option maxHeartbeats 4000000 in
set_option maxRecDepth 100000 in
theorem cwL_X12_lay : cwB room_1 rmX12_lay yX12_lay cX12_lay 6 (some .int) 3 := ⟨q_1575, q_57, by decide, by decide⟩
set_option maxHeartbeats 4000000 in
set_option maxRecDepth 100000 in
theorem cwL_X11_ask : cwB room_1 rmX11_ask yX11_ask cX11_ask 4 (some .int) 2 := ⟨q_1049, q_45, by decide, by decide⟩
set_option maxHeartbeats 4000000 in
set_option maxRecDepth 100000 in
theorem cwL_X12_ask : cwB room_1 rmX12_ask yX12_ask cX12_ask 3 (some .int) 2 := ⟨q_1582, q_57, by decide, by decide⟩
set_option maxHeartbeats 4000000 in
set_option maxRecDepth 100000 in
theorem cwL_X11_item : cwB room_1 rmX11_item yX11_item cX11_item 5 (some .int) 2 := ⟨q_1053, q_45, by decide, by decide⟩
set_option maxHeartbeats 4000000 in
set_option maxRecDepth 100000 in
theorem cwL_X12_item : cwB room_1 rmX12_item yX12_item cX12_item 4 (some .int) 2 := ⟨q_1586, q_57, by decide, by decide⟩
set_option maxHeartbeats 4000000 in
set_option maxRecDepth 100000 in
theorem cwL_X11_rest : cwB room_1 rmX11_rest yX11_rest cX11_rest 4 (some .int) 2 := ⟨q_1057, q_45, by decide, by decide⟩
set_option maxHeartbeats 4000000 in
set_option maxRecDepth 100000 in
theorem cwL_X12_rest : cwB room_1 rmX12_rest yX12_rest cX12_rest 3 (some .int) 2 := ⟨q_1590, q_57, by decide, by decide⟩
set_option maxHeartbeats 4000000 in
set_option maxRecDepth 100000 in
theorem cwL_X11_tell : cwB room_1 rmX11_tell yX11_tell cX11_tell 2 (some .int) 1 := ⟨q_1061, q_45, by decide, by decide⟩
set_option maxHeartbeats 4000000 in
set_option maxRecDepth 100000 in
theorem cwL_X12_tell : cwB room_1 rmX12_tell yX12_tell cX12_tell 2 (some .int) 1 := ⟨q_1594, q_57, by decide, by decide⟩
set_option maxHeartbeats 4000000 in
set_option maxRecDepth 100000 in
theorem cwL_X11_check : cwB room_1 rmX11_check yX11_check cX11_check 4 (some .int) 1 := ⟨q_1065, q_45, by decide, by decide⟩
set_option maxHeartbeats 4000000 in
set_option maxRecDepth 100000 in
theorem cwL_X12_check : cwB room_1 rmX12_check yX12_check cX12_check 5 (some .int) 1 := ⟨q_1598, q_57, by decide, by decide⟩
set_option maxHeartbeats 4000000 in
set_option maxRecDepth 100000 in
theorem cwL_X11_keep : cwB room_1 rmX11_keep yX11_keep cX11_keep 1 (some .int) 0 := ⟨q_1093, q_45, by decide, by decide⟩
set_option maxHeartbeats 4000000 in
set_option maxRecDepth 100000 in
theorem cwL_X12_keep : cwB room_1 rmX12_keep yX12_keep cX12_keep 1 (some .int) 0 := ⟨q_1605, q_57, by decide, by decide⟩
set_option maxHeartbeats 4000000 in
set_option maxRecDepth 100000 in
theorem cwL_X11_back : cwB room_1 rmX11_back yX11_back cX11_back 1 (some .int) 0 := ⟨q_1097, q_45, by decide, by decide⟩
set_option maxHeartbeats 4000000 in
set_option maxRecDepth 100000 in
theorem cwL_X12_back : cwB room_1 rmX12_back yX12_back cX12_back 1 (some .int) 0 := ⟨q_1609, q_57, by decide, by decide⟩
set_option maxHeartbeats 4000000 in
set_option maxRecDepth 100000 in
theorem cwL_X11_count : cwB room_1 rmX11_count yX11_count cX11_count 2 (some .int) 1 := ⟨q_1101, q_45, by decide, by decide⟩
set_option maxHeartbeats 4000000 in
set_option maxRecDepth 100000 in
theorem cwL_X12_count : cwB room_1 rmX12_count yX12_count cX12_count 2 (some .int) 1 := ⟨q_1613, q_57, by decide, by decide⟩
set_option maxHeartbeats 4000000 in
set_option maxRecDepth 100000 in
theorem law_0 {V : VE} {G : GE} {N : Nat} {f m : Mm} {ls : Array Slot} {ce sl : Nat} {Q : State → Prop} {b L k n : Nat} {xs : Nat → Int32} (B : CX V G code 4 "FluxWatchLaw" (some .boolean)) (hR : V.2.2.2.1 = room_1) (hb : b < gz G) (hX : va_X b L xs V.2.2.2.2.1 (gH G)) (hk : 6 * k + 6 ≤ L) (hL : L ≤ 384) (hl : lv_has ls 4 [(3, .int (nI (6 * k))), (2, .ref (gz G + 107)), (1, .ref (gz G + 0)), (0, .ref b)]) {r : Int32} {f1 : Mm} {m1 : Mm} (h1 : fX11_coil n (xs (6 * k + 1)) f = some (r, f1)) (h2 : fX12_coil n (xs (6 * k + 1)) m = some (r, m1)) (hce : ce ≤ 600000 ∧ sl ≤ 7302250) (kk : WX V G N f1 m1 ce sl Q 1705 ls []) : WX V G N f m ce sl Q 252 ls [] := by
  refine x_aload_n B dL_law_252 rfl (lv_at hl 2 rfl) ?_
  refine x_aload_n B dL_law_253 rfl (lv_at hl 3 rfl) ?_
  refine x_iload_n B dL_law_254 rfl (lv_at hl 0 rfl) ?_
  refine x_iconst (v := nI 1) B dL_law_255 (by decide) ?_
  refine x_iadd B dL_law_256 ?_
  refine x_scr (i := 6 * k + 1) B hb hX (nI_add _ _) (by omega) hL dL_law_257 ?_
  refine x_callV0 (rest := []) B (kX11_coil h1) ⟨rfl, rfl⟩ (rg_11_0.at0 (N := N) rfl).lt (rg_11_0.at0 (N := N) rfl).2 rfl (by decide) q_419 q_420 q_421 (by rw [hR]; exact cwL_X11_coil) rfl rfl hl.1 (Nat.le_of_ble_eq_true rfl) dL_law_258 (by rw [hR]; exact hce) ?_
  refine x_aload_n B dL_law_261 rfl (lv_at hl 1 rfl) ?_
  refine x_aload_n B dL_law_262 rfl (lv_at hl 3 rfl) ?_
  refine x_iload_n B dL_law_263 rfl (lv_at hl 0 rfl) ?_
  refine x_iconst (v := nI 1) B dL_law_264 (by decide) ?_
  refine x_iadd B dL_law_265 ?_
  refine x_scr (i := 6 * k + 1) B hb hX (nI_add _ _) (by omega) hL dL_law_266 ?_
  refine x_callV0 (rest := [.int r]) B (kX12_coil h2) ⟨rfl, rfl⟩ aM_107.lt aM_107.2 rfl (by decide) q_1216 q_1217 q_1218 (by rw [hR]; exact cwL_X12_coil) rfl rfl hl.1 (Nat.le_of_ble_eq_true rfl) dL_law_267 (by rw [hR]; exact hce) ?_
  exact x_icmp_eq (tgt := 1705) B dL_law_270 (by decide) (fun _ => kk) (fun h => absurd rfl h)
def SP_coil (Inv : Nat → Mm → Mm → Prop) (n : Nat) : Prop := ∀ (N : Nat) (f m : Mm) (a1 : Int32), Inv N f m → ∃ r : Int32, ∃ f1 : Mm, ∃ m1 : Mm, fX11_coil n a1 f = some (r, f1) ∧ fX12_coil n a1 m = some (r, m1) ∧ Inv N f1 m1
set_option maxHeartbeats 4000000 in
set_option maxRecDepth 100000 in
theorem law_1 {V : VE} {G : GE} {N : Nat} {f m : Mm} {ls : Array Slot} {ce sl : Nat} {Q : State → Prop} {b L k n : Nat} {xs : Nat → Int32} (B : CX V G code 4 "FluxWatchLaw" (some .boolean)) (hR : V.2.2.2.1 = room_1) (hb : b < gz G) (hX : va_X b L xs V.2.2.2.2.1 (gH G)) (hk : 6 * k + 6 ≤ L) (hL : L ≤ 384) (hl : lv_has ls 4 [(3, .int (nI (6 * k))), (2, .ref (gz G + 107)), (1, .ref (gz G + 0)), (0, .ref b)]) {r : Int32} (h1 : fX11_coilTold n (xs (6 * k + 1)) (xs (6 * k + 2)) f = some r) (h2 : fX12_coilTold n (xs (6 * k + 1)) (xs (6 * k + 2)) m = some r) (hce : ce ≤ 600000 ∧ sl ≤ 7302250) (kk : WX V G N f m ce sl Q 1705 ls []) : WX V G N f m ce sl Q 275 ls [] := by
  refine x_aload_n B dL_law_275 rfl (lv_at hl 2 rfl) ?_
  refine x_aload_n B dL_law_276 rfl (lv_at hl 3 rfl) ?_
  refine x_iload_n B dL_law_277 rfl (lv_at hl 0 rfl) ?_
  refine x_iconst (v := nI 1) B dL_law_278 (by decide) ?_
  refine x_iadd B dL_law_279 ?_
  refine x_scr (i := 6 * k + 1) B hb hX (nI_add _ _) (by omega) hL dL_law_280 ?_
  refine x_aload_n B dL_law_281 rfl (lv_at hl 3 rfl) ?_
  refine x_iload_n B dL_law_282 rfl (lv_at hl 0 rfl) ?_
  refine x_iconst (v := nI 2) B dL_law_283 (by decide) ?_
  refine x_iadd B dL_law_284 ?_
  refine x_scr (i := 6 * k + 2) B hb hX (nI_add _ _) (by omega) hL dL_law_285 ?_
  refine x_callV0 (rest := []) B (kX11_coilTold h1) ⟨rfl, rfl⟩ (rg_11_0.at0 (N := N) rfl).lt (rg_11_0.at0 (N := N) rfl).2 rfl (by decide) q_433 q_434 q_435 (by rw [hR]; exact cwL_X11_coilTold) rfl rfl hl.1 (Nat.le_of_ble_eq_true rfl) dL_law_286 (by rw [hR]; exact hce) ?_
  refine x_aload_n B dL_law_289 rfl (lv_at hl 1 rfl) ?_
  refine x_aload_n B dL_law_290 rfl (lv_at hl 3 rfl) ?_
  refine x_iload_n B dL_law_291 rfl (lv_at hl 0 rfl) ?_
  refine x_iconst (v := nI 1) B dL_law_292 (by decide) ?_
  refine x_iadd B dL_law_293 ?_
  refine x_scr (i := 6 * k + 1) B hb hX (nI_add _ _) (by omega) hL dL_law_294 ?_
  refine x_aload_n B dL_law_295 rfl (lv_at hl 3 rfl) ?_
  refine x_iload_n B dL_law_296 rfl (lv_at hl 0 rfl) ?_
  refine x_iconst (v := nI 2) B dL_law_297 (by decide) ?_
  refine x_iadd B dL_law_298 ?_
  refine x_scr (i := 6 * k + 2) B hb hX (nI_add _ _) (by omega) hL dL_law_299 ?_
  refine x_callV0 (rest := [.int r]) B (kX12_coilTold h2) ⟨rfl, rfl⟩ aM_107.lt aM_107.2 rfl (by decide) q_1225 q_1226 q_1227 (by rw [hR]; exact cwL_X12_coilTold) rfl rfl hl.1 (Nat.le_of_ble_eq_true rfl) dL_law_300 (by rw [hR]; exact hce) ?_
  exact x_icmp_eq (tgt := 1705) B dL_law_303 (by decide) (fun _ => kk) (fun h => absurd rfl h)
def SP_coilTold (Inv : Nat → Mm → Mm → Prop) (n : Nat) : Prop := ∀ (N : Nat) (f m : Mm) (a1 a2 : Int32), Inv N f m → ∃ r : Int32, fX11_coilTold n a1 a2 f = some r ∧ fX12_coilTold n a1 a2 m = some r ∧ Inv N f m
set_option maxHeartbeats 4000000 in
set_option maxRecDepth 100000 in
theorem law_2 {V : VE} {G : GE} {N : Nat} {f m : Mm} {ls : Array Slot} {ce sl : Nat} {Q : State → Prop} {b L k n : Nat} {xs : Nat → Int32} (B : CX V G code 4 "FluxWatchLaw" (some .boolean)) (hR : V.2.2.2.1 = room_1) (hb : b < gz G) (hX : va_X b L xs V.2.2.2.2.1 (gH G)) (hk : 6 * k + 6 ≤ L) (hL : L ≤ 384) (hl : lv_has ls 4 [(3, .int (nI (6 * k))), (2, .ref (gz G + 107)), (1, .ref (gz G + 0)), (0, .ref b)]) {r : Int32} {f1 : Mm} {m1 : Mm} (h1 : fX11_creep n (xs (6 * k + 1)) (xs (6 * k + 2)) f = some (r, f1)) (h2 : fX12_creep n (xs (6 * k + 1)) (xs (6 * k + 2)) m = some (r, m1)) (hce : ce ≤ 600000 ∧ sl ≤ 7302250) (kk : WX V G N f1 m1 ce sl Q 1705 ls []) : WX V G N f m ce sl Q 308 ls [] := by
  refine x_aload_n B dL_law_308 rfl (lv_at hl 2 rfl) ?_
  refine x_aload_n B dL_law_309 rfl (lv_at hl 3 rfl) ?_
  refine x_iload_n B dL_law_310 rfl (lv_at hl 0 rfl) ?_
  refine x_iconst (v := nI 1) B dL_law_311 (by decide) ?_
  refine x_iadd B dL_law_312 ?_
  refine x_scr (i := 6 * k + 1) B hb hX (nI_add _ _) (by omega) hL dL_law_313 ?_
  refine x_aload_n B dL_law_314 rfl (lv_at hl 3 rfl) ?_
  refine x_iload_n B dL_law_315 rfl (lv_at hl 0 rfl) ?_
  refine x_iconst (v := nI 2) B dL_law_316 (by decide) ?_
  refine x_iadd B dL_law_317 ?_
  refine x_scr (i := 6 * k + 2) B hb hX (nI_add _ _) (by omega) hL dL_law_318 ?_
  refine x_callV0 (rest := []) B (kX11_creep h1) ⟨rfl, rfl⟩ (rg_11_0.at0 (N := N) rfl).lt (rg_11_0.at0 (N := N) rfl).2 rfl (by decide) q_453 q_454 q_455 (by rw [hR]; exact cwL_X11_creep) rfl rfl hl.1 (Nat.le_of_ble_eq_true rfl) dL_law_319 (by rw [hR]; exact hce) ?_
  refine x_aload_n B dL_law_322 rfl (lv_at hl 1 rfl) ?_
  refine x_aload_n B dL_law_323 rfl (lv_at hl 3 rfl) ?_
  refine x_iload_n B dL_law_324 rfl (lv_at hl 0 rfl) ?_
  refine x_iconst (v := nI 1) B dL_law_325 (by decide) ?_
  refine x_iadd B dL_law_326 ?_
  refine x_scr (i := 6 * k + 1) B hb hX (nI_add _ _) (by omega) hL dL_law_327 ?_
  refine x_aload_n B dL_law_328 rfl (lv_at hl 3 rfl) ?_
  refine x_iload_n B dL_law_329 rfl (lv_at hl 0 rfl) ?_
  refine x_iconst (v := nI 2) B dL_law_330 (by decide) ?_
  refine x_iadd B dL_law_331 ?_
  refine x_scr (i := 6 * k + 2) B hb hX (nI_add _ _) (by omega) hL dL_law_332 ?_
  refine x_callV0 (rest := [.int r]) B (kX12_creep h2) ⟨rfl, rfl⟩ aM_107.lt aM_107.2 rfl (by decide) q_1246 q_1247 q_1248 (by rw [hR]; exact cwL_X12_creep) rfl rfl hl.1 (Nat.le_of_ble_eq_true rfl) dL_law_333 (by rw [hR]; exact hce) ?_
  exact x_icmp_eq (tgt := 1705) B dL_law_336 (by decide) (fun _ => kk) (fun h => absurd rfl h)
def SP_creep (Inv : Nat → Mm → Mm → Prop) (n : Nat) : Prop := ∀ (N : Nat) (f m : Mm) (a1 a2 : Int32), Inv N f m → ∃ r : Int32, ∃ f1 : Mm, ∃ m1 : Mm, fX11_creep n a1 a2 f = some (r, f1) ∧ fX12_creep n a1 a2 m = some (r, m1) ∧ Inv N f1 m1
set_option maxHeartbeats 4000000 in
set_option maxRecDepth 100000 in
theorem law_3 {V : VE} {G : GE} {N : Nat} {f m : Mm} {ls : Array Slot} {ce sl : Nat} {Q : State → Prop} {b L k n : Nat} {xs : Nat → Int32} (B : CX V G code 4 "FluxWatchLaw" (some .boolean)) (hR : V.2.2.2.1 = room_1) (hb : b < gz G) (hX : va_X b L xs V.2.2.2.2.1 (gH G)) (hk : 6 * k + 6 ≤ L) (hL : L ≤ 384) (hl : lv_has ls 4 [(3, .int (nI (6 * k))), (2, .ref (gz G + 107)), (1, .ref (gz G + 0)), (0, .ref b)]) {r : Int32} {f1 : Mm} {m1 : Mm} (h1 : fX11_pair n (xs (6 * k + 1)) (xs (6 * k + 2)) f = some (r, f1)) (h2 : fX12_pair n (xs (6 * k + 1)) (xs (6 * k + 2)) m = some (r, m1)) (hce : ce ≤ 600000 ∧ sl ≤ 7302250) (kk : WX V G N f1 m1 ce sl Q 1705 ls []) : WX V G N f m ce sl Q 341 ls [] := by
  refine x_aload_n B dL_law_341 rfl (lv_at hl 2 rfl) ?_
  refine x_aload_n B dL_law_342 rfl (lv_at hl 3 rfl) ?_
  refine x_iload_n B dL_law_343 rfl (lv_at hl 0 rfl) ?_
  refine x_iconst (v := nI 1) B dL_law_344 (by decide) ?_
  refine x_iadd B dL_law_345 ?_
  refine x_scr (i := 6 * k + 1) B hb hX (nI_add _ _) (by omega) hL dL_law_346 ?_
  refine x_aload_n B dL_law_347 rfl (lv_at hl 3 rfl) ?_
  refine x_iload_n B dL_law_348 rfl (lv_at hl 0 rfl) ?_
  refine x_iconst (v := nI 2) B dL_law_349 (by decide) ?_
  refine x_iadd B dL_law_350 ?_
  refine x_scr (i := 6 * k + 2) B hb hX (nI_add _ _) (by omega) hL dL_law_351 ?_
  refine x_callV0 (rest := []) B (kX11_pair h1) ⟨rfl, rfl⟩ (rg_11_0.at0 (N := N) rfl).lt (rg_11_0.at0 (N := N) rfl).2 rfl (by decide) q_457 q_458 q_459 (by rw [hR]; exact cwL_X11_pair) rfl rfl hl.1 (Nat.le_of_ble_eq_true rfl) dL_law_352 (by rw [hR]; exact hce) ?_
  refine x_aload_n B dL_law_355 rfl (lv_at hl 1 rfl) ?_
  refine x_aload_n B dL_law_356 rfl (lv_at hl 3 rfl) ?_
  refine x_iload_n B dL_law_357 rfl (lv_at hl 0 rfl) ?_
  refine x_iconst (v := nI 1) B dL_law_358 (by decide) ?_
  refine x_iadd B dL_law_359 ?_
  refine x_scr (i := 6 * k + 1) B hb hX (nI_add _ _) (by omega) hL dL_law_360 ?_
  refine x_aload_n B dL_law_361 rfl (lv_at hl 3 rfl) ?_
  refine x_iload_n B dL_law_362 rfl (lv_at hl 0 rfl) ?_
  refine x_iconst (v := nI 2) B dL_law_363 (by decide) ?_
  refine x_iadd B dL_law_364 ?_
  refine x_scr (i := 6 * k + 2) B hb hX (nI_add _ _) (by omega) hL dL_law_365 ?_
  refine x_callV0 (rest := [.int r]) B (kX12_pair h2) ⟨rfl, rfl⟩ aM_107.lt aM_107.2 rfl (by decide) q_1250 q_1251 q_1252 (by rw [hR]; exact cwL_X12_pair) rfl rfl hl.1 (Nat.le_of_ble_eq_true rfl) dL_law_366 (by rw [hR]; exact hce) ?_
  exact x_icmp_eq (tgt := 1705) B dL_law_369 (by decide) (fun _ => kk) (fun h => absurd rfl h)
def SP_pair (Inv : Nat → Mm → Mm → Prop) (n : Nat) : Prop := ∀ (N : Nat) (f m : Mm) (a1 a2 : Int32), Inv N f m → ∃ r : Int32, ∃ f1 : Mm, ∃ m1 : Mm, fX11_pair n a1 a2 f = some (r, f1) ∧ fX12_pair n a1 a2 m = some (r, m1) ∧ Inv N f1 m1
set_option maxHeartbeats 4000000 in
set_option maxRecDepth 100000 in
theorem law_4 {V : VE} {G : GE} {N : Nat} {f m : Mm} {ls : Array Slot} {ce sl : Nat} {Q : State → Prop} {b L k n : Nat} {xs : Nat → Int32} (B : CX V G code 4 "FluxWatchLaw" (some .boolean)) (hR : V.2.2.2.1 = room_1) (hb : b < gz G) (hX : va_X b L xs V.2.2.2.2.1 (gH G)) (hk : 6 * k + 6 ≤ L) (hL : L ≤ 384) (hl : lv_has ls 4 [(3, .int (nI (6 * k))), (2, .ref (gz G + 107)), (1, .ref (gz G + 0)), (0, .ref b)]) {r : Int32} {f1 : Mm} {m1 : Mm} (h1 : fX11_part n (xs (6 * k + 1)) f = some (r, f1)) (h2 : fX12_part n (xs (6 * k + 1)) m = some (r, m1)) (hce : ce ≤ 600000 ∧ sl ≤ 7302250) (kk : WX V G N f1 m1 ce sl Q 1705 ls []) : WX V G N f m ce sl Q 374 ls [] := by
  refine x_aload_n B dL_law_374 rfl (lv_at hl 2 rfl) ?_
  refine x_aload_n B dL_law_375 rfl (lv_at hl 3 rfl) ?_
  refine x_iload_n B dL_law_376 rfl (lv_at hl 0 rfl) ?_
  refine x_iconst (v := nI 1) B dL_law_377 (by decide) ?_
  refine x_iadd B dL_law_378 ?_
  refine x_scr (i := 6 * k + 1) B hb hX (nI_add _ _) (by omega) hL dL_law_379 ?_
  refine x_callV0 (rest := []) B (kX11_part h1) ⟨rfl, rfl⟩ (rg_11_0.at0 (N := N) rfl).lt (rg_11_0.at0 (N := N) rfl).2 rfl (by decide) q_463 q_464 q_465 (by rw [hR]; exact cwL_X11_part) rfl rfl hl.1 (Nat.le_of_ble_eq_true rfl) dL_law_380 (by rw [hR]; exact hce) ?_
  refine x_aload_n B dL_law_383 rfl (lv_at hl 1 rfl) ?_
  refine x_aload_n B dL_law_384 rfl (lv_at hl 3 rfl) ?_
  refine x_iload_n B dL_law_385 rfl (lv_at hl 0 rfl) ?_
  refine x_iconst (v := nI 1) B dL_law_386 (by decide) ?_
  refine x_iadd B dL_law_387 ?_
  refine x_scr (i := 6 * k + 1) B hb hX (nI_add _ _) (by omega) hL dL_law_388 ?_
  refine x_callV0 (rest := [.int r]) B (kX12_part h2) ⟨rfl, rfl⟩ aM_107.lt aM_107.2 rfl (by decide) q_1255 q_1256 q_1257 (by rw [hR]; exact cwL_X12_part) rfl rfl hl.1 (Nat.le_of_ble_eq_true rfl) dL_law_389 (by rw [hR]; exact hce) ?_
  exact x_icmp_eq (tgt := 1705) B dL_law_392 (by decide) (fun _ => kk) (fun h => absurd rfl h)
def SP_part (Inv : Nat → Mm → Mm → Prop) (n : Nat) : Prop := ∀ (N : Nat) (f m : Mm) (a1 : Int32), Inv N f m → ∃ r : Int32, ∃ f1 : Mm, ∃ m1 : Mm, fX11_part n a1 f = some (r, f1) ∧ fX12_part n a1 m = some (r, m1) ∧ Inv N f1 m1
set_option maxHeartbeats 4000000 in
set_option maxRecDepth 100000 in
theorem law_5 {V : VE} {G : GE} {N : Nat} {f m : Mm} {ls : Array Slot} {ce sl : Nat} {Q : State → Prop} {b L k n : Nat} {xs : Nat → Int32} (B : CX V G code 4 "FluxWatchLaw" (some .boolean)) (hR : V.2.2.2.1 = room_1) (hb : b < gz G) (hX : va_X b L xs V.2.2.2.2.1 (gH G)) (hk : 6 * k + 6 ≤ L) (hL : L ≤ 384) (hl : lv_has ls 4 [(3, .int (nI (6 * k))), (2, .ref (gz G + 107)), (1, .ref (gz G + 0)), (0, .ref b)]) {r : Int32} {f1 : Mm} {m1 : Mm} (h1 : fX11_watch n (xs (6 * k + 1)) (xs (6 * k + 2)) (xs (6 * k + 3)) f = some (r, f1)) (h2 : fX12_watch n (xs (6 * k + 1)) (xs (6 * k + 2)) (xs (6 * k + 3)) m = some (r, m1)) (hce : ce ≤ 600000 ∧ sl ≤ 7302250) (kk : WX V G N f1 m1 ce sl Q 1705 ls []) : WX V G N f m ce sl Q 397 ls [] := by
  refine x_aload_n B dL_law_397 rfl (lv_at hl 2 rfl) ?_
  refine x_aload_n B dL_law_398 rfl (lv_at hl 3 rfl) ?_
  refine x_iload_n B dL_law_399 rfl (lv_at hl 0 rfl) ?_
  refine x_iconst (v := nI 1) B dL_law_400 (by decide) ?_
  refine x_iadd B dL_law_401 ?_
  refine x_scr (i := 6 * k + 1) B hb hX (nI_add _ _) (by omega) hL dL_law_402 ?_
  refine x_aload_n B dL_law_403 rfl (lv_at hl 3 rfl) ?_
  refine x_iload_n B dL_law_404 rfl (lv_at hl 0 rfl) ?_
  refine x_iconst (v := nI 2) B dL_law_405 (by decide) ?_
  refine x_iadd B dL_law_406 ?_
  refine x_scr (i := 6 * k + 2) B hb hX (nI_add _ _) (by omega) hL dL_law_407 ?_
  refine x_aload_n B dL_law_408 rfl (lv_at hl 3 rfl) ?_
  refine x_iload_n B dL_law_409 rfl (lv_at hl 0 rfl) ?_
  refine x_iconst (v := nI 3) B dL_law_410 (by decide) ?_
  refine x_iadd B dL_law_411 ?_
  refine x_scr (i := 6 * k + 3) B hb hX (nI_add _ _) (by omega) hL dL_law_412 ?_
  refine x_callV0 (rest := []) B (kX11_watch h1) ⟨rfl, rfl⟩ (rg_11_0.at0 (N := N) rfl).lt (rg_11_0.at0 (N := N) rfl).2 rfl (by decide) q_467 q_468 q_469 (by rw [hR]; exact cwL_X11_watch) rfl rfl hl.1 (Nat.le_of_ble_eq_true rfl) dL_law_413 (by rw [hR]; exact hce) ?_
  refine x_aload_n B dL_law_416 rfl (lv_at hl 1 rfl) ?_
  refine x_aload_n B dL_law_417 rfl (lv_at hl 3 rfl) ?_
  refine x_iload_n B dL_law_418 rfl (lv_at hl 0 rfl) ?_
  refine x_iconst (v := nI 1) B dL_law_419 (by decide) ?_
  refine x_iadd B dL_law_420 ?_
  refine x_scr (i := 6 * k + 1) B hb hX (nI_add _ _) (by omega) hL dL_law_421 ?_
  refine x_aload_n B dL_law_422 rfl (lv_at hl 3 rfl) ?_
  refine x_iload_n B dL_law_423 rfl (lv_at hl 0 rfl) ?_
  refine x_iconst (v := nI 2) B dL_law_424 (by decide) ?_
  refine x_iadd B dL_law_425 ?_
  refine x_scr (i := 6 * k + 2) B hb hX (nI_add _ _) (by omega) hL dL_law_426 ?_
  refine x_aload_n B dL_law_427 rfl (lv_at hl 3 rfl) ?_
  refine x_iload_n B dL_law_428 rfl (lv_at hl 0 rfl) ?_
  refine x_iconst (v := nI 3) B dL_law_429 (by decide) ?_
  refine x_iadd B dL_law_430 ?_
  refine x_scr (i := 6 * k + 3) B hb hX (nI_add _ _) (by omega) hL dL_law_431 ?_
  refine x_callV0 (rest := [.int r]) B (kX12_watch h2) ⟨rfl, rfl⟩ aM_107.lt aM_107.2 rfl (by decide) q_1259 q_1260 q_1261 (by rw [hR]; exact cwL_X12_watch) rfl rfl hl.1 (Nat.le_of_ble_eq_true rfl) dL_law_432 (by rw [hR]; exact hce) ?_
  exact x_icmp_eq (tgt := 1705) B dL_law_435 (by decide) (fun _ => kk) (fun h => absurd rfl h)
def SP_watch (Inv : Nat → Mm → Mm → Prop) (n : Nat) : Prop := ∀ (N : Nat) (f m : Mm) (a1 a2 a3 : Int32), Inv N f m → ∃ r : Int32, ∃ f1 : Mm, ∃ m1 : Mm, fX11_watch n a1 a2 a3 f = some (r, f1) ∧ fX12_watch n a1 a2 a3 m = some (r, m1) ∧ Inv N f1 m1
set_option maxHeartbeats 4000000 in
set_option maxRecDepth 100000 in
theorem law_6 {V : VE} {G : GE} {N : Nat} {f m : Mm} {ls : Array Slot} {ce sl : Nat} {Q : State → Prop} {b L k n : Nat} {xs : Nat → Int32} (B : CX V G code 4 "FluxWatchLaw" (some .boolean)) (hR : V.2.2.2.1 = room_1) (hb : b < gz G) (hX : va_X b L xs V.2.2.2.2.1 (gH G)) (hk : 6 * k + 6 ≤ L) (hL : L ≤ 384) (hl : lv_has ls 4 [(3, .int (nI (6 * k))), (2, .ref (gz G + 107)), (1, .ref (gz G + 0)), (0, .ref b)]) {r : Int32} (h1 : fX11_seen n (xs (6 * k + 1)) f = some r) (h2 : fX12_seen n (xs (6 * k + 1)) m = some r) (hce : ce ≤ 600000 ∧ sl ≤ 7302250) (kk : WX V G N f m ce sl Q 1705 ls []) : WX V G N f m ce sl Q 440 ls [] := by
  refine x_aload_n B dL_law_440 rfl (lv_at hl 2 rfl) ?_
  refine x_aload_n B dL_law_441 rfl (lv_at hl 3 rfl) ?_
  refine x_iload_n B dL_law_442 rfl (lv_at hl 0 rfl) ?_
  refine x_iconst (v := nI 1) B dL_law_443 (by decide) ?_
  refine x_iadd B dL_law_444 ?_
  refine x_scr (i := 6 * k + 1) B hb hX (nI_add _ _) (by omega) hL dL_law_445 ?_
  refine x_callV0 (rest := []) B (kX11_seen h1) ⟨rfl, rfl⟩ (rg_11_0.at0 (N := N) rfl).lt (rg_11_0.at0 (N := N) rfl).2 rfl (by decide) q_482 q_483 q_484 (by rw [hR]; exact cwL_X11_seen) rfl rfl hl.1 (Nat.le_of_ble_eq_true rfl) dL_law_446 (by rw [hR]; exact hce) ?_
  refine x_aload_n B dL_law_449 rfl (lv_at hl 1 rfl) ?_
  refine x_aload_n B dL_law_450 rfl (lv_at hl 3 rfl) ?_
  refine x_iload_n B dL_law_451 rfl (lv_at hl 0 rfl) ?_
  refine x_iconst (v := nI 1) B dL_law_452 (by decide) ?_
  refine x_iadd B dL_law_453 ?_
  refine x_scr (i := 6 * k + 1) B hb hX (nI_add _ _) (by omega) hL dL_law_454 ?_
  refine x_callV0 (rest := [.int r]) B (kX12_seen h2) ⟨rfl, rfl⟩ aM_107.lt aM_107.2 rfl (by decide) q_1269 q_1270 q_1271 (by rw [hR]; exact cwL_X12_seen) rfl rfl hl.1 (Nat.le_of_ble_eq_true rfl) dL_law_455 (by rw [hR]; exact hce) ?_
  exact x_icmp_eq (tgt := 1705) B dL_law_458 (by decide) (fun _ => kk) (fun h => absurd rfl h)
def SP_seen (Inv : Nat → Mm → Mm → Prop) (n : Nat) : Prop := ∀ (N : Nat) (f m : Mm) (a1 : Int32), Inv N f m → ∃ r : Int32, fX11_seen n a1 f = some r ∧ fX12_seen n a1 m = some r ∧ Inv N f m
set_option maxHeartbeats 4000000 in
set_option maxRecDepth 100000 in
theorem law_7 {V : VE} {G : GE} {N : Nat} {f m : Mm} {ls : Array Slot} {ce sl : Nat} {Q : State → Prop} {b L k n : Nat} {xs : Nat → Int32} (B : CX V G code 4 "FluxWatchLaw" (some .boolean)) (hR : V.2.2.2.1 = room_1) (hb : b < gz G) (hX : va_X b L xs V.2.2.2.2.1 (gH G)) (hk : 6 * k + 6 ≤ L) (hL : L ≤ 384) (hl : lv_has ls 4 [(3, .int (nI (6 * k))), (2, .ref (gz G + 107)), (1, .ref (gz G + 0)), (0, .ref b)]) {r : Int32} (h1 : fX11_line n (xs (6 * k + 1)) (xs (6 * k + 2)) f = some r) (h2 : fX12_line n (xs (6 * k + 1)) (xs (6 * k + 2)) m = some r) (hce : ce ≤ 600000 ∧ sl ≤ 7302250) (kk : WX V G N f m ce sl Q 1705 ls []) : WX V G N f m ce sl Q 463 ls [] := by
  refine x_aload_n B dL_law_463 rfl (lv_at hl 2 rfl) ?_
  refine x_aload_n B dL_law_464 rfl (lv_at hl 3 rfl) ?_
  refine x_iload_n B dL_law_465 rfl (lv_at hl 0 rfl) ?_
  refine x_iconst (v := nI 1) B dL_law_466 (by decide) ?_
  refine x_iadd B dL_law_467 ?_
  refine x_scr (i := 6 * k + 1) B hb hX (nI_add _ _) (by omega) hL dL_law_468 ?_
  refine x_aload_n B dL_law_469 rfl (lv_at hl 3 rfl) ?_
  refine x_iload_n B dL_law_470 rfl (lv_at hl 0 rfl) ?_
  refine x_iconst (v := nI 2) B dL_law_471 (by decide) ?_
  refine x_iadd B dL_law_472 ?_
  refine x_scr (i := 6 * k + 2) B hb hX (nI_add _ _) (by omega) hL dL_law_473 ?_
  refine x_callV0 (rest := []) B (kX11_line h1) ⟨rfl, rfl⟩ (rg_11_0.at0 (N := N) rfl).lt (rg_11_0.at0 (N := N) rfl).2 rfl (by decide) q_493 q_494 q_495 (by rw [hR]; exact cwL_X11_line) rfl rfl hl.1 (Nat.le_of_ble_eq_true rfl) dL_law_474 (by rw [hR]; exact hce) ?_
  refine x_aload_n B dL_law_477 rfl (lv_at hl 1 rfl) ?_
  refine x_aload_n B dL_law_478 rfl (lv_at hl 3 rfl) ?_
  refine x_iload_n B dL_law_479 rfl (lv_at hl 0 rfl) ?_
  refine x_iconst (v := nI 1) B dL_law_480 (by decide) ?_
  refine x_iadd B dL_law_481 ?_
  refine x_scr (i := 6 * k + 1) B hb hX (nI_add _ _) (by omega) hL dL_law_482 ?_
  refine x_aload_n B dL_law_483 rfl (lv_at hl 3 rfl) ?_
  refine x_iload_n B dL_law_484 rfl (lv_at hl 0 rfl) ?_
  refine x_iconst (v := nI 2) B dL_law_485 (by decide) ?_
  refine x_iadd B dL_law_486 ?_
  refine x_scr (i := 6 * k + 2) B hb hX (nI_add _ _) (by omega) hL dL_law_487 ?_
  refine x_callV0 (rest := [.int r]) B (kX12_line h2) ⟨rfl, rfl⟩ aM_107.lt aM_107.2 rfl (by decide) q_1277 q_1278 q_1279 (by rw [hR]; exact cwL_X12_line) rfl rfl hl.1 (Nat.le_of_ble_eq_true rfl) dL_law_488 (by rw [hR]; exact hce) ?_
  exact x_icmp_eq (tgt := 1705) B dL_law_491 (by decide) (fun _ => kk) (fun h => absurd rfl h)
def SP_line (Inv : Nat → Mm → Mm → Prop) (n : Nat) : Prop := ∀ (N : Nat) (f m : Mm) (a1 a2 : Int32), Inv N f m → ∃ r : Int32, fX11_line n a1 a2 f = some r ∧ fX12_line n a1 a2 m = some r ∧ Inv N f m
set_option maxHeartbeats 4000000 in
set_option maxRecDepth 100000 in
theorem law_8 {V : VE} {G : GE} {N : Nat} {f m : Mm} {ls : Array Slot} {ce sl : Nat} {Q : State → Prop} {b L k n : Nat} {xs : Nat → Int32} (B : CX V G code 4 "FluxWatchLaw" (some .boolean)) (hR : V.2.2.2.1 = room_1) (hb : b < gz G) (hX : va_X b L xs V.2.2.2.2.1 (gH G)) (hk : 6 * k + 6 ≤ L) (hL : L ≤ 384) (hl : lv_has ls 4 [(3, .int (nI (6 * k))), (2, .ref (gz G + 107)), (1, .ref (gz G + 0)), (0, .ref b)]) {r : Int32} {f1 : Mm} {m1 : Mm} (h1 : fX11_step n (xs (6 * k + 1)) (xs (6 * k + 2)) (xs (6 * k + 3)) (xs (6 * k + 4)) f = some (r, f1)) (h2 : fX12_step n (xs (6 * k + 1)) (xs (6 * k + 2)) (xs (6 * k + 3)) (xs (6 * k + 4)) m = some (r, m1)) (hce : ce ≤ 600000 ∧ sl ≤ 7302250) (kk : WX V G N f1 m1 ce sl Q 1705 ls []) : WX V G N f m ce sl Q 496 ls [] := by
  refine x_aload_n B dL_law_496 rfl (lv_at hl 2 rfl) ?_
  refine x_aload_n B dL_law_497 rfl (lv_at hl 3 rfl) ?_
  refine x_iload_n B dL_law_498 rfl (lv_at hl 0 rfl) ?_
  refine x_iconst (v := nI 1) B dL_law_499 (by decide) ?_
  refine x_iadd B dL_law_500 ?_
  refine x_scr (i := 6 * k + 1) B hb hX (nI_add _ _) (by omega) hL dL_law_501 ?_
  refine x_aload_n B dL_law_502 rfl (lv_at hl 3 rfl) ?_
  refine x_iload_n B dL_law_503 rfl (lv_at hl 0 rfl) ?_
  refine x_iconst (v := nI 2) B dL_law_504 (by decide) ?_
  refine x_iadd B dL_law_505 ?_
  refine x_scr (i := 6 * k + 2) B hb hX (nI_add _ _) (by omega) hL dL_law_506 ?_
  refine x_aload_n B dL_law_507 rfl (lv_at hl 3 rfl) ?_
  refine x_iload_n B dL_law_508 rfl (lv_at hl 0 rfl) ?_
  refine x_iconst (v := nI 3) B dL_law_509 (by decide) ?_
  refine x_iadd B dL_law_510 ?_
  refine x_scr (i := 6 * k + 3) B hb hX (nI_add _ _) (by omega) hL dL_law_511 ?_
  refine x_aload_n B dL_law_512 rfl (lv_at hl 3 rfl) ?_
  refine x_iload_n B dL_law_513 rfl (lv_at hl 0 rfl) ?_
  refine x_iconst (v := nI 4) B dL_law_514 (by decide) ?_
  refine x_iadd B dL_law_515 ?_
  refine x_scr (i := 6 * k + 4) B hb hX (nI_add _ _) (by omega) hL dL_law_516 ?_
  refine x_callV0 (rest := []) B (kX11_step h1) ⟨rfl, rfl⟩ (rg_11_0.at0 (N := N) rfl).lt (rg_11_0.at0 (N := N) rfl).2 rfl (by decide) q_505 q_506 q_507 (by rw [hR]; exact cwL_X11_step) rfl rfl hl.1 (Nat.le_of_ble_eq_true rfl) dL_law_517 (by rw [hR]; exact hce) ?_
  refine x_aload_n B dL_law_520 rfl (lv_at hl 1 rfl) ?_
  refine x_aload_n B dL_law_521 rfl (lv_at hl 3 rfl) ?_
  refine x_iload_n B dL_law_522 rfl (lv_at hl 0 rfl) ?_
  refine x_iconst (v := nI 1) B dL_law_523 (by decide) ?_
  refine x_iadd B dL_law_524 ?_
  refine x_scr (i := 6 * k + 1) B hb hX (nI_add _ _) (by omega) hL dL_law_525 ?_
  refine x_aload_n B dL_law_526 rfl (lv_at hl 3 rfl) ?_
  refine x_iload_n B dL_law_527 rfl (lv_at hl 0 rfl) ?_
  refine x_iconst (v := nI 2) B dL_law_528 (by decide) ?_
  refine x_iadd B dL_law_529 ?_
  refine x_scr (i := 6 * k + 2) B hb hX (nI_add _ _) (by omega) hL dL_law_530 ?_
  refine x_aload_n B dL_law_531 rfl (lv_at hl 3 rfl) ?_
  refine x_iload_n B dL_law_532 rfl (lv_at hl 0 rfl) ?_
  refine x_iconst (v := nI 3) B dL_law_533 (by decide) ?_
  refine x_iadd B dL_law_534 ?_
  refine x_scr (i := 6 * k + 3) B hb hX (nI_add _ _) (by omega) hL dL_law_535 ?_
  refine x_aload_n B dL_law_536 rfl (lv_at hl 3 rfl) ?_
  refine x_iload_n B dL_law_537 rfl (lv_at hl 0 rfl) ?_
  refine x_iconst (v := nI 4) B dL_law_538 (by decide) ?_
  refine x_iadd B dL_law_539 ?_
  refine x_scr (i := 6 * k + 4) B hb hX (nI_add _ _) (by omega) hL dL_law_540 ?_
  refine x_callV0 (rest := [.int r]) B (kX12_step h2) ⟨rfl, rfl⟩ aM_107.lt aM_107.2 rfl (by decide) q_1285 q_1286 q_1287 (by rw [hR]; exact cwL_X12_step) rfl rfl hl.1 (Nat.le_of_ble_eq_true rfl) dL_law_541 (by rw [hR]; exact hce) ?_
  exact x_icmp_eq (tgt := 1705) B dL_law_544 (by decide) (fun _ => kk) (fun h => absurd rfl h)
def SP_step (Inv : Nat → Mm → Mm → Prop) (n : Nat) : Prop := ∀ (N : Nat) (f m : Mm) (a1 a2 a3 a4 : Int32), Inv N f m → ∃ r : Int32, ∃ f1 : Mm, ∃ m1 : Mm, fX11_step n a1 a2 a3 a4 f = some (r, f1) ∧ fX12_step n a1 a2 a3 a4 m = some (r, m1) ∧ Inv N f1 m1
set_option maxHeartbeats 4000000 in
set_option maxRecDepth 100000 in
theorem law_9 {V : VE} {G : GE} {N : Nat} {f m : Mm} {ls : Array Slot} {ce sl : Nat} {Q : State → Prop} {b L k n : Nat} {xs : Nat → Int32} (B : CX V G code 4 "FluxWatchLaw" (some .boolean)) (hR : V.2.2.2.1 = room_1) (hb : b < gz G) (hX : va_X b L xs V.2.2.2.2.1 (gH G)) (hk : 6 * k + 6 ≤ L) (hL : L ≤ 384) (hl : lv_has ls 4 [(3, .int (nI (6 * k))), (2, .ref (gz G + 107)), (1, .ref (gz G + 0)), (0, .ref b)]) {r : Int32} (h1 : fX11_told n (xs (6 * k + 1)) (xs (6 * k + 2)) f = some r) (h2 : fX12_told n (xs (6 * k + 1)) (xs (6 * k + 2)) m = some r) (hce : ce ≤ 600000 ∧ sl ≤ 7302250) (kk : WX V G N f m ce sl Q 1705 ls []) : WX V G N f m ce sl Q 549 ls [] := by
  refine x_aload_n B dL_law_549 rfl (lv_at hl 2 rfl) ?_
  refine x_aload_n B dL_law_550 rfl (lv_at hl 3 rfl) ?_
  refine x_iload_n B dL_law_551 rfl (lv_at hl 0 rfl) ?_
  refine x_iconst (v := nI 1) B dL_law_552 (by decide) ?_
  refine x_iadd B dL_law_553 ?_
  refine x_scr (i := 6 * k + 1) B hb hX (nI_add _ _) (by omega) hL dL_law_554 ?_
  refine x_aload_n B dL_law_555 rfl (lv_at hl 3 rfl) ?_
  refine x_iload_n B dL_law_556 rfl (lv_at hl 0 rfl) ?_
  refine x_iconst (v := nI 2) B dL_law_557 (by decide) ?_
  refine x_iadd B dL_law_558 ?_
  refine x_scr (i := 6 * k + 2) B hb hX (nI_add _ _) (by omega) hL dL_law_559 ?_
  refine x_callV0 (rest := []) B (kX11_told h1) ⟨rfl, rfl⟩ (rg_11_0.at0 (N := N) rfl).lt (rg_11_0.at0 (N := N) rfl).2 rfl (by decide) q_524 q_525 q_526 (by rw [hR]; exact cwL_X11_told) rfl rfl hl.1 (Nat.le_of_ble_eq_true rfl) dL_law_560 (by rw [hR]; exact hce) ?_
  refine x_aload_n B dL_law_563 rfl (lv_at hl 1 rfl) ?_
  refine x_aload_n B dL_law_564 rfl (lv_at hl 3 rfl) ?_
  refine x_iload_n B dL_law_565 rfl (lv_at hl 0 rfl) ?_
  refine x_iconst (v := nI 1) B dL_law_566 (by decide) ?_
  refine x_iadd B dL_law_567 ?_
  refine x_scr (i := 6 * k + 1) B hb hX (nI_add _ _) (by omega) hL dL_law_568 ?_
  refine x_aload_n B dL_law_569 rfl (lv_at hl 3 rfl) ?_
  refine x_iload_n B dL_law_570 rfl (lv_at hl 0 rfl) ?_
  refine x_iconst (v := nI 2) B dL_law_571 (by decide) ?_
  refine x_iadd B dL_law_572 ?_
  refine x_scr (i := 6 * k + 2) B hb hX (nI_add _ _) (by omega) hL dL_law_573 ?_
  refine x_callV0 (rest := [.int r]) B (kX12_told h2) ⟨rfl, rfl⟩ aM_107.lt aM_107.2 rfl (by decide) q_1293 q_1294 q_1295 (by rw [hR]; exact cwL_X12_told) rfl rfl hl.1 (Nat.le_of_ble_eq_true rfl) dL_law_574 (by rw [hR]; exact hce) ?_
  exact x_icmp_eq (tgt := 1705) B dL_law_577 (by decide) (fun _ => kk) (fun h => absurd rfl h)
def SP_told (Inv : Nat → Mm → Mm → Prop) (n : Nat) : Prop := ∀ (N : Nat) (f m : Mm) (a1 a2 : Int32), Inv N f m → ∃ r : Int32, fX11_told n a1 a2 f = some r ∧ fX12_told n a1 a2 m = some r ∧ Inv N f m
set_option maxHeartbeats 4000000 in
set_option maxRecDepth 100000 in
theorem law_10 {V : VE} {G : GE} {N : Nat} {f m : Mm} {ls : Array Slot} {ce sl : Nat} {Q : State → Prop} {b L k n : Nat} {xs : Nat → Int32} (B : CX V G code 4 "FluxWatchLaw" (some .boolean)) (hR : V.2.2.2.1 = room_1) (hb : b < gz G) (hX : va_X b L xs V.2.2.2.2.1 (gH G)) (hk : 6 * k + 6 ≤ L) (hL : L ≤ 384) (hl : lv_has ls 4 [(3, .int (nI (6 * k))), (2, .ref (gz G + 107)), (1, .ref (gz G + 0)), (0, .ref b)]) {r : Int32} (h1 : fX11_as n (xs (6 * k + 1)) (xs (6 * k + 2)) f = some r) (h2 : fX12_as n (xs (6 * k + 1)) (xs (6 * k + 2)) m = some r) (hce : ce ≤ 600000 ∧ sl ≤ 7302250) (kk : WX V G N f m ce sl Q 1705 ls []) : WX V G N f m ce sl Q 582 ls [] := by
  refine x_aload_n B dL_law_582 rfl (lv_at hl 2 rfl) ?_
  refine x_aload_n B dL_law_583 rfl (lv_at hl 3 rfl) ?_
  refine x_iload_n B dL_law_584 rfl (lv_at hl 0 rfl) ?_
  refine x_iconst (v := nI 1) B dL_law_585 (by decide) ?_
  refine x_iadd B dL_law_586 ?_
  refine x_scr (i := 6 * k + 1) B hb hX (nI_add _ _) (by omega) hL dL_law_587 ?_
  refine x_aload_n B dL_law_588 rfl (lv_at hl 3 rfl) ?_
  refine x_iload_n B dL_law_589 rfl (lv_at hl 0 rfl) ?_
  refine x_iconst (v := nI 2) B dL_law_590 (by decide) ?_
  refine x_iadd B dL_law_591 ?_
  refine x_scr (i := 6 * k + 2) B hb hX (nI_add _ _) (by omega) hL dL_law_592 ?_
  refine x_callV0 (rest := []) B (kX11_as h1) ⟨rfl, rfl⟩ (rg_11_0.at0 (N := N) rfl).lt (rg_11_0.at0 (N := N) rfl).2 rfl (by decide) q_556 q_557 q_558 (by rw [hR]; exact cwL_X11_as) rfl rfl hl.1 (Nat.le_of_ble_eq_true rfl) dL_law_593 (by rw [hR]; exact hce) ?_
  refine x_aload_n B dL_law_596 rfl (lv_at hl 1 rfl) ?_
  refine x_aload_n B dL_law_597 rfl (lv_at hl 3 rfl) ?_
  refine x_iload_n B dL_law_598 rfl (lv_at hl 0 rfl) ?_
  refine x_iconst (v := nI 1) B dL_law_599 (by decide) ?_
  refine x_iadd B dL_law_600 ?_
  refine x_scr (i := 6 * k + 1) B hb hX (nI_add _ _) (by omega) hL dL_law_601 ?_
  refine x_aload_n B dL_law_602 rfl (lv_at hl 3 rfl) ?_
  refine x_iload_n B dL_law_603 rfl (lv_at hl 0 rfl) ?_
  refine x_iconst (v := nI 2) B dL_law_604 (by decide) ?_
  refine x_iadd B dL_law_605 ?_
  refine x_scr (i := 6 * k + 2) B hb hX (nI_add _ _) (by omega) hL dL_law_606 ?_
  refine x_callV0 (rest := [.int r]) B (kX12_as h2) ⟨rfl, rfl⟩ aM_107.lt aM_107.2 rfl (by decide) q_1320 q_1321 q_1322 (by rw [hR]; exact cwL_X12_as) rfl rfl hl.1 (Nat.le_of_ble_eq_true rfl) dL_law_607 (by rw [hR]; exact hce) ?_
  exact x_icmp_eq (tgt := 1705) B dL_law_610 (by decide) (fun _ => kk) (fun h => absurd rfl h)
def SP_as (Inv : Nat → Mm → Mm → Prop) (n : Nat) : Prop := ∀ (N : Nat) (f m : Mm) (a1 a2 : Int32), Inv N f m → ∃ r : Int32, fX11_as n a1 a2 f = some r ∧ fX12_as n a1 a2 m = some r ∧ Inv N f m
set_option maxHeartbeats 4000000 in
set_option maxRecDepth 100000 in
theorem law_11 {V : VE} {G : GE} {N : Nat} {f m : Mm} {ls : Array Slot} {ce sl : Nat} {Q : State → Prop} {b L k n : Nat} {xs : Nat → Int32} (B : CX V G code 4 "FluxWatchLaw" (some .boolean)) (hR : V.2.2.2.1 = room_1) (hb : b < gz G) (hX : va_X b L xs V.2.2.2.2.1 (gH G)) (hk : 6 * k + 6 ≤ L) (hL : L ≤ 384) (hl : lv_has ls 4 [(3, .int (nI (6 * k))), (2, .ref (gz G + 107)), (1, .ref (gz G + 0)), (0, .ref b)]) {r : Int32} {f1 : Mm} {m1 : Mm} (h1 : fX11_turns n (xs (6 * k + 1)) (xs (6 * k + 2)) f = some (r, f1)) (h2 : fX12_turns n (xs (6 * k + 1)) (xs (6 * k + 2)) m = some (r, m1)) (hce : ce ≤ 600000 ∧ sl ≤ 7302250) (kk : WX V G N f1 m1 ce sl Q 1705 ls []) : WX V G N f m ce sl Q 615 ls [] := by
  refine x_aload_n B dL_law_615 rfl (lv_at hl 2 rfl) ?_
  refine x_aload_n B dL_law_616 rfl (lv_at hl 3 rfl) ?_
  refine x_iload_n B dL_law_617 rfl (lv_at hl 0 rfl) ?_
  refine x_iconst (v := nI 1) B dL_law_618 (by decide) ?_
  refine x_iadd B dL_law_619 ?_
  refine x_scr (i := 6 * k + 1) B hb hX (nI_add _ _) (by omega) hL dL_law_620 ?_
  refine x_aload_n B dL_law_621 rfl (lv_at hl 3 rfl) ?_
  refine x_iload_n B dL_law_622 rfl (lv_at hl 0 rfl) ?_
  refine x_iconst (v := nI 2) B dL_law_623 (by decide) ?_
  refine x_iadd B dL_law_624 ?_
  refine x_scr (i := 6 * k + 2) B hb hX (nI_add _ _) (by omega) hL dL_law_625 ?_
  refine x_callV0 (rest := []) B (kX11_turns h1) ⟨rfl, rfl⟩ (rg_11_0.at0 (N := N) rfl).lt (rg_11_0.at0 (N := N) rfl).2 rfl (by decide) q_566 q_567 q_568 (by rw [hR]; exact cwL_X11_turns) rfl rfl hl.1 (Nat.le_of_ble_eq_true rfl) dL_law_626 (by rw [hR]; exact hce) ?_
  refine x_aload_n B dL_law_629 rfl (lv_at hl 1 rfl) ?_
  refine x_aload_n B dL_law_630 rfl (lv_at hl 3 rfl) ?_
  refine x_iload_n B dL_law_631 rfl (lv_at hl 0 rfl) ?_
  refine x_iconst (v := nI 1) B dL_law_632 (by decide) ?_
  refine x_iadd B dL_law_633 ?_
  refine x_scr (i := 6 * k + 1) B hb hX (nI_add _ _) (by omega) hL dL_law_634 ?_
  refine x_aload_n B dL_law_635 rfl (lv_at hl 3 rfl) ?_
  refine x_iload_n B dL_law_636 rfl (lv_at hl 0 rfl) ?_
  refine x_iconst (v := nI 2) B dL_law_637 (by decide) ?_
  refine x_iadd B dL_law_638 ?_
  refine x_scr (i := 6 * k + 2) B hb hX (nI_add _ _) (by omega) hL dL_law_639 ?_
  refine x_callV0 (rest := [.int r]) B (kX12_turns h2) ⟨rfl, rfl⟩ aM_107.lt aM_107.2 rfl (by decide) q_1328 q_1329 q_1330 (by rw [hR]; exact cwL_X12_turns) rfl rfl hl.1 (Nat.le_of_ble_eq_true rfl) dL_law_640 (by rw [hR]; exact hce) ?_
  exact x_icmp_eq (tgt := 1705) B dL_law_643 (by decide) (fun _ => kk) (fun h => absurd rfl h)
def SP_turns (Inv : Nat → Mm → Mm → Prop) (n : Nat) : Prop := ∀ (N : Nat) (f m : Mm) (a1 a2 : Int32), Inv N f m → ∃ r : Int32, ∃ f1 : Mm, ∃ m1 : Mm, fX11_turns n a1 a2 f = some (r, f1) ∧ fX12_turns n a1 a2 m = some (r, m1) ∧ Inv N f1 m1
set_option maxHeartbeats 4000000 in
set_option maxRecDepth 100000 in
theorem law_12 {V : VE} {G : GE} {N : Nat} {f m : Mm} {ls : Array Slot} {ce sl : Nat} {Q : State → Prop} {b L k n : Nat} {xs : Nat → Int32} (B : CX V G code 4 "FluxWatchLaw" (some .boolean)) (hR : V.2.2.2.1 = room_1) (hb : b < gz G) (hX : va_X b L xs V.2.2.2.2.1 (gH G)) (hk : 6 * k + 6 ≤ L) (hL : L ≤ 384) (hl : lv_has ls 4 [(3, .int (nI (6 * k))), (2, .ref (gz G + 107)), (1, .ref (gz G + 0)), (0, .ref b)]) {r : Int32} {f1 : Mm} {m1 : Mm} (h1 : fX11_drop n (xs (6 * k + 1)) f = some (r, f1)) (h2 : fX12_drop n (xs (6 * k + 1)) m = some (r, m1)) (hce : ce ≤ 600000 ∧ sl ≤ 7302250) (kk : WX V G N f1 m1 ce sl Q 1705 ls []) : WX V G N f m ce sl Q 648 ls [] := by
  refine x_aload_n B dL_law_648 rfl (lv_at hl 2 rfl) ?_
  refine x_aload_n B dL_law_649 rfl (lv_at hl 3 rfl) ?_
  refine x_iload_n B dL_law_650 rfl (lv_at hl 0 rfl) ?_
  refine x_iconst (v := nI 1) B dL_law_651 (by decide) ?_
  refine x_iadd B dL_law_652 ?_
  refine x_scr (i := 6 * k + 1) B hb hX (nI_add _ _) (by omega) hL dL_law_653 ?_
  refine x_callV0 (rest := []) B (kX11_drop h1) ⟨rfl, rfl⟩ (rg_11_0.at0 (N := N) rfl).lt (rg_11_0.at0 (N := N) rfl).2 rfl (by decide) q_570 q_571 q_572 (by rw [hR]; exact cwL_X11_drop) rfl rfl hl.1 (Nat.le_of_ble_eq_true rfl) dL_law_654 (by rw [hR]; exact hce) ?_
  refine x_aload_n B dL_law_657 rfl (lv_at hl 1 rfl) ?_
  refine x_aload_n B dL_law_658 rfl (lv_at hl 3 rfl) ?_
  refine x_iload_n B dL_law_659 rfl (lv_at hl 0 rfl) ?_
  refine x_iconst (v := nI 1) B dL_law_660 (by decide) ?_
  refine x_iadd B dL_law_661 ?_
  refine x_scr (i := 6 * k + 1) B hb hX (nI_add _ _) (by omega) hL dL_law_662 ?_
  refine x_callV0 (rest := [.int r]) B (kX12_drop h2) ⟨rfl, rfl⟩ aM_107.lt aM_107.2 rfl (by decide) q_1332 q_1333 q_1334 (by rw [hR]; exact cwL_X12_drop) rfl rfl hl.1 (Nat.le_of_ble_eq_true rfl) dL_law_663 (by rw [hR]; exact hce) ?_
  exact x_icmp_eq (tgt := 1705) B dL_law_666 (by decide) (fun _ => kk) (fun h => absurd rfl h)
def SP_drop (Inv : Nat → Mm → Mm → Prop) (n : Nat) : Prop := ∀ (N : Nat) (f m : Mm) (a1 : Int32), Inv N f m → ∃ r : Int32, ∃ f1 : Mm, ∃ m1 : Mm, fX11_drop n a1 f = some (r, f1) ∧ fX12_drop n a1 m = some (r, m1) ∧ Inv N f1 m1
set_option maxHeartbeats 4000000 in
set_option maxRecDepth 100000 in
theorem law_13 {V : VE} {G : GE} {N : Nat} {f m : Mm} {ls : Array Slot} {ce sl : Nat} {Q : State → Prop} {b L k n : Nat} {xs : Nat → Int32} (B : CX V G code 4 "FluxWatchLaw" (some .boolean)) (hR : V.2.2.2.1 = room_1) (hb : b < gz G) (hX : va_X b L xs V.2.2.2.2.1 (gH G)) (hk : 6 * k + 6 ≤ L) (hL : L ≤ 384) (hl : lv_has ls 4 [(3, .int (nI (6 * k))), (2, .ref (gz G + 107)), (1, .ref (gz G + 0)), (0, .ref b)]) {r : Int32} {f1 : Mm} {m1 : Mm} (h1 : fX11_set n (xs (6 * k + 1)) (xs (6 * k + 2)) f = some (r, f1)) (h2 : fX12_set n (xs (6 * k + 1)) (xs (6 * k + 2)) m = some (r, m1)) (hce : ce ≤ 600000 ∧ sl ≤ 7302250) (kk : WX V G N f1 m1 ce sl Q 1705 ls []) : WX V G N f m ce sl Q 671 ls [] := by
  refine x_aload_n B dL_law_671 rfl (lv_at hl 2 rfl) ?_
  refine x_aload_n B dL_law_672 rfl (lv_at hl 3 rfl) ?_
  refine x_iload_n B dL_law_673 rfl (lv_at hl 0 rfl) ?_
  refine x_iconst (v := nI 1) B dL_law_674 (by decide) ?_
  refine x_iadd B dL_law_675 ?_
  refine x_scr (i := 6 * k + 1) B hb hX (nI_add _ _) (by omega) hL dL_law_676 ?_
  refine x_aload_n B dL_law_677 rfl (lv_at hl 3 rfl) ?_
  refine x_iload_n B dL_law_678 rfl (lv_at hl 0 rfl) ?_
  refine x_iconst (v := nI 2) B dL_law_679 (by decide) ?_
  refine x_iadd B dL_law_680 ?_
  refine x_scr (i := 6 * k + 2) B hb hX (nI_add _ _) (by omega) hL dL_law_681 ?_
  refine x_callV0 (rest := []) B (kX11_set h1) ⟨rfl, rfl⟩ (rg_11_0.at0 (N := N) rfl).lt (rg_11_0.at0 (N := N) rfl).2 rfl (by decide) q_581 q_582 q_583 (by rw [hR]; exact cwL_X11_set) rfl rfl hl.1 (Nat.le_of_ble_eq_true rfl) dL_law_682 (by rw [hR]; exact hce) ?_
  refine x_aload_n B dL_law_685 rfl (lv_at hl 1 rfl) ?_
  refine x_aload_n B dL_law_686 rfl (lv_at hl 3 rfl) ?_
  refine x_iload_n B dL_law_687 rfl (lv_at hl 0 rfl) ?_
  refine x_iconst (v := nI 1) B dL_law_688 (by decide) ?_
  refine x_iadd B dL_law_689 ?_
  refine x_scr (i := 6 * k + 1) B hb hX (nI_add _ _) (by omega) hL dL_law_690 ?_
  refine x_aload_n B dL_law_691 rfl (lv_at hl 3 rfl) ?_
  refine x_iload_n B dL_law_692 rfl (lv_at hl 0 rfl) ?_
  refine x_iconst (v := nI 2) B dL_law_693 (by decide) ?_
  refine x_iadd B dL_law_694 ?_
  refine x_scr (i := 6 * k + 2) B hb hX (nI_add _ _) (by omega) hL dL_law_695 ?_
  refine x_callV0 (rest := [.int r]) B (kX12_set h2) ⟨rfl, rfl⟩ aM_107.lt aM_107.2 rfl (by decide) q_1336 q_1337 q_1338 (by rw [hR]; exact cwL_X12_set) rfl rfl hl.1 (Nat.le_of_ble_eq_true rfl) dL_law_696 (by rw [hR]; exact hce) ?_
  exact x_icmp_eq (tgt := 1705) B dL_law_699 (by decide) (fun _ => kk) (fun h => absurd rfl h)
def SP_set (Inv : Nat → Mm → Mm → Prop) (n : Nat) : Prop := ∀ (N : Nat) (f m : Mm) (a1 a2 : Int32), Inv N f m → ∃ r : Int32, ∃ f1 : Mm, ∃ m1 : Mm, fX11_set n a1 a2 f = some (r, f1) ∧ fX12_set n a1 a2 m = some (r, m1) ∧ Inv N f1 m1
set_option maxHeartbeats 4000000 in
set_option maxRecDepth 100000 in
theorem law_14 {V : VE} {G : GE} {N : Nat} {f m : Mm} {ls : Array Slot} {ce sl : Nat} {Q : State → Prop} {b L k n : Nat} {xs : Nat → Int32} (B : CX V G code 4 "FluxWatchLaw" (some .boolean)) (hR : V.2.2.2.1 = room_1) (hb : b < gz G) (hX : va_X b L xs V.2.2.2.2.1 (gH G)) (hk : 6 * k + 6 ≤ L) (hL : L ≤ 384) (hl : lv_has ls 4 [(3, .int (nI (6 * k))), (2, .ref (gz G + 107)), (1, .ref (gz G + 0)), (0, .ref b)]) {r : Int32} (h1 : fX11_fit n f = some r) (h2 : fX12_fit n m = some r) (hce : ce ≤ 600000 ∧ sl ≤ 7302250) (kk : WX V G N f m ce sl Q 1705 ls []) : WX V G N f m ce sl Q 704 ls [] := by
  refine x_aload_n B dL_law_704 rfl (lv_at hl 2 rfl) ?_
  refine x_callV0 (rest := []) B (kX11_fit h1) ⟨rfl, rfl⟩ (rg_11_0.at0 (N := N) rfl).lt (rg_11_0.at0 (N := N) rfl).2 rfl (by decide) q_593 q_594 q_595 (by rw [hR]; exact cwL_X11_fit) rfl rfl hl.1 (Nat.le_of_ble_eq_true rfl) dL_law_705 (by rw [hR]; exact hce) ?_
  refine x_aload_n B dL_law_708 rfl (lv_at hl 1 rfl) ?_
  refine x_callV0 (rest := [.int r]) B (kX12_fit h2) ⟨rfl, rfl⟩ aM_107.lt aM_107.2 rfl (by decide) q_1340 q_1341 q_1342 (by rw [hR]; exact cwL_X12_fit) rfl rfl hl.1 (Nat.le_of_ble_eq_true rfl) dL_law_709 (by rw [hR]; exact hce) ?_
  exact x_icmp_eq (tgt := 1705) B dL_law_712 (by decide) (fun _ => kk) (fun h => absurd rfl h)
def SP_fit (Inv : Nat → Mm → Mm → Prop) (n : Nat) : Prop := ∀ (N : Nat) (f m : Mm) , Inv N f m → ∃ r : Int32, fX11_fit n f = some r ∧ fX12_fit n m = some r ∧ Inv N f m
set_option maxHeartbeats 4000000 in
set_option maxRecDepth 100000 in
theorem law_15 {V : VE} {G : GE} {N : Nat} {f m : Mm} {ls : Array Slot} {ce sl : Nat} {Q : State → Prop} {b L k n : Nat} {xs : Nat → Int32} (B : CX V G code 4 "FluxWatchLaw" (some .boolean)) (hR : V.2.2.2.1 = room_1) (hb : b < gz G) (hX : va_X b L xs V.2.2.2.2.1 (gH G)) (hk : 6 * k + 6 ≤ L) (hL : L ≤ 384) (hl : lv_has ls 4 [(3, .int (nI (6 * k))), (2, .ref (gz G + 107)), (1, .ref (gz G + 0)), (0, .ref b)]) {r : Int32} {f1 : Mm} {m1 : Mm} (h1 : fX11_run n N (xs (6 * k + 1)) f = some (r, f1)) (h2 : fX12_run n (xs (6 * k + 1)) m = some (r, m1)) (hce : ce ≤ 600000 ∧ sl ≤ 7302250) (kk : WX V G N f1 m1 ce sl Q 1705 ls []) : WX V G N f m ce sl Q 717 ls [] := by
  refine x_aload_n B dL_law_717 rfl (lv_at hl 2 rfl) ?_
  refine x_aload_n B dL_law_718 rfl (lv_at hl 3 rfl) ?_
  refine x_iload_n B dL_law_719 rfl (lv_at hl 0 rfl) ?_
  refine x_iconst (v := nI 1) B dL_law_720 (by decide) ?_
  refine x_iadd B dL_law_721 ?_
  refine x_scr (i := 6 * k + 1) B hb hX (nI_add _ _) (by omega) hL dL_law_722 ?_
  refine x_callV0 (rest := []) B (kX11_run h1) ⟨rfl, rfl⟩ (rg_11_0.at0 (N := N) rfl).lt (rg_11_0.at0 (N := N) rfl).2 rfl (by decide) q_597 q_598 q_599 (by rw [hR]; exact cwL_X11_run) rfl rfl hl.1 (Nat.le_of_ble_eq_true rfl) dL_law_723 (by rw [hR]; exact hce) ?_
  refine x_aload_n B dL_law_726 rfl (lv_at hl 1 rfl) ?_
  refine x_aload_n B dL_law_727 rfl (lv_at hl 3 rfl) ?_
  refine x_iload_n B dL_law_728 rfl (lv_at hl 0 rfl) ?_
  refine x_iconst (v := nI 1) B dL_law_729 (by decide) ?_
  refine x_iadd B dL_law_730 ?_
  refine x_scr (i := 6 * k + 1) B hb hX (nI_add _ _) (by omega) hL dL_law_731 ?_
  refine x_callV0 (rest := [.int r]) B (kX12_run h2) ⟨rfl, rfl⟩ aM_107.lt aM_107.2 rfl (by decide) q_1344 q_1345 q_1346 (by rw [hR]; exact cwL_X12_run) rfl rfl hl.1 (Nat.le_of_ble_eq_true rfl) dL_law_732 (by rw [hR]; exact hce) ?_
  exact x_icmp_eq (tgt := 1705) B dL_law_735 (by decide) (fun _ => kk) (fun h => absurd rfl h)
def SP_run (Inv : Nat → Mm → Mm → Prop) (n : Nat) : Prop := ∀ (N : Nat) (f m : Mm) (a1 : Int32), Inv N f m → ∃ r : Int32, ∃ f1 : Mm, ∃ m1 : Mm, fX11_run n N a1 f = some (r, f1) ∧ fX12_run n a1 m = some (r, m1) ∧ Inv N f1 m1
set_option maxHeartbeats 4000000 in
set_option maxRecDepth 100000 in
theorem law_16 {V : VE} {G : GE} {N : Nat} {f m : Mm} {ls : Array Slot} {ce sl : Nat} {Q : State → Prop} {b L k n : Nat} {xs : Nat → Int32} (B : CX V G code 4 "FluxWatchLaw" (some .boolean)) (hR : V.2.2.2.1 = room_1) (hb : b < gz G) (hX : va_X b L xs V.2.2.2.2.1 (gH G)) (hk : 6 * k + 6 ≤ L) (hL : L ≤ 384) (hl : lv_has ls 4 [(3, .int (nI (6 * k))), (2, .ref (gz G + 107)), (1, .ref (gz G + 0)), (0, .ref b)]) {r : Int32} {f1 : Mm} {m1 : Mm} (h1 : fX11_news n N (xs (6 * k + 1)) (xs (6 * k + 2)) f = some (r, f1)) (h2 : fX12_news n (xs (6 * k + 1)) (xs (6 * k + 2)) m = some (r, m1)) (hce : ce ≤ 600000 ∧ sl ≤ 7302250) (kk : WX V G N f1 m1 ce sl Q 1705 ls []) : WX V G N f m ce sl Q 740 ls [] := by
  refine x_aload_n B dL_law_740 rfl (lv_at hl 2 rfl) ?_
  refine x_aload_n B dL_law_741 rfl (lv_at hl 3 rfl) ?_
  refine x_iload_n B dL_law_742 rfl (lv_at hl 0 rfl) ?_
  refine x_iconst (v := nI 1) B dL_law_743 (by decide) ?_
  refine x_iadd B dL_law_744 ?_
  refine x_scr (i := 6 * k + 1) B hb hX (nI_add _ _) (by omega) hL dL_law_745 ?_
  refine x_aload_n B dL_law_746 rfl (lv_at hl 3 rfl) ?_
  refine x_iload_n B dL_law_747 rfl (lv_at hl 0 rfl) ?_
  refine x_iconst (v := nI 2) B dL_law_748 (by decide) ?_
  refine x_iadd B dL_law_749 ?_
  refine x_scr (i := 6 * k + 2) B hb hX (nI_add _ _) (by omega) hL dL_law_750 ?_
  refine x_callV0 (rest := []) B (kX11_news h1) ⟨rfl, rfl⟩ (rg_11_0.at0 (N := N) rfl).lt (rg_11_0.at0 (N := N) rfl).2 rfl (by decide) q_671 q_672 q_673 (by rw [hR]; exact cwL_X11_news) rfl rfl hl.1 (Nat.le_of_ble_eq_true rfl) dL_law_751 (by rw [hR]; exact hce) ?_
  refine x_aload_n B dL_law_754 rfl (lv_at hl 1 rfl) ?_
  refine x_aload_n B dL_law_755 rfl (lv_at hl 3 rfl) ?_
  refine x_iload_n B dL_law_756 rfl (lv_at hl 0 rfl) ?_
  refine x_iconst (v := nI 1) B dL_law_757 (by decide) ?_
  refine x_iadd B dL_law_758 ?_
  refine x_scr (i := 6 * k + 1) B hb hX (nI_add _ _) (by omega) hL dL_law_759 ?_
  refine x_aload_n B dL_law_760 rfl (lv_at hl 3 rfl) ?_
  refine x_iload_n B dL_law_761 rfl (lv_at hl 0 rfl) ?_
  refine x_iconst (v := nI 2) B dL_law_762 (by decide) ?_
  refine x_iadd B dL_law_763 ?_
  refine x_scr (i := 6 * k + 2) B hb hX (nI_add _ _) (by omega) hL dL_law_764 ?_
  refine x_callV0 (rest := [.int r]) B (kX12_news h2) ⟨rfl, rfl⟩ aM_107.lt aM_107.2 rfl (by decide) q_1395 q_1396 q_1397 (by rw [hR]; exact cwL_X12_news) rfl rfl hl.1 (Nat.le_of_ble_eq_true rfl) dL_law_765 (by rw [hR]; exact hce) ?_
  exact x_icmp_eq (tgt := 1705) B dL_law_768 (by decide) (fun _ => kk) (fun h => absurd rfl h)
def SP_news (Inv : Nat → Mm → Mm → Prop) (n : Nat) : Prop := ∀ (N : Nat) (f m : Mm) (a1 a2 : Int32), Inv N f m → ∃ r : Int32, ∃ f1 : Mm, ∃ m1 : Mm, fX11_news n N a1 a2 f = some (r, f1) ∧ fX12_news n a1 a2 m = some (r, m1) ∧ Inv N f1 m1
set_option maxHeartbeats 4000000 in
set_option maxRecDepth 100000 in
theorem law_17 {V : VE} {G : GE} {N : Nat} {f m : Mm} {ls : Array Slot} {ce sl : Nat} {Q : State → Prop} {b L k n : Nat} {xs : Nat → Int32} (B : CX V G code 4 "FluxWatchLaw" (some .boolean)) (hR : V.2.2.2.1 = room_1) (hb : b < gz G) (hX : va_X b L xs V.2.2.2.2.1 (gH G)) (hk : 6 * k + 6 ≤ L) (hL : L ≤ 384) (hl : lv_has ls 4 [(3, .int (nI (6 * k))), (2, .ref (gz G + 107)), (1, .ref (gz G + 0)), (0, .ref b)]) {r : Int32} {f1 : Mm} {m1 : Mm} (h1 : fX11_since n N (xs (6 * k + 1)) f = some (r, f1)) (h2 : fX12_since n (xs (6 * k + 1)) m = some (r, m1)) (hce : ce ≤ 600000 ∧ sl ≤ 7302250) (kk : WX V G N f1 m1 ce sl Q 1705 ls []) : WX V G N f m ce sl Q 773 ls [] := by
  refine x_aload_n B dL_law_773 rfl (lv_at hl 2 rfl) ?_
  refine x_aload_n B dL_law_774 rfl (lv_at hl 3 rfl) ?_
  refine x_iload_n B dL_law_775 rfl (lv_at hl 0 rfl) ?_
  refine x_iconst (v := nI 1) B dL_law_776 (by decide) ?_
  refine x_iadd B dL_law_777 ?_
  refine x_scr (i := 6 * k + 1) B hb hX (nI_add _ _) (by omega) hL dL_law_778 ?_
  refine x_callV0 (rest := []) B (kX11_since h1) ⟨rfl, rfl⟩ (rg_11_0.at0 (N := N) rfl).lt (rg_11_0.at0 (N := N) rfl).2 rfl (by decide) q_678 q_679 q_680 (by rw [hR]; exact cwL_X11_since) rfl rfl hl.1 (Nat.le_of_ble_eq_true rfl) dL_law_779 (by rw [hR]; exact hce) ?_
  refine x_aload_n B dL_law_782 rfl (lv_at hl 1 rfl) ?_
  refine x_aload_n B dL_law_783 rfl (lv_at hl 3 rfl) ?_
  refine x_iload_n B dL_law_784 rfl (lv_at hl 0 rfl) ?_
  refine x_iconst (v := nI 1) B dL_law_785 (by decide) ?_
  refine x_iadd B dL_law_786 ?_
  refine x_scr (i := 6 * k + 1) B hb hX (nI_add _ _) (by omega) hL dL_law_787 ?_
  refine x_callV0 (rest := [.int r]) B (kX12_since h2) ⟨rfl, rfl⟩ aM_107.lt aM_107.2 rfl (by decide) q_1399 q_1400 q_1401 (by rw [hR]; exact cwL_X12_since) rfl rfl hl.1 (Nat.le_of_ble_eq_true rfl) dL_law_788 (by rw [hR]; exact hce) ?_
  exact x_icmp_eq (tgt := 1705) B dL_law_791 (by decide) (fun _ => kk) (fun h => absurd rfl h)
def SP_since (Inv : Nat → Mm → Mm → Prop) (n : Nat) : Prop := ∀ (N : Nat) (f m : Mm) (a1 : Int32), Inv N f m → ∃ r : Int32, ∃ f1 : Mm, ∃ m1 : Mm, fX11_since n N a1 f = some (r, f1) ∧ fX12_since n a1 m = some (r, m1) ∧ Inv N f1 m1
set_option maxHeartbeats 4000000 in
set_option maxRecDepth 100000 in
theorem law_18 {V : VE} {G : GE} {N : Nat} {f m : Mm} {ls : Array Slot} {ce sl : Nat} {Q : State → Prop} {b L k n : Nat} {xs : Nat → Int32} (B : CX V G code 4 "FluxWatchLaw" (some .boolean)) (hR : V.2.2.2.1 = room_1) (hb : b < gz G) (hX : va_X b L xs V.2.2.2.2.1 (gH G)) (hk : 6 * k + 6 ≤ L) (hL : L ≤ 384) (hl : lv_has ls 4 [(3, .int (nI (6 * k))), (2, .ref (gz G + 107)), (1, .ref (gz G + 0)), (0, .ref b)]) {r : Int32} {f1 : Mm} {m1 : Mm} (h1 : fX11_falls n N (xs (6 * k + 1)) f = some (r, f1)) (h2 : fX12_falls n (xs (6 * k + 1)) m = some (r, m1)) (hce : ce ≤ 600000 ∧ sl ≤ 7302250) (kk : WX V G N f1 m1 ce sl Q 1705 ls []) : WX V G N f m ce sl Q 796 ls [] := by
  refine x_aload_n B dL_law_796 rfl (lv_at hl 2 rfl) ?_
  refine x_aload_n B dL_law_797 rfl (lv_at hl 3 rfl) ?_
  refine x_iload_n B dL_law_798 rfl (lv_at hl 0 rfl) ?_
  refine x_iconst (v := nI 1) B dL_law_799 (by decide) ?_
  refine x_iadd B dL_law_800 ?_
  refine x_scr (i := 6 * k + 1) B hb hX (nI_add _ _) (by omega) hL dL_law_801 ?_
  refine x_callV0 (rest := []) B (kX11_falls h1) ⟨rfl, rfl⟩ (rg_11_0.at0 (N := N) rfl).lt (rg_11_0.at0 (N := N) rfl).2 rfl (by decide) q_687 q_688 q_689 (by rw [hR]; exact cwL_X11_falls) rfl rfl hl.1 (Nat.le_of_ble_eq_true rfl) dL_law_802 (by rw [hR]; exact hce) ?_
  refine x_aload_n B dL_law_805 rfl (lv_at hl 1 rfl) ?_
  refine x_aload_n B dL_law_806 rfl (lv_at hl 3 rfl) ?_
  refine x_iload_n B dL_law_807 rfl (lv_at hl 0 rfl) ?_
  refine x_iconst (v := nI 1) B dL_law_808 (by decide) ?_
  refine x_iadd B dL_law_809 ?_
  refine x_scr (i := 6 * k + 1) B hb hX (nI_add _ _) (by omega) hL dL_law_810 ?_
  refine x_callV0 (rest := [.int r]) B (kX12_falls h2) ⟨rfl, rfl⟩ aM_107.lt aM_107.2 rfl (by decide) q_1407 q_1408 q_1409 (by rw [hR]; exact cwL_X12_falls) rfl rfl hl.1 (Nat.le_of_ble_eq_true rfl) dL_law_811 (by rw [hR]; exact hce) ?_
  exact x_icmp_eq (tgt := 1705) B dL_law_814 (by decide) (fun _ => kk) (fun h => absurd rfl h)
def SP_falls (Inv : Nat → Mm → Mm → Prop) (n : Nat) : Prop := ∀ (N : Nat) (f m : Mm) (a1 : Int32), Inv N f m → ∃ r : Int32, ∃ f1 : Mm, ∃ m1 : Mm, fX11_falls n N a1 f = some (r, f1) ∧ fX12_falls n a1 m = some (r, m1) ∧ Inv N f1 m1
set_option maxHeartbeats 4000000 in
set_option maxRecDepth 100000 in
theorem law_19 {V : VE} {G : GE} {N : Nat} {f m : Mm} {ls : Array Slot} {ce sl : Nat} {Q : State → Prop} {b L k n : Nat} {xs : Nat → Int32} (B : CX V G code 4 "FluxWatchLaw" (some .boolean)) (hR : V.2.2.2.1 = room_1) (hb : b < gz G) (hX : va_X b L xs V.2.2.2.2.1 (gH G)) (hk : 6 * k + 6 ≤ L) (hL : L ≤ 384) (hl : lv_has ls 4 [(3, .int (nI (6 * k))), (2, .ref (gz G + 107)), (1, .ref (gz G + 0)), (0, .ref b)]) {r : Int32} {f1 : Mm} {m1 : Mm} (h1 : fX11_await n N f = some (r, f1)) (h2 : fX12_await n m = some (r, m1)) (hce : ce ≤ 600000 ∧ sl ≤ 7302250) (kk : WX V G N f1 m1 ce sl Q 1705 ls []) : WX V G N f m ce sl Q 819 ls [] := by
  refine x_aload_n B dL_law_819 rfl (lv_at hl 2 rfl) ?_
  refine x_callV0 (rest := []) B (kX11_await h1) ⟨rfl, rfl⟩ (rg_11_0.at0 (N := N) rfl).lt (rg_11_0.at0 (N := N) rfl).2 rfl (by decide) q_691 q_692 q_693 (by rw [hR]; exact cwL_X11_await) rfl rfl hl.1 (Nat.le_of_ble_eq_true rfl) dL_law_820 (by rw [hR]; exact hce) ?_
  refine x_aload_n B dL_law_823 rfl (lv_at hl 1 rfl) ?_
  refine x_callV0 (rest := [.int r]) B (kX12_await h2) ⟨rfl, rfl⟩ aM_107.lt aM_107.2 rfl (by decide) q_1411 q_1412 q_1413 (by rw [hR]; exact cwL_X12_await) rfl rfl hl.1 (Nat.le_of_ble_eq_true rfl) dL_law_824 (by rw [hR]; exact hce) ?_
  exact x_icmp_eq (tgt := 1705) B dL_law_827 (by decide) (fun _ => kk) (fun h => absurd rfl h)
def SP_await (Inv : Nat → Mm → Mm → Prop) (n : Nat) : Prop := ∀ (N : Nat) (f m : Mm) , Inv N f m → ∃ r : Int32, ∃ f1 : Mm, ∃ m1 : Mm, fX11_await n N f = some (r, f1) ∧ fX12_await n m = some (r, m1) ∧ Inv N f1 m1
set_option maxHeartbeats 4000000 in
set_option maxRecDepth 100000 in
theorem law_20 {V : VE} {G : GE} {N : Nat} {f m : Mm} {ls : Array Slot} {ce sl : Nat} {Q : State → Prop} {b L k n : Nat} {xs : Nat → Int32} (B : CX V G code 4 "FluxWatchLaw" (some .boolean)) (hR : V.2.2.2.1 = room_1) (hb : b < gz G) (hX : va_X b L xs V.2.2.2.2.1 (gH G)) (hk : 6 * k + 6 ≤ L) (hL : L ≤ 384) (hl : lv_has ls 4 [(3, .int (nI (6 * k))), (2, .ref (gz G + 107)), (1, .ref (gz G + 0)), (0, .ref b)]) {r : Int32} {f1 : Mm} {m1 : Mm} (h1 : fX11_beyond n N f = some (r, f1)) (h2 : fX12_beyond n m = some (r, m1)) (hce : ce ≤ 600000 ∧ sl ≤ 7302250) (kk : WX V G N f1 m1 ce sl Q 1705 ls []) : WX V G N f m ce sl Q 832 ls [] := by
  refine x_aload_n B dL_law_832 rfl (lv_at hl 2 rfl) ?_
  refine x_callV0 (rest := []) B (kX11_beyond h1) ⟨rfl, rfl⟩ (rg_11_0.at0 (N := N) rfl).lt (rg_11_0.at0 (N := N) rfl).2 rfl (by decide) q_697 q_698 q_699 (by rw [hR]; exact cwL_X11_beyond) rfl rfl hl.1 (Nat.le_of_ble_eq_true rfl) dL_law_833 (by rw [hR]; exact hce) ?_
  refine x_aload_n B dL_law_836 rfl (lv_at hl 1 rfl) ?_
  refine x_callV0 (rest := [.int r]) B (kX12_beyond h2) ⟨rfl, rfl⟩ aM_107.lt aM_107.2 rfl (by decide) q_1417 q_1418 q_1419 (by rw [hR]; exact cwL_X12_beyond) rfl rfl hl.1 (Nat.le_of_ble_eq_true rfl) dL_law_837 (by rw [hR]; exact hce) ?_
  exact x_icmp_eq (tgt := 1705) B dL_law_840 (by decide) (fun _ => kk) (fun h => absurd rfl h)
def SP_beyond (Inv : Nat → Mm → Mm → Prop) (n : Nat) : Prop := ∀ (N : Nat) (f m : Mm) , Inv N f m → ∃ r : Int32, ∃ f1 : Mm, ∃ m1 : Mm, fX11_beyond n N f = some (r, f1) ∧ fX12_beyond n m = some (r, m1) ∧ Inv N f1 m1
set_option maxHeartbeats 4000000 in
set_option maxRecDepth 100000 in
theorem law_21 {V : VE} {G : GE} {N : Nat} {f m : Mm} {ls : Array Slot} {ce sl : Nat} {Q : State → Prop} {b L k n : Nat} {xs : Nat → Int32} (B : CX V G code 4 "FluxWatchLaw" (some .boolean)) (hR : V.2.2.2.1 = room_1) (hb : b < gz G) (hX : va_X b L xs V.2.2.2.2.1 (gH G)) (hk : 6 * k + 6 ≤ L) (hL : L ≤ 384) (hl : lv_has ls 4 [(3, .int (nI (6 * k))), (2, .ref (gz G + 107)), (1, .ref (gz G + 0)), (0, .ref b)]) {r : Int32} {f1 : Mm} {m1 : Mm} (h1 : fX11_seed n (xs (6 * k + 1)) f = some (r, f1)) (h2 : fX12_seed n (xs (6 * k + 1)) m = some (r, m1)) (hce : ce ≤ 600000 ∧ sl ≤ 7302250) (kk : WX V G N f1 m1 ce sl Q 1705 ls []) : WX V G N f m ce sl Q 845 ls [] := by
  refine x_aload_n B dL_law_845 rfl (lv_at hl 2 rfl) ?_
  refine x_aload_n B dL_law_846 rfl (lv_at hl 3 rfl) ?_
  refine x_iload_n B dL_law_847 rfl (lv_at hl 0 rfl) ?_
  refine x_iconst (v := nI 1) B dL_law_848 (by decide) ?_
  refine x_iadd B dL_law_849 ?_
  refine x_scr (i := 6 * k + 1) B hb hX (nI_add _ _) (by omega) hL dL_law_850 ?_
  refine x_callV0 (rest := []) B (kX11_seed h1) ⟨rfl, rfl⟩ (rg_11_0.at0 (N := N) rfl).lt (rg_11_0.at0 (N := N) rfl).2 rfl (by decide) q_703 q_704 q_705 (by rw [hR]; exact cwL_X11_seed) rfl rfl hl.1 (Nat.le_of_ble_eq_true rfl) dL_law_851 (by rw [hR]; exact hce) ?_
  refine x_aload_n B dL_law_854 rfl (lv_at hl 1 rfl) ?_
  refine x_aload_n B dL_law_855 rfl (lv_at hl 3 rfl) ?_
  refine x_iload_n B dL_law_856 rfl (lv_at hl 0 rfl) ?_
  refine x_iconst (v := nI 1) B dL_law_857 (by decide) ?_
  refine x_iadd B dL_law_858 ?_
  refine x_scr (i := 6 * k + 1) B hb hX (nI_add _ _) (by omega) hL dL_law_859 ?_
  refine x_callV0 (rest := [.int r]) B (kX12_seed h2) ⟨rfl, rfl⟩ aM_107.lt aM_107.2 rfl (by decide) q_1421 q_1422 q_1423 (by rw [hR]; exact cwL_X12_seed) rfl rfl hl.1 (Nat.le_of_ble_eq_true rfl) dL_law_860 (by rw [hR]; exact hce) ?_
  exact x_icmp_eq (tgt := 1705) B dL_law_863 (by decide) (fun _ => kk) (fun h => absurd rfl h)
def SP_seed (Inv : Nat → Mm → Mm → Prop) (n : Nat) : Prop := ∀ (N : Nat) (f m : Mm) (a1 : Int32), Inv N f m → ∃ r : Int32, ∃ f1 : Mm, ∃ m1 : Mm, fX11_seed n a1 f = some (r, f1) ∧ fX12_seed n a1 m = some (r, m1) ∧ Inv N f1 m1
set_option maxHeartbeats 4000000 in
set_option maxRecDepth 100000 in
theorem law_22 {V : VE} {G : GE} {N : Nat} {f m : Mm} {ls : Array Slot} {ce sl : Nat} {Q : State → Prop} {b L k n : Nat} {xs : Nat → Int32} (B : CX V G code 4 "FluxWatchLaw" (some .boolean)) (hR : V.2.2.2.1 = room_1) (hb : b < gz G) (hX : va_X b L xs V.2.2.2.2.1 (gH G)) (hk : 6 * k + 6 ≤ L) (hL : L ≤ 384) (hl : lv_has ls 4 [(3, .int (nI (6 * k))), (2, .ref (gz G + 107)), (1, .ref (gz G + 0)), (0, .ref b)]) {r : Int32} {f1 : Mm} {m1 : Mm} (h1 : fX11_feed n (xs (6 * k + 1)) (xs (6 * k + 2)) (xs (6 * k + 3)) f = some (r, f1)) (h2 : fX12_feed n (xs (6 * k + 1)) (xs (6 * k + 2)) (xs (6 * k + 3)) m = some (r, m1)) (hce : ce ≤ 600000 ∧ sl ≤ 7302250) (kk : WX V G N f1 m1 ce sl Q 1705 ls []) : WX V G N f m ce sl Q 868 ls [] := by
  refine x_aload_n B dL_law_868 rfl (lv_at hl 2 rfl) ?_
  refine x_aload_n B dL_law_869 rfl (lv_at hl 3 rfl) ?_
  refine x_iload_n B dL_law_870 rfl (lv_at hl 0 rfl) ?_
  refine x_iconst (v := nI 1) B dL_law_871 (by decide) ?_
  refine x_iadd B dL_law_872 ?_
  refine x_scr (i := 6 * k + 1) B hb hX (nI_add _ _) (by omega) hL dL_law_873 ?_
  refine x_aload_n B dL_law_874 rfl (lv_at hl 3 rfl) ?_
  refine x_iload_n B dL_law_875 rfl (lv_at hl 0 rfl) ?_
  refine x_iconst (v := nI 2) B dL_law_876 (by decide) ?_
  refine x_iadd B dL_law_877 ?_
  refine x_scr (i := 6 * k + 2) B hb hX (nI_add _ _) (by omega) hL dL_law_878 ?_
  refine x_aload_n B dL_law_879 rfl (lv_at hl 3 rfl) ?_
  refine x_iload_n B dL_law_880 rfl (lv_at hl 0 rfl) ?_
  refine x_iconst (v := nI 3) B dL_law_881 (by decide) ?_
  refine x_iadd B dL_law_882 ?_
  refine x_scr (i := 6 * k + 3) B hb hX (nI_add _ _) (by omega) hL dL_law_883 ?_
  refine x_callV0 (rest := []) B (kX11_feed h1) ⟨rfl, rfl⟩ (rg_11_0.at0 (N := N) rfl).lt (rg_11_0.at0 (N := N) rfl).2 rfl (by decide) q_707 q_708 q_709 (by rw [hR]; exact cwL_X11_feed) rfl rfl hl.1 (Nat.le_of_ble_eq_true rfl) dL_law_884 (by rw [hR]; exact hce) ?_
  refine x_aload_n B dL_law_887 rfl (lv_at hl 1 rfl) ?_
  refine x_aload_n B dL_law_888 rfl (lv_at hl 3 rfl) ?_
  refine x_iload_n B dL_law_889 rfl (lv_at hl 0 rfl) ?_
  refine x_iconst (v := nI 1) B dL_law_890 (by decide) ?_
  refine x_iadd B dL_law_891 ?_
  refine x_scr (i := 6 * k + 1) B hb hX (nI_add _ _) (by omega) hL dL_law_892 ?_
  refine x_aload_n B dL_law_893 rfl (lv_at hl 3 rfl) ?_
  refine x_iload_n B dL_law_894 rfl (lv_at hl 0 rfl) ?_
  refine x_iconst (v := nI 2) B dL_law_895 (by decide) ?_
  refine x_iadd B dL_law_896 ?_
  refine x_scr (i := 6 * k + 2) B hb hX (nI_add _ _) (by omega) hL dL_law_897 ?_
  refine x_aload_n B dL_law_898 rfl (lv_at hl 3 rfl) ?_
  refine x_iload_n B dL_law_899 rfl (lv_at hl 0 rfl) ?_
  refine x_iconst (v := nI 3) B dL_law_900 (by decide) ?_
  refine x_iadd B dL_law_901 ?_
  refine x_scr (i := 6 * k + 3) B hb hX (nI_add _ _) (by omega) hL dL_law_902 ?_
  refine x_callV0 (rest := [.int r]) B (kX12_feed h2) ⟨rfl, rfl⟩ aM_107.lt aM_107.2 rfl (by decide) q_1425 q_1426 q_1427 (by rw [hR]; exact cwL_X12_feed) rfl rfl hl.1 (Nat.le_of_ble_eq_true rfl) dL_law_903 (by rw [hR]; exact hce) ?_
  exact x_icmp_eq (tgt := 1705) B dL_law_906 (by decide) (fun _ => kk) (fun h => absurd rfl h)
def SP_feed (Inv : Nat → Mm → Mm → Prop) (n : Nat) : Prop := ∀ (N : Nat) (f m : Mm) (a1 a2 a3 : Int32), Inv N f m → ∃ r : Int32, ∃ f1 : Mm, ∃ m1 : Mm, fX11_feed n a1 a2 a3 f = some (r, f1) ∧ fX12_feed n a1 a2 a3 m = some (r, m1) ∧ Inv N f1 m1
set_option maxHeartbeats 4000000 in
set_option maxRecDepth 100000 in
theorem law_23 {V : VE} {G : GE} {N : Nat} {f m : Mm} {ls : Array Slot} {ce sl : Nat} {Q : State → Prop} {b L k n : Nat} {xs : Nat → Int32} (B : CX V G code 4 "FluxWatchLaw" (some .boolean)) (hR : V.2.2.2.1 = room_1) (hb : b < gz G) (hX : va_X b L xs V.2.2.2.2.1 (gH G)) (hk : 6 * k + 6 ≤ L) (hL : L ≤ 384) (hl : lv_has ls 4 [(3, .int (nI (6 * k))), (2, .ref (gz G + 107)), (1, .ref (gz G + 0)), (0, .ref b)]) {r : Int32} {f1 : Mm} {m1 : Mm} (h1 : fX11_trim n (xs (6 * k + 1)) f = some (r, f1)) (h2 : fX12_trim n (xs (6 * k + 1)) m = some (r, m1)) (hce : ce ≤ 600000 ∧ sl ≤ 7302250) (kk : WX V G N f1 m1 ce sl Q 1705 ls []) : WX V G N f m ce sl Q 911 ls [] := by
  refine x_aload_n B dL_law_911 rfl (lv_at hl 2 rfl) ?_
  refine x_aload_n B dL_law_912 rfl (lv_at hl 3 rfl) ?_
  refine x_iload_n B dL_law_913 rfl (lv_at hl 0 rfl) ?_
  refine x_iconst (v := nI 1) B dL_law_914 (by decide) ?_
  refine x_iadd B dL_law_915 ?_
  refine x_scr (i := 6 * k + 1) B hb hX (nI_add _ _) (by omega) hL dL_law_916 ?_
  refine x_callV0 (rest := []) B (kX11_trim h1) ⟨rfl, rfl⟩ (rg_11_0.at0 (N := N) rfl).lt (rg_11_0.at0 (N := N) rfl).2 rfl (by decide) q_715 q_716 q_717 (by rw [hR]; exact cwL_X11_trim) rfl rfl hl.1 (Nat.le_of_ble_eq_true rfl) dL_law_917 (by rw [hR]; exact hce) ?_
  refine x_aload_n B dL_law_920 rfl (lv_at hl 1 rfl) ?_
  refine x_aload_n B dL_law_921 rfl (lv_at hl 3 rfl) ?_
  refine x_iload_n B dL_law_922 rfl (lv_at hl 0 rfl) ?_
  refine x_iconst (v := nI 1) B dL_law_923 (by decide) ?_
  refine x_iadd B dL_law_924 ?_
  refine x_scr (i := 6 * k + 1) B hb hX (nI_add _ _) (by omega) hL dL_law_925 ?_
  refine x_callV0 (rest := [.int r]) B (kX12_trim h2) ⟨rfl, rfl⟩ aM_107.lt aM_107.2 rfl (by decide) q_1429 q_1430 q_1431 (by rw [hR]; exact cwL_X12_trim) rfl rfl hl.1 (Nat.le_of_ble_eq_true rfl) dL_law_926 (by rw [hR]; exact hce) ?_
  exact x_icmp_eq (tgt := 1705) B dL_law_929 (by decide) (fun _ => kk) (fun h => absurd rfl h)
def SP_trim (Inv : Nat → Mm → Mm → Prop) (n : Nat) : Prop := ∀ (N : Nat) (f m : Mm) (a1 : Int32), Inv N f m → ∃ r : Int32, ∃ f1 : Mm, ∃ m1 : Mm, fX11_trim n a1 f = some (r, f1) ∧ fX12_trim n a1 m = some (r, m1) ∧ Inv N f1 m1
set_option maxHeartbeats 4000000 in
set_option maxRecDepth 100000 in
theorem law_25 {V : VE} {G : GE} {N : Nat} {f m : Mm} {ls : Array Slot} {ce sl : Nat} {Q : State → Prop} {b L k n : Nat} {xs : Nat → Int32} (B : CX V G code 4 "FluxWatchLaw" (some .boolean)) (hR : V.2.2.2.1 = room_1) (hb : b < gz G) (hX : va_X b L xs V.2.2.2.2.1 (gH G)) (hk : 6 * k + 6 ≤ L) (hL : L ≤ 384) (hl : lv_has ls 4 [(3, .int (nI (6 * k))), (2, .ref (gz G + 107)), (1, .ref (gz G + 0)), (0, .ref b)]) {r : Int32} (h1 : fX11_textTold n N (xs (6 * k + 1)) (xs (6 * k + 2)) f = some r) (h2 : fX12_textTold n (xs (6 * k + 1)) (xs (6 * k + 2)) m = some r) (hce : ce ≤ 600000 ∧ sl ≤ 7302250) (kk : WX V G N f m ce sl Q 1705 ls []) : WX V G N f m ce sl Q 947 ls [] := by
  refine x_aload_n B dL_law_947 rfl (lv_at hl 2 rfl) ?_
  refine x_aload_n B dL_law_948 rfl (lv_at hl 3 rfl) ?_
  refine x_iload_n B dL_law_949 rfl (lv_at hl 0 rfl) ?_
  refine x_iconst (v := nI 1) B dL_law_950 (by decide) ?_
  refine x_iadd B dL_law_951 ?_
  refine x_scr (i := 6 * k + 1) B hb hX (nI_add _ _) (by omega) hL dL_law_952 ?_
  refine x_aload_n B dL_law_953 rfl (lv_at hl 3 rfl) ?_
  refine x_iload_n B dL_law_954 rfl (lv_at hl 0 rfl) ?_
  refine x_iconst (v := nI 2) B dL_law_955 (by decide) ?_
  refine x_iadd B dL_law_956 ?_
  refine x_scr (i := 6 * k + 2) B hb hX (nI_add _ _) (by omega) hL dL_law_957 ?_
  refine x_callV0 (rest := []) B (kX11_textTold h1) ⟨rfl, rfl⟩ (rg_11_0.at0 (N := N) rfl).lt (rg_11_0.at0 (N := N) rfl).2 rfl (by decide) q_883 q_884 q_885 (by rw [hR]; exact cwL_X11_textTold) rfl rfl hl.1 (Nat.le_of_ble_eq_true rfl) dL_law_958 (by rw [hR]; exact hce) ?_
  refine x_aload_n B dL_law_961 rfl (lv_at hl 1 rfl) ?_
  refine x_aload_n B dL_law_962 rfl (lv_at hl 3 rfl) ?_
  refine x_iload_n B dL_law_963 rfl (lv_at hl 0 rfl) ?_
  refine x_iconst (v := nI 1) B dL_law_964 (by decide) ?_
  refine x_iadd B dL_law_965 ?_
  refine x_scr (i := 6 * k + 1) B hb hX (nI_add _ _) (by omega) hL dL_law_966 ?_
  refine x_aload_n B dL_law_967 rfl (lv_at hl 3 rfl) ?_
  refine x_iload_n B dL_law_968 rfl (lv_at hl 0 rfl) ?_
  refine x_iconst (v := nI 2) B dL_law_969 (by decide) ?_
  refine x_iadd B dL_law_970 ?_
  refine x_scr (i := 6 * k + 2) B hb hX (nI_add _ _) (by omega) hL dL_law_971 ?_
  refine x_callV0 (rest := [.int r]) B (kX12_textTold h2) ⟨rfl, rfl⟩ aM_107.lt aM_107.2 rfl (by decide) q_1480 q_1481 q_1482 (by rw [hR]; exact cwL_X12_textTold) rfl rfl hl.1 (Nat.le_of_ble_eq_true rfl) dL_law_972 (by rw [hR]; exact hce) ?_
  exact x_icmp_eq (tgt := 1705) B dL_law_975 (by decide) (fun _ => kk) (fun h => absurd rfl h)
def SP_textTold (Inv : Nat → Mm → Mm → Prop) (n : Nat) : Prop := ∀ (N : Nat) (f m : Mm) (a1 a2 : Int32), Inv N f m → ∃ r : Int32, fX11_textTold n N a1 a2 f = some r ∧ fX12_textTold n a1 a2 m = some r ∧ Inv N f m
set_option maxHeartbeats 4000000 in
set_option maxRecDepth 100000 in
theorem law_26 {V : VE} {G : GE} {N : Nat} {f m : Mm} {ls : Array Slot} {ce sl : Nat} {Q : State → Prop} {b L k n : Nat} {xs : Nat → Int32} (B : CX V G code 4 "FluxWatchLaw" (some .boolean)) (hR : V.2.2.2.1 = room_1) (hb : b < gz G) (hX : va_X b L xs V.2.2.2.2.1 (gH G)) (hk : 6 * k + 6 ≤ L) (hL : L ≤ 384) (hl : lv_has ls 4 [(3, .int (nI (6 * k))), (2, .ref (gz G + 107)), (1, .ref (gz G + 0)), (0, .ref b)]) {r : Int32} (h1 : fX11_why n (xs (6 * k + 1)) f = some r) (h2 : fX12_why n (xs (6 * k + 1)) m = some r) (hce : ce ≤ 600000 ∧ sl ≤ 7302250) (kk : WX V G N f m ce sl Q 1705 ls []) : WX V G N f m ce sl Q 980 ls [] := by
  refine x_aload_n B dL_law_980 rfl (lv_at hl 2 rfl) ?_
  refine x_aload_n B dL_law_981 rfl (lv_at hl 3 rfl) ?_
  refine x_iload_n B dL_law_982 rfl (lv_at hl 0 rfl) ?_
  refine x_iconst (v := nI 1) B dL_law_983 (by decide) ?_
  refine x_iadd B dL_law_984 ?_
  refine x_scr (i := 6 * k + 1) B hb hX (nI_add _ _) (by omega) hL dL_law_985 ?_
  refine x_callV0 (rest := []) B (kX11_why h1) ⟨rfl, rfl⟩ (rg_11_0.at0 (N := N) rfl).lt (rg_11_0.at0 (N := N) rfl).2 rfl (by decide) q_887 q_888 q_889 (by rw [hR]; exact cwL_X11_why) rfl rfl hl.1 (Nat.le_of_ble_eq_true rfl) dL_law_986 (by rw [hR]; exact hce) ?_
  refine x_aload_n B dL_law_989 rfl (lv_at hl 1 rfl) ?_
  refine x_aload_n B dL_law_990 rfl (lv_at hl 3 rfl) ?_
  refine x_iload_n B dL_law_991 rfl (lv_at hl 0 rfl) ?_
  refine x_iconst (v := nI 1) B dL_law_992 (by decide) ?_
  refine x_iadd B dL_law_993 ?_
  refine x_scr (i := 6 * k + 1) B hb hX (nI_add _ _) (by omega) hL dL_law_994 ?_
  refine x_callV0 (rest := [.int r]) B (kX12_why h2) ⟨rfl, rfl⟩ aM_107.lt aM_107.2 rfl (by decide) q_1484 q_1485 q_1486 (by rw [hR]; exact cwL_X12_why) rfl rfl hl.1 (Nat.le_of_ble_eq_true rfl) dL_law_995 (by rw [hR]; exact hce) ?_
  exact x_icmp_eq (tgt := 1705) B dL_law_998 (by decide) (fun _ => kk) (fun h => absurd rfl h)
def SP_why (Inv : Nat → Mm → Mm → Prop) (n : Nat) : Prop := ∀ (N : Nat) (f m : Mm) (a1 : Int32), Inv N f m → ∃ r : Int32, fX11_why n a1 f = some r ∧ fX12_why n a1 m = some r ∧ Inv N f m
set_option maxHeartbeats 4000000 in
set_option maxRecDepth 100000 in
theorem law_27 {V : VE} {G : GE} {N : Nat} {f m : Mm} {ls : Array Slot} {ce sl : Nat} {Q : State → Prop} {b L k n : Nat} {xs : Nat → Int32} (B : CX V G code 4 "FluxWatchLaw" (some .boolean)) (hR : V.2.2.2.1 = room_1) (hb : b < gz G) (hX : va_X b L xs V.2.2.2.2.1 (gH G)) (hk : 6 * k + 6 ≤ L) (hL : L ≤ 384) (hl : lv_has ls 4 [(3, .int (nI (6 * k))), (2, .ref (gz G + 107)), (1, .ref (gz G + 0)), (0, .ref b)]) {r : Int32} {f1 : Mm} {m1 : Mm} (h1 : fX11_knock n (xs (6 * k + 1)) f = some (r, f1)) (h2 : fX12_knock n (xs (6 * k + 1)) m = some (r, m1)) (hce : ce ≤ 600000 ∧ sl ≤ 7302250) (kk : WX V G N f1 m1 ce sl Q 1705 ls []) : WX V G N f m ce sl Q 1003 ls [] := by
  refine x_aload_n B dL_law_1003 rfl (lv_at hl 2 rfl) ?_
  refine x_aload_n B dL_law_1004 rfl (lv_at hl 3 rfl) ?_
  refine x_iload_n B dL_law_1005 rfl (lv_at hl 0 rfl) ?_
  refine x_iconst (v := nI 1) B dL_law_1006 (by decide) ?_
  refine x_iadd B dL_law_1007 ?_
  refine x_scr (i := 6 * k + 1) B hb hX (nI_add _ _) (by omega) hL dL_law_1008 ?_
  refine x_callV0 (rest := []) B (kX11_knock h1) ⟨rfl, rfl⟩ (rg_11_0.at0 (N := N) rfl).lt (rg_11_0.at0 (N := N) rfl).2 rfl (by decide) q_891 q_892 q_893 (by rw [hR]; exact cwL_X11_knock) rfl rfl hl.1 (Nat.le_of_ble_eq_true rfl) dL_law_1009 (by rw [hR]; exact hce) ?_
  refine x_aload_n B dL_law_1012 rfl (lv_at hl 1 rfl) ?_
  refine x_aload_n B dL_law_1013 rfl (lv_at hl 3 rfl) ?_
  refine x_iload_n B dL_law_1014 rfl (lv_at hl 0 rfl) ?_
  refine x_iconst (v := nI 1) B dL_law_1015 (by decide) ?_
  refine x_iadd B dL_law_1016 ?_
  refine x_scr (i := 6 * k + 1) B hb hX (nI_add _ _) (by omega) hL dL_law_1017 ?_
  refine x_callV0 (rest := [.int r]) B (kX12_knock h2) ⟨rfl, rfl⟩ aM_107.lt aM_107.2 rfl (by decide) q_1488 q_1489 q_1490 (by rw [hR]; exact cwL_X12_knock) rfl rfl hl.1 (Nat.le_of_ble_eq_true rfl) dL_law_1018 (by rw [hR]; exact hce) ?_
  exact x_icmp_eq (tgt := 1705) B dL_law_1021 (by decide) (fun _ => kk) (fun h => absurd rfl h)
def SP_knock (Inv : Nat → Mm → Mm → Prop) (n : Nat) : Prop := ∀ (N : Nat) (f m : Mm) (a1 : Int32), Inv N f m → ∃ r : Int32, ∃ f1 : Mm, ∃ m1 : Mm, fX11_knock n a1 f = some (r, f1) ∧ fX12_knock n a1 m = some (r, m1) ∧ Inv N f1 m1
set_option maxHeartbeats 4000000 in
set_option maxRecDepth 100000 in
theorem law_28 {V : VE} {G : GE} {N : Nat} {f m : Mm} {ls : Array Slot} {ce sl : Nat} {Q : State → Prop} {b L k n : Nat} {xs : Nat → Int32} (B : CX V G code 4 "FluxWatchLaw" (some .boolean)) (hR : V.2.2.2.1 = room_1) (hb : b < gz G) (hX : va_X b L xs V.2.2.2.2.1 (gH G)) (hk : 6 * k + 6 ≤ L) (hL : L ≤ 384) (hl : lv_has ls 4 [(3, .int (nI (6 * k))), (2, .ref (gz G + 107)), (1, .ref (gz G + 0)), (0, .ref b)]) {r : Int32} {f1 : Mm} {m1 : Mm} (h1 : fX11_pour n (xs (6 * k + 1)) f = some (r, f1)) (h2 : fX12_pour n (xs (6 * k + 1)) m = some (r, m1)) (hce : ce ≤ 600000 ∧ sl ≤ 7302250) (kk : WX V G N f1 m1 ce sl Q 1705 ls []) : WX V G N f m ce sl Q 1026 ls [] := by
  refine x_aload_n B dL_law_1026 rfl (lv_at hl 2 rfl) ?_
  refine x_aload_n B dL_law_1027 rfl (lv_at hl 3 rfl) ?_
  refine x_iload_n B dL_law_1028 rfl (lv_at hl 0 rfl) ?_
  refine x_iconst (v := nI 1) B dL_law_1029 (by decide) ?_
  refine x_iadd B dL_law_1030 ?_
  refine x_scr (i := 6 * k + 1) B hb hX (nI_add _ _) (by omega) hL dL_law_1031 ?_
  refine x_callV0 (rest := []) B (kX11_pour h1) ⟨rfl, rfl⟩ (rg_11_0.at0 (N := N) rfl).lt (rg_11_0.at0 (N := N) rfl).2 rfl (by decide) q_899 q_900 q_901 (by rw [hR]; exact cwL_X11_pour) rfl rfl hl.1 (Nat.le_of_ble_eq_true rfl) dL_law_1032 (by rw [hR]; exact hce) ?_
  refine x_aload_n B dL_law_1035 rfl (lv_at hl 1 rfl) ?_
  refine x_aload_n B dL_law_1036 rfl (lv_at hl 3 rfl) ?_
  refine x_iload_n B dL_law_1037 rfl (lv_at hl 0 rfl) ?_
  refine x_iconst (v := nI 1) B dL_law_1038 (by decide) ?_
  refine x_iadd B dL_law_1039 ?_
  refine x_scr (i := 6 * k + 1) B hb hX (nI_add _ _) (by omega) hL dL_law_1040 ?_
  refine x_callV0 (rest := [.int r]) B (kX12_pour h2) ⟨rfl, rfl⟩ aM_107.lt aM_107.2 rfl (by decide) q_1564 q_1565 q_1566 (by rw [hR]; exact cwL_X12_pour) rfl rfl hl.1 (Nat.le_of_ble_eq_true rfl) dL_law_1041 (by rw [hR]; exact hce) ?_
  exact x_icmp_eq (tgt := 1705) B dL_law_1044 (by decide) (fun _ => kk) (fun h => absurd rfl h)
def SP_pour (Inv : Nat → Mm → Mm → Prop) (n : Nat) : Prop := ∀ (N : Nat) (f m : Mm) (a1 : Int32), Inv N f m → ∃ r : Int32, ∃ f1 : Mm, ∃ m1 : Mm, fX11_pour n a1 f = some (r, f1) ∧ fX12_pour n a1 m = some (r, m1) ∧ Inv N f1 m1
set_option maxHeartbeats 4000000 in
set_option maxRecDepth 100000 in
theorem law_29 {V : VE} {G : GE} {N : Nat} {f m : Mm} {ls : Array Slot} {ce sl : Nat} {Q : State → Prop} {b L k n : Nat} {xs : Nat → Int32} (B : CX V G code 4 "FluxWatchLaw" (some .boolean)) (hR : V.2.2.2.1 = room_1) (hb : b < gz G) (hX : va_X b L xs V.2.2.2.2.1 (gH G)) (hk : 6 * k + 6 ≤ L) (hL : L ≤ 384) (hl : lv_has ls 4 [(3, .int (nI (6 * k))), (2, .ref (gz G + 107)), (1, .ref (gz G + 0)), (0, .ref b)]) {r : Int32} (h1 : fX11_chance n f = some r) (h2 : fX12_chance n m = some r) (hce : ce ≤ 600000 ∧ sl ≤ 7302250) (kk : WX V G N f m ce sl Q 1705 ls []) : WX V G N f m ce sl Q 1049 ls [] := by
  refine x_aload_n B dL_law_1049 rfl (lv_at hl 2 rfl) ?_
  refine x_callV0 (rest := []) B (kX11_chance h1) ⟨rfl, rfl⟩ (rg_11_0.at0 (N := N) rfl).lt (rg_11_0.at0 (N := N) rfl).2 rfl (by decide) q_914 q_915 q_916 (by rw [hR]; exact cwL_X11_chance) rfl rfl hl.1 (Nat.le_of_ble_eq_true rfl) dL_law_1050 (by rw [hR]; exact hce) ?_
  refine x_aload_n B dL_law_1053 rfl (lv_at hl 1 rfl) ?_
  refine x_callV0 (rest := [.int r]) B (kX12_chance h2) ⟨rfl, rfl⟩ aM_107.lt aM_107.2 rfl (by decide) q_1492 q_1493 q_1494 (by rw [hR]; exact cwL_X12_chance) rfl rfl hl.1 (Nat.le_of_ble_eq_true rfl) dL_law_1054 (by rw [hR]; exact hce) ?_
  exact x_icmp_eq (tgt := 1705) B dL_law_1057 (by decide) (fun _ => kk) (fun h => absurd rfl h)
def SP_chance (Inv : Nat → Mm → Mm → Prop) (n : Nat) : Prop := ∀ (N : Nat) (f m : Mm) , Inv N f m → ∃ r : Int32, fX11_chance n f = some r ∧ fX12_chance n m = some r ∧ Inv N f m
set_option maxHeartbeats 4000000 in
set_option maxRecDepth 100000 in
theorem law_30 {V : VE} {G : GE} {N : Nat} {f m : Mm} {ls : Array Slot} {ce sl : Nat} {Q : State → Prop} {b L k n : Nat} {xs : Nat → Int32} (B : CX V G code 4 "FluxWatchLaw" (some .boolean)) (hR : V.2.2.2.1 = room_1) (hb : b < gz G) (hX : va_X b L xs V.2.2.2.2.1 (gH G)) (hk : 6 * k + 6 ≤ L) (hL : L ≤ 384) (hl : lv_has ls 4 [(3, .int (nI (6 * k))), (2, .ref (gz G + 107)), (1, .ref (gz G + 0)), (0, .ref b)]) {r : Int32} (h1 : fX11_width n (xs (6 * k + 1)) f = some r) (h2 : fX12_width n (xs (6 * k + 1)) m = some r) (hce : ce ≤ 600000 ∧ sl ≤ 7302250) (kk : WX V G N f m ce sl Q 1705 ls []) : WX V G N f m ce sl Q 1062 ls [] := by
  refine x_aload_n B dL_law_1062 rfl (lv_at hl 2 rfl) ?_
  refine x_aload_n B dL_law_1063 rfl (lv_at hl 3 rfl) ?_
  refine x_iload_n B dL_law_1064 rfl (lv_at hl 0 rfl) ?_
  refine x_iconst (v := nI 1) B dL_law_1065 (by decide) ?_
  refine x_iadd B dL_law_1066 ?_
  refine x_scr (i := 6 * k + 1) B hb hX (nI_add _ _) (by omega) hL dL_law_1067 ?_
  refine x_callV0 (rest := []) B (kX11_width h1) ⟨rfl, rfl⟩ (rg_11_0.at0 (N := N) rfl).lt (rg_11_0.at0 (N := N) rfl).2 rfl (by decide) q_922 q_923 q_924 (by rw [hR]; exact cwL_X11_width) rfl rfl hl.1 (Nat.le_of_ble_eq_true rfl) dL_law_1068 (by rw [hR]; exact hce) ?_
  refine x_aload_n B dL_law_1071 rfl (lv_at hl 1 rfl) ?_
  refine x_aload_n B dL_law_1072 rfl (lv_at hl 3 rfl) ?_
  refine x_iload_n B dL_law_1073 rfl (lv_at hl 0 rfl) ?_
  refine x_iconst (v := nI 1) B dL_law_1074 (by decide) ?_
  refine x_iadd B dL_law_1075 ?_
  refine x_scr (i := 6 * k + 1) B hb hX (nI_add _ _) (by omega) hL dL_law_1076 ?_
  refine x_callV0 (rest := [.int r]) B (kX12_width h2) ⟨rfl, rfl⟩ aM_107.lt aM_107.2 rfl (by decide) q_1500 q_1501 q_1502 (by rw [hR]; exact cwL_X12_width) rfl rfl hl.1 (Nat.le_of_ble_eq_true rfl) dL_law_1077 (by rw [hR]; exact hce) ?_
  exact x_icmp_eq (tgt := 1705) B dL_law_1080 (by decide) (fun _ => kk) (fun h => absurd rfl h)
def SP_width (Inv : Nat → Mm → Mm → Prop) (n : Nat) : Prop := ∀ (N : Nat) (f m : Mm) (a1 : Int32), Inv N f m → ∃ r : Int32, fX11_width n a1 f = some r ∧ fX12_width n a1 m = some r ∧ Inv N f m
set_option maxHeartbeats 4000000 in
set_option maxRecDepth 100000 in
theorem law_31 {V : VE} {G : GE} {N : Nat} {f m : Mm} {ls : Array Slot} {ce sl : Nat} {Q : State → Prop} {b L k n : Nat} {xs : Nat → Int32} (B : CX V G code 4 "FluxWatchLaw" (some .boolean)) (hR : V.2.2.2.1 = room_1) (hb : b < gz G) (hX : va_X b L xs V.2.2.2.2.1 (gH G)) (hk : 6 * k + 6 ≤ L) (hL : L ≤ 384) (hl : lv_has ls 4 [(3, .int (nI (6 * k))), (2, .ref (gz G + 107)), (1, .ref (gz G + 0)), (0, .ref b)]) {r : Int32} {f1 : Mm} {m1 : Mm} (h1 : fX11_key n (xs (6 * k + 1)) (xs (6 * k + 2)) f = some (r, f1)) (h2 : fX12_key n (xs (6 * k + 1)) (xs (6 * k + 2)) m = some (r, m1)) (hce : ce ≤ 600000 ∧ sl ≤ 7302250) (kk : WX V G N f1 m1 ce sl Q 1705 ls []) : WX V G N f m ce sl Q 1085 ls [] := by
  refine x_aload_n B dL_law_1085 rfl (lv_at hl 2 rfl) ?_
  refine x_aload_n B dL_law_1086 rfl (lv_at hl 3 rfl) ?_
  refine x_iload_n B dL_law_1087 rfl (lv_at hl 0 rfl) ?_
  refine x_iconst (v := nI 1) B dL_law_1088 (by decide) ?_
  refine x_iadd B dL_law_1089 ?_
  refine x_scr (i := 6 * k + 1) B hb hX (nI_add _ _) (by omega) hL dL_law_1090 ?_
  refine x_aload_n B dL_law_1091 rfl (lv_at hl 3 rfl) ?_
  refine x_iload_n B dL_law_1092 rfl (lv_at hl 0 rfl) ?_
  refine x_iconst (v := nI 2) B dL_law_1093 (by decide) ?_
  refine x_iadd B dL_law_1094 ?_
  refine x_scr (i := 6 * k + 2) B hb hX (nI_add _ _) (by omega) hL dL_law_1095 ?_
  refine x_callV0 (rest := []) B (kX11_key h1) ⟨rfl, rfl⟩ (rg_11_0.at0 (N := N) rfl).lt (rg_11_0.at0 (N := N) rfl).2 rfl (by decide) q_926 q_927 q_928 (by rw [hR]; exact cwL_X11_key) rfl rfl hl.1 (Nat.le_of_ble_eq_true rfl) dL_law_1096 (by rw [hR]; exact hce) ?_
  refine x_aload_n B dL_law_1099 rfl (lv_at hl 1 rfl) ?_
  refine x_aload_n B dL_law_1100 rfl (lv_at hl 3 rfl) ?_
  refine x_iload_n B dL_law_1101 rfl (lv_at hl 0 rfl) ?_
  refine x_iconst (v := nI 1) B dL_law_1102 (by decide) ?_
  refine x_iadd B dL_law_1103 ?_
  refine x_scr (i := 6 * k + 1) B hb hX (nI_add _ _) (by omega) hL dL_law_1104 ?_
  refine x_aload_n B dL_law_1105 rfl (lv_at hl 3 rfl) ?_
  refine x_iload_n B dL_law_1106 rfl (lv_at hl 0 rfl) ?_
  refine x_iconst (v := nI 2) B dL_law_1107 (by decide) ?_
  refine x_iadd B dL_law_1108 ?_
  refine x_scr (i := 6 * k + 2) B hb hX (nI_add _ _) (by omega) hL dL_law_1109 ?_
  refine x_callV0 (rest := [.int r]) B (kX12_key h2) ⟨rfl, rfl⟩ aM_107.lt aM_107.2 rfl (by decide) q_1504 q_1505 q_1506 (by rw [hR]; exact cwL_X12_key) rfl rfl hl.1 (Nat.le_of_ble_eq_true rfl) dL_law_1110 (by rw [hR]; exact hce) ?_
  exact x_icmp_eq (tgt := 1705) B dL_law_1113 (by decide) (fun _ => kk) (fun h => absurd rfl h)
def SP_key (Inv : Nat → Mm → Mm → Prop) (n : Nat) : Prop := ∀ (N : Nat) (f m : Mm) (a1 a2 : Int32), Inv N f m → ∃ r : Int32, ∃ f1 : Mm, ∃ m1 : Mm, fX11_key n a1 a2 f = some (r, f1) ∧ fX12_key n a1 a2 m = some (r, m1) ∧ Inv N f1 m1
set_option maxHeartbeats 4000000 in
set_option maxRecDepth 100000 in
theorem law_32 {V : VE} {G : GE} {N : Nat} {f m : Mm} {ls : Array Slot} {ce sl : Nat} {Q : State → Prop} {b L k n : Nat} {xs : Nat → Int32} (B : CX V G code 4 "FluxWatchLaw" (some .boolean)) (hR : V.2.2.2.1 = room_1) (hb : b < gz G) (hX : va_X b L xs V.2.2.2.2.1 (gH G)) (hk : 6 * k + 6 ≤ L) (hL : L ≤ 384) (hl : lv_has ls 4 [(3, .int (nI (6 * k))), (2, .ref (gz G + 107)), (1, .ref (gz G + 0)), (0, .ref b)]) {r : Int32} (h1 : fX11_keys n (xs (6 * k + 1)) f = some r) (h2 : fX12_keys n (xs (6 * k + 1)) m = some r) (hce : ce ≤ 600000 ∧ sl ≤ 7302250) (kk : WX V G N f m ce sl Q 1705 ls []) : WX V G N f m ce sl Q 1118 ls [] := by
  refine x_aload_n B dL_law_1118 rfl (lv_at hl 2 rfl) ?_
  refine x_aload_n B dL_law_1119 rfl (lv_at hl 3 rfl) ?_
  refine x_iload_n B dL_law_1120 rfl (lv_at hl 0 rfl) ?_
  refine x_iconst (v := nI 1) B dL_law_1121 (by decide) ?_
  refine x_iadd B dL_law_1122 ?_
  refine x_scr (i := 6 * k + 1) B hb hX (nI_add _ _) (by omega) hL dL_law_1123 ?_
  refine x_callV0 (rest := []) B (kX11_keys h1) ⟨rfl, rfl⟩ (rg_11_0.at0 (N := N) rfl).lt (rg_11_0.at0 (N := N) rfl).2 rfl (by decide) q_930 q_931 q_932 (by rw [hR]; exact cwL_X11_keys) rfl rfl hl.1 (Nat.le_of_ble_eq_true rfl) dL_law_1124 (by rw [hR]; exact hce) ?_
  refine x_aload_n B dL_law_1127 rfl (lv_at hl 1 rfl) ?_
  refine x_aload_n B dL_law_1128 rfl (lv_at hl 3 rfl) ?_
  refine x_iload_n B dL_law_1129 rfl (lv_at hl 0 rfl) ?_
  refine x_iconst (v := nI 1) B dL_law_1130 (by decide) ?_
  refine x_iadd B dL_law_1131 ?_
  refine x_scr (i := 6 * k + 1) B hb hX (nI_add _ _) (by omega) hL dL_law_1132 ?_
  refine x_callV0 (rest := [.int r]) B (kX12_keys h2) ⟨rfl, rfl⟩ aM_107.lt aM_107.2 rfl (by decide) q_1508 q_1509 q_1510 (by rw [hR]; exact cwL_X12_keys) rfl rfl hl.1 (Nat.le_of_ble_eq_true rfl) dL_law_1133 (by rw [hR]; exact hce) ?_
  exact x_icmp_eq (tgt := 1705) B dL_law_1136 (by decide) (fun _ => kk) (fun h => absurd rfl h)
def SP_keys (Inv : Nat → Mm → Mm → Prop) (n : Nat) : Prop := ∀ (N : Nat) (f m : Mm) (a1 : Int32), Inv N f m → ∃ r : Int32, fX11_keys n a1 f = some r ∧ fX12_keys n a1 m = some r ∧ Inv N f m
set_option maxHeartbeats 4000000 in
set_option maxRecDepth 100000 in
theorem law_33 {V : VE} {G : GE} {N : Nat} {f m : Mm} {ls : Array Slot} {ce sl : Nat} {Q : State → Prop} {b L k n : Nat} {xs : Nat → Int32} (B : CX V G code 4 "FluxWatchLaw" (some .boolean)) (hR : V.2.2.2.1 = room_1) (hb : b < gz G) (hX : va_X b L xs V.2.2.2.2.1 (gH G)) (hk : 6 * k + 6 ≤ L) (hL : L ≤ 384) (hl : lv_has ls 4 [(3, .int (nI (6 * k))), (2, .ref (gz G + 107)), (1, .ref (gz G + 0)), (0, .ref b)]) {r : Int32} (h1 : fX11_jokes n f = some r) (h2 : fX12_jokes n m = some r) (hce : ce ≤ 600000 ∧ sl ≤ 7302250) (kk : WX V G N f m ce sl Q 1705 ls []) : WX V G N f m ce sl Q 1141 ls [] := by
  refine x_aload_n B dL_law_1141 rfl (lv_at hl 2 rfl) ?_
  refine x_callV0 (rest := []) B (kX11_jokes h1) ⟨rfl, rfl⟩ (rg_11_0.at0 (N := N) rfl).lt (rg_11_0.at0 (N := N) rfl).2 rfl (by decide) q_938 q_939 q_940 (by rw [hR]; exact cwL_X11_jokes) rfl rfl hl.1 (Nat.le_of_ble_eq_true rfl) dL_law_1142 (by rw [hR]; exact hce) ?_
  refine x_aload_n B dL_law_1145 rfl (lv_at hl 1 rfl) ?_
  refine x_callV0 (rest := [.int r]) B (kX12_jokes h2) ⟨rfl, rfl⟩ aM_107.lt aM_107.2 rfl (by decide) q_1516 q_1517 q_1518 (by rw [hR]; exact cwL_X12_jokes) rfl rfl hl.1 (Nat.le_of_ble_eq_true rfl) dL_law_1146 (by rw [hR]; exact hce) ?_
  exact x_icmp_eq (tgt := 1705) B dL_law_1149 (by decide) (fun _ => kk) (fun h => absurd rfl h)
def SP_jokes (Inv : Nat → Mm → Mm → Prop) (n : Nat) : Prop := ∀ (N : Nat) (f m : Mm) , Inv N f m → ∃ r : Int32, fX11_jokes n f = some r ∧ fX12_jokes n m = some r ∧ Inv N f m
set_option maxHeartbeats 4000000 in
set_option maxRecDepth 100000 in
theorem law_34 {V : VE} {G : GE} {N : Nat} {f m : Mm} {ls : Array Slot} {ce sl : Nat} {Q : State → Prop} {b L k n : Nat} {xs : Nat → Int32} (B : CX V G code 4 "FluxWatchLaw" (some .boolean)) (hR : V.2.2.2.1 = room_1) (hb : b < gz G) (hX : va_X b L xs V.2.2.2.2.1 (gH G)) (hk : 6 * k + 6 ≤ L) (hL : L ≤ 384) (hl : lv_has ls 4 [(3, .int (nI (6 * k))), (2, .ref (gz G + 107)), (1, .ref (gz G + 0)), (0, .ref b)]) {r : Int32} {f1 : Mm} {m1 : Mm} (h1 : fX11_offer n (xs (6 * k + 1)) (xs (6 * k + 2)) f = some (r, f1)) (h2 : fX12_offer n (xs (6 * k + 1)) (xs (6 * k + 2)) m = some (r, m1)) (hce : ce ≤ 600000 ∧ sl ≤ 7302250) (kk : WX V G N f1 m1 ce sl Q 1705 ls []) : WX V G N f m ce sl Q 1154 ls [] := by
  refine x_aload_n B dL_law_1154 rfl (lv_at hl 2 rfl) ?_
  refine x_aload_n B dL_law_1155 rfl (lv_at hl 3 rfl) ?_
  refine x_iload_n B dL_law_1156 rfl (lv_at hl 0 rfl) ?_
  refine x_iconst (v := nI 1) B dL_law_1157 (by decide) ?_
  refine x_iadd B dL_law_1158 ?_
  refine x_scr (i := 6 * k + 1) B hb hX (nI_add _ _) (by omega) hL dL_law_1159 ?_
  refine x_aload_n B dL_law_1160 rfl (lv_at hl 3 rfl) ?_
  refine x_iload_n B dL_law_1161 rfl (lv_at hl 0 rfl) ?_
  refine x_iconst (v := nI 2) B dL_law_1162 (by decide) ?_
  refine x_iadd B dL_law_1163 ?_
  refine x_scr (i := 6 * k + 2) B hb hX (nI_add _ _) (by omega) hL dL_law_1164 ?_
  refine x_callV0 (rest := []) B (kX11_offer h1) ⟨rfl, rfl⟩ (rg_11_0.at0 (N := N) rfl).lt (rg_11_0.at0 (N := N) rfl).2 rfl (by decide) q_942 q_943 q_944 (by rw [hR]; exact cwL_X11_offer) rfl rfl hl.1 (Nat.le_of_ble_eq_true rfl) dL_law_1165 (by rw [hR]; exact hce) ?_
  refine x_aload_n B dL_law_1168 rfl (lv_at hl 1 rfl) ?_
  refine x_aload_n B dL_law_1169 rfl (lv_at hl 3 rfl) ?_
  refine x_iload_n B dL_law_1170 rfl (lv_at hl 0 rfl) ?_
  refine x_iconst (v := nI 1) B dL_law_1171 (by decide) ?_
  refine x_iadd B dL_law_1172 ?_
  refine x_scr (i := 6 * k + 1) B hb hX (nI_add _ _) (by omega) hL dL_law_1173 ?_
  refine x_aload_n B dL_law_1174 rfl (lv_at hl 3 rfl) ?_
  refine x_iload_n B dL_law_1175 rfl (lv_at hl 0 rfl) ?_
  refine x_iconst (v := nI 2) B dL_law_1176 (by decide) ?_
  refine x_iadd B dL_law_1177 ?_
  refine x_scr (i := 6 * k + 2) B hb hX (nI_add _ _) (by omega) hL dL_law_1178 ?_
  refine x_callV0 (rest := [.int r]) B (kX12_offer h2) ⟨rfl, rfl⟩ aM_107.lt aM_107.2 rfl (by decide) q_1520 q_1521 q_1522 (by rw [hR]; exact cwL_X12_offer) rfl rfl hl.1 (Nat.le_of_ble_eq_true rfl) dL_law_1179 (by rw [hR]; exact hce) ?_
  exact x_icmp_eq (tgt := 1705) B dL_law_1182 (by decide) (fun _ => kk) (fun h => absurd rfl h)
def SP_offer (Inv : Nat → Mm → Mm → Prop) (n : Nat) : Prop := ∀ (N : Nat) (f m : Mm) (a1 a2 : Int32), Inv N f m → ∃ r : Int32, ∃ f1 : Mm, ∃ m1 : Mm, fX11_offer n a1 a2 f = some (r, f1) ∧ fX12_offer n a1 a2 m = some (r, m1) ∧ Inv N f1 m1
set_option maxHeartbeats 4000000 in
set_option maxRecDepth 100000 in
theorem law_35 {V : VE} {G : GE} {N : Nat} {f m : Mm} {ls : Array Slot} {ce sl : Nat} {Q : State → Prop} {b L k n : Nat} {xs : Nat → Int32} (B : CX V G code 4 "FluxWatchLaw" (some .boolean)) (hR : V.2.2.2.1 = room_1) (hb : b < gz G) (hX : va_X b L xs V.2.2.2.2.1 (gH G)) (hk : 6 * k + 6 ≤ L) (hL : L ≤ 384) (hl : lv_has ls 4 [(3, .int (nI (6 * k))), (2, .ref (gz G + 107)), (1, .ref (gz G + 0)), (0, .ref b)]) {r : Int32} {f1 : Mm} {m1 : Mm} (h1 : fX11_clear n f = some (r, f1)) (h2 : fX12_clear n m = some (r, m1)) (hce : ce ≤ 600000 ∧ sl ≤ 7302250) (kk : WX V G N f1 m1 ce sl Q 1705 ls []) : WX V G N f m ce sl Q 1187 ls [] := by
  refine x_aload_n B dL_law_1187 rfl (lv_at hl 2 rfl) ?_
  refine x_callV0 (rest := []) B (kX11_clear h1) ⟨rfl, rfl⟩ (rg_11_0.at0 (N := N) rfl).lt (rg_11_0.at0 (N := N) rfl).2 rfl (by decide) q_951 q_952 q_953 (by rw [hR]; exact cwL_X11_clear) rfl rfl hl.1 (Nat.le_of_ble_eq_true rfl) dL_law_1188 (by rw [hR]; exact hce) ?_
  refine x_aload_n B dL_law_1191 rfl (lv_at hl 1 rfl) ?_
  refine x_callV0 (rest := [.int r]) B (kX12_clear h2) ⟨rfl, rfl⟩ aM_107.lt aM_107.2 rfl (by decide) q_1524 q_1525 q_1526 (by rw [hR]; exact cwL_X12_clear) rfl rfl hl.1 (Nat.le_of_ble_eq_true rfl) dL_law_1192 (by rw [hR]; exact hce) ?_
  exact x_icmp_eq (tgt := 1705) B dL_law_1195 (by decide) (fun _ => kk) (fun h => absurd rfl h)
def SP_clear (Inv : Nat → Mm → Mm → Prop) (n : Nat) : Prop := ∀ (N : Nat) (f m : Mm) , Inv N f m → ∃ r : Int32, ∃ f1 : Mm, ∃ m1 : Mm, fX11_clear n f = some (r, f1) ∧ fX12_clear n m = some (r, m1) ∧ Inv N f1 m1
set_option maxHeartbeats 4000000 in
set_option maxRecDepth 100000 in
theorem law_36 {V : VE} {G : GE} {N : Nat} {f m : Mm} {ls : Array Slot} {ce sl : Nat} {Q : State → Prop} {b L k n : Nat} {xs : Nat → Int32} (B : CX V G code 4 "FluxWatchLaw" (some .boolean)) (hR : V.2.2.2.1 = room_1) (hb : b < gz G) (hX : va_X b L xs V.2.2.2.2.1 (gH G)) (hk : 6 * k + 6 ≤ L) (hL : L ≤ 384) (hl : lv_has ls 4 [(3, .int (nI (6 * k))), (2, .ref (gz G + 107)), (1, .ref (gz G + 0)), (0, .ref b)]) {r : Int32} {f1 : Mm} (h1 : fX11_best n (xs (6 * k + 1)) (xs (6 * k + 2)) f = some (r, f1)) (h2 : fX12_best n (xs (6 * k + 1)) (xs (6 * k + 2)) m = some r) (hce : ce ≤ 600000 ∧ sl ≤ 7302250) (kk : WX V G N f1 m ce sl Q 1705 ls []) : WX V G N f m ce sl Q 1200 ls [] := by
  refine x_aload_n B dL_law_1200 rfl (lv_at hl 2 rfl) ?_
  refine x_aload_n B dL_law_1201 rfl (lv_at hl 3 rfl) ?_
  refine x_iload_n B dL_law_1202 rfl (lv_at hl 0 rfl) ?_
  refine x_iconst (v := nI 1) B dL_law_1203 (by decide) ?_
  refine x_iadd B dL_law_1204 ?_
  refine x_scr (i := 6 * k + 1) B hb hX (nI_add _ _) (by omega) hL dL_law_1205 ?_
  refine x_aload_n B dL_law_1206 rfl (lv_at hl 3 rfl) ?_
  refine x_iload_n B dL_law_1207 rfl (lv_at hl 0 rfl) ?_
  refine x_iconst (v := nI 2) B dL_law_1208 (by decide) ?_
  refine x_iadd B dL_law_1209 ?_
  refine x_scr (i := 6 * k + 2) B hb hX (nI_add _ _) (by omega) hL dL_law_1210 ?_
  refine x_callV0 (rest := []) B (kX11_best h1) ⟨rfl, rfl⟩ (rg_11_0.at0 (N := N) rfl).lt (rg_11_0.at0 (N := N) rfl).2 rfl (by decide) q_955 q_956 q_957 (by rw [hR]; exact cwL_X11_best) rfl rfl hl.1 (Nat.le_of_ble_eq_true rfl) dL_law_1211 (by rw [hR]; exact hce) ?_
  refine x_aload_n B dL_law_1214 rfl (lv_at hl 1 rfl) ?_
  refine x_aload_n B dL_law_1215 rfl (lv_at hl 3 rfl) ?_
  refine x_iload_n B dL_law_1216 rfl (lv_at hl 0 rfl) ?_
  refine x_iconst (v := nI 1) B dL_law_1217 (by decide) ?_
  refine x_iadd B dL_law_1218 ?_
  refine x_scr (i := 6 * k + 1) B hb hX (nI_add _ _) (by omega) hL dL_law_1219 ?_
  refine x_aload_n B dL_law_1220 rfl (lv_at hl 3 rfl) ?_
  refine x_iload_n B dL_law_1221 rfl (lv_at hl 0 rfl) ?_
  refine x_iconst (v := nI 2) B dL_law_1222 (by decide) ?_
  refine x_iadd B dL_law_1223 ?_
  refine x_scr (i := 6 * k + 2) B hb hX (nI_add _ _) (by omega) hL dL_law_1224 ?_
  refine x_callV0 (rest := [.int r]) B (kX12_best h2) ⟨rfl, rfl⟩ aM_107.lt aM_107.2 rfl (by decide) q_1528 q_1529 q_1530 (by rw [hR]; exact cwL_X12_best) rfl rfl hl.1 (Nat.le_of_ble_eq_true rfl) dL_law_1225 (by rw [hR]; exact hce) ?_
  exact x_icmp_eq (tgt := 1705) B dL_law_1228 (by decide) (fun _ => kk) (fun h => absurd rfl h)
def SP_best (Inv : Nat → Mm → Mm → Prop) (n : Nat) : Prop := ∀ (N : Nat) (f m : Mm) (a1 a2 : Int32), Inv N f m → ∃ r : Int32, ∃ f1 : Mm, fX11_best n a1 a2 f = some (r, f1) ∧ fX12_best n a1 a2 m = some r ∧ Inv N f1 m
set_option maxHeartbeats 4000000 in
set_option maxRecDepth 100000 in
theorem law_37 {V : VE} {G : GE} {N : Nat} {f m : Mm} {ls : Array Slot} {ce sl : Nat} {Q : State → Prop} {b L k n : Nat} {xs : Nat → Int32} (B : CX V G code 4 "FluxWatchLaw" (some .boolean)) (hR : V.2.2.2.1 = room_1) (hb : b < gz G) (hX : va_X b L xs V.2.2.2.2.1 (gH G)) (hk : 6 * k + 6 ≤ L) (hL : L ≤ 384) (hl : lv_has ls 4 [(3, .int (nI (6 * k))), (2, .ref (gz G + 107)), (1, .ref (gz G + 0)), (0, .ref b)]) {r : Int32} {f1 : Mm} {m1 : Mm} (h1 : fX11_soonest n N (xs (6 * k + 1)) (xs (6 * k + 2)) (xs (6 * k + 3)) f = some (r, f1)) (h2 : fX12_soonest n (xs (6 * k + 1)) (xs (6 * k + 2)) (xs (6 * k + 3)) m = some (r, m1)) (hce : ce ≤ 600000 ∧ sl ≤ 7302250) (kk : WX V G N f1 m1 ce sl Q 1705 ls []) : WX V G N f m ce sl Q 1233 ls [] := by
  refine x_aload_n B dL_law_1233 rfl (lv_at hl 2 rfl) ?_
  refine x_aload_n B dL_law_1234 rfl (lv_at hl 3 rfl) ?_
  refine x_iload_n B dL_law_1235 rfl (lv_at hl 0 rfl) ?_
  refine x_iconst (v := nI 1) B dL_law_1236 (by decide) ?_
  refine x_iadd B dL_law_1237 ?_
  refine x_scr (i := 6 * k + 1) B hb hX (nI_add _ _) (by omega) hL dL_law_1238 ?_
  refine x_aload_n B dL_law_1239 rfl (lv_at hl 3 rfl) ?_
  refine x_iload_n B dL_law_1240 rfl (lv_at hl 0 rfl) ?_
  refine x_iconst (v := nI 2) B dL_law_1241 (by decide) ?_
  refine x_iadd B dL_law_1242 ?_
  refine x_scr (i := 6 * k + 2) B hb hX (nI_add _ _) (by omega) hL dL_law_1243 ?_
  refine x_aload_n B dL_law_1244 rfl (lv_at hl 3 rfl) ?_
  refine x_iload_n B dL_law_1245 rfl (lv_at hl 0 rfl) ?_
  refine x_iconst (v := nI 3) B dL_law_1246 (by decide) ?_
  refine x_iadd B dL_law_1247 ?_
  refine x_scr (i := 6 * k + 3) B hb hX (nI_add _ _) (by omega) hL dL_law_1248 ?_
  refine x_callV0 (rest := []) B (kX11_soonest h1) ⟨rfl, rfl⟩ (rg_11_0.at0 (N := N) rfl).lt (rg_11_0.at0 (N := N) rfl).2 rfl (by decide) q_971 q_972 q_973 (by rw [hR]; exact cwL_X11_soonest) rfl rfl hl.1 (Nat.le_of_ble_eq_true rfl) dL_law_1249 (by rw [hR]; exact hce) ?_
  refine x_aload_n B dL_law_1252 rfl (lv_at hl 1 rfl) ?_
  refine x_aload_n B dL_law_1253 rfl (lv_at hl 3 rfl) ?_
  refine x_iload_n B dL_law_1254 rfl (lv_at hl 0 rfl) ?_
  refine x_iconst (v := nI 1) B dL_law_1255 (by decide) ?_
  refine x_iadd B dL_law_1256 ?_
  refine x_scr (i := 6 * k + 1) B hb hX (nI_add _ _) (by omega) hL dL_law_1257 ?_
  refine x_aload_n B dL_law_1258 rfl (lv_at hl 3 rfl) ?_
  refine x_iload_n B dL_law_1259 rfl (lv_at hl 0 rfl) ?_
  refine x_iconst (v := nI 2) B dL_law_1260 (by decide) ?_
  refine x_iadd B dL_law_1261 ?_
  refine x_scr (i := 6 * k + 2) B hb hX (nI_add _ _) (by omega) hL dL_law_1262 ?_
  refine x_aload_n B dL_law_1263 rfl (lv_at hl 3 rfl) ?_
  refine x_iload_n B dL_law_1264 rfl (lv_at hl 0 rfl) ?_
  refine x_iconst (v := nI 3) B dL_law_1265 (by decide) ?_
  refine x_iadd B dL_law_1266 ?_
  refine x_scr (i := 6 * k + 3) B hb hX (nI_add _ _) (by omega) hL dL_law_1267 ?_
  refine x_callV0 (rest := [.int r]) B (kX12_soonest h2) ⟨rfl, rfl⟩ aM_107.lt aM_107.2 rfl (by decide) q_1536 q_1537 q_1538 (by rw [hR]; exact cwL_X12_soonest) rfl rfl hl.1 (Nat.le_of_ble_eq_true rfl) dL_law_1268 (by rw [hR]; exact hce) ?_
  exact x_icmp_eq (tgt := 1705) B dL_law_1271 (by decide) (fun _ => kk) (fun h => absurd rfl h)
def SP_soonest (Inv : Nat → Mm → Mm → Prop) (n : Nat) : Prop := ∀ (N : Nat) (f m : Mm) (a1 a2 a3 : Int32), Inv N f m → ∃ r : Int32, ∃ f1 : Mm, ∃ m1 : Mm, fX11_soonest n N a1 a2 a3 f = some (r, f1) ∧ fX12_soonest n a1 a2 a3 m = some (r, m1) ∧ Inv N f1 m1
set_option maxHeartbeats 4000000 in
set_option maxRecDepth 100000 in
theorem law_38 {V : VE} {G : GE} {N : Nat} {f m : Mm} {ls : Array Slot} {ce sl : Nat} {Q : State → Prop} {b L k n : Nat} {xs : Nat → Int32} (B : CX V G code 4 "FluxWatchLaw" (some .boolean)) (hR : V.2.2.2.1 = room_1) (hb : b < gz G) (hX : va_X b L xs V.2.2.2.2.1 (gH G)) (hk : 6 * k + 6 ≤ L) (hL : L ≤ 384) (hl : lv_has ls 4 [(3, .int (nI (6 * k))), (2, .ref (gz G + 107)), (1, .ref (gz G + 0)), (0, .ref b)]) {r : Int32} {f1 : Mm} {m1 : Mm} (h1 : fX11_sheet n (xs (6 * k + 1)) (xs (6 * k + 2)) (xs (6 * k + 3)) f = some (r, f1)) (h2 : fX12_sheet n (xs (6 * k + 1)) (xs (6 * k + 2)) (xs (6 * k + 3)) m = some (r, m1)) (hce : ce ≤ 600000 ∧ sl ≤ 7302250) (kk : WX V G N f1 m1 ce sl Q 1705 ls []) : WX V G N f m ce sl Q 1276 ls [] := by
  refine x_aload_n B dL_law_1276 rfl (lv_at hl 2 rfl) ?_
  refine x_aload_n B dL_law_1277 rfl (lv_at hl 3 rfl) ?_
  refine x_iload_n B dL_law_1278 rfl (lv_at hl 0 rfl) ?_
  refine x_iconst (v := nI 1) B dL_law_1279 (by decide) ?_
  refine x_iadd B dL_law_1280 ?_
  refine x_scr (i := 6 * k + 1) B hb hX (nI_add _ _) (by omega) hL dL_law_1281 ?_
  refine x_aload_n B dL_law_1282 rfl (lv_at hl 3 rfl) ?_
  refine x_iload_n B dL_law_1283 rfl (lv_at hl 0 rfl) ?_
  refine x_iconst (v := nI 2) B dL_law_1284 (by decide) ?_
  refine x_iadd B dL_law_1285 ?_
  refine x_scr (i := 6 * k + 2) B hb hX (nI_add _ _) (by omega) hL dL_law_1286 ?_
  refine x_aload_n B dL_law_1287 rfl (lv_at hl 3 rfl) ?_
  refine x_iload_n B dL_law_1288 rfl (lv_at hl 0 rfl) ?_
  refine x_iconst (v := nI 3) B dL_law_1289 (by decide) ?_
  refine x_iadd B dL_law_1290 ?_
  refine x_scr (i := 6 * k + 3) B hb hX (nI_add _ _) (by omega) hL dL_law_1291 ?_
  refine x_callV0 (rest := []) B (kX11_sheet h1) ⟨rfl, rfl⟩ (rg_11_0.at0 (N := N) rfl).lt (rg_11_0.at0 (N := N) rfl).2 rfl (by decide) q_1000 q_1001 q_1002 (by rw [hR]; exact cwL_X11_sheet) rfl rfl hl.1 (Nat.le_of_ble_eq_true rfl) dL_law_1292 (by rw [hR]; exact hce) ?_
  refine x_aload_n B dL_law_1295 rfl (lv_at hl 1 rfl) ?_
  refine x_aload_n B dL_law_1296 rfl (lv_at hl 3 rfl) ?_
  refine x_iload_n B dL_law_1297 rfl (lv_at hl 0 rfl) ?_
  refine x_iconst (v := nI 1) B dL_law_1298 (by decide) ?_
  refine x_iadd B dL_law_1299 ?_
  refine x_scr (i := 6 * k + 1) B hb hX (nI_add _ _) (by omega) hL dL_law_1300 ?_
  refine x_aload_n B dL_law_1301 rfl (lv_at hl 3 rfl) ?_
  refine x_iload_n B dL_law_1302 rfl (lv_at hl 0 rfl) ?_
  refine x_iconst (v := nI 2) B dL_law_1303 (by decide) ?_
  refine x_iadd B dL_law_1304 ?_
  refine x_scr (i := 6 * k + 2) B hb hX (nI_add _ _) (by omega) hL dL_law_1305 ?_
  refine x_aload_n B dL_law_1306 rfl (lv_at hl 3 rfl) ?_
  refine x_iload_n B dL_law_1307 rfl (lv_at hl 0 rfl) ?_
  refine x_iconst (v := nI 3) B dL_law_1308 (by decide) ?_
  refine x_iadd B dL_law_1309 ?_
  refine x_scr (i := 6 * k + 3) B hb hX (nI_add _ _) (by omega) hL dL_law_1310 ?_
  refine x_callV0 (rest := [.int r]) B (kX12_sheet h2) ⟨rfl, rfl⟩ aM_107.lt aM_107.2 rfl (by decide) q_1544 q_1545 q_1546 (by rw [hR]; exact cwL_X12_sheet) rfl rfl hl.1 (Nat.le_of_ble_eq_true rfl) dL_law_1311 (by rw [hR]; exact hce) ?_
  exact x_icmp_eq (tgt := 1705) B dL_law_1314 (by decide) (fun _ => kk) (fun h => absurd rfl h)
def SP_sheet (Inv : Nat → Mm → Mm → Prop) (n : Nat) : Prop := ∀ (N : Nat) (f m : Mm) (a1 a2 a3 : Int32), Inv N f m → ∃ r : Int32, ∃ f1 : Mm, ∃ m1 : Mm, fX11_sheet n a1 a2 a3 f = some (r, f1) ∧ fX12_sheet n a1 a2 a3 m = some (r, m1) ∧ Inv N f1 m1
set_option maxHeartbeats 4000000 in
set_option maxRecDepth 100000 in
theorem law_39 {V : VE} {G : GE} {N : Nat} {f m : Mm} {ls : Array Slot} {ce sl : Nat} {Q : State → Prop} {b L k n : Nat} {xs : Nat → Int32} (B : CX V G code 4 "FluxWatchLaw" (some .boolean)) (hR : V.2.2.2.1 = room_1) (hb : b < gz G) (hX : va_X b L xs V.2.2.2.2.1 (gH G)) (hk : 6 * k + 6 ≤ L) (hL : L ≤ 384) (hl : lv_has ls 4 [(3, .int (nI (6 * k))), (2, .ref (gz G + 107)), (1, .ref (gz G + 0)), (0, .ref b)]) {r : Int32} {f1 : Mm} {m1 : Mm} (h1 : fX11_mark n (xs (6 * k + 1)) (xs (6 * k + 2)) (xs (6 * k + 3)) f = some (r, f1)) (h2 : fX12_mark n (xs (6 * k + 1)) (xs (6 * k + 2)) (xs (6 * k + 3)) m = some (r, m1)) (hce : ce ≤ 600000 ∧ sl ≤ 7302250) (kk : WX V G N f1 m1 ce sl Q 1705 ls []) : WX V G N f m ce sl Q 1319 ls [] := by
  refine x_aload_n B dL_law_1319 rfl (lv_at hl 2 rfl) ?_
  refine x_aload_n B dL_law_1320 rfl (lv_at hl 3 rfl) ?_
  refine x_iload_n B dL_law_1321 rfl (lv_at hl 0 rfl) ?_
  refine x_iconst (v := nI 1) B dL_law_1322 (by decide) ?_
  refine x_iadd B dL_law_1323 ?_
  refine x_scr (i := 6 * k + 1) B hb hX (nI_add _ _) (by omega) hL dL_law_1324 ?_
  refine x_aload_n B dL_law_1325 rfl (lv_at hl 3 rfl) ?_
  refine x_iload_n B dL_law_1326 rfl (lv_at hl 0 rfl) ?_
  refine x_iconst (v := nI 2) B dL_law_1327 (by decide) ?_
  refine x_iadd B dL_law_1328 ?_
  refine x_scr (i := 6 * k + 2) B hb hX (nI_add _ _) (by omega) hL dL_law_1329 ?_
  refine x_aload_n B dL_law_1330 rfl (lv_at hl 3 rfl) ?_
  refine x_iload_n B dL_law_1331 rfl (lv_at hl 0 rfl) ?_
  refine x_iconst (v := nI 3) B dL_law_1332 (by decide) ?_
  refine x_iadd B dL_law_1333 ?_
  refine x_scr (i := 6 * k + 3) B hb hX (nI_add _ _) (by omega) hL dL_law_1334 ?_
  refine x_callV0 (rest := []) B (kX11_mark h1) ⟨rfl, rfl⟩ (rg_11_0.at0 (N := N) rfl).lt (rg_11_0.at0 (N := N) rfl).2 rfl (by decide) q_1010 q_1011 q_1012 (by rw [hR]; exact cwL_X11_mark) rfl rfl hl.1 (Nat.le_of_ble_eq_true rfl) dL_law_1335 (by rw [hR]; exact hce) ?_
  refine x_aload_n B dL_law_1338 rfl (lv_at hl 1 rfl) ?_
  refine x_aload_n B dL_law_1339 rfl (lv_at hl 3 rfl) ?_
  refine x_iload_n B dL_law_1340 rfl (lv_at hl 0 rfl) ?_
  refine x_iconst (v := nI 1) B dL_law_1341 (by decide) ?_
  refine x_iadd B dL_law_1342 ?_
  refine x_scr (i := 6 * k + 1) B hb hX (nI_add _ _) (by omega) hL dL_law_1343 ?_
  refine x_aload_n B dL_law_1344 rfl (lv_at hl 3 rfl) ?_
  refine x_iload_n B dL_law_1345 rfl (lv_at hl 0 rfl) ?_
  refine x_iconst (v := nI 2) B dL_law_1346 (by decide) ?_
  refine x_iadd B dL_law_1347 ?_
  refine x_scr (i := 6 * k + 2) B hb hX (nI_add _ _) (by omega) hL dL_law_1348 ?_
  refine x_aload_n B dL_law_1349 rfl (lv_at hl 3 rfl) ?_
  refine x_iload_n B dL_law_1350 rfl (lv_at hl 0 rfl) ?_
  refine x_iconst (v := nI 3) B dL_law_1351 (by decide) ?_
  refine x_iadd B dL_law_1352 ?_
  refine x_scr (i := 6 * k + 3) B hb hX (nI_add _ _) (by omega) hL dL_law_1353 ?_
  refine x_callV0 (rest := [.int r]) B (kX12_mark h2) ⟨rfl, rfl⟩ aM_107.lt aM_107.2 rfl (by decide) q_1552 q_1553 q_1554 (by rw [hR]; exact cwL_X12_mark) rfl rfl hl.1 (Nat.le_of_ble_eq_true rfl) dL_law_1354 (by rw [hR]; exact hce) ?_
  exact x_icmp_eq (tgt := 1705) B dL_law_1357 (by decide) (fun _ => kk) (fun h => absurd rfl h)
def SP_mark (Inv : Nat → Mm → Mm → Prop) (n : Nat) : Prop := ∀ (N : Nat) (f m : Mm) (a1 a2 a3 : Int32), Inv N f m → ∃ r : Int32, ∃ f1 : Mm, ∃ m1 : Mm, fX11_mark n a1 a2 a3 f = some (r, f1) ∧ fX12_mark n a1 a2 a3 m = some (r, m1) ∧ Inv N f1 m1
set_option maxHeartbeats 4000000 in
set_option maxRecDepth 100000 in
theorem law_40 {V : VE} {G : GE} {N : Nat} {f m : Mm} {ls : Array Slot} {ce sl : Nat} {Q : State → Prop} {b L k n : Nat} {xs : Nat → Int32} (B : CX V G code 4 "FluxWatchLaw" (some .boolean)) (hR : V.2.2.2.1 = room_1) (hb : b < gz G) (hX : va_X b L xs V.2.2.2.2.1 (gH G)) (hk : 6 * k + 6 ≤ L) (hL : L ≤ 384) (hl : lv_has ls 4 [(3, .int (nI (6 * k))), (2, .ref (gz G + 107)), (1, .ref (gz G + 0)), (0, .ref b)]) {r : Int32} (h1 : fX11_reads n (xs (6 * k + 1)) (xs (6 * k + 2)) (xs (6 * k + 3)) f = some r) (h2 : fX12_reads n (xs (6 * k + 1)) (xs (6 * k + 2)) (xs (6 * k + 3)) m = some r) (hce : ce ≤ 600000 ∧ sl ≤ 7302250) (kk : WX V G N f m ce sl Q 1705 ls []) : WX V G N f m ce sl Q 1362 ls [] := by
  refine x_aload_n B dL_law_1362 rfl (lv_at hl 2 rfl) ?_
  refine x_aload_n B dL_law_1363 rfl (lv_at hl 3 rfl) ?_
  refine x_iload_n B dL_law_1364 rfl (lv_at hl 0 rfl) ?_
  refine x_iconst (v := nI 1) B dL_law_1365 (by decide) ?_
  refine x_iadd B dL_law_1366 ?_
  refine x_scr (i := 6 * k + 1) B hb hX (nI_add _ _) (by omega) hL dL_law_1367 ?_
  refine x_aload_n B dL_law_1368 rfl (lv_at hl 3 rfl) ?_
  refine x_iload_n B dL_law_1369 rfl (lv_at hl 0 rfl) ?_
  refine x_iconst (v := nI 2) B dL_law_1370 (by decide) ?_
  refine x_iadd B dL_law_1371 ?_
  refine x_scr (i := 6 * k + 2) B hb hX (nI_add _ _) (by omega) hL dL_law_1372 ?_
  refine x_aload_n B dL_law_1373 rfl (lv_at hl 3 rfl) ?_
  refine x_iload_n B dL_law_1374 rfl (lv_at hl 0 rfl) ?_
  refine x_iconst (v := nI 3) B dL_law_1375 (by decide) ?_
  refine x_iadd B dL_law_1376 ?_
  refine x_scr (i := 6 * k + 3) B hb hX (nI_add _ _) (by omega) hL dL_law_1377 ?_
  refine x_callV0 (rest := []) B (kX11_reads h1) ⟨rfl, rfl⟩ (rg_11_0.at0 (N := N) rfl).lt (rg_11_0.at0 (N := N) rfl).2 rfl (by decide) q_1021 q_1022 q_1023 (by rw [hR]; exact cwL_X11_reads) rfl rfl hl.1 (Nat.le_of_ble_eq_true rfl) dL_law_1378 (by rw [hR]; exact hce) ?_
  refine x_aload_n B dL_law_1381 rfl (lv_at hl 1 rfl) ?_
  refine x_aload_n B dL_law_1382 rfl (lv_at hl 3 rfl) ?_
  refine x_iload_n B dL_law_1383 rfl (lv_at hl 0 rfl) ?_
  refine x_iconst (v := nI 1) B dL_law_1384 (by decide) ?_
  refine x_iadd B dL_law_1385 ?_
  refine x_scr (i := 6 * k + 1) B hb hX (nI_add _ _) (by omega) hL dL_law_1386 ?_
  refine x_aload_n B dL_law_1387 rfl (lv_at hl 3 rfl) ?_
  refine x_iload_n B dL_law_1388 rfl (lv_at hl 0 rfl) ?_
  refine x_iconst (v := nI 2) B dL_law_1389 (by decide) ?_
  refine x_iadd B dL_law_1390 ?_
  refine x_scr (i := 6 * k + 2) B hb hX (nI_add _ _) (by omega) hL dL_law_1391 ?_
  refine x_aload_n B dL_law_1392 rfl (lv_at hl 3 rfl) ?_
  refine x_iload_n B dL_law_1393 rfl (lv_at hl 0 rfl) ?_
  refine x_iconst (v := nI 3) B dL_law_1394 (by decide) ?_
  refine x_iadd B dL_law_1395 ?_
  refine x_scr (i := 6 * k + 3) B hb hX (nI_add _ _) (by omega) hL dL_law_1396 ?_
  refine x_callV0 (rest := [.int r]) B (kX12_reads h2) ⟨rfl, rfl⟩ aM_107.lt aM_107.2 rfl (by decide) q_1560 q_1561 q_1562 (by rw [hR]; exact cwL_X12_reads) rfl rfl hl.1 (Nat.le_of_ble_eq_true rfl) dL_law_1397 (by rw [hR]; exact hce) ?_
  exact x_icmp_eq (tgt := 1705) B dL_law_1400 (by decide) (fun _ => kk) (fun h => absurd rfl h)
def SP_reads (Inv : Nat → Mm → Mm → Prop) (n : Nat) : Prop := ∀ (N : Nat) (f m : Mm) (a1 a2 a3 : Int32), Inv N f m → ∃ r : Int32, fX11_reads n a1 a2 a3 f = some r ∧ fX12_reads n a1 a2 a3 m = some r ∧ Inv N f m
set_option maxHeartbeats 4000000 in
set_option maxRecDepth 100000 in
theorem law_41 {V : VE} {G : GE} {N : Nat} {f m : Mm} {ls : Array Slot} {ce sl : Nat} {Q : State → Prop} {b L k n : Nat} {xs : Nat → Int32} (B : CX V G code 4 "FluxWatchLaw" (some .boolean)) (hR : V.2.2.2.1 = room_1) (hb : b < gz G) (hX : va_X b L xs V.2.2.2.2.1 (gH G)) (hk : 6 * k + 6 ≤ L) (hL : L ≤ 384) (hl : lv_has ls 4 [(3, .int (nI (6 * k))), (2, .ref (gz G + 107)), (1, .ref (gz G + 0)), (0, .ref b)]) {r : Int32} {f1 : Mm} {m1 : Mm} (h1 : fX11_copy n (xs (6 * k + 1)) (xs (6 * k + 2)) (xs (6 * k + 3)) (xs (6 * k + 4)) (xs (6 * k + 5)) f = some (r, f1)) (h2 : fX12_copy n (xs (6 * k + 1)) (xs (6 * k + 2)) (xs (6 * k + 3)) (xs (6 * k + 4)) (xs (6 * k + 5)) m = some (r, m1)) (hce : ce ≤ 600000 ∧ sl ≤ 7302250) (kk : WX V G N f1 m1 ce sl Q 1705 ls []) : WX V G N f m ce sl Q 1405 ls [] := by
  refine x_aload_n B dL_law_1405 rfl (lv_at hl 2 rfl) ?_
  refine x_aload_n B dL_law_1406 rfl (lv_at hl 3 rfl) ?_
  refine x_iload_n B dL_law_1407 rfl (lv_at hl 0 rfl) ?_
  refine x_iconst (v := nI 1) B dL_law_1408 (by decide) ?_
  refine x_iadd B dL_law_1409 ?_
  refine x_scr (i := 6 * k + 1) B hb hX (nI_add _ _) (by omega) hL dL_law_1410 ?_
  refine x_aload_n B dL_law_1411 rfl (lv_at hl 3 rfl) ?_
  refine x_iload_n B dL_law_1412 rfl (lv_at hl 0 rfl) ?_
  refine x_iconst (v := nI 2) B dL_law_1413 (by decide) ?_
  refine x_iadd B dL_law_1414 ?_
  refine x_scr (i := 6 * k + 2) B hb hX (nI_add _ _) (by omega) hL dL_law_1415 ?_
  refine x_aload_n B dL_law_1416 rfl (lv_at hl 3 rfl) ?_
  refine x_iload_n B dL_law_1417 rfl (lv_at hl 0 rfl) ?_
  refine x_iconst (v := nI 3) B dL_law_1418 (by decide) ?_
  refine x_iadd B dL_law_1419 ?_
  refine x_scr (i := 6 * k + 3) B hb hX (nI_add _ _) (by omega) hL dL_law_1420 ?_
  refine x_aload_n B dL_law_1421 rfl (lv_at hl 3 rfl) ?_
  refine x_iload_n B dL_law_1422 rfl (lv_at hl 0 rfl) ?_
  refine x_iconst (v := nI 4) B dL_law_1423 (by decide) ?_
  refine x_iadd B dL_law_1424 ?_
  refine x_scr (i := 6 * k + 4) B hb hX (nI_add _ _) (by omega) hL dL_law_1425 ?_
  refine x_aload_n B dL_law_1426 rfl (lv_at hl 3 rfl) ?_
  refine x_iload_n B dL_law_1427 rfl (lv_at hl 0 rfl) ?_
  refine x_iconst (v := nI 5) B dL_law_1428 (by decide) ?_
  refine x_iadd B dL_law_1429 ?_
  refine x_scr (i := 6 * k + 5) B hb hX (nI_add _ _) (by omega) hL dL_law_1430 ?_
  refine x_callV0 (rest := []) B (kX11_copy h1) ⟨rfl, rfl⟩ (rg_11_0.at0 (N := N) rfl).lt (rg_11_0.at0 (N := N) rfl).2 rfl (by decide) q_1025 q_1026 q_1027 (by rw [hR]; exact cwL_X11_copy) rfl rfl hl.1 (Nat.le_of_ble_eq_true rfl) dL_law_1431 (by rw [hR]; exact hce) ?_
  refine x_aload_n B dL_law_1434 rfl (lv_at hl 1 rfl) ?_
  refine x_aload_n B dL_law_1435 rfl (lv_at hl 3 rfl) ?_
  refine x_iload_n B dL_law_1436 rfl (lv_at hl 0 rfl) ?_
  refine x_iconst (v := nI 1) B dL_law_1437 (by decide) ?_
  refine x_iadd B dL_law_1438 ?_
  refine x_scr (i := 6 * k + 1) B hb hX (nI_add _ _) (by omega) hL dL_law_1439 ?_
  refine x_aload_n B dL_law_1440 rfl (lv_at hl 3 rfl) ?_
  refine x_iload_n B dL_law_1441 rfl (lv_at hl 0 rfl) ?_
  refine x_iconst (v := nI 2) B dL_law_1442 (by decide) ?_
  refine x_iadd B dL_law_1443 ?_
  refine x_scr (i := 6 * k + 2) B hb hX (nI_add _ _) (by omega) hL dL_law_1444 ?_
  refine x_aload_n B dL_law_1445 rfl (lv_at hl 3 rfl) ?_
  refine x_iload_n B dL_law_1446 rfl (lv_at hl 0 rfl) ?_
  refine x_iconst (v := nI 3) B dL_law_1447 (by decide) ?_
  refine x_iadd B dL_law_1448 ?_
  refine x_scr (i := 6 * k + 3) B hb hX (nI_add _ _) (by omega) hL dL_law_1449 ?_
  refine x_aload_n B dL_law_1450 rfl (lv_at hl 3 rfl) ?_
  refine x_iload_n B dL_law_1451 rfl (lv_at hl 0 rfl) ?_
  refine x_iconst (v := nI 4) B dL_law_1452 (by decide) ?_
  refine x_iadd B dL_law_1453 ?_
  refine x_scr (i := 6 * k + 4) B hb hX (nI_add _ _) (by omega) hL dL_law_1454 ?_
  refine x_aload_n B dL_law_1455 rfl (lv_at hl 3 rfl) ?_
  refine x_iload_n B dL_law_1456 rfl (lv_at hl 0 rfl) ?_
  refine x_iconst (v := nI 5) B dL_law_1457 (by decide) ?_
  refine x_iadd B dL_law_1458 ?_
  refine x_scr (i := 6 * k + 5) B hb hX (nI_add _ _) (by omega) hL dL_law_1459 ?_
  refine x_callV0 (rest := [.int r]) B (kX12_copy h2) ⟨rfl, rfl⟩ aM_107.lt aM_107.2 rfl (by decide) q_1568 q_1569 q_1570 (by rw [hR]; exact cwL_X12_copy) rfl rfl hl.1 (Nat.le_of_ble_eq_true rfl) dL_law_1460 (by rw [hR]; exact hce) ?_
  exact x_icmp_eq (tgt := 1705) B dL_law_1463 (by decide) (fun _ => kk) (fun h => absurd rfl h)
def SP_copy (Inv : Nat → Mm → Mm → Prop) (n : Nat) : Prop := ∀ (N : Nat) (f m : Mm) (a1 a2 a3 a4 a5 : Int32), Inv N f m → ∃ r : Int32, ∃ f1 : Mm, ∃ m1 : Mm, fX11_copy n a1 a2 a3 a4 a5 f = some (r, f1) ∧ fX12_copy n a1 a2 a3 a4 a5 m = some (r, m1) ∧ Inv N f1 m1
set_option maxHeartbeats 4000000 in
set_option maxRecDepth 100000 in
theorem law_42 {V : VE} {G : GE} {N : Nat} {f m : Mm} {ls : Array Slot} {ce sl : Nat} {Q : State → Prop} {b L k n : Nat} {xs : Nat → Int32} (B : CX V G code 4 "FluxWatchLaw" (some .boolean)) (hR : V.2.2.2.1 = room_1) (hb : b < gz G) (hX : va_X b L xs V.2.2.2.2.1 (gH G)) (hk : 6 * k + 6 ≤ L) (hL : L ≤ 384) (hl : lv_has ls 4 [(3, .int (nI (6 * k))), (2, .ref (gz G + 107)), (1, .ref (gz G + 0)), (0, .ref b)]) {r : Int32} {f1 : Mm} {m1 : Mm} (h1 : fX11_lay n (xs (6 * k + 1)) (xs (6 * k + 2)) (xs (6 * k + 3)) f = some (r, f1)) (h2 : fX12_lay n (xs (6 * k + 1)) (xs (6 * k + 2)) (xs (6 * k + 3)) m = some (r, m1)) (hce : ce ≤ 600000 ∧ sl ≤ 7302250) (kk : WX V G N f1 m1 ce sl Q 1705 ls []) : WX V G N f m ce sl Q 1468 ls [] := by
  refine x_aload_n B dL_law_1468 rfl (lv_at hl 2 rfl) ?_
  refine x_aload_n B dL_law_1469 rfl (lv_at hl 3 rfl) ?_
  refine x_iload_n B dL_law_1470 rfl (lv_at hl 0 rfl) ?_
  refine x_iconst (v := nI 1) B dL_law_1471 (by decide) ?_
  refine x_iadd B dL_law_1472 ?_
  refine x_scr (i := 6 * k + 1) B hb hX (nI_add _ _) (by omega) hL dL_law_1473 ?_
  refine x_aload_n B dL_law_1474 rfl (lv_at hl 3 rfl) ?_
  refine x_iload_n B dL_law_1475 rfl (lv_at hl 0 rfl) ?_
  refine x_iconst (v := nI 2) B dL_law_1476 (by decide) ?_
  refine x_iadd B dL_law_1477 ?_
  refine x_scr (i := 6 * k + 2) B hb hX (nI_add _ _) (by omega) hL dL_law_1478 ?_
  refine x_aload_n B dL_law_1479 rfl (lv_at hl 3 rfl) ?_
  refine x_iload_n B dL_law_1480 rfl (lv_at hl 0 rfl) ?_
  refine x_iconst (v := nI 3) B dL_law_1481 (by decide) ?_
  refine x_iadd B dL_law_1482 ?_
  refine x_scr (i := 6 * k + 3) B hb hX (nI_add _ _) (by omega) hL dL_law_1483 ?_
  refine x_callV0 (rest := []) B (kX11_lay h1) ⟨rfl, rfl⟩ (rg_11_0.at0 (N := N) rfl).lt (rg_11_0.at0 (N := N) rfl).2 rfl (by decide) q_1034 q_1035 q_1036 (by rw [hR]; exact cwL_X11_lay) rfl rfl hl.1 (Nat.le_of_ble_eq_true rfl) dL_law_1484 (by rw [hR]; exact hce) ?_
  refine x_aload_n B dL_law_1487 rfl (lv_at hl 1 rfl) ?_
  refine x_aload_n B dL_law_1488 rfl (lv_at hl 3 rfl) ?_
  refine x_iload_n B dL_law_1489 rfl (lv_at hl 0 rfl) ?_
  refine x_iconst (v := nI 1) B dL_law_1490 (by decide) ?_
  refine x_iadd B dL_law_1491 ?_
  refine x_scr (i := 6 * k + 1) B hb hX (nI_add _ _) (by omega) hL dL_law_1492 ?_
  refine x_aload_n B dL_law_1493 rfl (lv_at hl 3 rfl) ?_
  refine x_iload_n B dL_law_1494 rfl (lv_at hl 0 rfl) ?_
  refine x_iconst (v := nI 2) B dL_law_1495 (by decide) ?_
  refine x_iadd B dL_law_1496 ?_
  refine x_scr (i := 6 * k + 2) B hb hX (nI_add _ _) (by omega) hL dL_law_1497 ?_
  refine x_aload_n B dL_law_1498 rfl (lv_at hl 3 rfl) ?_
  refine x_iload_n B dL_law_1499 rfl (lv_at hl 0 rfl) ?_
  refine x_iconst (v := nI 3) B dL_law_1500 (by decide) ?_
  refine x_iadd B dL_law_1501 ?_
  refine x_scr (i := 6 * k + 3) B hb hX (nI_add _ _) (by omega) hL dL_law_1502 ?_
  refine x_callV0 (rest := [.int r]) B (kX12_lay h2) ⟨rfl, rfl⟩ aM_107.lt aM_107.2 rfl (by decide) q_1572 q_1573 q_1574 (by rw [hR]; exact cwL_X12_lay) rfl rfl hl.1 (Nat.le_of_ble_eq_true rfl) dL_law_1503 (by rw [hR]; exact hce) ?_
  exact x_icmp_eq (tgt := 1705) B dL_law_1506 (by decide) (fun _ => kk) (fun h => absurd rfl h)
def SP_lay (Inv : Nat → Mm → Mm → Prop) (n : Nat) : Prop := ∀ (N : Nat) (f m : Mm) (a1 a2 a3 : Int32), Inv N f m → ∃ r : Int32, ∃ f1 : Mm, ∃ m1 : Mm, fX11_lay n a1 a2 a3 f = some (r, f1) ∧ fX12_lay n a1 a2 a3 m = some (r, m1) ∧ Inv N f1 m1
set_option maxHeartbeats 4000000 in
set_option maxRecDepth 100000 in
theorem law_43 {V : VE} {G : GE} {N : Nat} {f m : Mm} {ls : Array Slot} {ce sl : Nat} {Q : State → Prop} {b L k n : Nat} {xs : Nat → Int32} (B : CX V G code 4 "FluxWatchLaw" (some .boolean)) (hR : V.2.2.2.1 = room_1) (hb : b < gz G) (hX : va_X b L xs V.2.2.2.2.1 (gH G)) (hk : 6 * k + 6 ≤ L) (hL : L ≤ 384) (hl : lv_has ls 4 [(3, .int (nI (6 * k))), (2, .ref (gz G + 107)), (1, .ref (gz G + 0)), (0, .ref b)]) {r : Int32} (h1 : fX11_ask n (xs (6 * k + 1)) (xs (6 * k + 2)) f = some r) (h2 : fX12_ask n (xs (6 * k + 1)) (xs (6 * k + 2)) m = some r) (hce : ce ≤ 600000 ∧ sl ≤ 7302250) (kk : WX V G N f m ce sl Q 1705 ls []) : WX V G N f m ce sl Q 1511 ls [] := by
  refine x_aload_n B dL_law_1511 rfl (lv_at hl 2 rfl) ?_
  refine x_aload_n B dL_law_1512 rfl (lv_at hl 3 rfl) ?_
  refine x_iload_n B dL_law_1513 rfl (lv_at hl 0 rfl) ?_
  refine x_iconst (v := nI 1) B dL_law_1514 (by decide) ?_
  refine x_iadd B dL_law_1515 ?_
  refine x_scr (i := 6 * k + 1) B hb hX (nI_add _ _) (by omega) hL dL_law_1516 ?_
  refine x_aload_n B dL_law_1517 rfl (lv_at hl 3 rfl) ?_
  refine x_iload_n B dL_law_1518 rfl (lv_at hl 0 rfl) ?_
  refine x_iconst (v := nI 2) B dL_law_1519 (by decide) ?_
  refine x_iadd B dL_law_1520 ?_
  refine x_scr (i := 6 * k + 2) B hb hX (nI_add _ _) (by omega) hL dL_law_1521 ?_
  refine x_callV0 (rest := []) B (kX11_ask h1) ⟨rfl, rfl⟩ (rg_11_0.at0 (N := N) rfl).lt (rg_11_0.at0 (N := N) rfl).2 rfl (by decide) q_1046 q_1047 q_1048 (by rw [hR]; exact cwL_X11_ask) rfl rfl hl.1 (Nat.le_of_ble_eq_true rfl) dL_law_1522 (by rw [hR]; exact hce) ?_
  refine x_aload_n B dL_law_1525 rfl (lv_at hl 1 rfl) ?_
  refine x_aload_n B dL_law_1526 rfl (lv_at hl 3 rfl) ?_
  refine x_iload_n B dL_law_1527 rfl (lv_at hl 0 rfl) ?_
  refine x_iconst (v := nI 1) B dL_law_1528 (by decide) ?_
  refine x_iadd B dL_law_1529 ?_
  refine x_scr (i := 6 * k + 1) B hb hX (nI_add _ _) (by omega) hL dL_law_1530 ?_
  refine x_aload_n B dL_law_1531 rfl (lv_at hl 3 rfl) ?_
  refine x_iload_n B dL_law_1532 rfl (lv_at hl 0 rfl) ?_
  refine x_iconst (v := nI 2) B dL_law_1533 (by decide) ?_
  refine x_iadd B dL_law_1534 ?_
  refine x_scr (i := 6 * k + 2) B hb hX (nI_add _ _) (by omega) hL dL_law_1535 ?_
  refine x_callV0 (rest := [.int r]) B (kX12_ask h2) ⟨rfl, rfl⟩ aM_107.lt aM_107.2 rfl (by decide) q_1579 q_1580 q_1581 (by rw [hR]; exact cwL_X12_ask) rfl rfl hl.1 (Nat.le_of_ble_eq_true rfl) dL_law_1536 (by rw [hR]; exact hce) ?_
  exact x_icmp_eq (tgt := 1705) B dL_law_1539 (by decide) (fun _ => kk) (fun h => absurd rfl h)
def SP_ask (Inv : Nat → Mm → Mm → Prop) (n : Nat) : Prop := ∀ (N : Nat) (f m : Mm) (a1 a2 : Int32), Inv N f m → ∃ r : Int32, fX11_ask n a1 a2 f = some r ∧ fX12_ask n a1 a2 m = some r ∧ Inv N f m
set_option maxHeartbeats 4000000 in
set_option maxRecDepth 100000 in
theorem law_44 {V : VE} {G : GE} {N : Nat} {f m : Mm} {ls : Array Slot} {ce sl : Nat} {Q : State → Prop} {b L k n : Nat} {xs : Nat → Int32} (B : CX V G code 4 "FluxWatchLaw" (some .boolean)) (hR : V.2.2.2.1 = room_1) (hb : b < gz G) (hX : va_X b L xs V.2.2.2.2.1 (gH G)) (hk : 6 * k + 6 ≤ L) (hL : L ≤ 384) (hl : lv_has ls 4 [(3, .int (nI (6 * k))), (2, .ref (gz G + 107)), (1, .ref (gz G + 0)), (0, .ref b)]) {r : Int32} (h1 : fX11_item n (xs (6 * k + 1)) (xs (6 * k + 2)) f = some r) (h2 : fX12_item n (xs (6 * k + 1)) (xs (6 * k + 2)) m = some r) (hce : ce ≤ 600000 ∧ sl ≤ 7302250) (kk : WX V G N f m ce sl Q 1705 ls []) : WX V G N f m ce sl Q 1544 ls [] := by
  refine x_aload_n B dL_law_1544 rfl (lv_at hl 2 rfl) ?_
  refine x_aload_n B dL_law_1545 rfl (lv_at hl 3 rfl) ?_
  refine x_iload_n B dL_law_1546 rfl (lv_at hl 0 rfl) ?_
  refine x_iconst (v := nI 1) B dL_law_1547 (by decide) ?_
  refine x_iadd B dL_law_1548 ?_
  refine x_scr (i := 6 * k + 1) B hb hX (nI_add _ _) (by omega) hL dL_law_1549 ?_
  refine x_aload_n B dL_law_1550 rfl (lv_at hl 3 rfl) ?_
  refine x_iload_n B dL_law_1551 rfl (lv_at hl 0 rfl) ?_
  refine x_iconst (v := nI 2) B dL_law_1552 (by decide) ?_
  refine x_iadd B dL_law_1553 ?_
  refine x_scr (i := 6 * k + 2) B hb hX (nI_add _ _) (by omega) hL dL_law_1554 ?_
  refine x_callV0 (rest := []) B (kX11_item h1) ⟨rfl, rfl⟩ (rg_11_0.at0 (N := N) rfl).lt (rg_11_0.at0 (N := N) rfl).2 rfl (by decide) q_1050 q_1051 q_1052 (by rw [hR]; exact cwL_X11_item) rfl rfl hl.1 (Nat.le_of_ble_eq_true rfl) dL_law_1555 (by rw [hR]; exact hce) ?_
  refine x_aload_n B dL_law_1558 rfl (lv_at hl 1 rfl) ?_
  refine x_aload_n B dL_law_1559 rfl (lv_at hl 3 rfl) ?_
  refine x_iload_n B dL_law_1560 rfl (lv_at hl 0 rfl) ?_
  refine x_iconst (v := nI 1) B dL_law_1561 (by decide) ?_
  refine x_iadd B dL_law_1562 ?_
  refine x_scr (i := 6 * k + 1) B hb hX (nI_add _ _) (by omega) hL dL_law_1563 ?_
  refine x_aload_n B dL_law_1564 rfl (lv_at hl 3 rfl) ?_
  refine x_iload_n B dL_law_1565 rfl (lv_at hl 0 rfl) ?_
  refine x_iconst (v := nI 2) B dL_law_1566 (by decide) ?_
  refine x_iadd B dL_law_1567 ?_
  refine x_scr (i := 6 * k + 2) B hb hX (nI_add _ _) (by omega) hL dL_law_1568 ?_
  refine x_callV0 (rest := [.int r]) B (kX12_item h2) ⟨rfl, rfl⟩ aM_107.lt aM_107.2 rfl (by decide) q_1583 q_1584 q_1585 (by rw [hR]; exact cwL_X12_item) rfl rfl hl.1 (Nat.le_of_ble_eq_true rfl) dL_law_1569 (by rw [hR]; exact hce) ?_
  exact x_icmp_eq (tgt := 1705) B dL_law_1572 (by decide) (fun _ => kk) (fun h => absurd rfl h)
def SP_item (Inv : Nat → Mm → Mm → Prop) (n : Nat) : Prop := ∀ (N : Nat) (f m : Mm) (a1 a2 : Int32), Inv N f m → ∃ r : Int32, fX11_item n a1 a2 f = some r ∧ fX12_item n a1 a2 m = some r ∧ Inv N f m
set_option maxHeartbeats 4000000 in
set_option maxRecDepth 100000 in
theorem law_45 {V : VE} {G : GE} {N : Nat} {f m : Mm} {ls : Array Slot} {ce sl : Nat} {Q : State → Prop} {b L k n : Nat} {xs : Nat → Int32} (B : CX V G code 4 "FluxWatchLaw" (some .boolean)) (hR : V.2.2.2.1 = room_1) (hb : b < gz G) (hX : va_X b L xs V.2.2.2.2.1 (gH G)) (hk : 6 * k + 6 ≤ L) (hL : L ≤ 384) (hl : lv_has ls 4 [(3, .int (nI (6 * k))), (2, .ref (gz G + 107)), (1, .ref (gz G + 0)), (0, .ref b)]) {r : Int32} (h1 : fX11_rest n (xs (6 * k + 1)) (xs (6 * k + 2)) f = some r) (h2 : fX12_rest n (xs (6 * k + 1)) (xs (6 * k + 2)) m = some r) (hce : ce ≤ 600000 ∧ sl ≤ 7302250) (kk : WX V G N f m ce sl Q 1705 ls []) : WX V G N f m ce sl Q 1577 ls [] := by
  refine x_aload_n B dL_law_1577 rfl (lv_at hl 2 rfl) ?_
  refine x_aload_n B dL_law_1578 rfl (lv_at hl 3 rfl) ?_
  refine x_iload_n B dL_law_1579 rfl (lv_at hl 0 rfl) ?_
  refine x_iconst (v := nI 1) B dL_law_1580 (by decide) ?_
  refine x_iadd B dL_law_1581 ?_
  refine x_scr (i := 6 * k + 1) B hb hX (nI_add _ _) (by omega) hL dL_law_1582 ?_
  refine x_aload_n B dL_law_1583 rfl (lv_at hl 3 rfl) ?_
  refine x_iload_n B dL_law_1584 rfl (lv_at hl 0 rfl) ?_
  refine x_iconst (v := nI 2) B dL_law_1585 (by decide) ?_
  refine x_iadd B dL_law_1586 ?_
  refine x_scr (i := 6 * k + 2) B hb hX (nI_add _ _) (by omega) hL dL_law_1587 ?_
  refine x_callV0 (rest := []) B (kX11_rest h1) ⟨rfl, rfl⟩ (rg_11_0.at0 (N := N) rfl).lt (rg_11_0.at0 (N := N) rfl).2 rfl (by decide) q_1054 q_1055 q_1056 (by rw [hR]; exact cwL_X11_rest) rfl rfl hl.1 (Nat.le_of_ble_eq_true rfl) dL_law_1588 (by rw [hR]; exact hce) ?_
  refine x_aload_n B dL_law_1591 rfl (lv_at hl 1 rfl) ?_
  refine x_aload_n B dL_law_1592 rfl (lv_at hl 3 rfl) ?_
  refine x_iload_n B dL_law_1593 rfl (lv_at hl 0 rfl) ?_
  refine x_iconst (v := nI 1) B dL_law_1594 (by decide) ?_
  refine x_iadd B dL_law_1595 ?_
  refine x_scr (i := 6 * k + 1) B hb hX (nI_add _ _) (by omega) hL dL_law_1596 ?_
  refine x_aload_n B dL_law_1597 rfl (lv_at hl 3 rfl) ?_
  refine x_iload_n B dL_law_1598 rfl (lv_at hl 0 rfl) ?_
  refine x_iconst (v := nI 2) B dL_law_1599 (by decide) ?_
  refine x_iadd B dL_law_1600 ?_
  refine x_scr (i := 6 * k + 2) B hb hX (nI_add _ _) (by omega) hL dL_law_1601 ?_
  refine x_callV0 (rest := [.int r]) B (kX12_rest h2) ⟨rfl, rfl⟩ aM_107.lt aM_107.2 rfl (by decide) q_1587 q_1588 q_1589 (by rw [hR]; exact cwL_X12_rest) rfl rfl hl.1 (Nat.le_of_ble_eq_true rfl) dL_law_1602 (by rw [hR]; exact hce) ?_
  exact x_icmp_eq (tgt := 1705) B dL_law_1605 (by decide) (fun _ => kk) (fun h => absurd rfl h)
def SP_rest (Inv : Nat → Mm → Mm → Prop) (n : Nat) : Prop := ∀ (N : Nat) (f m : Mm) (a1 a2 : Int32), Inv N f m → ∃ r : Int32, fX11_rest n a1 a2 f = some r ∧ fX12_rest n a1 a2 m = some r ∧ Inv N f m
set_option maxHeartbeats 4000000 in
set_option maxRecDepth 100000 in
theorem law_46 {V : VE} {G : GE} {N : Nat} {f m : Mm} {ls : Array Slot} {ce sl : Nat} {Q : State → Prop} {b L k n : Nat} {xs : Nat → Int32} (B : CX V G code 4 "FluxWatchLaw" (some .boolean)) (hR : V.2.2.2.1 = room_1) (hb : b < gz G) (hX : va_X b L xs V.2.2.2.2.1 (gH G)) (hk : 6 * k + 6 ≤ L) (hL : L ≤ 384) (hl : lv_has ls 4 [(3, .int (nI (6 * k))), (2, .ref (gz G + 107)), (1, .ref (gz G + 0)), (0, .ref b)]) {r : Int32} {f1 : Mm} {m1 : Mm} (h1 : fX11_tell n (xs (6 * k + 1)) f = some (r, f1)) (h2 : fX12_tell n (xs (6 * k + 1)) m = some (r, m1)) (hce : ce ≤ 600000 ∧ sl ≤ 7302250) (kk : WX V G N f1 m1 ce sl Q 1705 ls []) : WX V G N f m ce sl Q 1610 ls [] := by
  refine x_aload_n B dL_law_1610 rfl (lv_at hl 2 rfl) ?_
  refine x_aload_n B dL_law_1611 rfl (lv_at hl 3 rfl) ?_
  refine x_iload_n B dL_law_1612 rfl (lv_at hl 0 rfl) ?_
  refine x_iconst (v := nI 1) B dL_law_1613 (by decide) ?_
  refine x_iadd B dL_law_1614 ?_
  refine x_scr (i := 6 * k + 1) B hb hX (nI_add _ _) (by omega) hL dL_law_1615 ?_
  refine x_callV0 (rest := []) B (kX11_tell h1) ⟨rfl, rfl⟩ (rg_11_0.at0 (N := N) rfl).lt (rg_11_0.at0 (N := N) rfl).2 rfl (by decide) q_1058 q_1059 q_1060 (by rw [hR]; exact cwL_X11_tell) rfl rfl hl.1 (Nat.le_of_ble_eq_true rfl) dL_law_1616 (by rw [hR]; exact hce) ?_
  refine x_aload_n B dL_law_1619 rfl (lv_at hl 1 rfl) ?_
  refine x_aload_n B dL_law_1620 rfl (lv_at hl 3 rfl) ?_
  refine x_iload_n B dL_law_1621 rfl (lv_at hl 0 rfl) ?_
  refine x_iconst (v := nI 1) B dL_law_1622 (by decide) ?_
  refine x_iadd B dL_law_1623 ?_
  refine x_scr (i := 6 * k + 1) B hb hX (nI_add _ _) (by omega) hL dL_law_1624 ?_
  refine x_callV0 (rest := [.int r]) B (kX12_tell h2) ⟨rfl, rfl⟩ aM_107.lt aM_107.2 rfl (by decide) q_1591 q_1592 q_1593 (by rw [hR]; exact cwL_X12_tell) rfl rfl hl.1 (Nat.le_of_ble_eq_true rfl) dL_law_1625 (by rw [hR]; exact hce) ?_
  exact x_icmp_eq (tgt := 1705) B dL_law_1628 (by decide) (fun _ => kk) (fun h => absurd rfl h)
def SP_tell (Inv : Nat → Mm → Mm → Prop) (n : Nat) : Prop := ∀ (N : Nat) (f m : Mm) (a1 : Int32), Inv N f m → ∃ r : Int32, ∃ f1 : Mm, ∃ m1 : Mm, fX11_tell n a1 f = some (r, f1) ∧ fX12_tell n a1 m = some (r, m1) ∧ Inv N f1 m1
set_option maxHeartbeats 4000000 in
set_option maxRecDepth 100000 in
theorem law_47 {V : VE} {G : GE} {N : Nat} {f m : Mm} {ls : Array Slot} {ce sl : Nat} {Q : State → Prop} {b L k n : Nat} {xs : Nat → Int32} (B : CX V G code 4 "FluxWatchLaw" (some .boolean)) (hR : V.2.2.2.1 = room_1) (hb : b < gz G) (hX : va_X b L xs V.2.2.2.2.1 (gH G)) (hk : 6 * k + 6 ≤ L) (hL : L ≤ 384) (hl : lv_has ls 4 [(3, .int (nI (6 * k))), (2, .ref (gz G + 107)), (1, .ref (gz G + 0)), (0, .ref b)]) {r : Int32} {f1 : Mm} {m1 : Mm} (h1 : fX11_check n N (xs (6 * k + 1)) f = some (r, f1)) (h2 : fX12_check n (xs (6 * k + 1)) m = some (r, m1)) (hce : ce ≤ 600000 ∧ sl ≤ 7302250) (kk : WX V G N f1 m1 ce sl Q 1705 ls []) : WX V G N f m ce sl Q 1633 ls [] := by
  refine x_aload_n B dL_law_1633 rfl (lv_at hl 2 rfl) ?_
  refine x_aload_n B dL_law_1634 rfl (lv_at hl 3 rfl) ?_
  refine x_iload_n B dL_law_1635 rfl (lv_at hl 0 rfl) ?_
  refine x_iconst (v := nI 1) B dL_law_1636 (by decide) ?_
  refine x_iadd B dL_law_1637 ?_
  refine x_scr (i := 6 * k + 1) B hb hX (nI_add _ _) (by omega) hL dL_law_1638 ?_
  refine x_callV0 (rest := []) B (kX11_check h1) ⟨rfl, rfl⟩ (rg_11_0.at0 (N := N) rfl).lt (rg_11_0.at0 (N := N) rfl).2 rfl (by decide) q_1062 q_1063 q_1064 (by rw [hR]; exact cwL_X11_check) rfl rfl hl.1 (Nat.le_of_ble_eq_true rfl) dL_law_1639 (by rw [hR]; exact hce) ?_
  refine x_aload_n B dL_law_1642 rfl (lv_at hl 1 rfl) ?_
  refine x_aload_n B dL_law_1643 rfl (lv_at hl 3 rfl) ?_
  refine x_iload_n B dL_law_1644 rfl (lv_at hl 0 rfl) ?_
  refine x_iconst (v := nI 1) B dL_law_1645 (by decide) ?_
  refine x_iadd B dL_law_1646 ?_
  refine x_scr (i := 6 * k + 1) B hb hX (nI_add _ _) (by omega) hL dL_law_1647 ?_
  refine x_callV0 (rest := [.int r]) B (kX12_check h2) ⟨rfl, rfl⟩ aM_107.lt aM_107.2 rfl (by decide) q_1595 q_1596 q_1597 (by rw [hR]; exact cwL_X12_check) rfl rfl hl.1 (Nat.le_of_ble_eq_true rfl) dL_law_1648 (by rw [hR]; exact hce) ?_
  exact x_icmp_eq (tgt := 1705) B dL_law_1651 (by decide) (fun _ => kk) (fun h => absurd rfl h)
def SP_check (Inv : Nat → Mm → Mm → Prop) (n : Nat) : Prop := ∀ (N : Nat) (f m : Mm) (a1 : Int32), Inv N f m → ∃ r : Int32, ∃ f1 : Mm, ∃ m1 : Mm, fX11_check n N a1 f = some (r, f1) ∧ fX12_check n a1 m = some (r, m1) ∧ Inv N f1 m1
set_option maxHeartbeats 4000000 in
set_option maxRecDepth 100000 in
theorem law_48 {V : VE} {G : GE} {N : Nat} {f m : Mm} {ls : Array Slot} {ce sl : Nat} {Q : State → Prop} {b L k n : Nat} {xs : Nat → Int32} (B : CX V G code 4 "FluxWatchLaw" (some .boolean)) (hR : V.2.2.2.1 = room_1) (hb : b < gz G) (hX : va_X b L xs V.2.2.2.2.1 (gH G)) (hk : 6 * k + 6 ≤ L) (hL : L ≤ 384) (hl : lv_has ls 4 [(3, .int (nI (6 * k))), (2, .ref (gz G + 107)), (1, .ref (gz G + 0)), (0, .ref b)]) {r : Int32} {f1 : Mm} {m1 : Mm} (h1 : fX11_keep n N f = some (r, f1)) (h2 : fX12_keep n m = some (r, m1)) (hce : ce ≤ 600000 ∧ sl ≤ 7302250) (kk : WX V G N f1 m1 ce sl Q 1705 ls []) : WX V G N f m ce sl Q 1656 ls [] := by
  refine x_aload_n B dL_law_1656 rfl (lv_at hl 2 rfl) ?_
  refine x_callV0 (rest := []) B (kX11_keep h1) ⟨rfl, rfl⟩ (rg_11_0.at0 (N := N) rfl).lt (rg_11_0.at0 (N := N) rfl).2 rfl (by decide) q_1090 q_1091 q_1092 (by rw [hR]; exact cwL_X11_keep) rfl rfl hl.1 (Nat.le_of_ble_eq_true rfl) dL_law_1657 (by rw [hR]; exact hce) ?_
  refine x_aload_n B dL_law_1660 rfl (lv_at hl 1 rfl) ?_
  refine x_callV0 (rest := [.int r]) B (kX12_keep h2) ⟨rfl, rfl⟩ aM_107.lt aM_107.2 rfl (by decide) q_1602 q_1603 q_1604 (by rw [hR]; exact cwL_X12_keep) rfl rfl hl.1 (Nat.le_of_ble_eq_true rfl) dL_law_1661 (by rw [hR]; exact hce) ?_
  exact x_icmp_eq (tgt := 1705) B dL_law_1664 (by decide) (fun _ => kk) (fun h => absurd rfl h)
def SP_keep (Inv : Nat → Mm → Mm → Prop) (n : Nat) : Prop := ∀ (N : Nat) (f m : Mm) , Inv N f m → ∃ r : Int32, ∃ f1 : Mm, ∃ m1 : Mm, fX11_keep n N f = some (r, f1) ∧ fX12_keep n m = some (r, m1) ∧ Inv N f1 m1
set_option maxHeartbeats 4000000 in
set_option maxRecDepth 100000 in
theorem law_49 {V : VE} {G : GE} {N : Nat} {f m : Mm} {ls : Array Slot} {ce sl : Nat} {Q : State → Prop} {b L k n : Nat} {xs : Nat → Int32} (B : CX V G code 4 "FluxWatchLaw" (some .boolean)) (hR : V.2.2.2.1 = room_1) (hb : b < gz G) (hX : va_X b L xs V.2.2.2.2.1 (gH G)) (hk : 6 * k + 6 ≤ L) (hL : L ≤ 384) (hl : lv_has ls 4 [(3, .int (nI (6 * k))), (2, .ref (gz G + 107)), (1, .ref (gz G + 0)), (0, .ref b)]) {r : Int32} {f1 : Mm} {m1 : Mm} (h1 : fX11_back n N f = some (r, f1)) (h2 : fX12_back n m = some (r, m1)) (hce : ce ≤ 600000 ∧ sl ≤ 7302250) (kk : WX V G N f1 m1 ce sl Q 1705 ls []) : WX V G N f m ce sl Q 1669 ls [] := by
  refine x_aload_n B dL_law_1669 rfl (lv_at hl 2 rfl) ?_
  refine x_callV0 (rest := []) B (kX11_back h1) ⟨rfl, rfl⟩ (rg_11_0.at0 (N := N) rfl).lt (rg_11_0.at0 (N := N) rfl).2 rfl (by decide) q_1094 q_1095 q_1096 (by rw [hR]; exact cwL_X11_back) rfl rfl hl.1 (Nat.le_of_ble_eq_true rfl) dL_law_1670 (by rw [hR]; exact hce) ?_
  refine x_aload_n B dL_law_1673 rfl (lv_at hl 1 rfl) ?_
  refine x_callV0 (rest := [.int r]) B (kX12_back h2) ⟨rfl, rfl⟩ aM_107.lt aM_107.2 rfl (by decide) q_1606 q_1607 q_1608 (by rw [hR]; exact cwL_X12_back) rfl rfl hl.1 (Nat.le_of_ble_eq_true rfl) dL_law_1674 (by rw [hR]; exact hce) ?_
  exact x_icmp_eq (tgt := 1705) B dL_law_1677 (by decide) (fun _ => kk) (fun h => absurd rfl h)
def SP_back (Inv : Nat → Mm → Mm → Prop) (n : Nat) : Prop := ∀ (N : Nat) (f m : Mm) , Inv N f m → ∃ r : Int32, ∃ f1 : Mm, ∃ m1 : Mm, fX11_back n N f = some (r, f1) ∧ fX12_back n m = some (r, m1) ∧ Inv N f1 m1
set_option maxHeartbeats 4000000 in
set_option maxRecDepth 100000 in
theorem law_50 {V : VE} {G : GE} {N : Nat} {f m : Mm} {ls : Array Slot} {ce sl : Nat} {Q : State → Prop} {b L k n : Nat} {xs : Nat → Int32} (B : CX V G code 4 "FluxWatchLaw" (some .boolean)) (hR : V.2.2.2.1 = room_1) (hb : b < gz G) (hX : va_X b L xs V.2.2.2.2.1 (gH G)) (hk : 6 * k + 6 ≤ L) (hL : L ≤ 384) (hl : lv_has ls 4 [(3, .int (nI (6 * k))), (2, .ref (gz G + 107)), (1, .ref (gz G + 0)), (0, .ref b)]) {r : Int32} (h1 : fX11_count n (xs (6 * k + 1)) f = some r) (h2 : fX12_count n (xs (6 * k + 1)) m = some r) (hce : ce ≤ 600000 ∧ sl ≤ 7302250) (kk : WX V G N f m ce sl Q 1705 ls []) : WX V G N f m ce sl Q 1682 ls [] := by
  refine x_aload_n B dL_law_1682 rfl (lv_at hl 2 rfl) ?_
  refine x_aload_n B dL_law_1683 rfl (lv_at hl 3 rfl) ?_
  refine x_iload_n B dL_law_1684 rfl (lv_at hl 0 rfl) ?_
  refine x_iconst (v := nI 1) B dL_law_1685 (by decide) ?_
  refine x_iadd B dL_law_1686 ?_
  refine x_scr (i := 6 * k + 1) B hb hX (nI_add _ _) (by omega) hL dL_law_1687 ?_
  refine x_callV0 (rest := []) B (kX11_count h1) ⟨rfl, rfl⟩ (rg_11_0.at0 (N := N) rfl).lt (rg_11_0.at0 (N := N) rfl).2 rfl (by decide) q_1098 q_1099 q_1100 (by rw [hR]; exact cwL_X11_count) rfl rfl hl.1 (Nat.le_of_ble_eq_true rfl) dL_law_1688 (by rw [hR]; exact hce) ?_
  refine x_aload_n B dL_law_1691 rfl (lv_at hl 1 rfl) ?_
  refine x_aload_n B dL_law_1692 rfl (lv_at hl 3 rfl) ?_
  refine x_iload_n B dL_law_1693 rfl (lv_at hl 0 rfl) ?_
  refine x_iconst (v := nI 1) B dL_law_1694 (by decide) ?_
  refine x_iadd B dL_law_1695 ?_
  refine x_scr (i := 6 * k + 1) B hb hX (nI_add _ _) (by omega) hL dL_law_1696 ?_
  refine x_callV0 (rest := [.int r]) B (kX12_count h2) ⟨rfl, rfl⟩ aM_107.lt aM_107.2 rfl (by decide) q_1610 q_1611 q_1612 (by rw [hR]; exact cwL_X12_count) rfl rfl hl.1 (Nat.le_of_ble_eq_true rfl) dL_law_1697 (by rw [hR]; exact hce) ?_
  exact x_icmp_eq (tgt := 1705) B dL_law_1700 (by decide) (fun _ => kk) (fun h => absurd rfl h)
def SP_count (Inv : Nat → Mm → Mm → Prop) (n : Nat) : Prop := ∀ (N : Nat) (f m : Mm) (a1 : Int32), Inv N f m → ∃ r : Int32, fX11_count n a1 f = some r ∧ fX12_count n a1 m = some r ∧ Inv N f m
end LAW
