/-! THE CLAIM OUT OF ONE WALK OF THE LAW'S BODY. Your part is whole_start (and what it stands on); all else here is the same for every law, but numbers. -/
def R_law : String := "FluxWatchLaw"
def lw_P (b : Addr) (xs : List Int32) (args : Array Value) (s : State) : Prop := args = #[.ref b] ∧ s.IntsAt b xs ∧ xs.length ≤ 384 ∧ (Jvm.Cond.and given_1 narrow_1).before args s = true
def lw_Q (_ : Array Value) (s : State) (o : Outcome) (t : State) : Prop := o = .returned (some (.int 1)) ∧ Framed s o t [] 600000 7302250
def lw_Z (below : List Frame) (a : Array Value) (s : State) : State → Prop := fun t => ∃ o, t.status = .running ∧ Ended t below o ∧ lw_Q a s o t
/-- the law's own end, with 1 on the stack, nothing written that was there before, its room as the claim has it -/
theorem lw_ret {p : Program} {l : Launch} {e : Env} {s : State} {m : MethodId} {below : List Frame} {meth : Method} {c : Code} {b : Nat} (hx : p.tables.exec = Jvm.exec) (hb : c.code = code) (hr : meth.sig.returnType = ret) (hlocks : meth.locks = false) {pc : Nat} {H : Heap} {ls : Array Slot} (hdg : decode code pc = .ok (.ireturn, 1)) : W p l e room_1 s m #[Value.ref b] below meth c H [] 600000 7302250 (lw_Z below #[Value.ref b] s) (F0 m pc ls [.int 1]) := by
  intro T hT X
  obtain ⟨fs, hret, hrun, hended, hW, hframe⟩ := X.leave (v := some (.int 1)) (hlocks := hlocks) (fun h => by rw [hr] at h; cases h)
  have hmeth' : T.vm.method? m = some meth := X.method'
  refine ⟨T.setFrames fs, ?_, .returned (some (.int 1)), hrun, hended, rfl, ⟨_, rfl⟩, hW, hframe⟩
  jvm_step X.here [X.here.top, hx, hb, hdg, hmeth', hr, ret, narrow_b1]
  (try refine ⟨rfl, ?_⟩); (try refine ⟨rfl, ?_⟩)
  first | (intro acts; rw [hret _ acts rfl rfl rfl]) | rw [hret _ _ rfl rfl rfl]
  exact Steps.refl _
/-- what holds at the law's entry: the machine, the code, the tables' words (any of lw_tbl by 'hts w (by decide +kernel)'), the script of L ints xs at the cell b, what the Statement gives of the start (any of its parts by flat_of_before) -/
def lw_At (p : Program) (s : State) (m : MethodId) (meth : Method) (c : Code) (b L : Nat) (xs : Nat → Int32) : Prop :=
  p.tables.exec = Jvm.exec ∧ c.code = code ∧ meth.sig.returnType = ret ∧ c.maxLocals = 4 ∧ s.vm.findClass R_law = some m.cls ∧ (∀ w ∈ lw_tbl, w.before #[Value.ref b] s = true) ∧ va_X b L xs s s.heap ∧ b < s.heap.size ∧ meth.locks = false ∧ (Jvm.Cond.and given_1 narrow_1).before #[Value.ref b] s = true
set_option maxHeartbeats 4000000 in
set_option maxRecDepth 100000 in
theorem cwL_X11_text : cwB room_1 rmX11_text yX11_text cX11_text 3 (some .int) 0 := ⟨q_722, q_45, by decide, by decide⟩
set_option maxHeartbeats 4000000 in
set_option maxRecDepth 100000 in
theorem cwL_X12_text : cwB room_1 rmX12_text yX12_text cX12_text 4 (some .int) 0 := ⟨q_1436, q_57, by decide, by decide⟩
set_option maxHeartbeats 4000000 in
set_option maxRecDepth 100000 in
theorem law_24 {V : VE} {G : GE} {N : Nat} {f m : Mm} {ls : Array Slot} {ce sl : Nat} {Q : State → Prop} {b L k n : Nat} {xs : Nat → Int32} (B : CX V G code 4 "FluxWatchLaw" (some .boolean)) (hR : V.2.2.2.1 = room_1) (hb : b < gz G) (hX : va_X b L xs V.2.2.2.2.1 (gH G)) (hk : 6 * k + 6 ≤ L) (hL : L ≤ 384) (hl : lv_has ls 4 [(3, .int (nI (6 * k))), (2, .ref (gz G + 107)), (1, .ref (gz G + 0)), (0, .ref b)]) {r : Int32} {N1 : Nat} {f1 m1 : Mm} (h1 : fX11_text n N f = some (r, N1, f1)) (h2 : fX12_text n m = some (r, m1)) (hce : ce + 3 ≤ 600000 ∧ sl + 300 ≤ 7302250) (kk : WX V G N1 f1 m1 (ce + 3) (sl + 300) Q 1705 ls []) : WX V G N f m ce sl Q 934 ls [] := by
  refine x_aload_n B dL_law_934 rfl (lv_at hl 2 rfl) ?_
  refine x_callV (rest := []) B (kX11_text h1) (rg_11_0.at0 (N := N) rfl).lt (rg_11_0.at0 (N := N) rfl).2 rfl (by decide) q_719 q_720 q_721 (by rw [hR]; exact cwL_X11_text) rfl rfl hl.1 (Nat.le_of_ble_eq_true rfl) dL_law_935 (by rw [hR]; exact hce) ?_
  refine x_aload_n B dL_law_938 rfl (lv_at hl 1 rfl) ?_
  refine x_callV0 (rest := [.int r]) B (kX12_text h2) ⟨rfl, rfl⟩ aM_107.lt aM_107.2 rfl (by decide) q_1433 q_1434 q_1435 (by rw [hR]; exact cwL_X12_text) rfl rfl hl.1 (Nat.le_of_ble_eq_true rfl) dL_law_939 (by rw [hR]; exact hce) ?_
  exact x_icmp_eq (tgt := 1705) B dL_law_942 (by decide) (fun _ => kk) (fun h => absurd rfl h)
def SP_text (Inv : Nat → Mm → Mm → Prop) (n : Nat) : Prop := ∀ (N : Nat) (f m : Mm), N ≤ 64 → Inv N f m → ∃ r : Int32, ∃ N1 : Nat, ∃ f1 : Mm, ∃ m1 : Mm, fX11_text n N f = some (r, N1, f1) ∧ fX12_text n m = some (r, m1) ∧ N1 ≤ N + 1 ∧ Inv N1 f1 m1
theorem x_lawret {V : VE} {G : GE} {N : Nat} {f m : Mm} {ce sl pc : Nat} {ls : Array Slot} {b : Nat} (B : CX V G code 4 "FluxWatchLaw" (some .boolean)) (hR : V.2.2.2.1 = room_1) (hA : V.2.2.2.2.2.2.1 = #[Value.ref b]) (hz : V.2.2.2.2.1.heap.size = gz G) (hc : ce ≤ 600000) (hs : sl ≤ 7302250) (hd : decode code pc = .ok (.ireturn, 1)) : WX V G N f m ce sl (lw_Z V.2.2.2.2.2.2.2.1 V.2.2.2.2.2.2.1 V.2.2.2.2.1) pc ls [.int (nI 1)] := by
  obtain ⟨p, l, e, R, s, mm, args, below, meth, c⟩ := V
  have hR : R = room_1 := hR
  have hA : args = #[Value.ref b] := hA
  subst hR
  subst hA
  intro H locs h1 h2
  have hz : s.heap.size = gz G := hz
  refine va_forget (fun q hq => by rw [hz]; exact h2.2.2 q hq) ?_
  exact W.widen hc hs (lw_ret B.1 B.2.1 B.2.2.2.2.2.1 B.2.2.2.2.2.2.1 hd)
theorem sub6 {L k : Nat} (hL : L ≤ 384) (hk : k ≤ 400) : nI L - nI 6 < nI (6 * k) ↔ L < 6 * k + 6 := by
  have h1 : (nI L - nI 6).toInt = (L : Int) - 6 := pk_sub_toInt (by omega) (by omega)
  have h2 : (nI (6 * k)).toInt = ((6 * k : Nat) : Int) := nI_toInt (by omega)
  rw [Int32.lt_iff_toInt_lt, h1, h2]
  omega
set_option maxHeartbeats 4000000 in
set_option maxRecDepth 100000 in
theorem law_loop {V : VE} {G : GE} {b L n : Nat} {xs : Nat → Int32} {Inv : Nat → Mm → Mm → Prop} (B : CX V G code 4 "FluxWatchLaw" (some .boolean)) (hR : V.2.2.2.1 = room_1) (hA : V.2.2.2.2.2.2.1 = #[Value.ref b]) (hz : V.2.2.2.2.1.heap.size = gz G) (hb : b < gz G) (hX : va_X b L xs V.2.2.2.2.1 (gH G)) (hL : L ≤ 384) (s0 : SP_coil Inv n) (s1 : SP_coilTold Inv n) (s2 : SP_creep Inv n) (s3 : SP_pair Inv n) (s4 : SP_part Inv n) (s5 : SP_watch Inv n) (s6 : SP_seen Inv n) (s7 : SP_line Inv n) (s8 : SP_step Inv n) (s9 : SP_told Inv n) (s10 : SP_as Inv n) (s11 : SP_turns Inv n) (s12 : SP_drop Inv n) (s13 : SP_set Inv n) (s14 : SP_fit Inv n) (s15 : SP_run Inv n) (s16 : SP_news Inv n) (s17 : SP_since Inv n) (s18 : SP_falls Inv n) (s19 : SP_await Inv n) (s20 : SP_beyond Inv n) (s21 : SP_seed Inv n) (s22 : SP_feed Inv n) (s23 : SP_trim Inv n) (s24 : SP_text Inv n) (s25 : SP_textTold Inv n) (s26 : SP_why Inv n) (s27 : SP_knock Inv n) (s28 : SP_pour Inv n) (s29 : SP_chance Inv n) (s30 : SP_width Inv n) (s31 : SP_key Inv n) (s32 : SP_keys Inv n) (s33 : SP_jokes Inv n) (s34 : SP_offer Inv n) (s35 : SP_clear Inv n) (s36 : SP_best Inv n) (s37 : SP_soonest Inv n) (s38 : SP_sheet Inv n) (s39 : SP_mark Inv n) (s40 : SP_reads Inv n) (s41 : SP_copy Inv n) (s42 : SP_lay Inv n) (s43 : SP_ask Inv n) (s44 : SP_item Inv n) (s45 : SP_rest Inv n) (s46 : SP_tell Inv n) (s47 : SP_check Inv n) (s48 : SP_keep Inv n) (s49 : SP_back Inv n) (s50 : SP_count Inv n) : ∀ (q k N : Nat) (f m : Mm) (ls : Array Slot), N ≤ k → L < 6 * k + 6 * q → 6 * k ≤ L → lv_has ls 4 [(3, .int (nI (6 * k))), (2, .ref (gz G + 107)), (1, .ref (gz G + 0)), (0, .ref b)] → Inv N f m → WX V G N f m (130 + 3 * k) (8087 + 300 * k) (lw_Z V.2.2.2.2.2.2.2.1 V.2.2.2.2.2.2.1 V.2.2.2.2.1) 18 ls [] := by
  intro q
  induction q with
  | zero =>
    intro k N f m ls hN h1 h2
    omega
  | succ q ih =>
    intro k N f m ls hN h1 h2 hl hI
    refine x_iload_n B dL_law_18 rfl (lv_at hl 0 rfl) ?_
    refine x_aload_n B dL_law_19 rfl (lv_at hl 3 rfl) ?_
    refine x_scrL B hb hX dL_law_20 ?_
    refine x_bipush (v := nI 6) B dL_law_21 (by decide) ?_
    refine x_isub B dL_law_23 ?_
    refine x_icmp_gt (tgt := 1711) B dL_law_24 (by decide) (fun g => ?_) (fun g => ?_)
    · refine x_iconst (v := nI 1) B dL_law_1711 (by decide) ?_
      exact x_lawret B hR hA hz (by omega) (by omega) dL_law_1712
    · have hk : 6 * k + 6 ≤ L := by
        rw [sub6 hL (by omega)] at g
        omega
      have nx : ∀ (N1 : Nat) (f1 m1 : Mm), N1 ≤ k + 1 → Inv N1 f1 m1 → WX V G N1 f1 m1 (130 + 3 * k + 3) (8087 + 300 * k + 300) (lw_Z V.2.2.2.2.2.2.2.1 V.2.2.2.2.2.2.1 V.2.2.2.2.1) 1705 ls [] := by
        intro N1 f1 m1 hN1 h9
        refine x_iinc (k := 0) (v := nI 6) (lv' := [(3, .int (nI (6 * k) + nI 6)), (2, .ref (gz G + 107)), (1, .ref (gz G + 0)), (0, .ref b)]) B dL_law_1705 hl rfl (by decide) (by decide) rfl (fun ls hl => ?_)
        refine x_goto (tgt := 18) B dL_law_1708 (by decide) ?_
        rw [nI_add] at hl
        exact ih (k + 1) N1 f1 m1 ls hN1 (by omega) (by omega) hl h9
      refine x_aload_n B dL_law_27 rfl (lv_at hl 3 rfl) ?_
      refine x_iload_n B dL_law_28 rfl (lv_at hl 0 rfl) ?_
      refine x_scr (i := 6 * k) B hb hX rfl (by omega) hL dL_law_29 ?_
      refine x_bipush (v := nI 63) B dL_law_30 (by decide) ?_
      refine x_iand B dL_law_32 ?_
      by_cases w0 : (xs (6 * k) &&& nI 63) = nI 0
      · obtain ⟨r, f1, m1, h1, h2, h3⟩ := s0 N f m (xs (6 * k + 1)) hI
        refine x_tabIn (a := 0) (tgt := 252) B dL_law_33 (by rw [w0]; rfl) (by decide) (by decide) rfl (by decide) ?_
        exact law_0 B hR hb hX hk hL hl h1 h2 ⟨by omega, by omega⟩ (x_wid (by omega) (by omega) (nx N f1 m1 (by omega) h3))
      have w0t := lv_neT w0 (show (nI 0).toInt = 0 from rfl)
      by_cases w1 : (xs (6 * k) &&& nI 63) = nI 1
      · obtain ⟨r, h1, h2, h3⟩ := s1 N f m (xs (6 * k + 1)) (xs (6 * k + 2)) hI
        refine x_tabIn (a := 1) (tgt := 275) B dL_law_33 (by rw [w1]; rfl) (by decide) (by decide) rfl (by decide) ?_
        exact law_1 B hR hb hX hk hL hl h1 h2 ⟨by omega, by omega⟩ (x_wid (by omega) (by omega) (nx N f m (by omega) h3))
      have w1t := lv_neT w1 (show (nI 1).toInt = 1 from rfl)
      by_cases w2 : (xs (6 * k) &&& nI 63) = nI 2
      · obtain ⟨r, f1, m1, h1, h2, h3⟩ := s2 N f m (xs (6 * k + 1)) (xs (6 * k + 2)) hI
        refine x_tabIn (a := 2) (tgt := 308) B dL_law_33 (by rw [w2]; rfl) (by decide) (by decide) rfl (by decide) ?_
        exact law_2 B hR hb hX hk hL hl h1 h2 ⟨by omega, by omega⟩ (x_wid (by omega) (by omega) (nx N f1 m1 (by omega) h3))
      have w2t := lv_neT w2 (show (nI 2).toInt = 2 from rfl)
      by_cases w3 : (xs (6 * k) &&& nI 63) = nI 3
      · obtain ⟨r, f1, m1, h1, h2, h3⟩ := s3 N f m (xs (6 * k + 1)) (xs (6 * k + 2)) hI
        refine x_tabIn (a := 3) (tgt := 341) B dL_law_33 (by rw [w3]; rfl) (by decide) (by decide) rfl (by decide) ?_
        exact law_3 B hR hb hX hk hL hl h1 h2 ⟨by omega, by omega⟩ (x_wid (by omega) (by omega) (nx N f1 m1 (by omega) h3))
      have w3t := lv_neT w3 (show (nI 3).toInt = 3 from rfl)
      by_cases w4 : (xs (6 * k) &&& nI 63) = nI 4
      · obtain ⟨r, f1, m1, h1, h2, h3⟩ := s4 N f m (xs (6 * k + 1)) hI
        refine x_tabIn (a := 4) (tgt := 374) B dL_law_33 (by rw [w4]; rfl) (by decide) (by decide) rfl (by decide) ?_
        exact law_4 B hR hb hX hk hL hl h1 h2 ⟨by omega, by omega⟩ (x_wid (by omega) (by omega) (nx N f1 m1 (by omega) h3))
      have w4t := lv_neT w4 (show (nI 4).toInt = 4 from rfl)
      by_cases w5 : (xs (6 * k) &&& nI 63) = nI 5
      · obtain ⟨r, f1, m1, h1, h2, h3⟩ := s5 N f m (xs (6 * k + 1)) (xs (6 * k + 2)) (xs (6 * k + 3)) hI
        refine x_tabIn (a := 5) (tgt := 397) B dL_law_33 (by rw [w5]; rfl) (by decide) (by decide) rfl (by decide) ?_
        exact law_5 B hR hb hX hk hL hl h1 h2 ⟨by omega, by omega⟩ (x_wid (by omega) (by omega) (nx N f1 m1 (by omega) h3))
      have w5t := lv_neT w5 (show (nI 5).toInt = 5 from rfl)
      by_cases w6 : (xs (6 * k) &&& nI 63) = nI 6
      · obtain ⟨r, h1, h2, h3⟩ := s6 N f m (xs (6 * k + 1)) hI
        refine x_tabIn (a := 6) (tgt := 440) B dL_law_33 (by rw [w6]; rfl) (by decide) (by decide) rfl (by decide) ?_
        exact law_6 B hR hb hX hk hL hl h1 h2 ⟨by omega, by omega⟩ (x_wid (by omega) (by omega) (nx N f m (by omega) h3))
      have w6t := lv_neT w6 (show (nI 6).toInt = 6 from rfl)
      by_cases w7 : (xs (6 * k) &&& nI 63) = nI 7
      · obtain ⟨r, h1, h2, h3⟩ := s7 N f m (xs (6 * k + 1)) (xs (6 * k + 2)) hI
        refine x_tabIn (a := 7) (tgt := 463) B dL_law_33 (by rw [w7]; rfl) (by decide) (by decide) rfl (by decide) ?_
        exact law_7 B hR hb hX hk hL hl h1 h2 ⟨by omega, by omega⟩ (x_wid (by omega) (by omega) (nx N f m (by omega) h3))
      have w7t := lv_neT w7 (show (nI 7).toInt = 7 from rfl)
      by_cases w8 : (xs (6 * k) &&& nI 63) = nI 8
      · obtain ⟨r, f1, m1, h1, h2, h3⟩ := s8 N f m (xs (6 * k + 1)) (xs (6 * k + 2)) (xs (6 * k + 3)) (xs (6 * k + 4)) hI
        refine x_tabIn (a := 8) (tgt := 496) B dL_law_33 (by rw [w8]; rfl) (by decide) (by decide) rfl (by decide) ?_
        exact law_8 B hR hb hX hk hL hl h1 h2 ⟨by omega, by omega⟩ (x_wid (by omega) (by omega) (nx N f1 m1 (by omega) h3))
      have w8t := lv_neT w8 (show (nI 8).toInt = 8 from rfl)
      by_cases w9 : (xs (6 * k) &&& nI 63) = nI 9
      · obtain ⟨r, h1, h2, h3⟩ := s9 N f m (xs (6 * k + 1)) (xs (6 * k + 2)) hI
        refine x_tabIn (a := 9) (tgt := 549) B dL_law_33 (by rw [w9]; rfl) (by decide) (by decide) rfl (by decide) ?_
        exact law_9 B hR hb hX hk hL hl h1 h2 ⟨by omega, by omega⟩ (x_wid (by omega) (by omega) (nx N f m (by omega) h3))
      have w9t := lv_neT w9 (show (nI 9).toInt = 9 from rfl)
      by_cases w10 : (xs (6 * k) &&& nI 63) = nI 10
      · obtain ⟨r, h1, h2, h3⟩ := s10 N f m (xs (6 * k + 1)) (xs (6 * k + 2)) hI
        refine x_tabIn (a := 10) (tgt := 582) B dL_law_33 (by rw [w10]; rfl) (by decide) (by decide) rfl (by decide) ?_
        exact law_10 B hR hb hX hk hL hl h1 h2 ⟨by omega, by omega⟩ (x_wid (by omega) (by omega) (nx N f m (by omega) h3))
      have w10t := lv_neT w10 (show (nI 10).toInt = 10 from rfl)
      by_cases w11 : (xs (6 * k) &&& nI 63) = nI 11
      · obtain ⟨r, f1, m1, h1, h2, h3⟩ := s11 N f m (xs (6 * k + 1)) (xs (6 * k + 2)) hI
        refine x_tabIn (a := 11) (tgt := 615) B dL_law_33 (by rw [w11]; rfl) (by decide) (by decide) rfl (by decide) ?_
        exact law_11 B hR hb hX hk hL hl h1 h2 ⟨by omega, by omega⟩ (x_wid (by omega) (by omega) (nx N f1 m1 (by omega) h3))
      have w11t := lv_neT w11 (show (nI 11).toInt = 11 from rfl)
      by_cases w12 : (xs (6 * k) &&& nI 63) = nI 12
      · obtain ⟨r, f1, m1, h1, h2, h3⟩ := s12 N f m (xs (6 * k + 1)) hI
        refine x_tabIn (a := 12) (tgt := 648) B dL_law_33 (by rw [w12]; rfl) (by decide) (by decide) rfl (by decide) ?_
        exact law_12 B hR hb hX hk hL hl h1 h2 ⟨by omega, by omega⟩ (x_wid (by omega) (by omega) (nx N f1 m1 (by omega) h3))
      have w12t := lv_neT w12 (show (nI 12).toInt = 12 from rfl)
      by_cases w13 : (xs (6 * k) &&& nI 63) = nI 13
      · obtain ⟨r, f1, m1, h1, h2, h3⟩ := s13 N f m (xs (6 * k + 1)) (xs (6 * k + 2)) hI
        refine x_tabIn (a := 13) (tgt := 671) B dL_law_33 (by rw [w13]; rfl) (by decide) (by decide) rfl (by decide) ?_
        exact law_13 B hR hb hX hk hL hl h1 h2 ⟨by omega, by omega⟩ (x_wid (by omega) (by omega) (nx N f1 m1 (by omega) h3))
      have w13t := lv_neT w13 (show (nI 13).toInt = 13 from rfl)
      by_cases w14 : (xs (6 * k) &&& nI 63) = nI 14
      · obtain ⟨r, h1, h2, h3⟩ := s14 N f m hI
        refine x_tabIn (a := 14) (tgt := 704) B dL_law_33 (by rw [w14]; rfl) (by decide) (by decide) rfl (by decide) ?_
        exact law_14 B hR hb hX hk hL hl h1 h2 ⟨by omega, by omega⟩ (x_wid (by omega) (by omega) (nx N f m (by omega) h3))
      have w14t := lv_neT w14 (show (nI 14).toInt = 14 from rfl)
      by_cases w15 : (xs (6 * k) &&& nI 63) = nI 15
      · obtain ⟨r, f1, m1, h1, h2, h3⟩ := s15 N f m (xs (6 * k + 1)) hI
        refine x_tabIn (a := 15) (tgt := 717) B dL_law_33 (by rw [w15]; rfl) (by decide) (by decide) rfl (by decide) ?_
        exact law_15 B hR hb hX hk hL hl h1 h2 ⟨by omega, by omega⟩ (x_wid (by omega) (by omega) (nx N f1 m1 (by omega) h3))
      have w15t := lv_neT w15 (show (nI 15).toInt = 15 from rfl)
      by_cases w16 : (xs (6 * k) &&& nI 63) = nI 16
      · obtain ⟨r, f1, m1, h1, h2, h3⟩ := s16 N f m (xs (6 * k + 1)) (xs (6 * k + 2)) hI
        refine x_tabIn (a := 16) (tgt := 740) B dL_law_33 (by rw [w16]; rfl) (by decide) (by decide) rfl (by decide) ?_
        exact law_16 B hR hb hX hk hL hl h1 h2 ⟨by omega, by omega⟩ (x_wid (by omega) (by omega) (nx N f1 m1 (by omega) h3))
      have w16t := lv_neT w16 (show (nI 16).toInt = 16 from rfl)
      by_cases w17 : (xs (6 * k) &&& nI 63) = nI 17
      · obtain ⟨r, f1, m1, h1, h2, h3⟩ := s17 N f m (xs (6 * k + 1)) hI
        refine x_tabIn (a := 17) (tgt := 773) B dL_law_33 (by rw [w17]; rfl) (by decide) (by decide) rfl (by decide) ?_
        exact law_17 B hR hb hX hk hL hl h1 h2 ⟨by omega, by omega⟩ (x_wid (by omega) (by omega) (nx N f1 m1 (by omega) h3))
      have w17t := lv_neT w17 (show (nI 17).toInt = 17 from rfl)
      by_cases w18 : (xs (6 * k) &&& nI 63) = nI 18
      · obtain ⟨r, f1, m1, h1, h2, h3⟩ := s18 N f m (xs (6 * k + 1)) hI
        refine x_tabIn (a := 18) (tgt := 796) B dL_law_33 (by rw [w18]; rfl) (by decide) (by decide) rfl (by decide) ?_
        exact law_18 B hR hb hX hk hL hl h1 h2 ⟨by omega, by omega⟩ (x_wid (by omega) (by omega) (nx N f1 m1 (by omega) h3))
      have w18t := lv_neT w18 (show (nI 18).toInt = 18 from rfl)
      by_cases w19 : (xs (6 * k) &&& nI 63) = nI 19
      · obtain ⟨r, f1, m1, h1, h2, h3⟩ := s19 N f m hI
        refine x_tabIn (a := 19) (tgt := 819) B dL_law_33 (by rw [w19]; rfl) (by decide) (by decide) rfl (by decide) ?_
        exact law_19 B hR hb hX hk hL hl h1 h2 ⟨by omega, by omega⟩ (x_wid (by omega) (by omega) (nx N f1 m1 (by omega) h3))
      have w19t := lv_neT w19 (show (nI 19).toInt = 19 from rfl)
      by_cases w20 : (xs (6 * k) &&& nI 63) = nI 20
      · obtain ⟨r, f1, m1, h1, h2, h3⟩ := s20 N f m hI
        refine x_tabIn (a := 20) (tgt := 832) B dL_law_33 (by rw [w20]; rfl) (by decide) (by decide) rfl (by decide) ?_
        exact law_20 B hR hb hX hk hL hl h1 h2 ⟨by omega, by omega⟩ (x_wid (by omega) (by omega) (nx N f1 m1 (by omega) h3))
      have w20t := lv_neT w20 (show (nI 20).toInt = 20 from rfl)
      by_cases w21 : (xs (6 * k) &&& nI 63) = nI 21
      · obtain ⟨r, f1, m1, h1, h2, h3⟩ := s21 N f m (xs (6 * k + 1)) hI
        refine x_tabIn (a := 21) (tgt := 845) B dL_law_33 (by rw [w21]; rfl) (by decide) (by decide) rfl (by decide) ?_
        exact law_21 B hR hb hX hk hL hl h1 h2 ⟨by omega, by omega⟩ (x_wid (by omega) (by omega) (nx N f1 m1 (by omega) h3))
      have w21t := lv_neT w21 (show (nI 21).toInt = 21 from rfl)
      by_cases w22 : (xs (6 * k) &&& nI 63) = nI 22
      · obtain ⟨r, f1, m1, h1, h2, h3⟩ := s22 N f m (xs (6 * k + 1)) (xs (6 * k + 2)) (xs (6 * k + 3)) hI
        refine x_tabIn (a := 22) (tgt := 868) B dL_law_33 (by rw [w22]; rfl) (by decide) (by decide) rfl (by decide) ?_
        exact law_22 B hR hb hX hk hL hl h1 h2 ⟨by omega, by omega⟩ (x_wid (by omega) (by omega) (nx N f1 m1 (by omega) h3))
      have w22t := lv_neT w22 (show (nI 22).toInt = 22 from rfl)
      by_cases w23 : (xs (6 * k) &&& nI 63) = nI 23
      · obtain ⟨r, f1, m1, h1, h2, h3⟩ := s23 N f m (xs (6 * k + 1)) hI
        refine x_tabIn (a := 23) (tgt := 911) B dL_law_33 (by rw [w23]; rfl) (by decide) (by decide) rfl (by decide) ?_
        exact law_23 B hR hb hX hk hL hl h1 h2 ⟨by omega, by omega⟩ (x_wid (by omega) (by omega) (nx N f1 m1 (by omega) h3))
      have w23t := lv_neT w23 (show (nI 23).toInt = 23 from rfl)
      by_cases w24 : (xs (6 * k) &&& nI 63) = nI 24
      · obtain ⟨r, N1, f1, m1, h1, h2, h4, h3⟩ := s24 N f m (by omega) hI
        refine x_tabIn (a := 24) (tgt := 934) B dL_law_33 (by rw [w24]; rfl) (by decide) (by decide) rfl (by decide) ?_
        exact law_24 B hR hb hX hk hL hl h1 h2 ⟨by omega, by omega⟩ (nx N1 f1 m1 (by omega) h3)
      have w24t := lv_neT w24 (show (nI 24).toInt = 24 from rfl)
      by_cases w25 : (xs (6 * k) &&& nI 63) = nI 25
      · obtain ⟨r, h1, h2, h3⟩ := s25 N f m (xs (6 * k + 1)) (xs (6 * k + 2)) hI
        refine x_tabIn (a := 25) (tgt := 947) B dL_law_33 (by rw [w25]; rfl) (by decide) (by decide) rfl (by decide) ?_
        exact law_25 B hR hb hX hk hL hl h1 h2 ⟨by omega, by omega⟩ (x_wid (by omega) (by omega) (nx N f m (by omega) h3))
      have w25t := lv_neT w25 (show (nI 25).toInt = 25 from rfl)
      by_cases w26 : (xs (6 * k) &&& nI 63) = nI 26
      · obtain ⟨r, h1, h2, h3⟩ := s26 N f m (xs (6 * k + 1)) hI
        refine x_tabIn (a := 26) (tgt := 980) B dL_law_33 (by rw [w26]; rfl) (by decide) (by decide) rfl (by decide) ?_
        exact law_26 B hR hb hX hk hL hl h1 h2 ⟨by omega, by omega⟩ (x_wid (by omega) (by omega) (nx N f m (by omega) h3))
      have w26t := lv_neT w26 (show (nI 26).toInt = 26 from rfl)
      by_cases w27 : (xs (6 * k) &&& nI 63) = nI 27
      · obtain ⟨r, f1, m1, h1, h2, h3⟩ := s27 N f m (xs (6 * k + 1)) hI
        refine x_tabIn (a := 27) (tgt := 1003) B dL_law_33 (by rw [w27]; rfl) (by decide) (by decide) rfl (by decide) ?_
        exact law_27 B hR hb hX hk hL hl h1 h2 ⟨by omega, by omega⟩ (x_wid (by omega) (by omega) (nx N f1 m1 (by omega) h3))
      have w27t := lv_neT w27 (show (nI 27).toInt = 27 from rfl)
      by_cases w28 : (xs (6 * k) &&& nI 63) = nI 28
      · obtain ⟨r, f1, m1, h1, h2, h3⟩ := s28 N f m (xs (6 * k + 1)) hI
        refine x_tabIn (a := 28) (tgt := 1026) B dL_law_33 (by rw [w28]; rfl) (by decide) (by decide) rfl (by decide) ?_
        exact law_28 B hR hb hX hk hL hl h1 h2 ⟨by omega, by omega⟩ (x_wid (by omega) (by omega) (nx N f1 m1 (by omega) h3))
      have w28t := lv_neT w28 (show (nI 28).toInt = 28 from rfl)
      by_cases w29 : (xs (6 * k) &&& nI 63) = nI 29
      · obtain ⟨r, h1, h2, h3⟩ := s29 N f m hI
        refine x_tabIn (a := 29) (tgt := 1049) B dL_law_33 (by rw [w29]; rfl) (by decide) (by decide) rfl (by decide) ?_
        exact law_29 B hR hb hX hk hL hl h1 h2 ⟨by omega, by omega⟩ (x_wid (by omega) (by omega) (nx N f m (by omega) h3))
      have w29t := lv_neT w29 (show (nI 29).toInt = 29 from rfl)
      by_cases w30 : (xs (6 * k) &&& nI 63) = nI 30
      · obtain ⟨r, h1, h2, h3⟩ := s30 N f m (xs (6 * k + 1)) hI
        refine x_tabIn (a := 30) (tgt := 1062) B dL_law_33 (by rw [w30]; rfl) (by decide) (by decide) rfl (by decide) ?_
        exact law_30 B hR hb hX hk hL hl h1 h2 ⟨by omega, by omega⟩ (x_wid (by omega) (by omega) (nx N f m (by omega) h3))
      have w30t := lv_neT w30 (show (nI 30).toInt = 30 from rfl)
      by_cases w31 : (xs (6 * k) &&& nI 63) = nI 31
      · obtain ⟨r, f1, m1, h1, h2, h3⟩ := s31 N f m (xs (6 * k + 1)) (xs (6 * k + 2)) hI
        refine x_tabIn (a := 31) (tgt := 1085) B dL_law_33 (by rw [w31]; rfl) (by decide) (by decide) rfl (by decide) ?_
        exact law_31 B hR hb hX hk hL hl h1 h2 ⟨by omega, by omega⟩ (x_wid (by omega) (by omega) (nx N f1 m1 (by omega) h3))
      have w31t := lv_neT w31 (show (nI 31).toInt = 31 from rfl)
      by_cases w32 : (xs (6 * k) &&& nI 63) = nI 32
      · obtain ⟨r, h1, h2, h3⟩ := s32 N f m (xs (6 * k + 1)) hI
        refine x_tabIn (a := 32) (tgt := 1118) B dL_law_33 (by rw [w32]; rfl) (by decide) (by decide) rfl (by decide) ?_
        exact law_32 B hR hb hX hk hL hl h1 h2 ⟨by omega, by omega⟩ (x_wid (by omega) (by omega) (nx N f m (by omega) h3))
      have w32t := lv_neT w32 (show (nI 32).toInt = 32 from rfl)
      by_cases w33 : (xs (6 * k) &&& nI 63) = nI 33
      · obtain ⟨r, h1, h2, h3⟩ := s33 N f m hI
        refine x_tabIn (a := 33) (tgt := 1141) B dL_law_33 (by rw [w33]; rfl) (by decide) (by decide) rfl (by decide) ?_
        exact law_33 B hR hb hX hk hL hl h1 h2 ⟨by omega, by omega⟩ (x_wid (by omega) (by omega) (nx N f m (by omega) h3))
      have w33t := lv_neT w33 (show (nI 33).toInt = 33 from rfl)
      by_cases w34 : (xs (6 * k) &&& nI 63) = nI 34
      · obtain ⟨r, f1, m1, h1, h2, h3⟩ := s34 N f m (xs (6 * k + 1)) (xs (6 * k + 2)) hI
        refine x_tabIn (a := 34) (tgt := 1154) B dL_law_33 (by rw [w34]; rfl) (by decide) (by decide) rfl (by decide) ?_
        exact law_34 B hR hb hX hk hL hl h1 h2 ⟨by omega, by omega⟩ (x_wid (by omega) (by omega) (nx N f1 m1 (by omega) h3))
      have w34t := lv_neT w34 (show (nI 34).toInt = 34 from rfl)
      by_cases w35 : (xs (6 * k) &&& nI 63) = nI 35
      · obtain ⟨r, f1, m1, h1, h2, h3⟩ := s35 N f m hI
        refine x_tabIn (a := 35) (tgt := 1187) B dL_law_33 (by rw [w35]; rfl) (by decide) (by decide) rfl (by decide) ?_
        exact law_35 B hR hb hX hk hL hl h1 h2 ⟨by omega, by omega⟩ (x_wid (by omega) (by omega) (nx N f1 m1 (by omega) h3))
      have w35t := lv_neT w35 (show (nI 35).toInt = 35 from rfl)
      by_cases w36 : (xs (6 * k) &&& nI 63) = nI 36
      · obtain ⟨r, f1, h1, h2, h3⟩ := s36 N f m (xs (6 * k + 1)) (xs (6 * k + 2)) hI
        refine x_tabIn (a := 36) (tgt := 1200) B dL_law_33 (by rw [w36]; rfl) (by decide) (by decide) rfl (by decide) ?_
        exact law_36 B hR hb hX hk hL hl h1 h2 ⟨by omega, by omega⟩ (x_wid (by omega) (by omega) (nx N f1 m (by omega) h3))
      have w36t := lv_neT w36 (show (nI 36).toInt = 36 from rfl)
      by_cases w37 : (xs (6 * k) &&& nI 63) = nI 37
      · obtain ⟨r, f1, m1, h1, h2, h3⟩ := s37 N f m (xs (6 * k + 1)) (xs (6 * k + 2)) (xs (6 * k + 3)) hI
        refine x_tabIn (a := 37) (tgt := 1233) B dL_law_33 (by rw [w37]; rfl) (by decide) (by decide) rfl (by decide) ?_
        exact law_37 B hR hb hX hk hL hl h1 h2 ⟨by omega, by omega⟩ (x_wid (by omega) (by omega) (nx N f1 m1 (by omega) h3))
      have w37t := lv_neT w37 (show (nI 37).toInt = 37 from rfl)
      by_cases w38 : (xs (6 * k) &&& nI 63) = nI 38
      · obtain ⟨r, f1, m1, h1, h2, h3⟩ := s38 N f m (xs (6 * k + 1)) (xs (6 * k + 2)) (xs (6 * k + 3)) hI
        refine x_tabIn (a := 38) (tgt := 1276) B dL_law_33 (by rw [w38]; rfl) (by decide) (by decide) rfl (by decide) ?_
        exact law_38 B hR hb hX hk hL hl h1 h2 ⟨by omega, by omega⟩ (x_wid (by omega) (by omega) (nx N f1 m1 (by omega) h3))
      have w38t := lv_neT w38 (show (nI 38).toInt = 38 from rfl)
      by_cases w39 : (xs (6 * k) &&& nI 63) = nI 39
      · obtain ⟨r, f1, m1, h1, h2, h3⟩ := s39 N f m (xs (6 * k + 1)) (xs (6 * k + 2)) (xs (6 * k + 3)) hI
        refine x_tabIn (a := 39) (tgt := 1319) B dL_law_33 (by rw [w39]; rfl) (by decide) (by decide) rfl (by decide) ?_
        exact law_39 B hR hb hX hk hL hl h1 h2 ⟨by omega, by omega⟩ (x_wid (by omega) (by omega) (nx N f1 m1 (by omega) h3))
      have w39t := lv_neT w39 (show (nI 39).toInt = 39 from rfl)
      by_cases w40 : (xs (6 * k) &&& nI 63) = nI 40
      · obtain ⟨r, h1, h2, h3⟩ := s40 N f m (xs (6 * k + 1)) (xs (6 * k + 2)) (xs (6 * k + 3)) hI
        refine x_tabIn (a := 40) (tgt := 1362) B dL_law_33 (by rw [w40]; rfl) (by decide) (by decide) rfl (by decide) ?_
        exact law_40 B hR hb hX hk hL hl h1 h2 ⟨by omega, by omega⟩ (x_wid (by omega) (by omega) (nx N f m (by omega) h3))
      have w40t := lv_neT w40 (show (nI 40).toInt = 40 from rfl)
      by_cases w41 : (xs (6 * k) &&& nI 63) = nI 41
      · obtain ⟨r, f1, m1, h1, h2, h3⟩ := s41 N f m (xs (6 * k + 1)) (xs (6 * k + 2)) (xs (6 * k + 3)) (xs (6 * k + 4)) (xs (6 * k + 5)) hI
        refine x_tabIn (a := 41) (tgt := 1405) B dL_law_33 (by rw [w41]; rfl) (by decide) (by decide) rfl (by decide) ?_
        exact law_41 B hR hb hX hk hL hl h1 h2 ⟨by omega, by omega⟩ (x_wid (by omega) (by omega) (nx N f1 m1 (by omega) h3))
      have w41t := lv_neT w41 (show (nI 41).toInt = 41 from rfl)
      by_cases w42 : (xs (6 * k) &&& nI 63) = nI 42
      · obtain ⟨r, f1, m1, h1, h2, h3⟩ := s42 N f m (xs (6 * k + 1)) (xs (6 * k + 2)) (xs (6 * k + 3)) hI
        refine x_tabIn (a := 42) (tgt := 1468) B dL_law_33 (by rw [w42]; rfl) (by decide) (by decide) rfl (by decide) ?_
        exact law_42 B hR hb hX hk hL hl h1 h2 ⟨by omega, by omega⟩ (x_wid (by omega) (by omega) (nx N f1 m1 (by omega) h3))
      have w42t := lv_neT w42 (show (nI 42).toInt = 42 from rfl)
      by_cases w43 : (xs (6 * k) &&& nI 63) = nI 43
      · obtain ⟨r, h1, h2, h3⟩ := s43 N f m (xs (6 * k + 1)) (xs (6 * k + 2)) hI
        refine x_tabIn (a := 43) (tgt := 1511) B dL_law_33 (by rw [w43]; rfl) (by decide) (by decide) rfl (by decide) ?_
        exact law_43 B hR hb hX hk hL hl h1 h2 ⟨by omega, by omega⟩ (x_wid (by omega) (by omega) (nx N f m (by omega) h3))
      have w43t := lv_neT w43 (show (nI 43).toInt = 43 from rfl)
      by_cases w44 : (xs (6 * k) &&& nI 63) = nI 44
      · obtain ⟨r, h1, h2, h3⟩ := s44 N f m (xs (6 * k + 1)) (xs (6 * k + 2)) hI
        refine x_tabIn (a := 44) (tgt := 1544) B dL_law_33 (by rw [w44]; rfl) (by decide) (by decide) rfl (by decide) ?_
        exact law_44 B hR hb hX hk hL hl h1 h2 ⟨by omega, by omega⟩ (x_wid (by omega) (by omega) (nx N f m (by omega) h3))
      have w44t := lv_neT w44 (show (nI 44).toInt = 44 from rfl)
      by_cases w45 : (xs (6 * k) &&& nI 63) = nI 45
      · obtain ⟨r, h1, h2, h3⟩ := s45 N f m (xs (6 * k + 1)) (xs (6 * k + 2)) hI
        refine x_tabIn (a := 45) (tgt := 1577) B dL_law_33 (by rw [w45]; rfl) (by decide) (by decide) rfl (by decide) ?_
        exact law_45 B hR hb hX hk hL hl h1 h2 ⟨by omega, by omega⟩ (x_wid (by omega) (by omega) (nx N f m (by omega) h3))
      have w45t := lv_neT w45 (show (nI 45).toInt = 45 from rfl)
      by_cases w46 : (xs (6 * k) &&& nI 63) = nI 46
      · obtain ⟨r, f1, m1, h1, h2, h3⟩ := s46 N f m (xs (6 * k + 1)) hI
        refine x_tabIn (a := 46) (tgt := 1610) B dL_law_33 (by rw [w46]; rfl) (by decide) (by decide) rfl (by decide) ?_
        exact law_46 B hR hb hX hk hL hl h1 h2 ⟨by omega, by omega⟩ (x_wid (by omega) (by omega) (nx N f1 m1 (by omega) h3))
      have w46t := lv_neT w46 (show (nI 46).toInt = 46 from rfl)
      by_cases w47 : (xs (6 * k) &&& nI 63) = nI 47
      · obtain ⟨r, f1, m1, h1, h2, h3⟩ := s47 N f m (xs (6 * k + 1)) hI
        refine x_tabIn (a := 47) (tgt := 1633) B dL_law_33 (by rw [w47]; rfl) (by decide) (by decide) rfl (by decide) ?_
        exact law_47 B hR hb hX hk hL hl h1 h2 ⟨by omega, by omega⟩ (x_wid (by omega) (by omega) (nx N f1 m1 (by omega) h3))
      have w47t := lv_neT w47 (show (nI 47).toInt = 47 from rfl)
      by_cases w48 : (xs (6 * k) &&& nI 63) = nI 48
      · obtain ⟨r, f1, m1, h1, h2, h3⟩ := s48 N f m hI
        refine x_tabIn (a := 48) (tgt := 1656) B dL_law_33 (by rw [w48]; rfl) (by decide) (by decide) rfl (by decide) ?_
        exact law_48 B hR hb hX hk hL hl h1 h2 ⟨by omega, by omega⟩ (x_wid (by omega) (by omega) (nx N f1 m1 (by omega) h3))
      have w48t := lv_neT w48 (show (nI 48).toInt = 48 from rfl)
      by_cases w49 : (xs (6 * k) &&& nI 63) = nI 49
      · obtain ⟨r, f1, m1, h1, h2, h3⟩ := s49 N f m hI
        refine x_tabIn (a := 49) (tgt := 1669) B dL_law_33 (by rw [w49]; rfl) (by decide) (by decide) rfl (by decide) ?_
        exact law_49 B hR hb hX hk hL hl h1 h2 ⟨by omega, by omega⟩ (x_wid (by omega) (by omega) (nx N f1 m1 (by omega) h3))
      have w49t := lv_neT w49 (show (nI 49).toInt = 49 from rfl)
      by_cases w50 : (xs (6 * k) &&& nI 63) = nI 50
      · obtain ⟨r, h1, h2, h3⟩ := s50 N f m (xs (6 * k + 1)) hI
        refine x_tabIn (a := 50) (tgt := 1682) B dL_law_33 (by rw [w50]; rfl) (by decide) (by decide) rfl (by decide) ?_
        exact law_50 B hR hb hX hk hL hl h1 h2 ⟨by omega, by omega⟩ (x_wid (by omega) (by omega) (nx N f m (by omega) h3))
      have w50t := lv_neT w50 (show (nI 50).toInt = 50 from rfl)
      refine x_tabOut (tgt := 1705) B dL_law_33 (by omega) (by decide) ?_
      exact x_wid (by omega) (by omega) (nx N f m (by omega) hI)
