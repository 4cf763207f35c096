theorem rg_0_103 : rg 0 103 := rg.lit (by decide)
theorem rg_1_2 : rg 1 2 := rg.lit (by decide)
theorem rg_3_99 : rg 3 99 := rg.lit (by decide)
theorem rg_4_22 : rg 4 22 := rg.lit (by decide)
theorem rg_7_6 : rg 7 6 := rg.lit (by decide)
theorem rg_7_18 : rg 7 18 := rg.lit (by decide)
theorem rg_8_10 : rg 8 10 := rg.lit (by decide)
theorem rg_8_58 : rg 8 58 := rg.lit (by decide)
theorem rg_9_100 : rg 9 100 := rg.lit (by decide)
theorem rg_10_1 : rg 10 1 := rg.lit (by decide)
theorem rg_10_25 : rg 10 25 := rg.lit (by decide)
theorem rg_10_49 : rg 10 49 := rg.lit (by decide)
set_option maxHeartbeats 4000000 in
set_option maxRecDepth 100000 in
theorem rg_11_0 : rg 11 0 := rg.lit (by decide)
theorem rs_3_1_9 {o : Nat} (h : rg 3 o) : rg 9 (o + 1) := h.sub 1 (by decide)
theorem rs_6_1_5 {o : Nat} (h : rg 6 o) : rg 5 (o + 1) := h.sub 1 (by decide)
theorem rs_10_1_1 {o : Nat} (h : rg 10 o) : rg 1 (o + 1) := h.sub 1 (by decide)
theorem rs_10_5_7 {o : Nat} (h : rg 10 o) : rg 7 (o + 5) := h.sub 5 (by decide)
theorem rs_10_9_8 {o : Nat} (h : rg 10 o) : rg 8 (o + 9) := h.sub 9 (by decide)
theorem rs_10_17_7 {o : Nat} (h : rg 10 o) : rg 7 (o + 17) := h.sub 17 (by decide)
theorem rs_10_21_4 {o : Nat} (h : rg 10 o) : rg 4 (o + 21) := h.sub 21 (by decide)
theorem nq_490 : (.methodLinkNest "FluxWatch$World" (113) ⟨"FluxWatch", "sumOf", "([II)I"⟩ "FluxWatch" : Cond) ∈ nwT := List.mem_filter.mpr ⟨by decide +kernel, rfl⟩
theorem nq_627 : (.methodLinkNest "FluxWatch$World" (171) ⟨"FluxWatch", "heldRate", "(I)I"⟩ "FluxWatch" : Cond) ∈ nwT := List.mem_filter.mpr ⟨by decide +kernel, rfl⟩
theorem nq_667 : (.methodLinkNest "FluxWatch$World" (186) ⟨"FluxWatch", "believed", "(IIIZ)I"⟩ "FluxWatch" : Cond) ∈ nwT := List.mem_filter.mpr ⟨by decide +kernel, rfl⟩
theorem nq_970 : (.methodLinkNest "FluxWatch$Buyer" (47) ⟨"FluxWatch", "sumOf", "([II)I"⟩ "FluxWatch" : Cond) ∈ nwT := List.mem_filter.mpr ⟨by decide +kernel, rfl⟩
theorem nq_999 : (.methodLinkNest "FluxWatch$Buyer" (104) ⟨"FluxWatch", "believed", "(IIIZ)I"⟩ "FluxWatch" : Cond) ∈ nwT := List.mem_filter.mpr ⟨by decide +kernel, rfl⟩
