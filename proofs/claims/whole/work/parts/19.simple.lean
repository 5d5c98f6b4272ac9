theorem CallP_of {dev ref : Nat → MS → Option Int32} (h : ∀ (nf nl nm nt no K : Nat) (σ τ : MS), RR nf nl nm nt no K σ τ → K ≤ 511 → ∃ r, ∀ fu, dev fu σ = some r ∧ ref fu τ = some r) : CallP dev ref := by
  intro K σ τ hS hK
  obtain ⟨nf, nl, nm, nt, no, h1⟩ := hS
  obtain ⟨r, hr⟩ := h nf nl nm nt no K σ τ h1 hK
  exact ⟨r, 0, fun fu _ => hr fu⟩
theorem c_known (p1 p2 : Int32) : CallP (fun _ σ => sX5_known σ p1 p2) (fun _ τ => sX6_known τ p1 p2) := by
  refine CallP_of fun nf nl nm nt no K σ τ h hK => ?_
  have hbl := h.1.bl
  rcases ix_or p1 (n := nl) (by omega) with ⟨l, hl, rfl⟩ | hp
  · rcases ix_or p2 (n := 31) (by omega) with ⟨x, hx, rfl⟩ | hp2
    · refine ⟨if σ.1 17 (31 * l + x) = -1 then σ.1 18 (31 * l + x) else σ.1 17 (31 * l + x), fun fu => ⟨?_, ?_⟩⟩
      · show sX5_known _ _ _ = _
        rw [sX5_known, d1_yes h hl, Option.bind_some, if_neg n10, dn_yes hx, Option.bind_some, if_neg n10, mog_e (by omega) hx, Option.bind_some]
      · show sX6_known _ _ _ = _
        rw [sX6_known, rl_yes h hl, Option.bind_some, if_neg n10, rn_yes hx, Option.bind_some, if_neg n10, slot_e, if_pos (gi_nI (by omega) (by omega)), nI_clamp (by omega), h.1.s11.at (by omega), h.1.s12.at (by omega)]
        split <;> rfl
    · refine ⟨-2, fun fu => ⟨?_, ?_⟩⟩
      · show sX5_known _ _ _ = _
        rw [sX5_known, d1_yes h hl, Option.bind_some, if_neg n10, dn_no hp2, Option.bind_some, if_pos rfl]
      · show sX6_known _ _ _ = _
        rw [sX6_known, rl_yes h hl, Option.bind_some, if_neg n10, rn_no hp2, Option.bind_some, if_pos rfl]
  · refine ⟨-2, fun fu => ⟨?_, ?_⟩⟩
    · show sX5_known _ _ _ = _
      rw [sX5_known, d1_no h hp, Option.bind_some, if_pos rfl]
    · show sX6_known _ _ _ = _
      rw [sX6_known, rl_no h hp, Option.bind_some, if_pos rfl]
theorem c_about (p1 p2 : Int32) : CallP (fun _ σ => sX5_about σ p1 p2) (fun _ τ => sX6_about τ p1 p2) := by
  refine CallP_of fun nf nl nm nt no K σ τ h hK => ?_
  have hbm := h.1.bm
  have hbf := h.1.bf
  rcases ix_or p1 (n := nm) (by omega) with ⟨m, hm, rfl⟩ | hp
  · obtain ⟨f, hf, ef⟩ := (h.1.inv.2.2.2 m hm).2.1
    have e : sX6_about τ (nI m) p2 = sX5_about σ (nI m) p2 := by
      rw [sX6_about, sX5_about, d2_yes h (by omega) hm, rm_yes h (by omega) hm, Option.bind_some, Option.bind_some, if_neg n10, if_neg n10]
      simp only [if_pos (gi_nI (show m < 512 by omega) (show 512 < 2 ^ 31 by omega)), if_pos (gi_nI (show m < 1000 by omega) (show 1000 < 2 ^ 31 by omega)), nI_clamp (show m < 2 ^ 31 by omega), h.1.e15, h.1.e16, h.1.e17, h.1.e18, h.1.e2, ← h.2.1.1]
    have d : ∃ r, sX5_about σ (nI m) p2 = some r := by
      rw [sX5_about, d2_yes h (by omega) hm, Option.bind_some, if_neg n10]
      simp only [if_pos (gi_nI (show m < 512 by omega) (show 512 < 2 ^ 31 by omega)), nI_clamp (show m < 2 ^ 31 by omega), ef, if_pos (gi_nI (show f < 40 by omega) (show 40 < 2 ^ 31 by omega))]
      repeat' split
      all_goals exact ⟨_, rfl⟩
    obtain ⟨r, hr⟩ := d
    exact ⟨r, fun fu => ⟨hr, e.trans hr⟩⟩
  · refine ⟨0, fun fu => ⟨?_, ?_⟩⟩
    · show sX5_about _ _ _ = _
      rw [sX5_about, d2_no h hp, Option.bind_some, if_pos rfl]
    · show sX6_about _ _ _ = _
      rw [sX6_about, rm_no h (by omega) hp, Option.bind_some, if_pos rfl]
theorem c_aboutThing (p1 p2 : Int32) : CallP (fun _ σ => sX5_aboutThing σ p1 p2) (fun _ τ => sX6_aboutThing τ p1 p2) := by
  refine CallP_of fun nf nl nm nt no K σ τ h hK => ?_
  have hbt := h.2.2.2.2.1.1
  rcases ix_or p1 (n := nt) (by omega) with ⟨t, ht, rfl⟩ | hp
  · have hd : sX5_aboutThing σ (nI t) p2 = if p2 = 0 then some (σ.1 25 t) else if p2 = 1 then (if σ.1 26 t = 0 then some 0 else some 1) else some (-2) := by
      rw [sX5_aboutThing, d4_yes h ht, Option.bind_some, if_neg n10]
      simp only [if_pos (gi_nI (show t < 60 by omega) (show 60 < 2 ^ 31 by omega)), nI_clamp (show t < 2 ^ 31 by omega)]
    have hr : sX6_aboutThing τ (nI t) p2 = if p2 = 0 then some (σ.1 25 t) else if p2 = 1 then (if σ.1 26 t = 0 then some 0 else some 1) else some (-2) := by
      rw [sX6_aboutThing, rt_yes h ht, Option.bind_some, if_neg n10, show (1 : Int32) = nI 2 - 1 by decide]
      simp only [if_pos (gi_nI (show t < 60 by omega) (show 60 < 2 ^ 31 by omega)), nI_clamp (show t < 2 ^ 31 by omega), ← h.2.1.2.1, ← h.2.1.2.2.1]
      rcases ix_or p2 (n := 2) (by omega) with ⟨j, hj, rfl⟩ | hq
      · rw [rin_yes (by omega) hj, Option.bind_some]
        rcases (show j = 0 ∨ j = 1 by omega) with rfl | rfl
        · rfl
        · have e1 : ¬ nI 1 = (0 : Int32) := by decide
          have e2 : nI 1 = nI 2 - 1 := by decide
          rw [if_neg n10, if_neg e1, if_neg e1, if_pos e2]
      · rw [rin_no (by omega) hq, Option.bind_some, if_pos rfl]
        have n0 : ¬ p2 = 0 := by
          intro e
          rw [e] at hq
          revert hq
          decide
        have n1 : ¬ p2 = nI 2 - 1 := by
          intro e
          rw [e] at hq
          revert hq
          decide
        rw [if_neg n0, if_neg n1]
    have d : ∃ r, sX5_aboutThing σ (nI t) p2 = some r := by
      rw [hd]
      repeat' split
      all_goals exact ⟨_, rfl⟩
    obtain ⟨r, e⟩ := d
    exact ⟨r, fun fu => ⟨e, (hr.trans hd.symm).trans e⟩⟩
  · refine ⟨-2, fun fu => ⟨?_, ?_⟩⟩
    · show sX5_aboutThing _ _ _ = _
      rw [sX5_aboutThing, d4_no h hp, Option.bind_some, if_pos rfl]
    · show sX6_aboutThing _ _ _ = _
      rw [sX6_aboutThing, rt_no h hp, Option.bind_some, if_pos rfl]
theorem c_order (p1 : Int32) : CallP (fun _ σ => sX5_order σ p1) (fun _ τ => sX6_order τ p1) := by
  refine CallP_of fun nf nl nm nt no K σ τ h hK => ?_
  have hbm := h.1.bm
  have hno : no ≤ nm := by
    have h1 := h.2.2.2.2.1.2
    have h2 := cw_le (f := σ.1 24) wB_le nm
    omega
  rcases ix_or p1 (n := no) (by omega) with ⟨j, hj, rfl⟩ | hp
  · refine ⟨σ.1 27 j, fun fu => ⟨?_, ?_⟩⟩
    · show sX5_order _ _ = _
      rw [sX5_order, if_neg (nI_pos (by omega)), h.2.2.2.1.2.2.1, if_neg (nI_ge hj (by omega)), if_pos (gi_nI (by omega) (by omega)), nI_clamp (by omega)]
    · show sX6_order _ _ = _
      rw [sX6_order, h.2.2.2.1.2.2.2.1, rin_yes (by omega) hj, Option.bind_some, if_neg n10, if_pos (gi_nI (by omega) (by omega)), nI_clamp (by omega), ← h.2.1.2.2.2]
  · refine ⟨0, fun fu => ⟨?_, ?_⟩⟩
    · show sX5_order _ _ = _
      rw [sX5_order, h.2.2.2.1.2.2.1]
      rcases hp with hp | ⟨hp, hp'⟩
      · rw [if_pos hp]
      · rw [if_neg hp, if_pos hp']
    · show sX6_order _ _ = _
      rw [sX6_order, h.2.2.2.1.2.2.2.1, rin_no (by omega) hp, Option.bind_some, if_pos rfl]
theorem c_count (p1 : Int32) : CallP (fun _ σ => sX5_count σ p1) (fun _ τ => sX6_count τ p1) := by
  refine CallP_of fun nf nl nm nt no K σ τ h hK => ?_
  have e : sX6_count τ p1 = sX5_count σ p1 := by
    rw [sX6_count, sX5_count, h.1.r0, h.1.z0, h.1.r6, h.1.z1, h.1.r14, h.1.z2, h.2.2.2.1.1, h.2.2.2.1.2.1, h.2.2.2.1.2.2.1, h.2.2.2.1.2.2.2.1]
  have d : ∃ r, sX5_count σ p1 = some r := by
    rw [sX5_count]
    repeat' split
    all_goals exact ⟨_, rfl⟩
  obtain ⟨r, hr⟩ := d
  exact ⟨r, fun fu => ⟨hr, e.trans hr⟩⟩
theorem c_put (p1 p2 p3 : Int32) : CallOK (fun _ σ => sX5_put σ p1 p2 p3) (fun _ τ => sX6_put τ p1 p2 p3) := by
  intro K σ τ hS hK
  obtain ⟨nf, nl, nm, nt, no, h⟩ := id hS
  have hbl := h.1.bl
  have hbf := h.1.bf
  rcases ix_or p1 (n := nl) (by omega) with ⟨l, hl, rfl⟩ | hp
  · rcases ix_or p2 (n := 31) (by omega) with ⟨x, hx, rfl⟩ | hp2
    · rcases ix_or p3 (n := nf) (by omega) with ⟨f, hf, rfl⟩ | hp3
      · by_cases c : σ.1 15 l = 0
        · refine ⟨1, sA σ 16 (31 * l + x) (nI f), sA τ 10 (31 * l + x) (nI f), 0, fun fu hfu => ⟨?_, ?_⟩, ⟨nf, nl, nm, nt, no, ?_⟩⟩
          · show sX5_put _ _ _ _ = _
            rw [sX5_put, d1_yes h hl, Option.bind_some, if_neg n10, dn_yes hx, Option.bind_some, if_neg n10, d0_yes h hf, Option.bind_some, if_neg n10, if_pos (gi_nI (by omega) (by omega)), nI_clamp (by omega), if_pos c, sX5_slot, Option.bind_some, slot_e2, if_pos (gi_nI (by omega) (by omega)), nI_clamp (by omega)]
          · show sX6_put _ _ _ _ = _
            rw [sX6_put, rl_yes h hl, Option.bind_some, if_neg n10, rn_yes hx, Option.bind_some, if_neg n10, rf_yes h hf, Option.bind_some, if_neg n10, if_pos (gi_nI (by omega) (by omega)), nI_clamp (by omega), h.1.e9, if_pos c, slot_e, if_pos (gi_nI (by omega) (by omega)), nI_clamp (by omega)]
          · obtain ⟨⟨g1, g2, g3, ⟨hs16, hs17, hs18⟩, g5, g6, g7, ⟨hi1, hi2, hi3, hi4⟩⟩, g8⟩ := h
            have hcn : nm + cw wM (opn (upd (σ.1 16) (31 * l + x) (nI f)) (σ.1 17)) 310 ≤ K + 1 := by
              have q1 := g7.2.2
              have q2 := cw_upd (w := wM) (f := opn (σ.1 16) (σ.1 17)) (x := if σ.1 17 (31 * l + x) = -1 then nI f else -1) (show 31 * l + x < 310 by omega)
              have q3 := wM_le (if σ.1 17 (31 * l + x) = -1 then nI f else -1)
              rw [← opn_put] at q2
              omega
            refine ⟨⟨g1, g2, g3, ⟨hs16.upd (by omega) _, hs17, hs18⟩, g5, g6, ⟨g7.1, g7.2.1, hcn⟩, ⟨hi1, hi2, fun j hj => ?_, hi4⟩⟩, g8⟩
            obtain ⟨a1, a2, a3⟩ := hi3 j hj
            refine ⟨?_, a2, a3⟩
            show ov (upd (σ.1 16) (31 * l + x) (nI f) j) nf
            rw [upd_at]
            split
            · exact Or.inr ⟨f, hf, rfl⟩
            · exact a1
        · refine ⟨-3, σ, τ, 0, fun fu hfu => ⟨?_, ?_⟩, hS.more (by omega)⟩
          · show sX5_put _ _ _ _ = _
            rw [sX5_put, d1_yes h hl, Option.bind_some, if_neg n10, dn_yes hx, Option.bind_some, if_neg n10, d0_yes h hf, Option.bind_some, if_neg n10, if_pos (gi_nI (by omega) (by omega)), nI_clamp (by omega), if_neg c]
          · show sX6_put _ _ _ _ = _
            rw [sX6_put, rl_yes h hl, Option.bind_some, if_neg n10, rn_yes hx, Option.bind_some, if_neg n10, rf_yes h hf, Option.bind_some, if_neg n10, if_pos (gi_nI (by omega) (by omega)), nI_clamp (by omega), h.1.e9, if_neg c]
      · refine ⟨-2, σ, τ, 0, fun fu hfu => ⟨?_, ?_⟩, hS.more (by omega)⟩
        · show sX5_put _ _ _ _ = _
          rw [sX5_put, d1_yes h hl, Option.bind_some, if_neg n10, dn_yes hx, Option.bind_some, if_neg n10, d0_no h hp3, Option.bind_some, if_pos rfl]
        · show sX6_put _ _ _ _ = _
          rw [sX6_put, rl_yes h hl, Option.bind_some, if_neg n10, rn_yes hx, Option.bind_some, if_neg n10, rf_no h hp3, Option.bind_some, if_pos rfl]
    · refine ⟨-2, σ, τ, 0, fun fu hfu => ⟨?_, ?_⟩, hS.more (by omega)⟩
      · show sX5_put _ _ _ _ = _
        rw [sX5_put, d1_yes h hl, Option.bind_some, if_neg n10, dn_no hp2, Option.bind_some, if_pos rfl]
      · show sX6_put _ _ _ _ = _
        rw [sX6_put, rl_yes h hl, Option.bind_some, if_neg n10, rn_no hp2, Option.bind_some, if_pos rfl]
  · refine ⟨-2, σ, τ, 0, fun fu hfu => ⟨?_, ?_⟩, hS.more (by omega)⟩
    · show sX5_put _ _ _ _ = _
      rw [sX5_put, d1_no h hp, Option.bind_some, if_pos rfl]
    · show sX6_put _ _ _ _ = _
      rw [sX6_put, rl_no h hp, Option.bind_some, if_pos rfl]
theorem c_drop (p1 : Int32) : CallOK (fun _ σ => sX5_drop σ p1) (fun _ τ => sX6_drop τ p1) := by
  intro K σ τ hS hK
  obtain ⟨nf, nl, nm, nt, no, h⟩ := id hS
  have hbt := h.2.2.2.2.1.1
  rcases ix_or p1 (n := nt) (by omega) with ⟨t, ht, rfl⟩ | hp
  · by_cases c : σ.1 26 t = 0
    · refine ⟨1, sA σ 26 t 1, sA τ 22 t 1, 0, fun fu hfu => ⟨?_, ?_⟩, SS.more (K := K) ⟨nf, nl, nm, nt, no, ?_⟩ (by omega)⟩
      · show sX5_drop _ _ = _
        rw [sX5_drop, d4_yes h ht, Option.bind_some, if_neg n10, if_pos (gi_nI (by omega) (by omega)), nI_clamp (by omega), if_pos c]
      · show sX6_drop _ _ = _
        rw [sX6_drop, rt_yes h ht, Option.bind_some, if_neg n10, if_pos (gi_nI (by omega) (by omega)), nI_clamp (by omega), ← h.2.1.2.2.1, if_pos c]
      · obtain ⟨g1, ⟨h24, h25, h26, h27⟩, g2, g3, g4, g5, g6, g7⟩ := h
        refine ⟨g1, ⟨h24, h25, congrArg (fun z => upd z t 1) h26, h27⟩, g2, g3, g4, g5, g6, fun q hq => ?_⟩
        show upd (σ.1 26) t 1 q = 0
        rw [pk_un (by omega)]
        exact g7 q hq
    · refine ⟨-3, σ, τ, 0, fun fu hfu => ⟨?_, ?_⟩, hS.more (by omega)⟩
      · show sX5_drop _ _ = _
        rw [sX5_drop, d4_yes h ht, Option.bind_some, if_neg n10, if_pos (gi_nI (by omega) (by omega)), nI_clamp (by omega), if_neg c]
      · show sX6_drop _ _ = _
        rw [sX6_drop, rt_yes h ht, Option.bind_some, if_neg n10, if_pos (gi_nI (by omega) (by omega)), nI_clamp (by omega), ← h.2.1.2.2.1, if_neg c]
  · refine ⟨-2, σ, τ, 0, fun fu hfu => ⟨?_, ?_⟩, hS.more (by omega)⟩
    · show sX5_drop _ _ = _
      rw [sX5_drop, d4_no h hp, Option.bind_some, if_pos rfl]
    · show sX6_drop _ _ = _
      rw [sX6_drop, rt_no h hp, Option.bind_some, if_pos rfl]
