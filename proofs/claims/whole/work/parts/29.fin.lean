theorem beginFrom_ok {nf nl nm nt no K m : Nat} {σ τ : MS} (h : RR nf nl nm nt no K σ τ) (hK : K ≤ 511) (hm : m < nm) : ∃ (a g : Int32) (nm' no' F : Nat) (σ' τ' : MS), nm ≤ nm' ∧ (∀ fu, F ≤ fu → sX5_beginFrom fu σ (nI m) = some (a, σ') ∧ sX6_does fu τ 2 (nI m) (-1) 0 = some (if 0 ≤ g then g else -10 + g, τ')) ∧ ((a = 1 ∧ ¬ g < 0) ∨ (¬ a = 1 ∧ g < 0 ∧ a = -10 + g ∧ a < 0)) ∧ RR nf nl nm' nt no' K σ' τ' := by
  have hQ : LQ nf nl nm nt no K 0 (fun _ => 0) σ (sZ τ 25 0) := by
    obtain ⟨h1, ⟨h24, h25, h26, h27⟩, h19, ⟨z3, r20, z4, r23, z5⟩, ⟨ht, hno⟩, hk, hs, hdr⟩ := h
    refine ⟨⟨h1, h19, ⟨h25, h26, h27⟩, ⟨z3, r20, z4, r23, z5, rfl⟩, ⟨ht, hno, Nat.zero_le _⟩, ⟨hk, hdr⟩, fun i hi => absurd hi (Nat.not_lt_zero i), fun i j hi => absurd hi (Nat.not_lt_zero i), fun q _ => congrFun h24 q⟩, fun i hi => absurd hi (Nat.not_lt_zero i), fun q hq => Or.inl ⟨hs q hq, (congrFun h24 q).symm⟩⟩
  obtain ⟨a, σ1, s1, s2⟩ := cm_ok (p := m) hK hQ hm
  rcases s2 with ⟨rfl, τ1, t1, t2, t3⟩ | ⟨na, g, nm', no', σf, τf, t0, t1, t2, t3, t4, t5, t6, t7⟩
  · obtain ⟨a, g, nm', no', σ', τ', u0, u1, u2, u3, u4, u5, u6⟩ := beg_loop (x1 := nI m) hK 1536 nm no 0 σ1 τ1 t2 (Nat.zero_le _) (by omega)
    obtain ⟨F, hF⟩ := does_ok (t1.tr u2) u3 u4
    refine ⟨a, g, nm', no', F + 1537, σ', τ', u0, fun fu hfu => ⟨?_, hF fu (by omega)⟩, u5, u6⟩
    rw [sX5_beginFrom, s1, Option.bind_some]
    exact u1 fu fu (by omega) (by omega)
  · obtain ⟨F, hF⟩ := does_ok t2 t3 t4
    refine ⟨a, g, nm', no', F + 1000, σf, τf, t0, fun fu hfu => ⟨?_, hF fu (by omega)⟩, Or.inr ⟨na, t5, t6⟩, t7⟩
    rw [sX5_beginFrom, s1, Option.bind_some]
    obtain ⟨q, rfl⟩ : ∃ q, fu = q + 1 := ⟨fu - 1, by omega⟩
    rw [sX5_beginFrom_L8, if_neg (by decide), if_neg na]
    exact t1 (q + 1) (q + 1) (by omega) (nI m) 0
theorem c_begin (p1 : Int32) : CallOK (fun fu σ => sX5_begin fu σ p1) (fun fu τ => sX6_begin fu τ p1) := by
  intro K σ τ hS hK
  obtain ⟨nf, nl, nm, nt, no, h⟩ := id hS
  have hbm := h.1.bm
  have hbl := h.1.bl
  rcases ix_or p1 (n := nm) (by omega) with ⟨m, hm, rfl⟩ | hp
  · obtain ⟨l, hl, el⟩ := (h.1.inv.2.2.2 m hm).1
    by_cases c : σ.1 15 l = 0
    · obtain ⟨a, g, nm', no', F, σ', τ', u0, u1, u2, u3⟩ := beginFrom_ok h hK hm
      refine ⟨a, σ', τ', F, fun fu hfu => ⟨?_, ?_⟩, SS.more (K := K) ⟨nf, nl, nm', nt, no', u3⟩ (by omega)⟩
      · show sX5_begin _ _ _ = _
        rw [sX5_begin, d2_yes h (by omega) hm, Option.bind_some, if_neg n10, if_pos (gi_nI (by omega) (by omega)), nI_clamp (show m < 2 ^ 31 by omega), el, if_pos (gi_nI (by omega) (by omega)), nI_clamp (show l < 2 ^ 31 by omega), if_pos c, (u1 fu hfu).1, Option.bind_some]
      · show sX6_begin _ _ _ = _
        rw [sX6_begin, rm_yes h (by omega) hm, Option.bind_some, if_neg n10, if_pos (gi_nI (by omega) (by omega)), nI_clamp (show m < 2 ^ 31 by omega), h.1.e15, el, if_pos (gi_nI (by omega) (by omega)), nI_clamp (show l < 2 ^ 31 by omega), h.1.e9, if_pos c, (u1 fu hfu).2, Option.bind_some]
        rcases u2 with ⟨e1, e2⟩ | ⟨e1, e2, e3, e4⟩
        · rw [if_pos (Int32.not_lt.mp e2), if_pos (Int32.not_lt.mp e2), e1]
        · rw [if_neg (Int32.not_le.mpr e2), ← e3, if_neg (Int32.not_le.mpr e4)]
    · refine ⟨-3, σ, τ, 0, fun fu hfu => ⟨?_, ?_⟩, hS.more (by omega)⟩
      · show sX5_begin _ _ _ = _
        rw [sX5_begin, d2_yes h (by omega) hm, Option.bind_some, if_neg n10, if_pos (gi_nI (by omega) (by omega)), nI_clamp (show m < 2 ^ 31 by omega), el, if_pos (gi_nI (by omega) (by omega)), nI_clamp (show l < 2 ^ 31 by omega), if_neg c]
      · show sX6_begin _ _ _ = _
        rw [sX6_begin, rm_yes h (by omega) hm, Option.bind_some, if_neg n10, if_pos (gi_nI (by omega) (by omega)), nI_clamp (show m < 2 ^ 31 by omega), h.1.e15, el, if_pos (gi_nI (by omega) (by omega)), nI_clamp (show l < 2 ^ 31 by omega), h.1.e9, if_neg c]
  · refine ⟨-2, σ, τ, 0, fun fu hfu => ⟨?_, ?_⟩, hS.more (by omega)⟩
    · show sX5_begin _ _ _ = _
      rw [sX5_begin, d2_no h hp, Option.bind_some, if_pos rfl]
    · show sX6_begin _ _ _ = _
      rw [sX6_begin, rm_no h (by omega) hp, Option.bind_some, if_pos rfl]
theorem c_thing (p1 : Int32) : CallOK (fun fu σ => sX5_thing fu σ p1) (fun fu τ => sX6_thing fu τ p1) := by
  intro K σ τ hS hK
  obtain ⟨nf, nl, nm, nt, no, h⟩ := id hS
  have hbm := h.1.bm
  have hbl := h.1.bl
  have hbt := h.2.2.2.2.1.1
  rcases ix_or p1 (n := nm) (by omega) with ⟨m, hm, rfl⟩ | hp
  · obtain ⟨l, hl, el⟩ := (h.1.inv.2.2.2 m hm).1
    by_cases c : σ.1 15 l = 0
    · by_cases c2 : nt = 60
      · subst c2
        refine ⟨-4, σ, τ, 0, fun fu hfu => ⟨?_, ?_⟩, hS.more (by omega)⟩
        · show sX5_thing _ _ _ = _
          rw [sX5_thing, d2_yes h (by omega) hm, Option.bind_some, if_neg n10, if_pos (gi_nI (by omega) (by omega)), nI_clamp (show m < 2 ^ 31 by omega), el, if_pos (gi_nI (by omega) (by omega)), nI_clamp (show l < 2 ^ 31 by omega), if_pos c, sX4_areFull, h.2.2.2.1.1, if_neg (by decide), Option.bind_some, if_neg n10]
        · show sX6_thing _ _ _ = _
          rw [sX6_thing, rm_yes h (by omega) hm, Option.bind_some, if_neg n10, if_pos (gi_nI (by omega) (by omega)), nI_clamp (show m < 2 ^ 31 by omega), h.1.e15, el, if_pos (gi_nI (by omega) (by omega)), nI_clamp (show l < 2 ^ 31 by omega), h.1.e9, if_pos c, h.2.2.2.1.2.1, if_pos (by decide)]
      · obtain ⟨a, g, nm', no', F, σ', τ', u0, u1, u2, u3⟩ := beginFrom_ok h hK hm
        have hne : ¬ nI nt = (60 : Int32) := fun e => c2 ((nI_eq (b := 60) (by omega) (by omega)).mp e)
        have hlt : nI nt < (60 : Int32) := nI_lt (b := 60) (by omega) (by omega)
        have hd : ∀ fu, F ≤ fu → sX5_thing fu σ (nI m) = if a = 1 then sX4_add σ' (nI m) else some (a, σ') := by
          intro fu hfu
          rw [sX5_thing, d2_yes h (by omega) hm, Option.bind_some, if_neg n10, if_pos (gi_nI (by omega) (by omega)), nI_clamp (show m < 2 ^ 31 by omega), el, if_pos (gi_nI (by omega) (by omega)), nI_clamp (show l < 2 ^ 31 by omega), if_pos c, sX4_areFull, h.2.2.2.1.1, if_pos hlt, Option.bind_some, if_pos rfl, (u1 fu hfu).1, Option.bind_some]
          simp only [ob_pr]
        have hr : ∀ fu, F ≤ fu → sX6_thing fu τ (nI m) = if 0 ≤ (if 0 ≤ g then g else -10 + g) then (if gi (τ'.2 20) 60 then some (τ'.2 20 + 1 - 1, sZ (sA (sA τ' 21 ((τ'.2 20).toNatClampNeg) (nI m)) 22 ((τ'.2 20).toNatClampNeg) 0) 20 (τ'.2 20 + 1)) else none) else some (if 0 ≤ g then g else -10 + g, τ') := by
          intro fu hfu
          rw [sX6_thing, rm_yes h (by omega) hm, Option.bind_some, if_neg n10, if_pos (gi_nI (by omega) (by omega)), nI_clamp (show m < 2 ^ 31 by omega), h.1.e15, el, if_pos (gi_nI (by omega) (by omega)), nI_clamp (show l < 2 ^ 31 by omega), h.1.e9, if_pos c, h.2.2.2.1.2.1, if_neg hne, (u1 fu hfu).2, Option.bind_some]
        rcases u2 with ⟨e1, e2⟩ | ⟨e1, e2, e3, e4⟩
        · have z3 := u3.2.2.2.1.1
          have r20 := u3.2.2.2.1.2.1
          refine ⟨nI nt, sZ (sA σ' 25 nt (nI m)) 3 (nI (nt + 1)), sZ (sA (sA τ' 21 nt (nI m)) 22 nt 0) 20 (nI (nt + 1)), F, fun fu hfu => ⟨?_, ?_⟩, SS.more (K := K) ⟨nf, nl, nm', nt + 1, no', ?_⟩ (by omega)⟩
          · show sX5_thing _ _ _ = _
            rw [hd fu hfu, if_pos e1, sX4_add, sX4_areFull, z3, if_pos hlt, Option.bind_some, if_pos rfl, if_pos (gi_nI (by omega) (by omega)), nI_clamp (by omega), nI_1]
          · show sX6_thing _ _ _ = _
            rw [hr fu hfu, if_pos (Int32.not_lt.mp e2), if_pos (Int32.not_lt.mp e2), r20, if_pos (gi_nI (by omega) (by omega)), nI_clamp (by omega), nI_1, nI_pred]
          · obtain ⟨g1, ⟨h24, h25, h26, h27⟩, g2, ⟨z3, r20, z4, r23, z5⟩, ⟨ht, hno⟩, hk, hs, hdr⟩ := u3
            refine ⟨g1, ⟨h24, congrArg (fun z => upd z nt (nI m)) h25, ?_, h27⟩, g2, ⟨rfl, rfl, z4, r23, z5⟩, ⟨by omega, hno⟩, fun t htt => ?_, hs, fun t htt => hdr t (by omega)⟩
            · show σ'.1 26 = upd (τ'.1 22) nt 0
              rw [← h26]
              exact (upd_self (hdr nt (Nat.le_refl _))).symm
            · show iv (upd (σ'.1 25) nt (nI m) t) nm'
              rw [upd_at]
              split
              · exact ⟨m, by omega, rfl⟩
              · exact hk t (by omega)
        · refine ⟨a, σ', τ', F, fun fu hfu => ⟨?_, ?_⟩, SS.more (K := K) ⟨nf, nl, nm', nt, no', u3⟩ (by omega)⟩
          · show sX5_thing _ _ _ = _
            rw [hd fu hfu, if_neg e1]
          · show sX6_thing _ _ _ = _
            rw [hr fu hfu, if_neg (Int32.not_le.mpr e2), ← e3, if_neg (Int32.not_le.mpr e4)]
    · refine ⟨-3, σ, τ, 0, fun fu hfu => ⟨?_, ?_⟩, hS.more (by omega)⟩
      · show sX5_thing _ _ _ = _
        rw [sX5_thing, d2_yes h (by omega) hm, Option.bind_some, if_neg n10, if_pos (gi_nI (by omega) (by omega)), nI_clamp (show m < 2 ^ 31 by omega), el, if_pos (gi_nI (by omega) (by omega)), nI_clamp (show l < 2 ^ 31 by omega), if_neg c]
      · show sX6_thing _ _ _ = _
        rw [sX6_thing, rm_yes h (by omega) hm, Option.bind_some, if_neg n10, if_pos (gi_nI (by omega) (by omega)), nI_clamp (show m < 2 ^ 31 by omega), h.1.e15, el, if_pos (gi_nI (by omega) (by omega)), nI_clamp (show l < 2 ^ 31 by omega), h.1.e9, if_neg c]
  · refine ⟨-2, σ, τ, 0, fun fu hfu => ⟨?_, ?_⟩, hS.more (by omega)⟩
    · show sX5_thing _ _ _ = _
      rw [sX5_thing, d2_no h hp, Option.bind_some, if_pos rfl]
    · show sX6_thing _ _ _ = _
      rw [sX6_thing, rm_no h (by omega) hp, Option.bind_some, if_pos rfl]
