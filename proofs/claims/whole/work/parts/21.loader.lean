theorem rloop {nl : Nat} {x1 x2 : Int32} (hnl : nl < 10) : ∀ (k : Nat) (τ : MS), k ≤ 31 → τ.2 6 = nI nl → ∃ τ' : MS, (∀ fu n, k < n → sX6_loader_L77 fu n τ x1 x2 (nI (31 - k)) = some (nI nl, τ')) ∧ τ'.2 = (sZ τ 6 (nI (nl + 1))).2 ∧ (∀ q, q ≠ 10 → q ≠ 11 → q ≠ 12 → τ'.1 q = τ.1 q) ∧ (∀ q, (q = 10 ∨ q = 11 ∨ q = 12) → ∀ j, τ'.1 q j = if 31 * nl + (31 - k) ≤ j ∧ j < 31 * nl + 31 then -1 else τ.1 q j) := by
  intro k
  induction k with
  | zero =>
    intro τ _ h6
    refine ⟨sZ τ 6 (nI (nl + 1)), fun fu n hn => ?_, rfl, fun _ _ _ _ => rfl, fun q _ j => ?_⟩
    · obtain ⟨m, rfl⟩ : ∃ m, n = m + 1 := ⟨n - 1, by omega⟩
      rw [sX6_loader_L77, if_pos (by decide), h6, nI_1, nI_pred]
    · rw [if_neg (by omega)]
      rfl
  | succ k ih =>
    intro τ hk h6
    obtain ⟨τ', t1, t2, t3, t4⟩ := ih (sA (sA (sA τ 10 (31 * nl + (31 - (k + 1))) (-1)) 11 (31 * nl + (31 - (k + 1))) (-1)) 12 (31 * nl + (31 - (k + 1))) (-1)) (by omega) h6
    refine ⟨τ', fun fu n hn => ?_, t2, fun q h1 h2 h3 => ?_, fun q hq j => ?_⟩
    · obtain ⟨m, rfl⟩ : ∃ m, n = m + 1 := ⟨n - 1, by omega⟩
      rw [sX6_loader_L77, if_neg (show ¬ (31 : Int32) ≤ nI (31 - (k + 1)) from nI_ge (b := 31) (by omega) (by omega)), h6, slot_e, if_pos (gi_nI (by omega) (by omega)), nI_clamp (by omega), nI_1, show 31 - (k + 1) + 1 = 31 - k by omega]
      exact t1 fu m (by omega)
    · rw [t3 q h1 h2 h3, sA_ne _ _ _ h3, sA_ne _ _ _ h2, sA_ne _ _ _ h1]
    · rw [t4 q hq j]
      have e : (sA (sA (sA τ 10 (31 * nl + (31 - (k + 1))) (-1)) 11 (31 * nl + (31 - (k + 1))) (-1)) 12 (31 * nl + (31 - (k + 1))) (-1)).1 q j = upd (τ.1 q) (31 * nl + (31 - (k + 1))) (-1) j := by
        rcases hq with rfl | rfl | rfl <;> rfl
      rw [e, upd_at]
      by_cases c1 : 31 * nl + (31 - k) ≤ j ∧ j < 31 * nl + 31
      · rw [if_pos c1, if_pos (by omega)]
      · rw [if_neg c1]
        by_cases c2 : j = 31 * nl + (31 - (k + 1))
        · rw [if_pos c2, if_pos (by omega)]
        · rw [if_neg c2, if_neg (by omega)]
theorem add_loader {nf nl nm nt no K : Nat} {σ τ τ' : MS} {p1 b : Int32} (h : RR nf nl nm nt no K σ τ) (hn : nl < 10) (hp : p1 = -1 ∨ ∃ k, k < nl ∧ p1 = nI k ∧ σ.1 13 k = -1) (t2 : τ'.2 = (sZ (sA (sA τ 7 nl p1) 8 nl b) 6 (nI (nl + 1))).2) (t3 : ∀ q, q ≠ 10 → q ≠ 11 → q ≠ 12 → τ'.1 q = (sA (sA τ 7 nl p1) 8 nl b).1 q) (t4 : ∀ q, (q = 10 ∨ q = 11 ∨ q = 12) → ∀ j, τ'.1 q j = if 31 * nl + (31 - 31) ≤ j ∧ j < 31 * nl + 31 then -1 else (sA (sA τ 7 nl p1) 8 nl b).1 q j) :
    RR nf (nl + 1) nm nt no K (sZ (sA (sA σ 13 nl p1) 14 nl b) 1 (nI (nl + 1))) τ' := by
  obtain ⟨⟨⟨h8, h9, h10, h11, h12⟩, ⟨h13, h14, h15, h19⟩, ⟨h20, h21, h22, h23⟩, ⟨hs16, hs17, hs18⟩, ⟨hz0, hz1, hz2⟩, ⟨hr0, hr6, hr14⟩, ⟨hb1, hb2, hb3⟩, ⟨hi1, hi2, hi3, hi4⟩⟩, ⟨g24, g25, g26, g27⟩, gm, ⟨z3, r20, z4, r23, z5⟩, gb, gt, gs⟩ := h
  have slots : ∀ (q : Nat) (f : Nat → Int32), (q = 10 ∨ q = 11 ∨ q = 12) → slotEq nl f (τ.1 q) → slotEq (nl + 1) f (τ'.1 q) := by
    intro q f hq hs j
    rw [t4 q hq j]
    have e : (sA (sA τ 7 nl p1) 8 nl b).1 q = τ.1 q := by rcases hq with rfl | rfl | rfl <;> rfl
    rw [e, hs j]
    by_cases c1 : j < 31 * nl
    · rw [if_pos c1, if_pos (by omega), if_neg (by omega)]
    · rw [if_neg c1]
      by_cases c2 : j < 31 * (nl + 1)
      · rw [if_pos c2, if_pos (by omega)]
      · rw [if_neg c2]
  have big : ∀ (f g : Nat → Int32), slotEq nl f g → ∀ j, 31 * nl ≤ j → f j = -1 := fun f g hs j hj => by rw [hs j, if_neg (by omega)]
  refine ⟨⟨⟨?_, ?_, ?_, ?_, ?_⟩, ⟨?_, ?_, ?_, ?_⟩, ⟨?_, ?_, ?_, ?_⟩, ⟨slots 10 _ (by decide) hs16, slots 11 _ (by decide) hs17, slots 12 _ (by decide) hs18⟩, ⟨hz0, rfl, hz2⟩, ⟨by rw [t2]; exact hr0, by rw [t2]; rfl, by rw [t2]; exact hr14⟩, ⟨hb1, by omega, hb3⟩, ⟨hi1, fun l hl => ?_, fun j hj => ?_, fun m hm => ?_⟩⟩, ⟨?_, ?_, ?_, ?_⟩, gm, ⟨z3, by rw [t2]; exact r20, z4, by rw [t2]; exact r23, z5⟩, gb, gt, gs⟩
  · rw [t3 1 (by decide) (by decide) (by decide)]; exact h8
  · rw [t3 2 (by decide) (by decide) (by decide)]; exact h9
  · rw [t3 3 (by decide) (by decide) (by decide)]; exact h10
  · rw [t3 4 (by decide) (by decide) (by decide)]; exact h11
  · rw [t3 5 (by decide) (by decide) (by decide)]; exact h12
  · rw [t3 7 (by decide) (by decide) (by decide)]; exact congrArg (fun z => upd z nl p1) h13
  · rw [t3 8 (by decide) (by decide) (by decide)]; exact congrArg (fun z => upd z nl b) h14
  · rw [t3 9 (by decide) (by decide) (by decide)]; exact h15
  · rw [t3 13 (by decide) (by decide) (by decide)]; exact h19
  · rw [t3 15 (by decide) (by decide) (by decide)]; exact h20
  · rw [t3 16 (by decide) (by decide) (by decide)]; exact h21
  · rw [t3 18 (by decide) (by decide) (by decide)]; exact h22
  · rw [t3 17 (by decide) (by decide) (by decide)]; exact h23
  · show upd (σ.1 13) nl p1 l = -1 ∨ ∃ k, k < nl + 1 ∧ upd (σ.1 13) nl p1 l = nI k ∧ upd (σ.1 13) nl p1 k = -1
    by_cases e : l = nl
    · subst e
      rw [pk_us]
      rcases hp with hp | ⟨k, a1, a2, a3⟩
      · exact Or.inl hp
      · exact Or.inr ⟨k, by omega, a2, by rw [pk_un (by omega)]; exact a3⟩
    · rw [pk_un e]
      rcases hi2 l (by omega) with hq | ⟨k, a1, a2, a3⟩
      · exact Or.inl hq
      · exact Or.inr ⟨k, by omega, a2, by rw [pk_un (by omega)]; exact a3⟩
  · by_cases c : j < 31 * nl
    · exact hi3 j c
    · refine ⟨Or.inl (big _ _ hs16 j (by omega)), Or.inl (big _ _ hs17 j (by omega)), Or.inl (big _ _ hs18 j (by omega))⟩
  · obtain ⟨a1, a2, a3⟩ := hi4 m hm
    exact ⟨a1.mono (by omega), a2, a3⟩
  · rw [t3 19 (by decide) (by decide) (by decide)]; exact g24
  · rw [t3 21 (by decide) (by decide) (by decide)]; exact g25
  · rw [t3 22 (by decide) (by decide) (by decide)]; exact g26
  · rw [t3 24 (by decide) (by decide) (by decide)]; exact g27
/-- the making itself, once nothing stands against it -/
theorem loader_core {nf nl nm nt no K : Nat} {σ τ : MS} {p1 p2 : Int32} (h : RR nf nl nm nt no K σ τ) (hp : p1 = -1 ∨ ∃ k, k < nl ∧ p1 = nI k ∧ σ.1 13 k = -1) :
    ∃ (r : Int32) (σ' τ' : MS) (F : Nat), sX1_add σ p1 p2 = some (r, σ') ∧ (∀ fu, F ≤ fu → (if τ.2 6 = 10 then some ((-4 : Int32), τ) else if gi (τ.2 6) 10 then sX6_loader_L77 fu fu (sA (sA τ 7 ((τ.2 6).toNatClampNeg) p1) 8 ((τ.2 6).toNatClampNeg) (vp_nar .boolean p2)) p1 p2 0 else none) = some (r, τ')) ∧ SS K σ' τ' := by
  have hbl := h.1.bl
  by_cases c : nl = 10
  · subst c
    refine ⟨-4, σ, τ, 0, ?_, fun fu _ => ?_, ⟨nf, _, nm, nt, no, h⟩⟩
    · rw [sX1_add, h.1.z1, if_neg (by decide)]
    · rw [h.1.r6, if_pos (by decide)]
  · obtain ⟨τ', t1, t2, t3, t4⟩ := rloop (nl := nl) (x1 := p1) (x2 := p2) (by omega) 31 (sA (sA τ 7 nl p1) 8 nl (vp_nar .boolean p2)) (by omega) h.1.r6
    refine ⟨nI nl, sZ (sA (sA σ 13 nl p1) 14 nl (vp_nar .boolean p2)) 1 (nI (nl + 1)), τ', 32, ?_, fun fu hfu => ?_, ⟨nf, nl + 1, nm, nt, no, add_loader h (by omega) hp t2 t3 t4⟩⟩
    · rw [sX1_add, h.1.z1, if_pos (show nI nl < (10 : Int32) from nI_lt (b := 10) (by omega) (by omega)), if_pos (gi_nI (by omega) (by omega)), nI_clamp (by omega), nI_1]
    · rw [h.1.r6, if_neg (show ¬ nI nl = (10 : Int32) from fun e => c ((nI_eq (b := 10) (by omega) (by omega)).mp e)), if_pos (gi_nI (by omega) (by omega)), nI_clamp (by omega)]
      exact t1 fu fu (by omega)
theorem c_loader (p1 p2 : Int32) : CallOK (fun _ σ => sX5_loader σ p1 p2) (fun fu τ => sX6_loader fu τ p1 p2) := by
  intro K σ τ hS hK
  obtain ⟨nf, nl, nm, nt, no, h⟩ := id hS
  have hbl := h.1.bl
  by_cases c0 : p1 = -1
  · obtain ⟨r, σ', τ', F, s1, s2, s3⟩ := loader_core (p1 := p1) (p2 := p2) h (Or.inl c0)
    refine ⟨r, σ', τ', F, fun fu hfu => ⟨?_, ?_⟩, s3.more (by omega)⟩
    · show sX5_loader _ _ _ = _
      rw [sX5_loader, if_pos c0, s1, Option.bind_some]
    · show sX6_loader _ _ _ _ = _
      rw [sX6_loader, if_pos c0]
      exact s2 fu hfu
  · rcases ix_or p1 (n := nl) (by omega) with ⟨k, hk, rfl⟩ | hp
    · by_cases c1 : σ.1 13 k = -1
      · by_cases c2 : σ.1 15 k = 0
        · obtain ⟨r, σ', τ', F, s1, s2, s3⟩ := loader_core (p1 := nI k) (p2 := p2) h (Or.inr ⟨k, hk, rfl, c1⟩)
          refine ⟨r, σ', τ', F, fun fu hfu => ⟨?_, ?_⟩, s3.more (by omega)⟩
          · show sX5_loader _ _ _ = _
            rw [sX5_loader, if_neg c0, d1_yes h hk, Option.bind_some, if_neg n10, isProg_e (by omega), if_pos c1, Option.bind_some, if_pos rfl, if_pos (gi_nI (by omega) (by omega)), nI_clamp (by omega), if_pos c2, s1, Option.bind_some]
          · show sX6_loader _ _ _ _ = _
            rw [sX6_loader, if_neg c0, rl_yes h hk, Option.bind_some, if_neg n10, if_pos (gi_nI (by omega) (by omega)), nI_clamp (show k < 2 ^ 31 by omega), h.1.e7, if_pos c1, h.1.e9, if_pos c2]
            exact s2 fu hfu
        · refine ⟨-3, σ, τ, 0, fun fu hfu => ⟨?_, ?_⟩, hS.more (by omega)⟩
          · show sX5_loader _ _ _ = _
            rw [sX5_loader, if_neg c0, d1_yes h hk, Option.bind_some, if_neg n10, isProg_e (by omega), if_pos c1, Option.bind_some, if_pos rfl, if_pos (gi_nI (by omega) (by omega)), nI_clamp (by omega), if_neg c2]
          · show sX6_loader _ _ _ _ = _
            rw [sX6_loader, if_neg c0, rl_yes h hk, Option.bind_some, if_neg n10, if_pos (gi_nI (by omega) (by omega)), nI_clamp (show k < 2 ^ 31 by omega), h.1.e7, if_pos c1, h.1.e9, if_neg c2]
      · refine ⟨-2, σ, τ, 0, fun fu hfu => ⟨?_, ?_⟩, hS.more (by omega)⟩
        · show sX5_loader _ _ _ = _
          rw [sX5_loader, if_neg c0, d1_yes h hk, Option.bind_some, if_neg n10, isProg_e (by omega), if_neg c1, Option.bind_some, if_neg n10]
        · show sX6_loader _ _ _ _ = _
          rw [sX6_loader, if_neg c0, rl_yes h hk, Option.bind_some, if_neg n10, if_pos (gi_nI (by omega) (by omega)), nI_clamp (show k < 2 ^ 31 by omega), h.1.e7, if_neg c1]
    · refine ⟨-2, σ, τ, 0, fun fu hfu => ⟨?_, ?_⟩, hS.more (by omega)⟩
      · show sX5_loader _ _ _ = _
        rw [sX5_loader, if_neg c0, d1_no h hp, Option.bind_some, if_pos rfl]
      · show sX6_loader _ _ _ _ = _
        rw [sX6_loader, if_neg c0, rl_no h hp, Option.bind_some, if_pos rfl]
