theorem chain_ok {nf nl nm nt no K w : Nat} {σ τ : MS} {x1 y1 : Int32} (h : RR nf nl nm nt no K σ τ) (hK : K ≤ 511) (hw : w < nm) : ∀ (c : Nat) (a : Int32), c ≤ nm → ov a c → ∃ r : Int32, (r = 0 ∨ r = 1) ∧ (∀ fu n i, c < n → i + c ≤ nm → sX2_isOrDescends_L5 fu n σ x1 (nI w) a (nI i) = some r) ∧ (∀ fu n, c < n → sX6_cast_L38 fu n τ y1 (nI w) a = some (if r = 0 then -19 else 1)) := by
  have hbm := h.1.bm
  have none_ : ∀ (c : Nat), ∃ r : Int32, (r = 0 ∨ r = 1) ∧ (∀ fu n i, c < n → i + c ≤ nm → sX2_isOrDescends_L5 fu n σ x1 (nI w) (-1) (nI i) = some r) ∧ (∀ fu n, c < n → sX6_cast_L38 fu n τ y1 (nI w) (-1) = some (if r = 0 then -19 else 1)) := by
    intro c
    refine ⟨0, Or.inl rfl, fun fu n i hn hi => ?_, fun fu n hn => ?_⟩
    · obtain ⟨q, rfl⟩ : ∃ q, n = q + 1 := ⟨n - 1, by omega⟩
      rw [sX2_isOrDescends_L5, if_pos rfl]
      split <;> rfl
    · obtain ⟨q, rfl⟩ : ∃ q, n = q + 1 := ⟨n - 1, by omega⟩
      rw [sX6_cast_L38, if_pos rfl, if_neg (fun e => nI_m1 (show w < 2 ^ 31 by omega) e.symm), if_pos rfl]
  intro c
  induction c with
  | zero =>
    intro a _ ha
    rcases ha with rfl | ⟨m, hm, -⟩
    · exact none_ 0
    · omega
  | succ c ih =>
    intro a hc ha
    rcases ha with rfl | ⟨m, hm, rfl⟩
    · exact none_ (c + 1)
    · by_cases e : m = w
      · subst e
        refine ⟨1, Or.inr rfl, fun fu n i hn hi => ?_, fun fu n hn => ?_⟩
        · obtain ⟨q, rfl⟩ : ∃ q, n = q + 1 := ⟨n - 1, by omega⟩
          rw [sX2_isOrDescends_L5, h.1.z2, if_neg (nI_ge (by omega) (by omega)), if_neg (nI_m1 (by omega)), if_pos rfl]
        · obtain ⟨q, rfl⟩ : ∃ q, n = q + 1 := ⟨n - 1, by omega⟩
          rw [sX6_cast_L38, if_neg (nI_m1 (by omega)), if_pos rfl, if_neg n10]
      · have ne : ¬ nI m = nI w := fun q => e ((nI_eq (by omega) (by omega)).mp q)
        obtain ⟨r, hr, i1, i2⟩ := ih (σ.1 23 m) (by omega) (((h.1.inv.2.2.2 m (by omega)).2.2).mono (by omega))
        refine ⟨r, hr, fun fu n i hn hi => ?_, fun fu n hn => ?_⟩
        · obtain ⟨q, rfl⟩ : ∃ q, n = q + 1 := ⟨n - 1, by omega⟩
          rw [sX2_isOrDescends_L5, h.1.z2, if_neg (nI_ge (by omega) (by omega)), if_neg (nI_m1 (by omega)), if_neg ne, if_pos (gi_nI (by omega) (by omega)), nI_clamp (by omega), nI_1]
          exact i1 fu q (i + 1) (by omega) (by omega)
        · obtain ⟨q, rfl⟩ : ∃ q, n = q + 1 := ⟨n - 1, by omega⟩
          rw [sX6_cast_L38, if_neg (nI_m1 (by omega)), if_neg ne, if_pos (gi_nI (by omega) (by omega)), nI_clamp (by omega), h.1.e17]
          exact i2 fu q (by omega)
theorem c_cast (p1 p2 : Int32) : CallP (fun fu σ => sX5_cast fu σ p1 p2) (fun fu τ => sX6_cast fu τ p1 p2) := by
  intro K σ τ hS hK
  obtain ⟨nf, nl, nm, nt, no, h⟩ := hS
  have hbm := h.1.bm
  have hbt := h.2.2.2.2.1.1
  rcases ix_or p1 (n := nt) (by omega) with ⟨t, ht, rfl⟩ | hp
  · rcases ix_or p2 (n := nm) (by omega) with ⟨m, hm, rfl⟩ | hp2
    · by_cases c : σ.1 26 t = 0
      · obtain ⟨r, hr, i1, i2⟩ := chain_ok (x1 := σ.1 25 t) (y1 := nI t) h hK hm nm (σ.1 25 t) (Nat.le_refl _) (Or.inr (h.2.2.2.2.2.1 t ht))
        refine ⟨if r = 0 then -19 else 1, nm + 1, fun fu hfu => ⟨?_, ?_⟩⟩
        · show sX5_cast _ _ _ _ = _
          rw [sX5_cast, d4_yes h ht, Option.bind_some, if_neg n10, d2_yes h (by omega) hm, Option.bind_some, if_neg n10, if_pos (gi_nI (by omega) (by omega)), nI_clamp (by omega), if_pos c, sX2_isOrDescends, show (0 : Int32) = nI 0 from rfl, i1 fu fu 0 (by omega) (by omega), Option.bind_some]
          split <;> rfl
        · show sX6_cast _ _ _ _ = _
          rw [sX6_cast, rt_yes h ht, Option.bind_some, if_neg n10, rm_yes h (by omega) hm, Option.bind_some, if_neg n10, if_pos (gi_nI (by omega) (by omega)), nI_clamp (by omega), ← h.2.1.2.2.1, if_pos c, ← h.2.1.2.1]
          exact i2 fu fu (by omega)
      · refine ⟨-3, 0, fun fu hfu => ⟨?_, ?_⟩⟩
        · show sX5_cast _ _ _ _ = _
          rw [sX5_cast, d4_yes h ht, Option.bind_some, if_neg n10, d2_yes h (by omega) hm, Option.bind_some, if_neg n10, if_pos (gi_nI (by omega) (by omega)), nI_clamp (by omega), if_neg c]
        · show sX6_cast _ _ _ _ = _
          rw [sX6_cast, rt_yes h ht, Option.bind_some, if_neg n10, rm_yes h (by omega) hm, Option.bind_some, if_neg n10, if_pos (gi_nI (by omega) (by omega)), nI_clamp (by omega), ← h.2.1.2.2.1, if_neg c]
    · refine ⟨-2, 0, fun fu hfu => ⟨?_, ?_⟩⟩
      · show sX5_cast _ _ _ _ = _
        rw [sX5_cast, d4_yes h ht, Option.bind_some, if_neg n10, d2_no h hp2, Option.bind_some, if_pos rfl]
      · show sX6_cast _ _ _ _ = _
        rw [sX6_cast, rt_yes h ht, Option.bind_some, if_neg n10, rm_no h (by omega) hp2, Option.bind_some, if_pos rfl]
  · refine ⟨-2, 0, fun fu hfu => ⟨?_, ?_⟩⟩
    · show sX5_cast _ _ _ _ = _
      rw [sX5_cast, d4_no h hp, Option.bind_some, if_pos rfl]
    · show sX6_cast _ _ _ _ = _
      rw [sX6_cast, rt_no h hp, Option.bind_some, if_pos rfl]
/-- letGo: is a program below that isn't let go -/
theorem live_ok {nf nl nm nt no K l : Nat} {σ τ : MS} (h : RR nf nl nm nt no K σ τ) (hl : l < nl) : ∀ (k : Nat), k ≤ nl → (∀ fu n, k < n → sX6_letGo_L28 fu n τ (nI l) 0 (nI (nl - k)) = some (-3, τ)) ∧ ∃ r : Int32, (r = 0 ∨ r = 1) ∧ (∀ fu n, k < n → sX1_hasLiveProgram_L2 fu n σ (nI l) (nI (nl - k)) = some r) ∧ (∀ fu n, k < n → sX6_letGo_L28 fu n τ (nI l) 1 (nI (nl - k)) = some (if r = 0 then (1, sA τ 9 l 1) else (-3, τ))) := by
  have hbl := h.1.bl
  intro k
  induction k with
  | zero =>
    intro _
    refine ⟨fun fu n hn => ?_, 0, Or.inl rfl, fun fu n hn => ?_, fun fu n hn => ?_⟩
    · obtain ⟨q, rfl⟩ : ∃ q, n = q + 1 := ⟨n - 1, by omega⟩
      rw [sX6_letGo_L28, h.1.r6, if_pos (nI_le (by omega) (by omega)), if_pos rfl]
    · obtain ⟨q, rfl⟩ : ∃ q, n = q + 1 := ⟨n - 1, by omega⟩
      rw [sX1_hasLiveProgram_L2, h.1.z1, if_pos (nI_le (by omega) (by omega))]
    · obtain ⟨q, rfl⟩ : ∃ q, n = q + 1 := ⟨n - 1, by omega⟩
      rw [sX6_letGo_L28, h.1.r6, if_pos (nI_le (by omega) (by omega)), if_neg n10, if_pos (gi_nI (by omega) (by omega)), nI_clamp (by omega), if_pos rfl]
  | succ k ih =>
    intro hk
    obtain ⟨i0, r, hr, i1, i2⟩ := ih (by omega)
    have hi : nl - (k + 1) < nl := by omega
    have hs : nI (nl - (k + 1)) + 1 = nI (nl - k) := by rw [nI_1, show nl - (k + 1) + 1 = nl - k by omega]
    have hge : ¬ nI nl ≤ nI (nl - (k + 1)) := nI_ge hi (by omega)
    have hg : gi (nI (nl - (k + 1))) 10 := gi_nI (by omega) (by omega)
    have hz : ∀ fu n, k + 1 < n → sX6_letGo_L28 fu n τ (nI l) 0 (nI (nl - (k + 1))) = some (-3, τ) := by
      intro fu n hn
      obtain ⟨q, rfl⟩ : ∃ q, n = q + 1 := ⟨n - 1, by omega⟩
      rw [sX6_letGo_L28, h.1.r6, if_neg hge, if_pos rfl, hs]
      exact i0 fu q (by omega)
    refine ⟨hz, ?_⟩
    by_cases c1 : σ.1 13 (nl - (k + 1)) = nI l
    · by_cases c2 : σ.1 15 (nl - (k + 1)) = 0
      · refine ⟨1, Or.inr rfl, fun fu n hn => ?_, fun fu n hn => ?_⟩
        · obtain ⟨q, rfl⟩ : ∃ q, n = q + 1 := ⟨n - 1, by omega⟩
          rw [sX1_hasLiveProgram_L2, h.1.z1, if_neg hge, if_pos hg, nI_clamp (by omega), if_pos c1, if_pos c2]
        · obtain ⟨q, rfl⟩ : ∃ q, n = q + 1 := ⟨n - 1, by omega⟩
          rw [sX6_letGo_L28, h.1.r6, if_neg hge, if_neg n10, if_pos hg, nI_clamp (by omega), h.1.e7, if_pos c1, h.1.e9, if_pos c2, hs, i0 fu q (by omega), if_neg n10]
      · refine ⟨r, hr, fun fu n hn => ?_, fun fu n hn => ?_⟩
        · obtain ⟨q, rfl⟩ : ∃ q, n = q + 1 := ⟨n - 1, by omega⟩
          rw [sX1_hasLiveProgram_L2, h.1.z1, if_neg hge, if_pos hg, nI_clamp (by omega), if_pos c1, if_neg c2, hs]
          exact i1 fu q (by omega)
        · obtain ⟨q, rfl⟩ : ∃ q, n = q + 1 := ⟨n - 1, by omega⟩
          rw [sX6_letGo_L28, h.1.r6, if_neg hge, if_neg n10, if_pos hg, nI_clamp (by omega), h.1.e7, if_pos c1, h.1.e9, if_neg c2, hs]
          exact i2 fu q (by omega)
    · refine ⟨r, hr, fun fu n hn => ?_, fun fu n hn => ?_⟩
      · obtain ⟨q, rfl⟩ : ∃ q, n = q + 1 := ⟨n - 1, by omega⟩
        rw [sX1_hasLiveProgram_L2, h.1.z1, if_neg hge, if_pos hg, nI_clamp (by omega), if_neg c1, hs]
        exact i1 fu q (by omega)
      · obtain ⟨q, rfl⟩ : ∃ q, n = q + 1 := ⟨n - 1, by omega⟩
        rw [sX6_letGo_L28, h.1.r6, if_neg hge, if_neg n10, if_pos hg, nI_clamp (by omega), h.1.e7, if_neg c1, hs]
        exact i2 fu q (by omega)
theorem c_letGo (p1 : Int32) : CallOK (fun fu σ => sX5_letGo fu σ p1) (fun fu τ => sX6_letGo fu τ p1) := by
  intro K σ τ hS hK
  obtain ⟨nf, nl, nm, nt, no, h⟩ := id hS
  have hbl := h.1.bl
  rcases ix_or p1 (n := nl) (by omega) with ⟨l, hl, rfl⟩ | hp
  · obtain ⟨i0, r, hr, i1, i2⟩ := live_ok h hl nl (Nat.le_refl _)
    rw [Nat.sub_self] at i0 i1 i2
    by_cases c : σ.1 15 l = 0
    · by_cases cr : r = 0
      · refine ⟨1, sA σ 15 l 1, sA τ 9 l 1, nl + 1, fun fu hfu => ⟨?_, ?_⟩, SS.more (K := K) ⟨nf, nl, nm, nt, no, ?_⟩ (by omega)⟩
        · show sX5_letGo _ _ _ = _
          rw [sX5_letGo, d1_yes h hl, Option.bind_some, if_neg n10, if_pos (gi_nI (by omega) (by omega)), nI_clamp (by omega), if_pos c, sX1_hasLiveProgram]
          rw [show (0 : Int32) = nI 0 from rfl] at cr ⊢
          rw [i1 fu fu (by omega), Option.bind_some, if_pos cr]
        · show sX6_letGo _ _ _ = _
          rw [sX6_letGo, rl_yes h hl, Option.bind_some, if_neg n10, if_pos (gi_nI (by omega) (by omega)), nI_clamp (by omega), h.1.e9, if_pos c]
          have := i2 fu fu (by omega)
          rw [if_pos cr] at this
          exact this
        · obtain ⟨⟨g1, ⟨h13, h14, h15, h19⟩, g3⟩, g4⟩ := h
          exact ⟨⟨g1, ⟨h13, h14, congrArg (fun z => upd z l 1) h15, h19⟩, g3⟩, g4⟩
      · refine ⟨-3, σ, τ, nl + 1, fun fu hfu => ⟨?_, ?_⟩, hS.more (by omega)⟩
        · show sX5_letGo _ _ _ = _
          rw [sX5_letGo, d1_yes h hl, Option.bind_some, if_neg n10, if_pos (gi_nI (by omega) (by omega)), nI_clamp (by omega), if_pos c, sX1_hasLiveProgram]
          have := i1 fu fu (by omega)
          rw [show nI 0 = (0 : Int32) from rfl] at this
          rw [this, Option.bind_some, if_neg cr]
        · show sX6_letGo _ _ _ = _
          rw [sX6_letGo, rl_yes h hl, Option.bind_some, if_neg n10, if_pos (gi_nI (by omega) (by omega)), nI_clamp (by omega), h.1.e9, if_pos c]
          have := i2 fu fu (by omega)
          rw [if_neg cr] at this
          exact this
    · refine ⟨-3, σ, τ, nl + 1, fun fu hfu => ⟨?_, ?_⟩, hS.more (by omega)⟩
      · show sX5_letGo _ _ _ = _
        rw [sX5_letGo, d1_yes h hl, Option.bind_some, if_neg n10, if_pos (gi_nI (by omega) (by omega)), nI_clamp (by omega), if_neg c]
      · show sX6_letGo _ _ _ = _
        rw [sX6_letGo, rl_yes h hl, Option.bind_some, if_neg n10, if_pos (gi_nI (by omega) (by omega)), nI_clamp (by omega), h.1.e9, if_neg c]
        exact i0 fu fu (by omega)
  · refine ⟨-2, σ, τ, 0, fun fu hfu => ⟨?_, ?_⟩, hS.more (by omega)⟩
    · show sX5_letGo _ _ _ = _
      rw [sX5_letGo, d1_no h hp, Option.bind_some, if_pos rfl]
    · show sX6_letGo _ _ _ = _
      rw [sX6_letGo, rl_no h hp, Option.bind_some, if_pos rfl]
