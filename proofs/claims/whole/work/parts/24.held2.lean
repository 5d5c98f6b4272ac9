theorem m1_e (k : Nat) : nI k + (-1) = nI k - 1 := by
  cases k with
  | zero => decide
  | succ k => rw [pk_m1, nI_pred]
section HELD2
variable {nf nl nm nt no K : Nat} {σ τ : MS}
theorem h_gone (h : RR nf nl nm nt no K σ τ) {l : Nat} (hl : l < nl) (hg : ¬ σ.1 15 l = 0) (g : Nat → Int32) : ∀ (k : Nat), k ≤ 31 → ∀ fu n, sX6_holds_L80 fu (n + k) (setK τ g) (nI (31 * l + (31 - k))) = sX6_holds_L80 fu n (setK τ g) (nI (31 * (l + 1))) := by
  have hbl := h.1.bl
  intro k
  induction k with
  | zero =>
    intro _ fu n
    rw [show 31 * l + (31 - 0) = 31 * (l + 1) by omega]; rfl
  | succ k ih =>
    intro hk fu n
    have e6 : (31 : Int32) * (setK τ g).2 6 = nI (31 * nl) := by
      rw [show (setK τ g).2 6 = nI nl from h.1.r6, show (31 : Int32) = nI 31 from rfl, pk_mul]
    rw [← Nat.add_assoc, sX6_holds_L80, e6, if_neg (nI_ge (show 31 * l + (31 - (k + 1)) < 31 * nl by omega) (by omega)), slot_div (by omega) (by omega), if_pos (gi_nI (by omega) (by omega)), nI_clamp (show l < 2 ^ 31 by omega), show (setK τ g).1 9 = τ.1 9 from rfl, h.1.e9, if_neg hg, nI_1, show 31 * l + (31 - (k + 1)) + 1 = 31 * l + (31 - k) by omega]
    exact ih (by omega) fu n
theorem h_loaders (h : RR nf nl nm nt no K σ τ) (hK : K ≤ 511) : ∀ (k : Nat) (f g : Nat → Int32), k ≤ nl → EH nm f g → ∃ f' g' : Nat → Int32, EH nm f' g' ∧ (∀ fu n, k < n → 31 < fu → sX5_markHeld_L74 fu n (setH σ f) (nI (nl - k)) = sX5_markHeld_L118 fu fu (setH σ f') (nI nm - 1)) ∧ (∀ fu n, 31 * k < n → sX6_holds_L80 fu n (setK τ g) (nI (31 * (nl - k))) = sX6_holds_L160 fu fu (setK τ g') (nI nm - 1)) := by
  have hbl := h.1.bl
  intro k
  induction k with
  | zero =>
    intro f g _ h0
    refine ⟨f, g, h0, fun fu n hn _ => ?_, fun fu n hn => ?_⟩
    · obtain ⟨q, rfl⟩ : ∃ q, n = q + 1 := ⟨n - 1, by omega⟩
      rw [sX5_markHeld_L74, show (setH σ f).2 1 = nI nl from h.1.z1, if_pos (nI_le (by omega) (by omega)), show (setH σ f).2 2 = nI nm from h.1.z2]
    · obtain ⟨q, rfl⟩ : ∃ q, n = q + 1 := ⟨n - 1, by omega⟩
      have e6 : (31 : Int32) * (setK τ g).2 6 = nI (31 * nl) := by
        rw [show (setK τ g).2 6 = nI nl from h.1.r6, show (31 : Int32) = nI 31 from rfl, pk_mul]
      rw [sX6_holds_L80, e6, if_pos (nI_le (by omega) (by omega)), show (setK τ g).2 14 = nI nm from h.1.r14]
  | succ k ih =>
    intro f g hk h0
    have hl : nl - (k + 1) < nl := by omega
    have hs : nI (nl - (k + 1)) + 1 = nI (nl - k) := by rw [nI_1, show nl - (k + 1) + 1 = nl - k by omega]
    by_cases c : σ.1 15 (nl - (k + 1)) = 0
    · obtain ⟨f1, g1, e1, e2, e3⟩ := h_one h hK hl c 31 f g (by omega) h0
      obtain ⟨f', g', d1, d2, d3⟩ := ih f1 g1 (by omega) e1
      refine ⟨f', g', d1, fun fu n hn hfu => ?_, fun fu n hn => ?_⟩
      · obtain ⟨q, rfl⟩ : ∃ q, n = q + 1 := ⟨n - 1, by omega⟩
        rw [sX5_markHeld_L74, show (setH σ f).2 1 = nI nl from h.1.z1, if_neg (nI_ge hl (by omega)), if_pos (gi_nI (by omega) (by omega)), nI_clamp (by omega), show (setH σ f).1 15 = σ.1 15 from rfl, if_pos c, sX5_markHeldBy]
        have := e2 fu fu (by omega)
        rw [Nat.sub_self, show nI 0 = (0 : Int32) from rfl] at this
        rw [this, Option.bind_some, hs]
        exact d2 fu q (by omega) hfu
      · obtain ⟨q, rfl⟩ : ∃ q, n = q + 31 := ⟨n - 31, by omega⟩
        have := e3 fu q
        rw [Nat.sub_self, show nl - (k + 1) + 1 = nl - k by omega] at this
        exact this.trans (d3 fu q (by omega))
    · obtain ⟨f', g', d1, d2, d3⟩ := ih f g (by omega) h0
      refine ⟨f', g', d1, fun fu n hn hfu => ?_, fun fu n hn => ?_⟩
      · obtain ⟨q, rfl⟩ : ∃ q, n = q + 1 := ⟨n - 1, by omega⟩
        rw [sX5_markHeld_L74, show (setH σ f).2 1 = nI nl from h.1.z1, if_neg (nI_ge hl (by omega)), if_pos (gi_nI (by omega) (by omega)), nI_clamp (by omega), show (setH σ f).1 15 = σ.1 15 from rfl, if_neg c, hs]
        exact d2 fu q (by omega) hfu
      · obtain ⟨q, rfl⟩ : ∃ q, n = q + 31 := ⟨n - 31, by omega⟩
        have := h_gone h hl c g 31 (by omega) fu q
        rw [Nat.sub_self, show nl - (k + 1) + 1 = nl - k by omega] at this
        exact this.trans (d3 fu q (by omega))
theorem h_parents (h : RR nf nl nm nt no K σ τ) (hK : K ≤ 511) : ∀ (k : Nat) (f g : Nat → Int32), k ≤ nm → EH nm f g → ∃ f' g' : Nat → Int32, EH nm f' g' ∧ (∀ fu n, k < n → sX5_markHeld_L118 fu n (setH σ f) (nI k - 1) = some (setH σ f')) ∧ (∀ fu n, k < n → sX6_holds_L160 fu n (setK τ g) (nI k - 1) = some (setK τ g')) := by
  have hbm := h.1.bm
  intro k
  induction k with
  | zero =>
    intro f g _ h0
    refine ⟨f, g, h0, fun fu n hn => ?_, fun fu n hn => ?_⟩
    · obtain ⟨q, rfl⟩ : ∃ q, n = q + 1 := ⟨n - 1, by omega⟩
      rw [sX5_markHeld_L118, if_pos (by decide)]
    · obtain ⟨q, rfl⟩ : ∃ q, n = q + 1 := ⟨n - 1, by omega⟩
      rw [sX6_holds_L160, if_pos (by decide)]
  | succ k ih =>
    intro f g hk h0
    obtain ⟨a1, a2⟩ := h0 k (by omega)
    have o23 := (h.1.inv.2.2.2 k (by omega)).2.2
    have next : ∀ (f1 g1 : Nat → Int32), EH nm f1 g1 → (∀ fu n, sX5_markHeld_L118 fu (n + 1) (setH σ f) (nI k) = sX5_markHeld_L118 fu n (setH σ f1) (nI k - 1)) → (∀ fu n, sX6_holds_L160 fu (n + 1) (setK τ g) (nI k) = sX6_holds_L160 fu n (setK τ g1) (nI k - 1)) → ∃ f' g' : Nat → Int32, EH nm f' g' ∧ (∀ fu n, k + 1 < n → sX5_markHeld_L118 fu n (setH σ f) (nI (k + 1) - 1) = some (setH σ f')) ∧ (∀ fu n, k + 1 < n → sX6_holds_L160 fu n (setK τ g) (nI (k + 1) - 1) = some (setK τ g')) := by
      intro f1 g1 h1 q1 q2
      obtain ⟨f', g', e1, e2, e3⟩ := ih f1 g1 (by omega) h1
      refine ⟨f', g', e1, fun fu n hn => ?_, fun fu n hn => ?_⟩
      · obtain ⟨q, rfl⟩ : ∃ q, n = q + 1 := ⟨n - 1, by omega⟩
        rw [nI_pred, q1]
        exact e2 fu q (by omega)
      · obtain ⟨q, rfl⟩ : ∃ q, n = q + 1 := ⟨n - 1, by omega⟩
        rw [nI_pred, q2]
        exact e3 fu q (by omega)
    by_cases c1 : f k = 0
    · refine next f g h0 (fun fu n => ?_) (fun fu n => ?_)
      · rw [sX5_markHeld_L118, if_neg (nI_pos (by omega)), if_pos (gi_nI (by omega) (by omega)), nI_clamp (by omega), show (setH σ f).1 7 k = f k from rfl, if_pos c1, m1_e]
      · rw [sX6_holds_L160, if_neg (nI_pos (by omega)), if_pos (gi_nI (by omega) (by omega)), nI_clamp (by omega), show (setK τ g).1 32 k = g k from rfl, ← a1, if_pos c1, m1_e]
    · by_cases c2 : σ.1 23 k = -1
      · refine next f g h0 (fun fu n => ?_) (fun fu n => ?_)
        · rw [sX5_markHeld_L118, if_neg (nI_pos (by omega)), if_pos (gi_nI (by omega) (by omega)), nI_clamp (by omega), show (setH σ f).1 7 k = f k from rfl, if_neg c1, show (setH σ f).1 23 = σ.1 23 from rfl, if_pos c2, m1_e]
        · rw [sX6_holds_L160, if_neg (nI_pos (by omega)), if_pos (gi_nI (by omega) (by omega)), nI_clamp (by omega), show (setK τ g).1 32 k = g k from rfl, ← a1, if_neg c1, show (setK τ g).1 17 = τ.1 17 from rfl, h.1.e17, if_pos c2, m1_e]
      · obtain ⟨m, hm, em⟩ := o23.iv c2
        refine next (upd f m 1) (upd g m 1) (h0.up m (Or.inr rfl)) (fun fu n => ?_) (fun fu n => ?_)
        · rw [sX5_markHeld_L118, if_neg (nI_pos (by omega)), if_pos (gi_nI (by omega) (by omega)), nI_clamp (by omega), show (setH σ f).1 7 k = f k from rfl, if_neg c1, show (setH σ f).1 23 = σ.1 23 from rfl, if_neg c2, em, if_pos (gi_nI (by omega) (by omega)), nI_clamp (by omega), setH_sA, m1_e]
        · rw [sX6_holds_L160, if_neg (nI_pos (by omega)), if_pos (gi_nI (by omega) (by omega)), nI_clamp (by omega), show (setK τ g).1 32 k = g k from rfl, ← a1, if_neg c1, show (setK τ g).1 17 = τ.1 17 from rfl, h.1.e17, if_neg c2, em, if_pos (gi_nI (by omega) (by omega)), nI_clamp (by omega), setK_sA, m1_e]
theorem h_all (h : RR nf nl nm nt no K σ τ) (hK : K ≤ 511) : ∃ f g : Nat → Int32, EH nm f g ∧ (∀ fu, 1000 ≤ fu → sX5_markHeld fu σ = some (setH σ f)) ∧ (∀ fu, 1000 ≤ fu → sX6_holds fu τ = some (setK τ g)) := by
  have hbm := h.1.bm
  have hbl := h.1.bl
  have hbt := h.2.2.2.2.1.1
  obtain ⟨f1, g1, a1, a2, a3⟩ := h_clear h hK nm (σ.1 7) (τ.1 32) (Nat.le_refl _) (fun m hm => by omega)
  obtain ⟨f2, g2, b1, b2, b3⟩ := h_things h hK nt f1 g1 (Nat.le_refl _) a1
  obtain ⟨f3, g3, c1, c2, c3⟩ := h_loaders h hK nl f2 g2 (Nat.le_refl _) b1
  obtain ⟨f4, g4, d1, d2, d3⟩ := h_parents h hK nm f3 g3 (Nat.le_refl _) c1
  rw [Nat.sub_self, show nI 0 = (0 : Int32) from rfl] at a2 a3 b2 b3
  rw [Nat.sub_self] at c2 c3
  rw [show nI 0 = (0 : Int32) from rfl] at c2
  rw [show nI (31 * 0) = (0 : Int32) from rfl] at c3
  rw [setH_self] at a2
  rw [setK_self] at a3
  refine ⟨f4, g4, d1, fun fu hfu => ?_, fun fu hfu => ?_⟩
  · rw [sX5_markHeld, a2 fu fu (by omega), b2 fu fu (by omega), c2 fu fu (by omega) (by omega), d2 fu fu (by omega)]
  · rw [sX6_holds, a3 fu fu (by omega), b3 fu fu (by omega), c3 fu fu (by omega), d3 fu fu (by omega)]
theorem h_count (h : RR nf nl nm nt no K σ τ) (hK : K ≤ 511) {f g : Nat → Int32} (he : EH nm f g) (x1 : Int32) : ∀ (k : Nat) (x2 : Int32), k ≤ nm → ∃ r : Int32, (∀ fu n, k < n → sX5_held_L22 fu n (setH σ f) x1 x2 (nI (nm - k)) = some (r, setH σ f)) ∧ (∀ fu n, k < n → sX6_held_L19 fu n (setK τ g) x1 x2 (nI (nm - k)) = some (r, setK τ g)) := by
  have hbm := h.1.bm
  intro k
  induction k with
  | zero =>
    intro x2 _
    refine ⟨x2, fun fu n hn => ?_, fun fu n hn => ?_⟩
    · obtain ⟨q, rfl⟩ : ∃ q, n = q + 1 := ⟨n - 1, by omega⟩
      rw [sX5_held_L22, show (setH σ f).2 2 = nI nm from h.1.z2, if_pos (nI_le (by omega) (by omega))]
    · obtain ⟨q, rfl⟩ : ∃ q, n = q + 1 := ⟨n - 1, by omega⟩
      rw [sX6_held_L19, show (setK τ g).2 14 = nI nm from h.1.r14, if_pos (nI_le (by omega) (by omega))]
  | succ k ih =>
    intro x2 hk
    have hm : nm - (k + 1) < nm := by omega
    obtain ⟨a1, a2⟩ := he _ hm
    have hs : nI (nm - (k + 1)) + 1 = nI (nm - k) := by rw [nI_1, show nm - (k + 1) + 1 = nm - k by omega]
    have hd : ∀ fu n, sX5_held_L22 fu (n + 1) (setH σ f) x1 x2 (nI (nm - (k + 1))) = if σ.1 20 (nm - (k + 1)) = x1 then (if f (nm - (k + 1)) = 0 then sX5_held_L22 fu n (setH σ f) x1 x2 (nI (nm - k)) else sX5_held_L22 fu n (setH σ f) x1 (x2 + 1) (nI (nm - k))) else sX5_held_L22 fu n (setH σ f) x1 x2 (nI (nm - k)) := by
      intro fu n
      rw [sX5_held_L22, show (setH σ f).2 2 = nI nm from h.1.z2, if_neg (nI_ge hm (by omega)), if_pos (gi_nI (by omega) (by omega)), nI_clamp (by omega), hs]
      rfl
    have hr : ∀ fu n, sX6_held_L19 fu (n + 1) (setK τ g) x1 x2 (nI (nm - (k + 1))) = if σ.1 20 (nm - (k + 1)) = x1 then (if f (nm - (k + 1)) = 0 then sX6_held_L19 fu n (setK τ g) x1 x2 (nI (nm - k)) else sX6_held_L19 fu n (setK τ g) x1 (x2 + 1) (nI (nm - k))) else sX6_held_L19 fu n (setK τ g) x1 x2 (nI (nm - k)) := by
      intro fu n
      rw [sX6_held_L19, show (setK τ g).2 14 = nI nm from h.1.r14, if_neg (nI_ge hm (by omega)), if_pos (gi_nI (by omega) (by omega)), nI_clamp (by omega), hs, show (setK τ g).1 15 = τ.1 15 from rfl, h.1.e15, show (setK τ g).1 32 = g from rfl, a1]
    obtain ⟨r1, p1, q1⟩ := ih x2 (by omega)
    obtain ⟨r2, p2, q2⟩ := ih (x2 + 1) (by omega)
    by_cases c1 : σ.1 20 (nm - (k + 1)) = x1
    · by_cases c2 : f (nm - (k + 1)) = 0
      · refine ⟨r1, fun fu n hn => ?_, fun fu n hn => ?_⟩
        · obtain ⟨q, rfl⟩ : ∃ q, n = q + 1 := ⟨n - 1, by omega⟩
          rw [hd, if_pos c1, if_pos c2]; exact p1 fu q (by omega)
        · obtain ⟨q, rfl⟩ : ∃ q, n = q + 1 := ⟨n - 1, by omega⟩
          rw [hr, if_pos c1, if_pos c2]; exact q1 fu q (by omega)
      · refine ⟨r2, fun fu n hn => ?_, fun fu n hn => ?_⟩
        · obtain ⟨q, rfl⟩ : ∃ q, n = q + 1 := ⟨n - 1, by omega⟩
          rw [hd, if_pos c1, if_neg c2]; exact p2 fu q (by omega)
        · obtain ⟨q, rfl⟩ : ∃ q, n = q + 1 := ⟨n - 1, by omega⟩
          rw [hr, if_pos c1, if_neg c2]; exact q2 fu q (by omega)
    · refine ⟨r1, fun fu n hn => ?_, fun fu n hn => ?_⟩
      · obtain ⟨q, rfl⟩ : ∃ q, n = q + 1 := ⟨n - 1, by omega⟩
        rw [hd, if_neg c1]; exact p1 fu q (by omega)
      · obtain ⟨q, rfl⟩ : ∃ q, n = q + 1 := ⟨n - 1, by omega⟩
        rw [hr, if_neg c1]; exact q1 fu q (by omega)
end HELD2
theorem c_held (p1 : Int32) : CallOK (fun fu σ => sX5_held fu σ p1) (fun fu τ => sX6_held fu τ p1) := by
  intro K σ τ hS hK
  obtain ⟨nf, nl, nm, nt, no, h⟩ := id hS
  have hbl := h.1.bl
  have hbm := h.1.bm
  rcases ix_or p1 (n := nl) (by omega) with ⟨l, hl, rfl⟩ | hp
  · obtain ⟨f, g, e1, e2, e3⟩ := h_all h hK
    obtain ⟨r, c1, c2⟩ := h_count h hK e1 (nI l) nm 0 (Nat.le_refl _)
    rw [Nat.sub_self, show nI 0 = (0 : Int32) from rfl] at c1 c2
    refine ⟨r, setH σ f, setK τ g, 1000, fun fu hfu => ⟨?_, ?_⟩, SS.more (K := K) ⟨nf, nl, nm, nt, no, h⟩ (by omega)⟩
    · show sX5_held _ _ _ = _
      rw [sX5_held, d1_yes h hl, Option.bind_some, if_neg n10, e2 fu hfu, Option.bind_some]
      exact c1 fu fu (by omega)
    · show sX6_held _ _ _ = _
      rw [sX6_held, rl_yes h hl, Option.bind_some, if_neg n10, e3 fu hfu, Option.bind_some]
      exact c2 fu fu (by omega)
  · refine ⟨-2, σ, τ, 0, fun fu hfu => ⟨?_, ?_⟩, hS.more (by omega)⟩
    · show sX5_held _ _ _ = _
      rw [sX5_held, d1_no h hp, Option.bind_some, if_pos rfl]
    · show sX6_held _ _ _ = _
      rw [sX6_held, rl_no h hp, Option.bind_some, if_pos rfl]
theorem c_isHeld (p1 : Int32) : CallOK (fun fu σ => sX5_isHeld fu σ p1) (fun fu τ => sX6_isHeld fu τ p1) := by
  intro K σ τ hS hK
  obtain ⟨nf, nl, nm, nt, no, h⟩ := id hS
  have hbm := h.1.bm
  rcases ix_or p1 (n := nm) (by omega) with ⟨m, hm, rfl⟩ | hp
  · obtain ⟨f, g, e1, e2, e3⟩ := h_all h hK
    obtain ⟨a1, a2⟩ := e1 m hm
    refine ⟨if f m = 0 then 0 else 1, setH σ f, setK τ g, 1000, fun fu hfu => ⟨?_, ?_⟩, SS.more (K := K) ⟨nf, nl, nm, nt, no, h⟩ (by omega)⟩
    · show sX5_isHeld _ _ _ = _
      rw [sX5_isHeld, d2_yes h (by omega) hm, Option.bind_some, if_neg n10, e2 fu hfu, Option.bind_some, if_pos (gi_nI (by omega) (by omega)), nI_clamp (by omega), show (setH σ f).1 7 m = f m from rfl]
      split <;> rfl
    · show sX6_isHeld _ _ _ = _
      rw [sX6_isHeld, rm_yes h (by omega) hm, Option.bind_some, if_neg n10, e3 fu hfu, Option.bind_some, if_pos (gi_nI (by omega) (by omega)), nI_clamp (by omega), show (setK τ g).1 32 m = g m from rfl, ← a1]
      split <;> rfl
  · refine ⟨-2, σ, τ, 0, fun fu hfu => ⟨?_, ?_⟩, hS.more (by omega)⟩
    · show sX5_isHeld _ _ _ = _
      rw [sX5_isHeld, d2_no h hp, Option.bind_some, if_pos rfl]
    · show sX6_isHeld _ _ _ = _
      rw [sX6_isHeld, rm_no h (by omega) hp, Option.bind_some, if_pos rfl]
