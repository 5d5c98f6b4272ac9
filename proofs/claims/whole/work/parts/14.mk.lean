theorem keeps_e {τ : MS} {j d : Nat} (hj : j < 310) (hd : τ.2 25 = nI (d + 1)) : sX6_keeps τ (nI j) = some (sZ (sZ (if τ.2 31 < 0 then τ else sA τ 12 j (τ.2 31)) 31 (τ.2 31)) 25 (nI d)) := by
  rw [sX6_keeps]
  simp only [if_pos (gi_nI hj (show 310 < 2 ^ 31 by omega)), nI_clamp (show j < 2 ^ 31 by omega), sA_self (τ := τ) (k := 12) (i := j) rfl]
  split
  · rw [gives_e hd]; rfl
  · rw [gives_e (d := d) (by exact hd)]; rfl
theorem above_e {τ : MS} {d l x k : Nat} (hd : d < 1300) (hl : l < 10) (hx : x < 31) (hk : τ.1 7 l = nI k) (nx : Int32) : sX6_asksAbove τ (nI d) (nI (31 * l + x)) nx = sX6_push (sA τ 27 d nx) 0 (nI (31 * k + x)) (-1) 0 := by
  rw [sX6_asksAbove, if_pos (gi_nI hd (by omega)), slot_div hl hx, if_pos (gi_nI hl (by omega)), nI_clamp (by omega), nI_clamp (by omega), hk, slot_mod2 hl hx, slot_e, ob_id]
theorem asks_e {τ : MS} {d l x : Nat} (hd : d < 1300) (hl : l < 10) (hx : x < 31) : sX6_asks τ (nI d) (nI (31 * l + x)) =
    if τ.1 27 d = 0 then (if τ.1 11 (31 * l + x) = -1 then (if τ.1 12 (31 * l + x) = -1 then (if ¬ τ.1 7 l = -1 ∧ τ.1 8 l = 0 then sX6_asksAbove τ (nI d) (nI (31 * l + x)) 1 else some (sA τ 27 d 2)) else sX6_gives τ (τ.1 12 (31 * l + x))) else sX6_gives τ (τ.1 11 (31 * l + x)))
    else if τ.1 27 d = 1 then (if τ.2 31 = -1 then some (sA τ 27 d 2) else sX6_keeps τ (nI (31 * l + x)))
    else if τ.1 27 d = 2 then (if τ.1 10 (31 * l + x) = -1 then (if ¬ τ.1 7 l = -1 ∧ ¬ τ.1 8 l = 0 then sX6_asksAbove τ (nI d) (nI (31 * l + x)) 4 else sX6_gives τ (-1)) else sX6_push (sA τ 27 d 3) 1 (nI (31 * l + x)) (τ.1 10 (31 * l + x)) 0)
    else if τ.1 27 d = 3 then sX6_gives τ (τ.2 31) else sX6_keeps τ (nI (31 * l + x)) := by
  rw [sX6_asks]
  simp only [slot_div hl hx, if_pos (gi_nI hl (show 10 < 2 ^ 31 by omega)), if_pos (gi_nI hd (show 1300 < 2 ^ 31 by omega)), if_pos (gi_nI (show 31 * l + x < 310 by omega) (show 310 < 2 ^ 31 by omega)), nI_clamp (show l < 2 ^ 31 by omega), nI_clamp (show d < 2 ^ 31 by omega), nI_clamp (show 31 * l + x < 2 ^ 31 by omega), ob_id]
  by_cases a1 : τ.1 7 l = -1 <;> by_cases a2 : τ.1 8 l = 0 <;> simp only [a1, a2, if_true, if_false, not_true, not_false_eq_true, and_true, true_and, and_false, false_and, and_self]
theorem makes0_e {τ : MS} {d l x f : Nat} (hd : d < 1300) (hl : l < 10) (hx : x < 31) (hf : f < 40) (hp : ov (τ.1 3 f) 31) (h0 : τ.1 27 d = 0) : sX6_makes τ (nI d) (nI (31 * l + x)) (nI f) = if AG τ d l x f ≤ 0 then (if τ.1 3 f = -1 then sX6_stands τ (nI (31 * l + x)) (nI f) (-1) else sX6_push (sA (sA τ 13 (31 * l + x) 1) 27 d 1) 0 (nI (31 * l + x) - nI x + τ.1 3 f) (-1) 0) else sX6_gives τ (-(AG τ d l x f)) := by
  rw [sX6_makes, if_pos (gi_nI hd (by omega)), nI_clamp (by omega), if_pos h0, ag_e hd hl hx hf hp, Option.bind_some]
  simp only [slot_div hl hx, slot_mod2 hl hx, if_pos (gi_nI hf (show 40 < 2 ^ 31 by omega)), if_pos (gi_nI (show 31 * l + x < 310 by omega) (show 310 < 2 ^ 31 by omega)), nI_clamp (show f < 2 ^ 31 by omega), nI_clamp (show d < 2 ^ 31 by omega), nI_clamp (show 31 * l + x < 2 ^ 31 by omega), ob_id]
theorem makes1_e {τ : MS} {d j f : Nat} (hd : d < 1300) (hj : j < 310) (h0 : ¬ τ.1 27 d = 0) : sX6_makes τ (nI d) (nI j) (nI f) = if 0 ≤ τ.2 31 then sX6_stands (sA τ 13 j 0) (nI j) (nI f) (τ.2 31) else sX6_gives (sA τ 13 j 0) (τ.2 31) := by
  rw [sX6_makes, if_pos (gi_nI hd (by omega)), nI_clamp (by omega), if_neg h0, if_pos (gi_nI hj (by omega)), nI_clamp (by omega), ob_id, ob_id]
/-- Rm under stores that it doesn't see, and under those that come on both sides -/
theorem Rm.mk {nf nl nm K : Nat} {σ τ : MS} (h : Rm nf nl nm K σ τ) (j : Nat) (v : Int32) : Rm nf nl nm K (sA σ 19 j v) (sA τ 13 j v) := by
  obtain ⟨⟨h8, h9, h10, h11, h12⟩, ⟨h13, h14, h15, h19⟩, h3, h4, h5, h6, h7, h8'⟩ := h
  exact ⟨⟨h8, h9, h10, h11, h12⟩, ⟨h13, h14, h15, congrArg (fun z => upd z j v) h19⟩, h3, h4, h5, h6, h7, h8'⟩
theorem Rm.gv {nf nl nm K : Nat} {σ τ : MS} (h : Rm nf nl nm K σ τ) {j m : Nat} (hj : j < 31 * nl) (hm : m < nm) : Rm nf nl nm K (sA σ 18 j (nI m)) (sA τ 12 j (nI m)) := by
  obtain ⟨h1, h2, h3, ⟨hs16, hs17, hs18⟩, h5, h6, h7, ⟨hi1, hi2, hi3, hi4⟩⟩ := h
  refine ⟨h1, h2, h3, ⟨hs16, hs17, hs18.upd hj _⟩, h5, h6, h7, ⟨hi1, hi2, fun i hi => ?_, hi4⟩⟩
  obtain ⟨a1, a2, a3⟩ := hi3 i hi
  refine ⟨a1, a2, ?_⟩
  show ov (upd (σ.1 18) j (nI m) i) nm
  rw [upd_at]
  split
  · exact Or.inr ⟨m, hm, rfl⟩
  · exact a3
theorem Xr.z {nm nm' d : Nat} {τ τ' : MS} (h : Xr nm nm' d τ τ') {k : Nat} (hk : k ∈ [14, 25, 31]) (v : Int32) : Xr nm nm' d τ (sZ τ' k v) := by
  obtain ⟨h1, h2, h3, h4⟩ := h
  exact ⟨h1, fun q hq => (sZ_ne _ _ (fun e => hq (by rw [e]; exact hk))).trans (h2 q hq), h3, h4⟩
theorem Xr.st {nm nm' d : Nat} {τ τ' : MS} (h : Xr nm nm' d τ τ') {k : Nat} (hk : k ∈ [26, 27, 28, 29, 30]) {i : Nat} (hi : d ≤ i) (v : Int32) : Xr nm nm' d τ (sA τ' k i v) := by
  obtain ⟨h1, h2, h3, h4⟩ := h
  have hk' : k ∈ [11, 12, 15, 16, 17, 18, 19, 26, 27, 28, 29, 30] := by
    simp only [List.mem_cons, List.not_mem_nil, or_false] at hk ⊢
    omega
  have h19 : 19 ≠ k := by
    simp only [List.mem_cons, List.not_mem_nil, or_false] at hk
    omega
  refine ⟨fun q hq => (sA_ne _ _ _ (fun e => hq (by rw [e]; exact hk'))).trans (h1 q hq), h2, fun q j hq hj => ?_, fun j => ?_⟩
  · rw [sA_at]
    split
    · next e => subst e; rw [upd_at, if_neg (by omega)]; exact h3 q j hq hj
    · exact h3 q j hq hj
  · rw [sA_ne _ _ _ h19]; exact h4 j
theorem Xr.gv {nm nm' d : Nat} {τ τ' : MS} (h : Xr nm nm' d τ τ') (i : Nat) (v : Int32) : Xr nm nm' d τ (sA τ' 12 i v) := by
  obtain ⟨h1, h2, h3, h4⟩ := h
  refine ⟨fun q hq => (sA_ne _ _ _ (fun e => hq (by rw [e]; decide))).trans (h1 q hq), h2, fun q j hq hj => ?_, h4⟩
  have : q ≠ 12 := by
    simp only [List.mem_cons, List.not_mem_nil, or_false] at hq
    omega
  rw [sA_ne _ _ _ this]
  exact h3 q j hq hj
theorem Xd.gv {nm nm' : Nat} {σ σ' : MS} (h : Xd nm nm' σ σ') (i : Nat) (v : Int32) : Xd nm nm' σ (sA σ' 18 i v) := by
  obtain ⟨h1, h2, h3, h4, h5, h6⟩ := h
  exact ⟨h1, fun q hq => (sA_ne _ _ _ (fun e => hq (by rw [e]; decide))).trans (h2 q hq), h3, h4, h5, h6⟩
/-- the pushed frame -/
def pushed (τ : MS) (d : Nat) (p1 p2 p3 p4 : Int32) : MS := sZ (sA (sA (sA (sA (sA τ 26 d p1) 27 d 0) 28 d p2) 29 d p3) 30 d (vp_nar .boolean p4)) 25 (nI (d + 1))
theorem Xr.push {nm nm' d i : Nat} {τ τ' : MS} (h : Xr nm nm' d τ τ') (hi : d ≤ i) (p1 p2 p3 p4 : Int32) : Xr nm nm' d τ (pushed τ' i p1 p2 p3 p4) :=
  (((((h.st (by decide) hi p1).st (by decide) hi 0).st (by decide) hi p2).st (by decide) hi p3).st (by decide) hi (vp_nar .boolean p4)).z (by decide) (nI (i + 1))
theorem gave_e {τ : MS} {d : Nat} (v : Int32) : (sZ (sZ τ 31 v) 25 (nI d)).2 31 = v ∧ (sZ (sZ τ 31 v) 25 (nI d)).2 25 = nI d := ⟨rfl, rfl⟩
/-- what must hold of the makings that go on -/
def PreA (σ : MS) (l x dp : Nat) : Prop := σ.1 19 (31 * l + x) = 0 ∧ (∀ k y, k < 10 → σ.1 13 l = nI k → y < 31 → σ.1 19 (31 * k + y) = 0) ∧ ∃ pf, pf ≤ 31 ∧ (¬ σ.1 13 l = -1 → pf = 0) ∧ dp ≤ pf + cw w1 (fun i => σ.1 19 (31 * l + i)) 31
theorem PreA.le {σ : MS} {l x dp : Nat} (h : PreA σ l x dp) (hx : x < 31) : dp ≤ 61 := by
  obtain ⟨h1, -, pf, h2, -, h3⟩ := h
  have : cw w1 (fun i => σ.1 19 (31 * l + i)) 31 < 1 * 31 := cw_lt w1_le hx (by show w1 (σ.1 19 (31 * l + x)) < 1; rw [h1]; decide)
  omega
theorem PreA.of {σ σ' : MS} {l x dp : Nat} (h : PreA σ l x dp) (h1 : σ'.1 19 = σ.1 19) (h2 : σ'.1 13 = σ.1 13) : PreA σ' l x dp := by
  unfold PreA at h ⊢
  rw [h1, h2]
  exact h
/-- made changes at the loader's own names alone -/
def Lo (l : Nat) (σ σ' : MS) : Prop := ∀ j, (j < 31 * l ∨ 31 * l + 31 ≤ j) → σ'.1 17 j = σ.1 17 j
def AskOK (n : Nat) : Prop := ∀ (nf nl nm K l x dp d : Nat) (σ τ : MS) (z : Int32), Rm nf nl nm K σ τ → K ≤ 511 → l < nl → x < 31 → PreA σ l x dp → 4 * (63 - dp) + 3 ≤ n → d + 4 * (63 - dp) + 3 ≤ 1300 → τ.2 25 = nI (d + 1) → τ.1 26 d = 0 → τ.1 27 d = 0 → τ.1 28 d = nI (31 * l + x) →
  ∃ (r g : Int32) (nm' : Nat) (σ' τ' : MS), sRec n 0 σ (nI l) (nI x) (nI dp) z = some (r, σ') ∧ RT τ τ' ∧ Out nf nl nm nm' K d σ σ' τ τ' r g
def AskL (n : Nat) : Prop := ∀ (nf nl nm K l x dp d : Nat) (σ τ : MS) (z : Int32), Rm nf nl nm K σ τ → K ≤ 511 → l < nl → x < 31 → σ.1 13 l = -1 → PreA σ l x dp → 4 * (63 - dp) + 1 ≤ n → d + 4 * (63 - dp) + 2 ≤ 1300 → τ.2 25 = nI (d + 1) → τ.1 26 d = 0 → τ.1 27 d = 0 → τ.1 28 d = nI (31 * l + x) →
  ∃ (r g : Int32) (nm' : Nat) (σ' τ' : MS), sRec n 0 σ (nI l) (nI x) (nI dp) z = some (r, σ') ∧ RT τ τ' ∧ Out nf nl nm nm' K d σ σ' τ τ' r g ∧ Lo l σ σ'
def MakeOK (n : Nat) : Prop := ∀ (nf nl nm K K' l x f dp d : Nat) (σ τ : MS), Rm nf nl nm K σ τ → K ≤ 511 → l < nl → x < 31 → f < nf → PreA σ l x dp → 4 * (63 - dp) ≤ n → d + 4 * (63 - dp) + 1 ≤ 1300 → τ.2 25 = nI (d + 1) → τ.1 26 d = 1 → τ.1 27 d = 0 → τ.1 28 d = nI (31 * l + x) → τ.1 29 d = nI f → ((τ.1 30 d = 0 ∧ σ.1 17 (31 * l + x) = -1 ∧ ((¬ σ.1 16 (31 * l + x) = -1 ∧ K' = K) ∨ K' = K + 1)) ∨ (¬ τ.1 30 d = 0 ∧ K' = K + 1)) →
  ∃ (r g : Int32) (nm' : Nat) (σ' τ' : MS), sRec n 2 σ (nI l) (nI x) (nI f) (nI dp) = some (r, σ') ∧ RT τ τ' ∧ Out nf nl nm nm' K' d σ σ' τ τ' r g ∧ (σ.1 13 l = -1 → Lo l σ σ')
theorem Out.gives {nf nl nm K K' d : Nat} {σ τ : MS} {r g : Int32} (h : Rm nf nl nm K σ τ) (hK : K ≤ K') (hg : rg nm r g) : Out nf nl nm nm K' d σ σ τ (sZ (sZ τ 31 g) 25 (nI d)) r g :=
  ⟨h.more hK, Xd.rf, (Xr.rf.z (by decide) g).z (by decide) (nI d), rfl, rfl, hg⟩
theorem Xd_mk {nm nm' j : Nat} {σ σ' : MS} (hj : σ.1 19 j = 0) (h : Xd nm nm' (sA σ 19 j 1) σ') : Xd nm nm' σ (sA σ' 19 j 0) := by
  obtain ⟨h1, h2, h3, h4, h5, h6⟩ := h
  refine ⟨h1, fun k hk => ?_, h3, h4, h5, fun i hi => ?_⟩
  · by_cases e : k = 19
    · subst e
      rw [sA_eq, h2 19 (by decide), sA_eq]
      exact upd_back hj
    · rw [sA_ne _ _ _ e, h2 k hk, sA_ne _ _ _ e]
  · refine h6 i ?_
    rw [sA_eq, upd_at]
    split
    · decide
    · exact hi
theorem Xr_mk {nm nm' j d : Nat} {τ τ' : MS} {p1 p2 p3 p4 : Int32} (hj : τ.1 13 j = 0) (h : Xr nm nm' (d + 1) (pushed (sA (sA τ 13 j 1) 27 d 1) (d + 1) p1 p2 p3 p4) τ') : Xr nm nm' d τ (sA τ' 13 j 0) := by
  have hp : Xr nm nm d (sA τ 13 j 1) (pushed (sA (sA τ 13 j 1) 27 d 1) (d + 1) p1 p2 p3 p4) := (Xr.rf.st (by decide) (Nat.le_refl d) 1).push (by omega) p1 p2 p3 p4
  obtain ⟨h1, h2, h3, h4⟩ := h
  obtain ⟨g1, g2, g3, g4⟩ := hp
  refine ⟨fun k hk => ?_, fun k hk => (h2 k hk).trans (g2 k hk), fun k i hk hi => ?_, fun i => ?_⟩
  · by_cases e : k = 13
    · subst e
      rw [sA_eq, h1 13 (by decide), g1 13 (by decide), sA_eq]
      exact upd_back hj
    · rw [sA_ne _ _ _ e, h1 k hk, g1 k hk, sA_ne _ _ _ e]
  · have e : k ≠ 13 := by
      simp only [List.mem_cons, List.not_mem_nil, or_false] at hk
      omega
    rw [sA_ne _ _ _ e, h3 k i hk (by omega), g3 k i hk hi, sA_ne _ _ _ e]
  · rw [sA_ne _ _ _ (by decide), h4 i, g4 i, sA_ne _ _ _ (by decide)]
    by_cases e : nm ≤ i ∧ i < nm'
    · rw [if_pos e, if_pos e]
    · rw [if_neg e, if_neg e, if_neg (by omega)]
theorem cw_own {m : Nat → Int32} {l x : Nat} (hx : x < 31) (h0 : m (31 * l + x) = 0) : cw w1 (fun i => upd m (31 * l + x) 1 (31 * l + i)) 31 = cw w1 (fun i => m (31 * l + i)) 31 + 1 := by
  have e : (fun i => upd m (31 * l + x) 1 (31 * l + i)) = upd (fun i => m (31 * l + i)) x 1 := by
    funext i
    rw [upd_at, upd_at]
    by_cases h : i = x
    · rw [if_pos (by omega), if_pos h]
    · rw [if_neg (by omega), if_neg h]
  have h1 : cw w1 (upd (fun i => m (31 * l + i)) x 1) 31 + w1 (m (31 * l + x)) = cw w1 (fun i => m (31 * l + i)) 31 + w1 1 := cw_upd hx
  rw [e]
  have h2 : w1 (m (31 * l + x)) = 0 := by rw [h0]; rfl
  have h3 : w1 1 = 1 := by decide
  omega
