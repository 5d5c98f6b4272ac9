set_option maxHeartbeats 1000000 in
theorem ask_shelf {n nf nl nm K l x dp d f : Nat} {σ τ : MS} (hm : MakeOK n) (h : Rm nf nl nm K σ τ) (hK : K ≤ 511) (hl : l < nl) (hx : x < 31) (hf : f < nf) (hmade : σ.1 17 (31 * l + x) = -1) (hpre : PreA σ l x dp) (hn : 4 * (63 - dp) ≤ n) (hdd : d + 4 * (63 - dp) + 2 ≤ 1300) (h25 : τ.2 25 = nI (d + 1)) (h26 : τ.1 26 d = 0) (h27 : τ.1 27 d = 2) (h28 : τ.1 28 d = nI (31 * l + x)) (hsh : σ.1 16 (31 * l + x) = nI f) :
    ∃ (r g : Int32) (nm' : Nat) (σ' τ' : MS), sRec n 2 σ (nI l) (nI x) (nI f) (nI dp) = some (r, σ') ∧ RT τ τ' ∧ Out nf nl nm nm' K d σ σ' τ τ' r g ∧ (σ.1 13 l = -1 → Lo l σ σ') := by
  have hbl := h.bl
  have hbf := h.bf
  have hdp := hpre.le hx
  have hRT1 : RT τ (pushed (sA τ 27 d 3) (d + 1) 1 (nI (31 * l + x)) (nI f) 0) := by
    refine RT_ask (by omega) h25 h26 h28 ?_
    rw [asks_e (by omega) (by omega) hx, h27, if_neg (by decide), if_neg (by decide), if_pos rfl, h.s10.at (by omega), hsh, if_neg (nI_m1 (by omega)), push_e (d := d + 1) (by omega) (by exact h25)]
    rfl
  have hR1 : Rm nf nl nm K σ (pushed (sA τ 27 d 3) (d + 1) 1 (nI (31 * l + x)) (nI f) 0) := h
  obtain ⟨r, g, nm2, σ2, τ2, s1, s2, ⟨o1, o2, o3, o4, o5, o6⟩, hLo⟩ := hm nf nl nm K K l x f dp (d + 1) σ _ hR1 hK hl hx hf hpre hn (by omega) rfl (by show upd _ _ _ _ = _; exact pk_us) (by show upd _ _ _ _ = _; exact pk_us) (by show upd _ _ _ _ = _; exact pk_us) (by show upd _ _ _ _ = _; exact pk_us) (Or.inl ⟨by show upd _ _ _ _ = _; rw [pk_us]; decide, hmade, Or.inl ⟨by rw [hsh]; exact nI_m1 (by omega), rfl⟩⟩)
  have w : ∀ k, k ∈ [26, 27, 28, 29, 30] → τ2.1 k d = (pushed (sA τ 27 d 3) (d + 1) 1 (nI (31 * l + x)) (nI f) 0).1 k d := fun k hk => o3.2.2.1 k d hk (by omega)
  have f26 : τ2.1 26 d = 0 := by
    rw [w 26 (by decide)]
    show upd (τ.1 26) (d + 1) 1 d = 0
    rw [pk_un (by omega)]; exact h26
  have f27 : τ2.1 27 d = 3 := by
    rw [w 27 (by decide)]
    show upd (upd (τ.1 27) d 3) (d + 1) 0 d = 3
    rw [pk_un (by omega), pk_us]
  have f28 : τ2.1 28 d = nI (31 * l + x) := by
    rw [w 28 (by decide)]
    show upd (τ.1 28) (d + 1) _ d = _
    rw [pk_un (by omega)]; exact h28
  have hX1 : Xr nm nm d τ (pushed (sA τ 27 d 3) (d + 1) 1 (nI (31 * l + x)) (nI f) 0) := (Xr.rf.st (by decide) (Nat.le_refl d) 3).push (by omega) _ _ _ _
  have hX2 : Xr nm nm2 d τ τ2 := Xr.tr (Nat.le_refl _) o2.1 (by omega) hX1 o3
  refine ⟨r, g, nm2, σ2, sZ (sZ τ2 31 g) 25 (nI d), s1, (hRT1.tr s2).tr (RT_ask (by omega) o4 f26 f28 ?_), ⟨o1, o2, (hX2.z (by decide) g).z (by decide) (nI d), rfl, rfl, o6⟩, hLo⟩
  rw [asks_e (by omega) (by omega) hx, f27, if_neg (by decide), if_neg (by decide), if_neg (by decide), if_pos rfl, o5, gives_e o4]
theorem ask_found {nf nl nm K l x d : Nat} {σ τ : MS} (h : Rm nf nl nm K σ τ) (hl : l < nl) (hx : x < 31) (hdd : d < 1300) (h25 : τ.2 25 = nI (d + 1)) (h26 : τ.1 26 d = 0) (h27 : τ.1 27 d = 0) (h28 : τ.1 28 d = nI (31 * l + x)) (hmg : ¬ (if σ.1 17 (31 * l + x) = -1 then σ.1 18 (31 * l + x) else σ.1 17 (31 * l + x)) = -1) :
    ∃ (g : Int32) (τ' : MS), RT τ τ' ∧ Out nf nl nm nm K d σ σ τ τ' (if σ.1 17 (31 * l + x) = -1 then σ.1 18 (31 * l + x) else σ.1 17 (31 * l + x)) g := by
  have hbl := h.bl
  obtain ⟨i16, i17, i18⟩ := h.inv.2.2.1 (31 * l + x) (by omega)
  by_cases c : σ.1 17 (31 * l + x) = -1
  · rw [if_pos c] at hmg ⊢
    obtain ⟨m, hm, e⟩ := i18.iv hmg
    refine ⟨σ.1 18 (31 * l + x), _, RT_ask hdd h25 h26 h28 ?_, Out.gives h (Nat.le_refl _) (by rw [e]; exact Or.inl ⟨m, hm, rfl, rfl⟩)⟩
    rw [asks_e hdd (by omega) hx, if_pos h27, h.s11.at (by omega), if_pos c, h.s12.at (by omega), if_neg hmg, gives_e h25]
  · rw [if_neg c] at hmg ⊢
    obtain ⟨m, hm, e⟩ := i17.iv hmg
    refine ⟨σ.1 17 (31 * l + x), _, RT_ask hdd h25 h26 h28 ?_, Out.gives h (Nat.le_refl _) (by rw [e]; exact Or.inl ⟨m, hm, rfl, rfl⟩)⟩
    rw [asks_e hdd (by omega) hx, if_pos h27, h.s11.at (by omega), if_neg c, gives_e h25]
theorem mg_none {a b : Int32} (h : (if a = -1 then b else a) = -1) : a = -1 ∧ b = -1 := by
  by_cases c : a = -1
  · rw [if_pos c] at h; exact ⟨c, h⟩
  · rw [if_neg c] at h; exact absurd h c
theorem ask_to2 {nf nl nm K l x d : Nat} {σ τ : MS} (h : Rm nf nl nm K σ τ) (hl : l < nl) (hx : x < 31) (hdd : d < 1300) (h25 : τ.2 25 = nI (d + 1)) (h26 : τ.1 26 d = 0) (h27 : τ.1 27 d = 0) (h28 : τ.1 28 d = nI (31 * l + x)) (h17 : σ.1 17 (31 * l + x) = -1) (h18 : σ.1 18 (31 * l + x) = -1) (hno : ¬ (¬ σ.1 13 l = -1 ∧ σ.1 14 l = 0)) : RT τ (sA τ 27 d 2) := by
  have hbl := h.bl
  refine RT_ask hdd h25 h26 h28 ?_
  rw [asks_e hdd (by omega) hx, if_pos h27, h.s11.at (by omega), if_pos h17, h.s12.at (by omega), if_pos h18, h.e7, h.e8, if_neg hno]
theorem ask_none {nf nl nm K l x d : Nat} {σ τ : MS} (h : Rm nf nl nm K σ τ) (hl : l < nl) (hx : x < 31) (hdd : d < 1300) (h25 : τ.2 25 = nI (d + 1)) (h26 : τ.1 26 d = 0) (h27 : τ.1 27 d = 2) (h28 : τ.1 28 d = nI (31 * l + x)) (h16 : σ.1 16 (31 * l + x) = -1) (hno : ¬ (¬ σ.1 13 l = -1 ∧ ¬ σ.1 14 l = 0)) : RT τ (sZ (sZ τ 31 (-1)) 25 (nI d)) := by
  have hbl := h.bl
  refine RT_ask hdd h25 h26 h28 ?_
  rw [asks_e hdd (by omega) hx, h27, if_neg (by decide), if_neg (by decide), if_pos rfl, h.s10.at (by omega), if_pos h16, h.e7, h.e8, if_neg hno, gives_e h25]
set_option maxHeartbeats 1000000 in
theorem ask_l {n : Nat} (hm : MakeOK n) : AskL (n + 1) := by
  intro nf nl nm K l x dp d σ τ z h hK hl hx hlib hpre hn hdd h25 h26 h27 h28
  have hbl := h.bl
  have hbf := h.bf
  have hdp := hpre.le hx
  have e0 : sRec (n + 1) 0 σ (nI l) (nI x) (nI dp) z = bX5_ask (sRec n) σ (nI l) (nI x) (nI dp) := rfl
  rw [e0, askL_e (by omega) hx hlib]
  by_cases c : (if σ.1 17 (31 * l + x) = -1 then σ.1 18 (31 * l + x) else σ.1 17 (31 * l + x)) = -1
  · rw [if_pos c]
    obtain ⟨h17, h18⟩ := mg_none c
    have hRT1 := ask_to2 h hl hx (by omega) h25 h26 h27 h28 h17 h18 (fun q => q.1 hlib)
    have hR1 : Rm nf nl nm K σ (sA τ 27 d 2) := h
    have hX1 : Xr nm nm d τ (sA τ 27 d 2) := Xr.rf.st (by decide) (Nat.le_refl d) 2
    by_cases c2 : σ.1 16 (31 * l + x) = -1
    · rw [if_pos c2]
      refine ⟨-11, -1, nm, σ, sZ (sZ (sA τ 27 d 2) 31 (-1)) 25 (nI d), rfl, hRT1.tr (ask_none hR1 hl hx (by omega) h25 h26 (by show upd _ _ _ _ = _; exact pk_us) h28 c2 (fun q => q.1 hlib)), ⟨h, Xd.rf, (hX1.z (by decide) _).z (by decide) _, rfl, rfl, Or.inr (by decide)⟩, fun _ _ => rfl⟩
    · obtain ⟨f, hf, ef⟩ := ((h.inv.2.2.1 (31 * l + x) (by omega)).1).iv c2
      rw [if_neg c2, ef]
      obtain ⟨r, g, nm2, σ2, τ2, s1, s2, ⟨o1, o2, o3, o4, o5, o6⟩, hLo⟩ := ask_shelf hm hR1 hK hl hx hf h17 hpre (by omega) (by omega) h25 h26 (by show upd _ _ _ _ = _; exact pk_us) h28 ef
      exact ⟨r, g, nm2, σ2, τ2, s1, hRT1.tr s2, ⟨o1, o2, Xr.tr (Nat.le_refl _) o2.1 (Nat.le_refl _) hX1 o3, o4, o5, o6⟩, hLo hlib⟩
  · rw [if_neg c]
    obtain ⟨g, τ', s1, s2⟩ := ask_found h hl hx (by omega) h25 h26 h27 h28 c
    exact ⟨_, g, nm, σ, τ', rfl, s1, s2, fun _ _ => rfl⟩
/-- a program asks its library -/
def LibOK (n : Nat) : Prop := ∀ (nf nl nm K l x k dp d : Nat) (σ τ : MS) (z : Int32), Rm nf nl nm K σ τ → K ≤ 511 → l < nl → x < 31 → k < nl → σ.1 13 l = nI k → σ.1 13 k = -1 → PreA σ l x dp → 4 * (63 - dp) + 2 ≤ n → d + 4 * (63 - dp) + 2 ≤ 1300 → τ.2 25 = nI (d + 1) → τ.1 26 d = 0 → τ.1 27 d = 0 → τ.1 28 d = nI (31 * k + x) →
  ∃ (r g : Int32) (nm' : Nat) (σ2 τ' : MS), sRec n 1 σ (nI l) (nI x) (nI dp) z = some (r, if r < 0 then σ2 else sA σ2 18 (31 * l + x) r) ∧ RT τ τ' ∧ Out nf nl nm nm' K d σ σ2 τ τ' r g ∧ Lo k σ σ2
theorem lib_ok {n : Nat} (hL : AskL n) : LibOK (n + 1) := by
  intro nf nl nm K l x k dp d σ τ z h hK hl hx hk hlk hlib hpre hn hdd h25 h26 h27 h28
  have hbl := h.bl
  have e0 : sRec (n + 1) 1 σ (nI l) (nI x) (nI dp) z = bX5_askLibrary (sRec n) σ (nI l) (nI x) (nI dp) := rfl
  have hpl : ¬ σ.1 13 l = -1 := by rw [hlk]; exact nI_m1 (by omega)
  have hpre2 : PreA σ k x dp := by
    obtain ⟨q1, q2, pf, q3, q4, q5⟩ := hpre
    refine ⟨q2 k x (by omega) hlk hx, fun k' y hk' e _ => absurd (e.symm.trans hlib) (nI_m1 (by omega)), cw w1 (fun i => σ.1 19 (31 * l + i)) 31, ?_, fun q => absurd hlib q, ?_⟩
    · have := cw_le (f := fun i => σ.1 19 (31 * l + i)) w1_le 31
      omega
    · have := q4 hpl
      omega
  obtain ⟨r, g, nm2, σ2, τ2, s1, s2, s3, s4⟩ := hL nf nl nm K k x dp d σ τ 0 h hK hk hx hlib hpre2 (by omega) (by omega) h25 h26 h27 h28
  refine ⟨r, g, nm2, σ2, τ2, ?_, s2, s3, s4⟩
  rw [e0, lib_e (by omega) hx, hlk, s1, Option.bind_some]
  dsimp only
  split <;> rfl
/-- behind a library's answer: it is kept, and given -/
theorem ask_keep {nf nl nm nm' K l x d : Nat} {σ σ2 τ τ2 : MS} {r g : Int32} (hl : l < nl) (hx : x < 31) (hdd : d < 1300) (hnm : nm' < 2 ^ 31) (o : Rm nf nl nm' K σ2 τ2) (oX : Xd nm nm' σ σ2) (oR : Xr nm nm' d τ τ2) (o4 : τ2.2 25 = nI (d + 1)) (o5 : τ2.2 31 = g) (o6 : rg nm' r g) (h26 : τ2.1 26 d = 0) (h28 : τ2.1 28 d = nI (31 * l + x)) (hs : (τ2.1 27 d = 1 ∧ ¬ g = -1) ∨ τ2.1 27 d = 4) :
    ∃ τ', RT τ2 τ' ∧ Out nf nl nm nm' K d σ (if r < 0 then σ2 else sA σ2 18 (31 * l + x) r) τ τ' r g := by
  have hbl := o.bl
  have hk : sX6_asks τ2 (nI d) (nI (31 * l + x)) = sX6_keeps τ2 (nI (31 * l + x)) := by
    rw [asks_e hdd (by omega) hx]
    rcases hs with ⟨a, b⟩ | a
    · rw [a, if_neg (by decide), if_pos rfl, o5, if_neg b]
    · rw [a, if_neg (by decide), if_neg (by decide), if_neg (by decide), if_neg (by decide)]
  rw [keeps_e (d := d) (by omega) o4, o5] at hk
  refine ⟨_, RT_ask hdd o4 h26 h28 hk, ?_⟩
  by_cases c : r < 0
  · obtain ⟨q1, -, -⟩ := o6.neg c hnm
    rw [if_pos c, if_pos q1]
    exact ⟨o, oX, (oR.z (by decide) g).z (by decide) (nI d), rfl, rfl, o6⟩
  · obtain ⟨m, hm, rfl, rfl⟩ := o6.pos c
    rw [if_neg c, if_neg c]
    exact ⟨o.gv (by omega) hm, oX.gv _ _, ((oR.gv _ _).z (by decide) _).z (by decide) (nI d), rfl, rfl, o6⟩
