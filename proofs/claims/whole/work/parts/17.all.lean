set_option maxHeartbeats 1000000 in
theorem ask_above {n nf nl nm K l x k dp d : Nat} {σ τ : MS} {z nx : Int32} (hLi : LibOK n) (h : Rm nf nl nm K σ τ) (hK : K ≤ 511) (hl : l < nl) (hx : x < 31) (hk : k < nl) (hlk : σ.1 13 l = nI k) (hlib : σ.1 13 k = -1) (hpre : PreA σ l x dp) (hn : 4 * (63 - dp) + 2 ≤ n) (hdd : d + 4 * (63 - dp) + 3 ≤ 1300) (h25 : τ.2 25 = nI (d + 1)) (h26 : τ.1 26 d = 0) (h28 : τ.1 28 d = nI (31 * l + x)) :
    ∃ (r g : Int32) (nm' : Nat) (σ2 τ2 : MS), sRec n 1 σ (nI l) (nI x) (nI dp) z = some (r, if r < 0 then σ2 else sA σ2 18 (31 * l + x) r) ∧ RT (pushed (sA τ 27 d nx) (d + 1) 0 (nI (31 * k + x)) (-1) 0) τ2 ∧ Rm nf nl nm' K σ2 τ2 ∧ Xd nm nm' σ σ2 ∧ Xr nm nm' d τ τ2 ∧ τ2.2 25 = nI (d + 1) ∧ τ2.2 31 = g ∧ rg nm' r g ∧ τ2.1 26 d = 0 ∧ τ2.1 27 d = nx ∧ τ2.1 28 d = nI (31 * l + x) ∧ Lo k σ σ2 := by
  have hdp := hpre.le hx
  have hR1 : Rm nf nl nm K σ (pushed (sA τ 27 d nx) (d + 1) 0 (nI (31 * k + x)) (-1) 0) := h
  obtain ⟨r, g, nm2, σ2, τ2, s1, s2, ⟨o1, o2, o3, o4, o5, o6⟩, hLo⟩ := hLi nf nl nm K l x k dp (d + 1) σ _ z hR1 hK hl hx hk hlk hlib hpre hn (by omega) rfl (by show upd _ _ _ _ = _; exact pk_us) (by show upd _ _ _ _ = _; exact pk_us) (by show upd _ _ _ _ = _; exact pk_us)
  have w : ∀ q, q ∈ [26, 27, 28, 29, 30] → τ2.1 q d = (pushed (sA τ 27 d nx) (d + 1) 0 (nI (31 * k + x)) (-1) 0).1 q d := fun q hq => o3.2.2.1 q d hq (by omega)
  have hX1 : Xr nm nm d τ (pushed (sA τ 27 d nx) (d + 1) 0 (nI (31 * k + x)) (-1) 0) := (Xr.rf.st (by decide) (Nat.le_refl d) nx).push (by omega) _ _ _ _
  refine ⟨r, g, nm2, σ2, τ2, s1, s2, o1, o2, Xr.tr (Nat.le_refl _) o2.1 (by omega) hX1 o3, o4, o5, o6, ?_, ?_, ?_, hLo⟩
  · rw [w 26 (by decide)]
    show upd (τ.1 26) (d + 1) _ d = 0
    rw [pk_un (by omega)]; exact h26
  · rw [w 27 (by decide)]
    show upd (upd (τ.1 27) d nx) (d + 1) 0 d = nx
    rw [pk_un (by omega), pk_us]
  · rw [w 28 (by decide)]
    show upd (τ.1 28) (d + 1) _ d = _
    rw [pk_un (by omega)]; exact h28
set_option maxHeartbeats 1000000 in
theorem ask_ok {n : Nat} (hm : MakeOK n) (hLi : LibOK n) : AskOK (n + 1) := by
  intro nf nl nm K l x dp d σ τ z h hK hl hx hpre hn hdd h25 h26 h27 h28
  have hbl := h.bl
  have hbf := h.bf
  have hdp := hpre.le hx
  by_cases hlib : σ.1 13 l = -1
  · obtain ⟨r, g, nm2, σ2, τ2, s1, s2, s3, -⟩ := ask_l hm nf nl nm K l x dp d σ τ z h hK hl hx hlib hpre (by omega) (by omega) h25 h26 h27 h28
    exact ⟨r, g, nm2, σ2, τ2, s1, s2, s3⟩
  have e0 : sRec (n + 1) 0 σ (nI l) (nI x) (nI dp) z = bX5_ask (sRec n) σ (nI l) (nI x) (nI dp) := rfl
  rcases h.inv.2.1 l hl with q | ⟨k, hk, hlk, hkl⟩
  · exact absurd q hlib
  by_cases c : (if σ.1 17 (31 * l + x) = -1 then σ.1 18 (31 * l + x) else σ.1 17 (31 * l + x)) = -1
  · obtain ⟨h17, h18⟩ := mg_none c
    by_cases ho : σ.1 14 l = 0
    · -- the library first
      rw [e0, askP_e (by omega) hx hlib ho, if_pos c]
      have hRT1 : RT τ (pushed (sA τ 27 d 1) (d + 1) 0 (nI (31 * k + x)) (-1) 0) := by
        refine RT_ask (by omega) h25 h26 h28 ?_
        rw [asks_e (by omega) (by omega) hx, if_pos h27, h.s11.at (by omega), if_pos h17, h.s12.at (by omega), if_pos h18, h.e7, h.e8, if_pos ⟨hlib, ho⟩, above_e (k := k) (by omega) (by omega) hx (by rw [h.e7]; exact hlk), push_e (d := d + 1) (by omega) (by exact h25)]
        rfl
      obtain ⟨r, g, nm2, σ2, τ2, s1, s2, o1, o2, o3, o4, o5, o6, f26, f27, f28, hLo⟩ := ask_above (z := 0) (nx := 1) hLi h hK hl hx hk hlk hkl hpre (by omega) (by omega) h25 h26 h28
      have hbm2 := o1.bm
      rw [s1, Option.bind_some]
      dsimp only
      by_cases c2 : r = -11
      · have hr0 : r < 0 := by rw [c2]; decide
        obtain ⟨q1, q2, q3⟩ := o6.neg hr0 (by omega)
        have hg := q2.mp c2
        rw [if_pos c2, if_pos hr0]
        have hRT2 : RT τ2 (sA τ2 27 d 2) := by
          refine RT_ask (by omega) o4 f26 f28 ?_
          rw [asks_e (by omega) (by omega) hx, f27, if_neg (by decide), if_pos rfl, o5, if_pos hg]
        have hR2 : Rm nf nl nm2 K σ2 (sA τ2 27 d 2) := o1
        have hX2 : Xr nm nm2 d τ (sA τ2 27 d 2) := o3.st (by decide) (Nat.le_refl d) 2
        have e16 : σ2.1 16 = σ.1 16 := o2.2.1 16 (by decide)
        have e13 : σ2.1 13 = σ.1 13 := o2.2.1 13 (by decide)
        have e14 : σ2.1 14 = σ.1 14 := o2.2.1 14 (by decide)
        by_cases c3 : σ2.1 16 (31 * l + x) = -1
        · rw [if_pos c3]
          refine ⟨-11, -1, nm2, σ2, sZ (sZ (sA τ2 27 d 2) 31 (-1)) 25 (nI d), rfl, ((hRT1.tr s2).tr hRT2).tr (ask_none hR2 hl hx (by omega) o4 f26 (by show upd _ _ _ _ = _; exact pk_us) f28 c3 (fun q => q.2 (by rw [e14]; exact ho))), ⟨o1, o2, (hX2.z (by decide) _).z (by decide) _, rfl, rfl, Or.inr (by decide)⟩⟩
        · obtain ⟨f, hf, ef⟩ := ((o1.inv.2.2.1 (31 * l + x) (by omega)).1).iv c3
          rw [if_neg c3, ef]
          have hkl2 : k ≠ l := fun e => hlib (by rw [← e]; exact hkl)
          have hmade : σ2.1 17 (31 * l + x) = -1 := by rw [hLo (31 * l + x) (by omega)]; exact h17
          obtain ⟨r3, g3, nm3, σ3, τ3, t1, t2, ⟨p1, p2, p3, p4, p5, p6⟩, -⟩ := ask_shelf hm hR2 hK hl hx hf hmade (hpre.of (o2.2.1 19 (by decide)) e13) (by omega) (by omega) o4 f26 (by show upd _ _ _ _ = _; exact pk_us) f28 ef
          exact ⟨r3, g3, nm3, σ3, τ3, t1, ((hRT1.tr s2).tr hRT2).tr t2, ⟨p1, o2.tr p2, Xr.tr o2.1 p2.1 (Nat.le_refl _) hX2 p3, p4, p5, p6⟩⟩
      · have hg : ¬ g = -1 := by
          intro e
          by_cases hr0 : r < 0
          · exact c2 ((o6.neg hr0 (by omega)).2.1.mpr e)
          · obtain ⟨m, hm1, e1, e2⟩ := o6.pos hr0
            rw [e2] at e
            exact nI_m1 (by omega) e
        rw [if_neg c2]
        obtain ⟨τ', t1, t2⟩ := ask_keep hl hx (by omega) (by omega) o1 o2 o3 o4 o5 o6 f26 f28 (Or.inl ⟨f27, hg⟩)
        exact ⟨r, g, nm2, _, τ', rfl, (hRT1.tr s2).tr t1, t2⟩
    · -- its own first
      rw [e0, askO_e (by omega) hx hlib ho, if_pos c]
      have hRT1 := ask_to2 h hl hx (by omega) h25 h26 h27 h28 h17 h18 (fun q => ho q.2)
      have hR1 : Rm nf nl nm K σ (sA τ 27 d 2) := h
      have hX1 : Xr nm nm d τ (sA τ 27 d 2) := Xr.rf.st (by decide) (Nat.le_refl d) 2
      by_cases c2 : σ.1 16 (31 * l + x) = -1
      · rw [if_pos c2]
        have hRT2 : RT (sA τ 27 d 2) (pushed (sA (sA τ 27 d 2) 27 d 4) (d + 1) 0 (nI (31 * k + x)) (-1) 0) := by
          refine RT_ask (by omega) h25 h26 h28 ?_
          rw [asks_e (by omega) (by omega) hx, show (sA τ 27 d 2).1 27 d = 2 from pk_us, if_neg (by decide), if_neg (by decide), if_pos rfl, hR1.s10.at (by omega), if_pos c2, hR1.e7, hR1.e8, if_pos ⟨hlib, ho⟩, above_e (k := k) (by omega) (by omega) hx (by rw [hR1.e7]; exact hlk), push_e (d := d + 1) (by omega) (by exact h25)]
          rfl
        obtain ⟨r, g, nm2, σ2, τ2, s1, s2, o1, o2, o3, o4, o5, o6, f26, f27, f28, hLo⟩ := ask_above (z := 0) (nx := 4) hLi hR1 hK hl hx hk hlk hkl hpre (by omega) (by omega) h25 h26 h28
        have hbm2 := o1.bm
        obtain ⟨τ', t1, t2⟩ := ask_keep hl hx (by omega) (by omega) o1 o2 (Xr.tr (Nat.le_refl _) o2.1 (Nat.le_refl _) hX1 o3) o4 o5 o6 f26 f28 (Or.inr f27)
        exact ⟨r, g, nm2, _, τ', s1, ((hRT1.tr hRT2).tr s2).tr t1, t2⟩
      · obtain ⟨f, hf, ef⟩ := ((h.inv.2.2.1 (31 * l + x) (by omega)).1).iv c2
        rw [if_neg c2, ef]
        obtain ⟨r, g, nm2, σ2, τ2, s1, s2, ⟨o1, o2, o3, o4, o5, o6⟩, -⟩ := ask_shelf hm hR1 hK hl hx hf h17 hpre (by omega) (by omega) h25 h26 (by show upd _ _ _ _ = _; exact pk_us) h28 ef
        exact ⟨r, g, nm2, σ2, τ2, s1, hRT1.tr s2, ⟨o1, o2, Xr.tr (Nat.le_refl _) o2.1 (Nat.le_refl _) hX1 o3, o4, o5, o6⟩⟩
  · have hd : bX5_ask (sRec n) σ (nI l) (nI x) (nI dp) = some (if σ.1 17 (31 * l + x) = -1 then σ.1 18 (31 * l + x) else σ.1 17 (31 * l + x), σ) := by
      by_cases ho : σ.1 14 l = 0
      · rw [askP_e (by omega) hx hlib ho, if_neg c]
      · rw [askO_e (by omega) hx hlib ho, if_neg c]
    obtain ⟨g, τ', s1, s2⟩ := ask_found h hl hx (by omega) h25 h26 h27 h28 c
    exact ⟨_, g, nm, σ, τ', by rw [e0, hd], s1, s2⟩
theorem rec_all : ∀ n, AskOK n ∧ AskL n ∧ MakeOK n ∧ LibOK n := by
  intro n
  induction n with
  | zero =>
    refine ⟨?_, ?_, ?_, ?_⟩
    · intro nf nl nm K l x dp d σ τ z h hK hl hx hpre hn; omega
    · intro nf nl nm K l x dp d σ τ z h hK hl hx hlib hpre hn; omega
    · intro nf nl nm K K' l x f dp d σ τ h hK hl hx hf hpre hn
      have := hpre.le hx
      omega
    · intro nf nl nm K l x k dp d σ τ z h hK hl hx hk hlk hlib hpre hn; omega
  | succ n ih =>
    obtain ⟨i1, i2, i3, i4⟩ := ih
    exact ⟨ask_ok i3 i4, ask_l i3, make_ok i2 i1, lib_ok i2⟩
