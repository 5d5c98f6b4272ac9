theorem makeF_e {fr : Nat → MS → Int32 → Int32 → Int32 → Int32 → Option (Int32 × MS)} {σ : MS} {l x f : Nat} {p : Int32} (hl : l < 10) (hx : x < 31) (hf : f < 40) (h : ¬ FA σ l x f = 1) : bX5_make fr σ (nI l) (nI x) (nI f) p = some (FA σ l x f, σ) := by
  rw [bX5_make, fa_e hl hx hf, Option.bind_some, if_neg h]
theorem make0_e {fr : Nat → MS → Int32 → Int32 → Int32 → Int32 → Option (Int32 × MS)} {σ : MS} {l x f : Nat} {p : Int32} (hl : l < 10) (hx : x < 31) (hf : f < 40) (h : FA σ l x f = 1) (h0 : σ.1 10 f = -1) : bX5_make fr σ (nI l) (nI x) (nI f) p = sX5_stand σ (nI l) (nI x) (nI f) (-1) := by
  rw [bX5_make, fa_e hl hx hf, Option.bind_some, if_pos h, if_pos (gi_nI hf (by omega)), nI_clamp (by omega), if_pos h0, ob_pr]
theorem makeP_e {fr : Nat → MS → Int32 → Int32 → Int32 → Int32 → Option (Int32 × MS)} {σ : MS} {l x f pn : Nat} {p : Int32} (hl : l < 10) (hx : x < 31) (hf : f < 40) (hpn : pn < 31) (h : FA σ l x f = 1) (h0 : σ.1 10 f = nI pn) : bX5_make fr σ (nI l) (nI x) (nI f) p = if upd (σ.1 19) (31 * l + x) 1 (31 * l + pn) = 0 then (if p < 62 then ((fr 0 (sA σ 19 (31 * l + x) 1) (nI l) (nI pn) (p + 1) 0).bind fun q => if q.1 < 0 then some (q.1, sA q.2 19 (31 * l + x) 0) else sX5_stand (sA q.2 19 (31 * l + x) 0) (nI l) (nI x) (nI f) q.1) else some (-15, sA (sA σ 19 (31 * l + x) 1) 19 (31 * l + x) 0)) else some (-15, sA (sA σ 19 (31 * l + x) 1) 19 (31 * l + x) 0) := by
  rw [bX5_make, fa_e hl hx hf, Option.bind_some, if_pos h, if_pos (gi_nI hf (by omega)), nI_clamp (by omega), h0, if_neg (nI_m1 (by omega))]
  simp only [sX5_slot, Option.bind_some, slot_e2, if_pos (gi_nI (show 31 * l + x < 310 by omega) (show 310 < 2 ^ 31 by omega)), nI_clamp (show 31 * l + x < 2 ^ 31 by omega), if_pos (gi_nI (show 31 * l + pn < 310 by omega) (show 310 < 2 ^ 31 by omega)), nI_clamp (show 31 * l + pn < 2 ^ 31 by omega), sA_eq, ob_pr]
theorem sA_back {σ : MS} {k j : Nat} {x y : Int32} (h : σ.1 k j = x) : sA (sA σ k j y) k j x = σ := by
  have h1 : (sA (sA σ k j y) k j x).1 = σ.1 := by
    funext k'
    by_cases e : k' = k
    · subst e; rw [sA_eq, sA_eq]; exact upd_back h
    · rw [sA_ne _ _ _ e, sA_ne _ _ _ e]
  exact Prod.ext h1 rfl
theorem nb0 : vp_nar .boolean 0 = 0 := by decide
theorem nb1 : vp_nar .boolean 1 = 1 := by decide
set_option maxHeartbeats 1000000 in
theorem make_ok {n : Nat} (ihL : AskL n) (ih : AskOK n) : MakeOK (n + 1) := by
  intro nf nl nm K K' l x f dp d σ τ h hK hl hx hf hpre hn hdd h25 h26 h27 h28 h29 hm
  have hbl := h.bl
  have hbf := h.bf
  have hbm := h.bm
  have hdp := hpre.le hx
  obtain ⟨hfl, hP2, pf, hpf, hpf0, hpf1⟩ := id hpre
  obtain ⟨i8, i10, i11, i12⟩ := h.inv.1 f hf
  have hKK : K ≤ K' := by omega
  have h3 : ov (τ.1 3 f) 31 := by rw [h.e3]; exact i10
  have e0 : sRec (n + 1) 2 σ (nI l) (nI x) (nI f) (nI dp) = bX5_make (sRec n) σ (nI l) (nI x) (nI f) (nI dp) := rfl
  have hag : AG τ d l x f = if σ.1 8 f = nI x then (if x < 4 ∧ ¬ σ.1 13 l = -1 then 4 else if (σ.1 12 f &&& 1) = 1 then 6 else if σ.1 10 f = -1 then 0 else if σ.1 10 f = nI x then 5 else if σ.1 19 (((nI (31 * l + x) - nI x) + σ.1 10 f).toNatClampNeg) = 0 then 0 else 5) else 3 := by
    rw [AG, if_neg ?_, h.e1, h.e7, h.e5, h.e3, h.e13]
    intro hh
    rcases hm with ⟨a1, a2, a3⟩ | ⟨a1, a2⟩
    · exact hh.2 (by rw [h.s11.at (by omega)]; exact a2)
    · exact a1 hh.1
  have hmk := makes0_e (τ := τ) (d := d) (l := l) (x := x) (f := f) (by omega) (by omega) hx (by omega) h3 h27
  -- a failure ahead
  have bad : ∀ (r g : Int32) (a : Int32), FA σ l x f = r → ¬ r = 1 → AG τ d l x f = a → ¬ a ≤ 0 → -a = g → rg nm r g → ∃ (r g : Int32) (nm' : Nat) (σ' τ' : MS), sRec (n + 1) 2 σ (nI l) (nI x) (nI f) (nI dp) = some (r, σ') ∧ RT τ τ' ∧ Out nf nl nm nm' K' d σ σ' τ τ' r g ∧ (σ.1 13 l = -1 → Lo l σ σ') := by
    intro r g a q1 q2 q3 q4 q5 q6
    refine ⟨r, g, nm, σ, sZ (sZ τ 31 g) 25 (nI d), ?_, ?_, Out.gives h hKK q6, fun _ _ _ => rfl⟩
    · rw [e0, makeF_e (by omega) hx (by omega) (by rw [q1]; exact q2), q1]
    · refine RT_make (by omega) h25 h26 h28 h29 ?_
      rw [hmk, q3, if_neg q4, q5, gives_e h25]
  by_cases c1 : σ.1 8 f = nI x
  · by_cases c2 : x < 4 ∧ ¬ σ.1 13 l = -1
    · exact bad (-14) (-4) 4 (by rw [FA, if_pos c1, if_pos c2]) (by decide) (by rw [hag, if_pos c1, if_pos c2]) (by decide) (by decide) (Or.inr (by decide))
    · by_cases c3 : (σ.1 12 f &&& 1) = 0
      · have hFA : FA σ l x f = 1 := by rw [FA, if_pos c1, if_neg c2, if_pos c3]
        have c3' : ¬ (σ.1 12 f &&& 1) = 1 := by rw [c3]; decide
        by_cases c4 : σ.1 10 f = -1
        · obtain ⟨σ', τ', s1, s2, s3, s4⟩ := stand_ok (K' := K') (pv := -1) h hK hl hx hf ov_n1 (by rcases hm with ⟨a1, a2, ⟨a3, a4⟩ | a4⟩ | ⟨a1, a2⟩; exact Or.inl ⟨a2, a3, a4⟩; exact Or.inr a4; exact Or.inr a2) hfl h25
          refine ⟨nI nm, nI nm, nm + 1, σ', τ', ?_, ?_, s3, fun hp j hj => ?_⟩
          · rw [e0, make0_e (by omega) hx (by omega) hFA c4, s1]
          · refine RT_make (by omega) h25 h26 h28 h29 ?_
            rw [hmk, hag, if_pos c1, if_neg c2, if_neg c3', if_pos c4, if_pos (by decide), h.e3, if_pos c4, s2]
          · exact s4 j (by omega)
        · obtain ⟨pn, hpn, epn⟩ := i10.iv c4
          have hag2 : AG τ d l x f = if nI pn = nI x then 5 else if σ.1 19 (31 * l + pn) = 0 then 0 else 5 := by
            rw [hag, if_pos c1, if_neg c2, if_neg c3', if_neg c4, epn, slot_sub (by omega) hx, nI_clamp (by omega)]
          have hring : upd (σ.1 19) (31 * l + x) 1 (31 * l + pn) = if nI pn = nI x then 1 else σ.1 19 (31 * l + pn) := by
            rw [upd_at]
            by_cases e : pn = x
            · rw [if_pos (by omega), if_pos (by rw [e])]
            · rw [if_neg (by omega), if_neg (fun q => e ((nI_eq (by omega) (by omega)).mp q))]
          by_cases c5 : upd (σ.1 19) (31 * l + x) 1 (31 * l + pn) = 0
          · -- the parent is asked for
            have hpx : ¬ nI pn = nI x := fun q => by rw [hring, if_pos q] at c5; exact absurd c5 (by decide)
            have hfp : σ.1 19 (31 * l + pn) = 0 := by rw [hring, if_neg hpx] at c5; exact c5
            have hR1 : Rm nf nl nm K (sA σ 19 (31 * l + x) 1) (pushed (sA (sA τ 13 (31 * l + x) 1) 27 d 1) (d + 1) 0 (nI (31 * l + pn)) (-1) 0) := h.mk (31 * l + x) 1
            have hpre1 : PreA (sA σ 19 (31 * l + x) 1) l pn (dp + 1) := by
              refine ⟨by rw [sA_eq]; exact c5, fun k y hk10 hk hy => ?_, pf, hpf, fun hq => hpf0 hq, ?_⟩
              · have hk' : σ.1 13 l = nI k := hk
                rw [sA_eq, upd_at, if_neg ?_]
                · exact hP2 k y hk10 hk' hy
                · intro e
                  rcases h.inv.2.1 l hl with q | ⟨k', q1, q2, q3⟩
                  · rw [q] at hk'
                    by_cases hkb : k < 2 ^ 31
                    · exact nI_m1 hkb hk'.symm
                    · omega
                  · have : k' = l ∨ k' ≠ l := by omega
                    rcases this with e2 | e2
                    · rw [e2] at q2 q3
                      rw [q3] at q2
                      exact nI_m1 (by omega) q2.symm
                    · by_cases hkb : k < 2 ^ 31
                      · have := (nI_eq (show k' < 2 ^ 31 by omega) hkb).mp (q2.symm.trans hk')
                        omega
                      · omega
              · show dp + 1 ≤ pf + cw w1 (fun i => upd (σ.1 19) (31 * l + x) 1 (31 * l + i)) 31
                rw [cw_own hx hfl]
                omega
            have nested : ∃ (r g : Int32) (nm' : Nat) (σ' τ' : MS), sRec n 0 (sA σ 19 (31 * l + x) 1) (nI l) (nI pn) (nI (dp + 1)) 0 = some (r, σ') ∧ RT (pushed (sA (sA τ 13 (31 * l + x) 1) 27 d 1) (d + 1) 0 (nI (31 * l + pn)) (-1) 0) τ' ∧ Out nf nl nm nm' K (d + 1) (sA σ 19 (31 * l + x) 1) σ' (pushed (sA (sA τ 13 (31 * l + x) 1) 27 d 1) (d + 1) 0 (nI (31 * l + pn)) (-1) 0) τ' r g ∧ (σ.1 13 l = -1 → Lo l (sA σ 19 (31 * l + x) 1) σ') := by
              by_cases hlib : σ.1 13 l = -1
              · obtain ⟨r2, g2, nm2, σ2, τ2, s1, s2, s3, s4⟩ := ihL nf nl nm K l pn (dp + 1) (d + 1) _ _ 0 hR1 hK hl hpn hlib hpre1 (by omega) (by omega) rfl (by show upd _ _ _ _ = _; exact pk_us) (by show upd _ _ _ _ = _; exact pk_us) (by show upd _ _ _ _ = _; exact pk_us)
                exact ⟨r2, g2, nm2, σ2, τ2, s1, s2, s3, fun _ => s4⟩
              · obtain ⟨r2, g2, nm2, σ2, τ2, s1, s2, s3⟩ := ih nf nl nm K l pn (dp + 1) (d + 1) _ _ 0 hR1 hK hl hpn hpre1 (by omega) (by omega) rfl (by show upd _ _ _ _ = _; exact pk_us) (by show upd _ _ _ _ = _; exact pk_us) (by show upd _ _ _ _ = _; exact pk_us)
                exact ⟨r2, g2, nm2, σ2, τ2, s1, s2, s3, fun q => absurd q hlib⟩
            obtain ⟨r2, g2, nm2, σ2, τ2, s1, s2, ⟨o1, o2, o3, o4, o5, o6⟩, hLo⟩ := nested
            have hf2 : τ2.1 26 d = 1 ∧ ¬ τ2.1 27 d = 0 ∧ τ2.1 28 d = nI (31 * l + x) ∧ τ2.1 29 d = nI f := by
              have w : ∀ k, k ∈ [26, 27, 28, 29, 30] → τ2.1 k d = (pushed (sA (sA τ 13 (31 * l + x) 1) 27 d 1) (d + 1) 0 (nI (31 * l + pn)) (-1) 0).1 k d := fun k hk => o3.2.2.1 k d hk (by omega)
              refine ⟨?_, ?_, ?_, ?_⟩
              · rw [w 26 (by decide)]
                show upd (τ.1 26) (d + 1) 0 d = 1
                rw [pk_un (by omega)]; exact h26
              · rw [w 27 (by decide)]
                show ¬ upd (upd (τ.1 27) d 1) (d + 1) 0 d = 0
                rw [pk_un (by omega), pk_us]; decide
              · rw [w 28 (by decide)]
                show upd (τ.1 28) (d + 1) _ d = _
                rw [pk_un (by omega)]; exact h28
              · rw [w 29 (by decide)]
                show upd (τ.1 29) (d + 1) _ d = _
                rw [pk_un (by omega)]; exact h29
            obtain ⟨f26, f27, f28, f29⟩ := hf2
            have hRT1 : RT τ (pushed (sA (sA τ 13 (31 * l + x) 1) 27 d 1) (d + 1) 0 (nI (31 * l + pn)) (-1) 0) := by
              refine RT_make (by omega) h25 h26 h28 h29 ?_
              rw [hmk, hag2, if_neg hpx, if_pos hfp, if_pos (by decide), h.e3, if_neg c4, epn, slot_sub (by omega) hx, push_e (d := d + 1) (by omega) (by exact h25)]
              rfl
            have hdev : sRec (n + 1) 2 σ (nI l) (nI x) (nI f) (nI dp) = if r2 < 0 then some (r2, sA σ2 19 (31 * l + x) 0) else sX5_stand (sA σ2 19 (31 * l + x) 0) (nI l) (nI x) (nI f) r2 := by
              rw [e0, makeP_e (by omega) hx (by omega) hpn hFA epn, if_pos c5, if_pos (show nI dp < (62 : Int32) from nI_lt (b := 62) (by omega) (by omega)), nI_1, s1, Option.bind_some]
            have hR3 : Rm nf nl nm2 K (sA σ2 19 (31 * l + x) 0) (sA τ2 13 (31 * l + x) 0) := o1.mk (31 * l + x) 0
            have hXd : Xd nm nm2 σ (sA σ2 19 (31 * l + x) 0) := Xd_mk hfl o2
            have hXr : Xr nm nm2 d τ (sA τ2 13 (31 * l + x) 0) := Xr_mk (by rw [h.e13]; exact hfl) o3
            have hms := makes1_e (τ := τ2) (d := d) (j := 31 * l + x) (f := f) (by omega) (by omega) f27
            have hRT2 := hRT1.tr s2
            have hbm2 := o1.bm
            by_cases c6 : r2 < 0
            · obtain ⟨q1, -, -⟩ := o6.neg c6 (by omega)
              refine ⟨r2, g2, nm2, sA σ2 19 (31 * l + x) 0, sZ (sZ (sA τ2 13 (31 * l + x) 0) 31 g2) 25 (nI d), by rw [hdev, if_pos c6], hRT2.tr (RT_make (by omega) o4 f26 f28 f29 ?_), ⟨hR3.more hKK, hXd, (hXr.z (by decide) g2).z (by decide) (nI d), rfl, rfl, o6⟩, fun hp j hj => hLo hp j hj⟩
              rw [hms, o5, if_neg (Int32.not_le.mpr q1), gives_e (d := d) (by exact o4)]
            · obtain ⟨m, hm1, rfl, rfl⟩ := o6.pos c6
              obtain ⟨σ', τ', t1, t2, ⟨p1, p2, p3, p4, p5, p6⟩, t4⟩ := stand_ok (K' := K') (d := d) (pv := nI m) hR3 hK hl hx hf (Or.inr ⟨m, hm1, rfl⟩) (by
                rcases hm with ⟨a1, a2, ⟨a3, a4⟩ | a4⟩ | ⟨a1, a2⟩
                · refine Or.inl ⟨?_, ?_, a4⟩
                  · have := o2.2.2.2.2.2 (31 * l + x) (by rw [sA_eq, pk_us]; decide)
                    exact this.trans a2
                  · have := o2.2.1 16 (by decide)
                    exact fun e => a3 ((congrFun this (31 * l + x)).symm.trans e)
                · exact Or.inr a4
                · exact Or.inr a2) (by rw [sA_eq, pk_us]) (by exact o4)
              refine ⟨nI nm2, nI nm2, nm2 + 1, σ', τ', by rw [hdev, if_neg c6, t1], hRT2.tr (RT_make (by omega) o4 f26 f28 f29 ?_), ⟨p1, hXd.tr p2, Xr.tr o2.1 (by omega) (Nat.le_refl d) hXr p3, p4, p5, p6⟩, fun hp j hj => (t4 j (by omega)).trans (hLo hp j hj)⟩
              rw [hms, o5, if_pos (nI_pos' (by omega)), t2]
          · -- a ring
            have hagr : AG τ d l x f = 5 := by
              rw [hag2]
              by_cases e : nI pn = nI x
              · rw [if_pos e]
              · rw [hring, if_neg e] at c5
                rw [if_neg e, if_neg c5]
            refine ⟨-15, -5, nm, σ, sZ (sZ τ 31 (-5)) 25 (nI d), ?_, ?_, Out.gives h hKK (Or.inr (by decide)), fun _ _ _ => rfl⟩
            · rw [e0, makeP_e (by omega) hx (by omega) hpn hFA epn, if_neg c5, sA_back hfl]
            · refine RT_make (by omega) h25 h26 h28 h29 ?_
              rw [hmk, hagr, if_neg (by decide), gives_e h25]
      · exact bad (-16) (-6) 6 (by rw [FA, if_pos c1, if_neg c2, if_neg c3]) (by decide) (by rw [hag, if_pos c1, if_neg c2, if_pos ((and1 i12).1.mpr c3)]) (by decide) (by decide) (Or.inr (by decide))
  · exact bad (-13) (-3) 3 (by rw [FA, if_neg c1]) (by decide) (by rw [hag, if_neg c1]) (by decide) (by decide) (Or.inr (by decide))
