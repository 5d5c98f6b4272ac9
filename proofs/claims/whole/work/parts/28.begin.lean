theorem begC_e {τ : MS} {d m f no : Nat} (hd : d < 1300) (hm : m < 1000) (hf : f < 40) (hno : no < 1000) (ef : τ.1 18 m = nI f) (h23 : τ.2 23 = nI no) (hg : ¬ τ.2 31 < 0) (hs : τ.1 27 d = 3 ∨ (τ.1 27 d = 1 ∧ τ.1 4 f = -1)) : sX6_begins τ (nI d) (nI m) = if (τ.1 5 f &&& 2) = 2 then sX6_gives (sA τ 19 m 2) (-7) else sX6_gives (sZ (sA (sA τ 19 m 1) 24 no (τ.1 2 f)) 23 (nI (no + 1))) 0 := by
  rw [sX6_begins, if_pos (gi_nI hd (by omega)), nI_clamp (show d < 2 ^ 31 by omega)]
  simp only [nI_clamp (show m < 2 ^ 31 by omega), ef, nI_clamp (show f < 2 ^ 31 by omega), if_pos (gi_nI hm (show 1000 < 2 ^ 31 by omega)), if_pos (gi_nI hf (show 40 < 2 ^ 31 by omega)), h23, if_pos (gi_nI hno (show 1000 < 2 ^ 31 by omega)), nI_clamp (show no < 2 ^ 31 by omega), nI_1, ob_id, if_pos (Int32.not_lt.mp hg)]
  rcases hs with a | ⟨a, b⟩
  · rw [a, if_neg (by decide), if_neg (by decide), if_neg (by decide)]
  · rw [a, if_neg (by decide), if_pos rfl, if_pos b, if_neg (by decide)]
set_option maxHeartbeats 1000000 in
theorem step_C {nf nl nm nt no K k : Nat} {ms : Nat → Nat} {σ τ : MS} (hK : K ≤ 511) (h : LQ nf nl nm nt no K (k + 1) ms σ τ) (hg : ¬ τ.2 31 < 0) (s5 : σ.1 24 (ms k) = 5) (t1 : τ.1 27 k = 3 ∨ (τ.1 27 k = 1 ∧ σ.1 11 ((σ.1 22 (ms k)).toNatClampNeg) = -1)) : StepOK nf nl nm nt K (ms k) σ τ := by
  have hkb := h.1.kb
  have hbm := h.1.1.bm
  have hbf := h.1.1.bf
  obtain ⟨⟨h1, h2, ⟨h25, h26, h27⟩, ⟨z3, r20, z4, r23, z5, r25⟩, ⟨b1, b2, b3⟩, htt, hf, hinj, hbig⟩, hst, hpl⟩ := h
  obtain ⟨f1, f2, f3, f4⟩ := hf k (by omega)
  obtain ⟨-, ⟨f, hff, ef⟩, -⟩ := h1.inv.2.2.2 (ms k) f2
  obtain ⟨-, -, -, o12⟩ := h1.inv.1 f hff
  rw [ef, nI_clamp (show f < 2 ^ 31 by omega)] at t1
  have hne : ∀ i, i < k → ms i ≠ ms k := fun i hi e => by have := hinj i k (by omega) (by omega) e; omega
  have w1_ : wB 5 = 0 ∧ wB 1 = 1 ∧ wB 2 = 0 ∧ wI 5 = 1 ∧ wI 1 = 0 ∧ wI 2 = 0 ∧ wP 5 = 2 ∧ wP 1 = 3 := by decide
  obtain ⟨v1, v2, v3, v4, v5, v6, v7, v8⟩ := w1_
  have hlt : cw wB (σ.1 24) nm < 1 * nm := cw_lt wB_le f2 (by rw [s5, v1]; omega)
  have hrf := begC_e (τ := τ) (d := k) (m := ms k) (f := f) (no := no) (by omega) (by omega) (by omega) (by omega) (by rw [h1.e18]; exact ef) r23 hg (by rw [h1.e4]; exact t1)
  rw [h1.e5, h1.e2] at hrf
  have hd : sX5_goOn σ (nI (ms k)) = sX5_beginItself σ (nI (ms k)) := by
    rw [sX5_goOn, if_pos (gi_nI (by omega) (by omega)), nI_clamp (by omega), if_neg (by rw [s5]; decide), if_neg (by rw [s5]; decide), ob_pr]
  by_cases c : (σ.1 12 f &&& 2) = 0
  · -- it begins itself
    have c' : ¬ (σ.1 12 f &&& 2) = 2 := fun e => (and1 o12).2.mp e c
    have cB := cw_upd (w := wB) (f := σ.1 24) (x := 1) f2
    have cI := cw_upd (w := wI) (f := σ.1 24) (x := 1) f2
    have cP := cw_upd (w := wP) (f := σ.1 24) (x := 1) f2
    rw [s5] at cB cI cP
    rw [if_neg c', gives_e (d := k) (by exact r25)] at hrf
    have hdd : sX5_goOn σ (nI (ms k)) = some (1, sZ (sA (sA (sZ σ 4 (nI (no + 1))) 27 no (σ.1 9 f)) 24 (ms k) 1) 5 (nI k)) := by
      rw [hd, sX5_beginItself, if_pos (gi_nI (by omega) (by omega)), nI_clamp (show ms k < 2 ^ 31 by omega), ef, flag_e (by omega), if_pos c, Option.bind_some, if_pos rfl, if_pos (gi_nI (by omega) (by omega)), nI_clamp (show f < 2 ^ 31 by omega), sX3_add_5, z4, if_neg (show ¬ (512 : Int32) ≤ nI no from nI_ge (b := 512) (by omega) (by omega)), if_pos (gi_nI (by omega) (by omega)), nI_clamp (show no < 2 ^ 31 by omega), nI_1, Option.bind_some, show (sA (sZ σ 4 (nI (no + 1))) 27 no (σ.1 9 f)).2 5 = nI (k + 1) from z5, nI_pred]
    refine ⟨1, _, hdd, Or.inl ⟨rfl, nm, no + 1, _, RT_begin (by omega) r25 f3 f4 hrf, ⟨k, ms, Or.inl ⟨⟨⟨h1, h2, ⟨h25, h26, congrArg (fun z => upd z no (σ.1 9 f)) h27⟩, ⟨z3, r20, rfl, rfl, rfl, rfl⟩, ⟨b1, ?_, ?_⟩, htt, fun i hi => hf i (by omega), fun i j hi hj => hinj i j (by omega) (by omega), fun m hm => ?_⟩, fun i hi => ?_, fun m hm => ?_⟩, ?_⟩⟩, ?_⟩⟩
    · show no + 1 ≤ cw wB (upd (σ.1 24) (ms k) 1) nm
      omega
    · show k ≤ cw wI (upd (σ.1 24) (ms k) 1) nm
      omega
    · show upd (σ.1 24) (ms k) 1 m = upd (τ.1 19) (ms k) 1 m
      rw [pk_un (by omega), pk_un (by omega)]
      exact hbig m hm
    · obtain ⟨q1, q2⟩ := hst i (by omega)
      refine ⟨?_, ?_⟩
      · have e1 : (sZ (sA (sA (sZ σ 4 (nI (no + 1))) 27 no (σ.1 9 f)) 24 (ms k) 1) 5 (nI k)).1 24 (ms i) = σ.1 24 (ms i) := pk_un (hne i hi)
        unfold StF
        rw [e1]
        exact q1
      · show upd (τ.1 19) (ms k) 1 (ms i) = 3
        rw [pk_un (hne i hi)]
        exact q2
    · by_cases e : m = ms k
      · refine Or.inl ?_
        subst e
        show (upd (σ.1 24) (ms k) 1 (ms k) = 0 ∨ upd (σ.1 24) (ms k) 1 (ms k) = 1 ∨ upd (σ.1 24) (ms k) 1 (ms k) = 2) ∧ upd (τ.1 19) (ms k) 1 (ms k) = upd (σ.1 24) (ms k) 1 (ms k)
        rw [pk_us, pk_us]
        exact ⟨Or.inr (Or.inl rfl), rfl⟩
      · rcases hpl m hm with hq | ⟨i, hi, ei⟩
        · refine Or.inl ?_
          show (upd (σ.1 24) (ms k) 1 m = 0 ∨ upd (σ.1 24) (ms k) 1 m = 1 ∨ upd (σ.1 24) (ms k) 1 m = 2) ∧ upd (τ.1 19) (ms k) 1 m = upd (σ.1 24) (ms k) 1 m
          rw [pk_un e, pk_un e]
          exact hq
        · refine Or.inr ⟨i, ?_, ei⟩
          have : i ≠ k := fun e2 => e (by rw [← ei, e2])
          omega
    · show ¬ (0 : Int32) < 0
      decide
    · refine ⟨?_, Nat.le_refl _⟩
      show cw wP (upd (σ.1 24) (ms k) 1) nm = _
      omega
  · -- it fails
    have c' : (σ.1 12 f &&& 2) = 2 := (and1 o12).2.mpr c
    have cB := cw_upd (w := wB) (f := σ.1 24) (x := 2) f2
    have cI := cw_upd (w := wI) (f := σ.1 24) (x := 2) f2
    rw [s5] at cB cI
    rw [if_pos c', gives_e (d := k) (by exact r25)] at hrf
    have hdd : sX5_goOn σ (nI (ms k)) = some (-17, σ) := by
      rw [hd, sX5_beginItself, if_pos (gi_nI (by omega) (by omega)), nI_clamp (show ms k < 2 ^ 31 by omega), ef, flag_e (by omega), if_neg c, Option.bind_some, if_neg n10]
    have hU : UF nf nl nm nt no K k ms (sZ (sA σ 24 (ms k) 2) 5 (nI k)) (sZ (sZ (sA τ 19 (ms k) 2) 31 (-7)) 25 (nI k)) (-7) := by
      refine ⟨⟨h1, h2, ⟨h25, h26, h27⟩, ⟨z3, r20, z4, r23, rfl, rfl⟩, ⟨b1, ?_, ?_⟩, htt, fun i hi => hf i (by omega), fun i j hi hj => hinj i j (by omega) (by omega), fun m hm => ?_⟩, fun i hi => ?_, fun m hm => ?_, rfl, by decide⟩
      · show no ≤ cw wB (upd (σ.1 24) (ms k) 2) nm
        omega
      · show k ≤ cw wI (upd (σ.1 24) (ms k) 2) nm
        omega
      · show upd (σ.1 24) (ms k) 2 m = upd (τ.1 19) (ms k) 2 m
        rw [pk_un (by omega), pk_un (by omega)]
        exact hbig m hm
      · obtain ⟨u1, u2⟩ := (hst i (by omega)).1.ne
        refine ⟨u1, ?_⟩
        show ¬ upd (σ.1 24) (ms k) 2 (ms i) = 1
        rw [pk_un (hne i hi)]
        rcases u2 with u2 | u2 <;> (rw [u2]; decide)
      · by_cases e : m = ms k
        · refine Or.inl ?_
          subst e
          show (upd (σ.1 24) (ms k) 2 (ms k) = 0 ∨ upd (σ.1 24) (ms k) 2 (ms k) = 1 ∨ upd (σ.1 24) (ms k) 2 (ms k) = 2) ∧ upd (τ.1 19) (ms k) 2 (ms k) = upd (σ.1 24) (ms k) 2 (ms k)
          rw [pk_us, pk_us]
          exact ⟨Or.inr (Or.inr rfl), rfl⟩
        · rcases hpl m hm with hq | ⟨i, hi, ei⟩
          · refine Or.inl ?_
            show (upd (σ.1 24) (ms k) 2 m = 0 ∨ upd (σ.1 24) (ms k) 2 m = 1 ∨ upd (σ.1 24) (ms k) 2 m = 2) ∧ upd (τ.1 19) (ms k) 2 m = upd (σ.1 24) (ms k) 2 m
            rw [pk_un e, pk_un e]
            exact hq
          · refine Or.inr ⟨i, ?_, ei⟩
            have : i ≠ k := fun e2 => e (by rw [← ei, e2])
            omega
    obtain ⟨σ', τ', y1, y2, y3, y4, y5⟩ := unw (a := -17) (x1 := 0) (x3 := 0) hK k ms _ _ hU
    refine ⟨-17, σ, hdd, Or.inr ⟨by decide, -7, nm, no, σ', τ', Nat.le_refl _, fun fu n hn x1 x3 => ?_, (RT_begin (by omega) r25 f3 f4 hrf).tr y2, y3, y4, by decide, by decide, y5⟩⟩
    obtain ⟨q, rfl⟩ : ∃ q, n = q + 1 := ⟨n - 1, by omega⟩
    rw [sX5_beginFrom_L58, z5, if_neg (nI_nle (by omega) (by omega)), nI_pred, if_pos (gi_nI (by omega) (by omega)), nI_clamp (show k < 2 ^ 31 by omega), f1, if_pos (gi_nI (by omega) (by omega)), nI_clamp (show ms k < 2 ^ 31 by omega), L58_x q _ x1 x3 0 0]
    exact y1 fu q (by omega)
/-- the end of a beginning: both answers, and the states -/
def BEnd (nf nl nm0 nt K : Nat) (σ τ : MS) (step : Nat) (M : Nat) (x1 : Int32) : Prop := ∃ (a g : Int32) (nm no : Nat) (σ' τ' : MS), nm0 ≤ nm ∧ (∀ fu n, M < n → 1000 ≤ fu → sX5_beginFrom_L8 fu n σ x1 1 (nI step) = some (a, σ')) ∧ RT τ τ' ∧ τ'.2 25 = nI 0 ∧ τ'.2 31 = g ∧ ((a = 1 ∧ ¬ g < 0) ∨ (¬ a = 1 ∧ g < 0 ∧ a = -10 + g ∧ a < 0)) ∧ RR nf nl nm nt no K σ' τ'
theorem beg_loop {nf nl nt K : Nat} {x1 : Int32} (hK : K ≤ 511) : ∀ (M nm no step : Nat) (σ τ : MS), Loop nf nl nm nt no K σ τ → step ≤ cw wP (σ.1 24) nm → 1536 ≤ cw wP (σ.1 24) nm + M → BEnd nf nl nm nt K σ τ step M x1 := by
  intro M
  induction M with
  | zero =>
    intro nm no step σ τ hL _ hM
    obtain ⟨k, ms, ⟨hq, -⟩ | hq⟩ := hL
    · have h1 := hq.1.1.bm
      have h2 := cw_le (f := σ.1 24) wP_le nm
      omega
    · have h1 := hq.1.1.bm
      have h2 := cw_le (f := σ.1 24) wP_le nm
      omega
  | succ M ih =>
    intro nm no step σ τ hL hst hM
    -- a step of the row, then the rest
    have go : ∀ k : Nat, ∀ m : Nat, k < 512 → m < 512 → nm ≤ 511 → σ.2 5 = nI (k + 1) → σ.1 28 k = nI m → StepOK nf nl nm nt K m σ τ → BEnd nf nl nm nt K σ τ step (M + 1) x1 := by
      intro k m hk hm hn h5 h28 hS
      have hP := cw_le (f := σ.1 24) wP_le nm
      obtain ⟨a, σ1, s1, s2⟩ := hS
      have hd : ∀ fu n, sX5_beginFrom_L8 fu (n + 1) σ x1 1 (nI step) = sX5_beginFrom_L8 fu n σ1 x1 a (nI (step + 1)) := by
        intro fu n
        rw [sX5_beginFrom_L8, if_neg (show ¬ (1536 : Int32) ≤ nI step from nI_ge (b := 1536) (by omega) (by omega)), if_pos rfl, h5, if_neg (nI_nle (by omega) (by omega)), nI_pred, if_pos (gi_nI hk (by omega)), nI_clamp (by omega), h28, s1, Option.bind_some, nI_1]
      rcases s2 with ⟨rfl, nm', no', τ', t1, t2, t3, t0⟩ | ⟨na, g, nm', no', σf, τf, t0, t1, t2, t3, t4, t5, t6, t7⟩
      · obtain ⟨a2, g2, nm2, no2, σ2, τ2, u0, u1, u2, u3, u4, u5, u6⟩ := ih nm' no' (step + 1) σ1 τ' t2 (by omega) (by omega)
        refine ⟨a2, g2, nm2, no2, σ2, τ2, Nat.le_trans t0 u0, fun fu n hn hfu => ?_, t1.tr u2, u3, u4, u5, u6⟩
        obtain ⟨q, rfl⟩ : ∃ q, n = q + 1 := ⟨n - 1, by omega⟩
        rw [hd]
        exact u1 fu q (by omega) hfu
      · refine ⟨a, g, nm', no', σf, τf, t0, fun fu n hn hfu => ?_, t2, t3, t4, Or.inr ⟨na, t5, t6⟩, t7⟩
        obtain ⟨q, rfl⟩ : ∃ q, n = q + 1 + 1 := ⟨n - 2, by omega⟩
        rw [hd, sX5_beginFrom_L8]
        have hfin := t1 fu fu hfu x1 (nI (step + 1))
        by_cases c : (1536 : Int32) ≤ nI (step + 1)
        · rw [if_pos c]; exact hfin
        · rw [if_neg c, if_neg na]; exact hfin
    obtain ⟨k, ms, ⟨hq, hg⟩ | hq⟩ := hL
    · have hkb := hq.1.kb
      have hbm := hq.1.1.bm
      cases k with
      | zero =>
        obtain ⟨⟨h1, h2, ⟨h25, h26, h27⟩, ⟨z3, r20, z4, r23, z5, r25⟩, ⟨b1, b2, b3⟩, htt, hf, hinj, hbig⟩, -, hpl⟩ := hq
        have hst2 : ∀ m, m < nm → plain σ τ m := fun m hm => (hpl m hm).elim id (fun ⟨i, hi, _⟩ => absurd hi (Nat.not_lt_zero i))
        refine ⟨1, τ.2 31, nm, no, σ, τ, Nat.le_refl _, fun fu n hn hfu => ?_, RT.rf, r25, rfl, Or.inl ⟨rfl, hg⟩, ⟨h1, ⟨?_, h25, h26, h27⟩, h2, ⟨z3, r20, z4, r23, z5⟩, ⟨b1, b2⟩, htt.1, fun m hm => (hst2 m hm).1, htt.2⟩⟩
        · obtain ⟨q, rfl⟩ : ∃ q, n = q + 1 := ⟨n - 1, by omega⟩
          obtain ⟨w, rfl⟩ : ∃ w, fu = w + 1 := ⟨fu - 1, by omega⟩
          have e : sX5_beginFrom_L58 (w + 1) (w + 1) σ x1 1 (nI step) = some (1, σ) := by
            rw [sX5_beginFrom_L58, z5, if_pos (by decide)]
          rw [sX5_beginFrom_L8, z5, if_pos rfl, if_pos (show nI 0 ≤ (0 : Int32) by decide), e]
          split <;> rfl
        · funext m
          by_cases c : m < nm
          · exact (hst2 m c).2.symm
          · exact hbig m (by omega)
      | succ k =>
        obtain ⟨f1, f2, f3, f4⟩ := hq.1.2.2.2.2.2.2.1 k (by omega)
        have hs := (hq.2.1 k (by omega)).1
        refine go k (ms k) (by omega) (by omega) (by omega) hq.1.2.2.2.1.2.2.2.2.1 f1 ?_
        rcases hs with ⟨q1, q2⟩ | ⟨q1, q2⟩
        · exact step_B hK hq hg q1 q2
        · exact step_C hK hq hg q1 q2
    · have hkb := hq.1.kb
      have hbm := hq.1.1.bm
      obtain ⟨f1, f2, f3, f4⟩ := hq.1.2.2.2.2.2.2.1 k (by omega)
      exact go k (ms k) (by omega) (by omega) (by omega) hq.1.2.2.2.1.2.2.2.2.1 f1 (step_A hK hq)
