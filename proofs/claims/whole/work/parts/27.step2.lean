theorem cw_ext0 {w : Int32 → Nat} {f g : Nat → Int32} {n : Nat} (h : ∀ j, j < n → f j = g j) : ∀ {m : Nat}, n ≤ m → (∀ j, n ≤ j → j < m → w (g j) = 0) → cw w g m = cw w f n
  | 0, hm, _ => by
    have : n = 0 := by omega
    subst this
    rfl
  | m + 1, hm, hz => by
    by_cases e : n = m + 1
    · subst e
      exact (cw_congr h).symm
    · rw [cw, cw_ext0 h (show n ≤ m by omega) (fun j h1 h2 => hz j h1 (by omega)), hz m (by omega) (by omega)]
      rfl
/-- behind an asking in the midst of a beginning -/
theorem BB_out {nf nl nm nm2 nt no K kk : Nat} {ms : Nat → Nat} {σ σ2 τ τ1 τ2 : MS} {r g : Int32} (h : BB nf nl nm nt no K kk ms σ τ) (o : Out nf nl nm nm2 K kk σ σ2 τ1 τ2 r g) (e0 : τ1.1 19 = τ.1 19 ∧ τ1.1 21 = τ.1 21 ∧ τ1.1 22 = τ.1 22 ∧ τ1.1 24 = τ.1 24 ∧ τ1.2 20 = τ.2 20 ∧ τ1.2 23 = τ.2 23) (e1 : ∀ i, i < kk → τ1.1 26 i = τ.1 26 i ∧ τ1.1 28 i = τ.1 28 i) :
    BB nf nl nm2 nt no K kk ms σ2 τ2 ∧ (∀ m, m < nm → σ2.1 24 m = σ.1 24 m ∧ τ2.1 19 m = τ.1 19 m) ∧ (∀ m, nm ≤ m → m < nm2 → plain σ2 τ2 m) ∧ cw wP (σ2.1 24) nm2 = cw wP (σ.1 24) nm := by
  obtain ⟨h1, h2, ⟨h25, h26, h27⟩, ⟨z3, r20, z4, r23, z5, r25⟩, ⟨b1, b2, b3⟩, htt, hf, hinj, hbig⟩ := h
  obtain ⟨o1, ⟨x1, x2, x3, x4, x5, x6⟩, ⟨y1, y2, y3, y4⟩, o4, o5, o6⟩ := o
  obtain ⟨a1, a2, a3, a4, a5, a6⟩ := e0
  have hlow : ∀ m, m < nm → σ2.1 24 m = σ.1 24 m := fun m hm => by rw [x4 m, if_neg (by omega)]
  refine ⟨⟨o1, fun j => ?_, ⟨?_, ?_, ?_⟩, ⟨?_, ?_, ?_, ?_, ?_, o4⟩, ⟨b1, ?_, ?_⟩, ⟨fun t ht => ?_, fun t ht => ?_⟩, fun i hi => ?_, hinj, fun m hm => ?_⟩, fun m hm => ⟨hlow m hm, ?_⟩, fun m hm1 hm2 => ?_, ?_⟩
  · rw [x2 19 (by decide)]; exact h2 j
  · rw [x2 25 (by decide), y1 21 (by decide), a2, h25]
  · rw [x2 26 (by decide), y1 22 (by decide), a3, h26]
  · rw [x2 27 (by decide), y1 24 (by decide), a4, h27]
  · rw [x3 3 (by decide)]; exact z3
  · rw [y2 20 (by decide), a5]; exact r20
  · rw [x3 4 (by decide)]; exact z4
  · rw [y2 23 (by decide), a6]; exact r23
  · rw [x3 5 (by decide)]; exact z5
  · exact Nat.le_trans b2 (cw_ext (fun j hj => (hlow j hj).symm) x1)
  · exact Nat.le_trans b3 (cw_ext (fun j hj => (hlow j hj).symm) x1)
  · rw [x2 25 (by decide)]; exact (htt.1 t ht).mono x1
  · rw [x2 26 (by decide)]; exact htt.2 t ht
  · obtain ⟨f1, f2, f3, f4⟩ := hf i hi
    refine ⟨by rw [x2 28 (by decide)]; exact f1, by omega, ?_, ?_⟩
    · rw [y3 26 i (by decide) hi, (e1 i hi).1]; exact f3
    · rw [y3 28 i (by decide) hi, (e1 i hi).2]; exact f4
  · rw [x4 m, y4 m, if_neg (by omega), if_neg (by omega), a1]
    exact hbig m (by omega)
  · rw [y4 m, if_neg (by omega), a1]
  · refine ⟨Or.inl ?_, ?_⟩
    · rw [x4 m, if_pos ⟨hm1, hm2⟩]
    · rw [y4 m, x4 m, if_pos ⟨hm1, hm2⟩, if_pos ⟨hm1, hm2⟩]
  · refine cw_ext0 (fun j hj => (hlow j hj).symm) x1 (fun j hj1 hj2 => ?_)
    rw [x4 j, if_pos ⟨hj1, hj2⟩]
    decide
set_option maxHeartbeats 1000000 in
theorem step_B {nf nl nm nt no K k : Nat} {ms : Nat → Nat} {σ τ : MS} (hK : K ≤ 511) (h : LQ nf nl nm nt no K (k + 1) ms σ τ) (hg : ¬ τ.2 31 < 0) (s4 : σ.1 24 (ms k) = 4) (t1 : τ.1 27 k = 1) : StepOK nf nl nm nt K (ms k) σ τ := by
  have hkb := h.1.kb
  have hbm := h.1.1.bm
  have hbl := h.1.1.bl
  have hbf := h.1.1.bf
  obtain ⟨⟨h1, h2, h3, ⟨z3, r20, z4, r23, z5, r25⟩, ⟨b1, b2, b3⟩, htt, hf, hinj, hbig⟩, hst, hpl⟩ := h
  obtain ⟨f1, f2, f3, f4⟩ := hf k (by omega)
  obtain ⟨⟨l, hl, el⟩, ⟨f, hff, ef⟩, -⟩ := h1.inv.2.2.2 (ms k) f2
  obtain ⟨-, -, o11, -⟩ := h1.inv.1 f hff
  have hne : ∀ i, i < k → ms i ≠ ms k := fun i hi e => by have := hinj i k (by omega) (by omega) e; omega
  have cB := cw_upd (w := wB) (f := σ.1 24) (x := 5) f2
  have cI := cw_upd (w := wI) (f := σ.1 24) (x := 5) f2
  have cP := cw_upd (w := wP) (f := σ.1 24) (x := 5) f2
  rw [s4] at cB cI cP
  have w1_ : wB 5 = 0 ∧ wB 4 = 0 ∧ wI 5 = 1 ∧ wI 4 = 1 ∧ wP 5 = 2 ∧ wP 4 = 1 := by decide
  obtain ⟨v1, v2, v3, v4, v5, v6⟩ := w1_
  have hP : cw wP ((sA σ 24 (ms k) 5).1 24) nm = cw wP (σ.1 24) nm + 1 := by
    show cw wP (upd (σ.1 24) (ms k) 5) nm = _
    omega
  -- the state with the module at itself; its frame's stage may be any that is told
  have hB5 : BB nf nl nm nt no K (k + 1) ms (sA σ 24 (ms k) 5) τ := by
    refine ⟨h1, h2, h3, ⟨z3, r20, z4, r23, z5, r25⟩, ⟨b1, ?_, ?_⟩, htt, hf, hinj, fun m hm => ?_⟩
    · show no ≤ cw wB (upd (σ.1 24) (ms k) 5) nm
      omega
    · show k + 1 ≤ cw wI (upd (σ.1 24) (ms k) 5) nm
      omega
    · show upd (σ.1 24) (ms k) 5 m = τ.1 19 m
      rw [pk_un (by omega)]
      exact hbig m hm
  have e5 : ∀ m, m ≠ ms k → (sA σ 24 (ms k) 5).1 24 m = σ.1 24 m := fun m hm => pk_un hm
  have e5k : (sA σ 24 (ms k) 5).1 24 (ms k) = 5 := pk_us
  have hpl5 : ∀ m, m < nm → plain (sA σ 24 (ms k) 5) τ m ∨ ∃ i, i < k + 1 ∧ ms i = m := by
    intro m hm
    by_cases e : m = ms k
    · exact Or.inr ⟨k, by omega, e.symm⟩
    · rcases hpl m hm with hq | hq
      · refine Or.inl ?_
        unfold plain
        rw [e5 m e]
        exact hq
      · exact Or.inr hq
  have hd : sX5_goOn σ (nI (ms k)) = sX5_comeToNeed (sA σ 24 (ms k) 5) (nI (ms k)) := by
    rw [sX5_goOn, if_pos (gi_nI (by omega) (by omega)), nI_clamp (by omega), if_neg (by rw [s4]; decide), if_pos s4, ob_pr]
  have hd2 : sX5_comeToNeed (sA σ 24 (ms k) 5) (nI (ms k)) = if σ.1 11 f = -1 then some (1, sA σ 24 (ms k) 5) else (sRec 300 0 (sA σ 24 (ms k) 5) (nI l) (σ.1 11 f) 0 0).bind fun q => if q.1 < 0 then some (q.1, q.2) else sX5_comeTo q.2 q.1 := by
    rw [sX5_comeToNeed, if_pos (gi_nI (by omega) (by omega)), nI_clamp (show ms k < 2 ^ 31 by omega), show (sA σ 24 (ms k) 5).1 22 = σ.1 22 from rfl, ef, if_pos (gi_nI (by omega) (by omega)), nI_clamp (show f < 2 ^ 31 by omega), show (sA σ 24 (ms k) 5).1 11 = σ.1 11 from rfl, show (sA σ 24 (ms k) 5).1 20 = σ.1 20 from rfl, el]
    simp only [ob_pr]
  by_cases c : σ.1 11 f = -1
  · refine ⟨1, _, by rw [hd, hd2, if_pos c], Or.inl ⟨rfl, nm, no, τ, RT.rf, ⟨k + 1, ms, Or.inl ⟨⟨hB5, fun i hi => ?_, hpl5⟩, hg⟩⟩, hP, Nat.le_refl _⟩⟩
    by_cases e : i = k
    · subst e
      refine ⟨Or.inr ⟨e5k, Or.inr ⟨t1, ?_⟩⟩, (hst i (by omega)).2⟩
      show σ.1 11 ((σ.1 22 (ms i)).toNatClampNeg) = -1
      rw [ef, nI_clamp (by omega)]
      exact c
    · obtain ⟨q1, q2⟩ := hst i hi
      refine ⟨?_, q2⟩
      unfold StF
      rw [e5 _ (hne i (by omega))]
      exact q1
  · obtain ⟨x, hx, ex⟩ := o11.iv c
    -- the need is asked for
    have hRT1 : RT τ (pushed (sA τ 27 k 2) (k + 1) 0 (nI (31 * l + x)) (-1) 0) := by
      refine RT_begin (by omega) r25 f3 f4 ?_
      rw [sX6_begins, if_pos (gi_nI (by omega) (by omega)), nI_clamp (show k < 2 ^ 31 by omega), t1, if_neg (by decide), if_pos (Int32.not_lt.mp hg), if_pos (gi_nI (by omega) (by omega)), nI_clamp (show ms k < 2 ^ 31 by omega), h1.e18, ef, if_pos (gi_nI (by omega) (by omega)), nI_clamp (show f < 2 ^ 31 by omega), if_pos rfl, h1.e4, if_neg c, h1.e15, el, ex, slot_e, ob_id, push_e (d := k + 1) (by omega) (by exact r25)]
      rfl
    have hR1 : Rm nf nl nm K (sA σ 24 (ms k) 5) (pushed (sA τ 27 k 2) (k + 1) 0 (nI (31 * l + x)) (-1) 0) := h1
    obtain ⟨r, g, nm2, σ2, τ2, s1, s2, s3⟩ := (rec_all 300).1 nf nl nm K l x 0 (k + 1) (sA σ 24 (ms k) 5) _ 0 hR1 hK hl hx ⟨h2 _, fun k' y _ _ _ => h2 _, 0, by omega, fun _ => rfl, by omega⟩ (by omega) (by omega) rfl pk_us pk_us pk_us
    have hbm2 := s3.1.bm
    have o4 := s3.2.2.2.1
    have o5 := s3.2.2.2.2.1
    have o6 := s3.2.2.2.2.2
    have hXd := s3.2.1
    have hXr := s3.2.2.1
    obtain ⟨g1, g2, g3, g4⟩ := BB_out hB5 s3 ⟨rfl, rfl, rfl, rfl, rfl, rfl⟩ (fun i hi => ⟨pk_un (by omega), pk_un (by omega)⟩)
    have hnm2 : nm ≤ nm2 := hXd.1
    have st27 : ∀ i, i < k → τ2.1 27 i = τ.1 27 i := by
      intro i hi
      rw [hXr.2.2.1 27 i (by decide) (by omega)]
      show upd (upd (τ.1 27) k 2) (k + 1) 0 i = _
      rw [pk_un (by omega), pk_un (by omega)]
    have st27k : τ2.1 27 k = 2 := by
      rw [hXr.2.2.1 27 k (by decide) (by omega)]
      show upd (upd (τ.1 27) k 2) (k + 1) 0 k = _
      rw [pk_un (by omega), pk_us]
    have hpl2 : ∀ m, m < nm2 → plain σ2 τ2 m ∨ ∃ i, i < k + 1 ∧ ms i = m := by
      intro m hm
      by_cases e : m < nm
      · rcases hpl5 m e with hq | hq
        · refine Or.inl ?_
          unfold plain
          rw [(g2 m e).1, (g2 m e).2]
          exact hq
        · exact Or.inr hq
      · exact Or.inl (g3 m (by omega) hm)
    have hmsl : ∀ i, i < k + 1 → ms i < nm := fun i hi => (hf i hi).2.1
    have e11 : σ2.1 11 = σ.1 11 := hXd.2.1 11 (by decide)
    have low : ∀ i, i < k → StF σ2 τ2 (ms i) i ∧ τ2.1 19 (ms i) = 3 := by
      intro i hi
      obtain ⟨q1, q2⟩ := hst i (by omega)
      refine ⟨?_, by rw [(g2 _ (hmsl i (by omega))).2]; exact q2⟩
      unfold StF
      rw [(g2 _ (hmsl i (by omega))).1, e5 _ (hne i hi), st27 i hi, e11, (hXd.2.2.2.2.1 (ms i) (hmsl i (by omega))).2.1]
      exact q1
    have s5 : σ2.1 24 (ms k) = 5 := by rw [(g2 _ f2).1]; exact e5k
    have t3 : τ2.1 19 (ms k) = 3 := by rw [(g2 _ f2).2]; exact (hst k (by omega)).2
    have s1' : sRec 300 0 (sA σ 24 (ms k) 5) (nI l) (nI x) 0 0 = some (r, σ2) := s1
    by_cases c6 : r < 0
    · obtain ⟨q1, -, q3⟩ := o6.neg c6 (by omega)
      refine ⟨r, σ2, by rw [hd, hd2, if_neg c, ex, s1', Option.bind_some, if_pos c6], Or.inr ⟨fun e => ?_, Fin.of (g := g) hK ⟨g1, fun i hi => ?_, hpl2, o5, q1⟩ (hRT1.tr s2) ⟨q3, c6⟩ hnm2⟩⟩
      · rw [e] at c6; exact absurd c6 (by decide)
      · by_cases e : i = k
        · subst e
          exact ⟨by rw [st27k]; decide, by rw [s5]; decide⟩
        · obtain ⟨u1, u2⟩ := (low i (by omega)).1.ne
          refine ⟨u1, ?_⟩
          rcases u2 with u2 | u2 <;> (rw [u2]; decide)
    · obtain ⟨p, hp, rfl, rfl⟩ := o6.pos c6
      -- it was given: both come to it
      have hQ : LQ nf nl nm2 nt no K (k + 1) ms σ2 (sA τ2 27 k 3) := by
        refine ⟨g1, fun i hi => ?_, hpl2⟩
        by_cases e : i = k
        · subst e
          exact ⟨Or.inr ⟨s5, Or.inl pk_us⟩, t3⟩
        · obtain ⟨u1, u2⟩ := low i (by omega)
          refine ⟨?_, u2⟩
          have e2 : (sA τ2 27 k 3).1 27 i = τ2.1 27 i := pk_un e
          unfold StF
          rw [e2]
          exact u1
      obtain ⟨p1, p2, p3, p4⟩ := g1.2.2.2.2.2.2.1 k (by omega)
      have hRT2 : RT τ2 (pushed (sA τ2 27 k 3) (k + 1) 2 (nI p) (-1) 0) := by
        refine RT_begin (by omega) o4 p3 p4 ?_
        have e18 : τ2.1 18 (ms k) = nI f := by rw [g1.1.e18, (hXd.2.2.2.2.1 (ms k) f2).2.1]; exact ef
        rw [sX6_begins, if_pos (gi_nI (by omega) (by omega)), nI_clamp (show k < 2 ^ 31 by omega), st27k, if_neg (by decide), o5, if_pos (nI_pos' (by omega)), if_pos (gi_nI (by omega) (by omega)), nI_clamp (show ms k < 2 ^ 31 by omega), e18, if_pos (gi_nI (by omega) (by omega)), if_neg (by decide), if_pos rfl, ob_id, push_e (d := k + 1) (by omega) (by exact o4)]
        rfl
      obtain ⟨a, σ', w1, w2⟩ := cm_ok (p := p) hK hQ hp
      refine ⟨a, σ', by rw [hd, hd2, if_neg c, ex, s1', Option.bind_some, if_neg c6, w1], ?_⟩
      rcases w2 with ⟨e, τ', y1, y2, y3⟩ | ⟨e, g', nm', no', σf, τf, y0, y1, y2, y3⟩
      · exact Or.inl ⟨e, nm2, no, τ', ((hRT1.tr s2).tr hRT2).tr y1, y2, by rw [y3, g4, hP], hnm2⟩
      · exact Or.inr ⟨e, g', nm', no', σf, τf, Nat.le_trans hnm2 y0, y1, ((hRT1.tr s2).tr hRT2).tr y2, y3⟩
