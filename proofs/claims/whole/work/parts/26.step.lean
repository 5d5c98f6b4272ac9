def msU (ms : Nat → Nat) (k p : Nat) : Nat → Nat := fun i => if i = k then p else ms i
theorem msU_eq {ms : Nat → Nat} {k p : Nat} : msU ms k p k = p := if_pos rfl
theorem msU_ne {ms : Nat → Nat} {k p i : Nat} (h : i ≠ k) : msU ms k p i = ms i := if_neg h
theorem LQ.pp {nf nl nm nt no K k : Nat} {ms : Nat → Nat} {σ τ : MS} (h : LQ nf nl nm nt no K k ms σ τ) (a b c d v : Int32) : LQ nf nl nm nt no K k ms σ (sZ (sZ (pushed τ k a b c d) 31 v) 25 (nI k)) := by
  obtain ⟨⟨h1, h2, h3, ⟨z3, r20, z4, r23, z5, r25⟩, h5, ht, hf, hinj, hbig⟩, hs, hp⟩ := h
  refine ⟨⟨h1, h2, h3, ⟨z3, r20, z4, r23, z5, rfl⟩, h5, ht, fun i hi => ?_, hinj, hbig⟩, fun i hi => ?_, hp⟩
  · obtain ⟨f1, f2, f3, f4⟩ := hf i hi
    refine ⟨f1, f2, ?_, ?_⟩
    · show upd (τ.1 26) k a i = 2
      rw [pk_un (by omega)]; exact f3
    · show upd (τ.1 28) k b i = _
      rw [pk_un (by omega)]; exact f4
  · obtain ⟨q1, q2⟩ := hs i hi
    refine ⟨?_, q2⟩
    have e : (sZ (sZ (pushed τ k a b c d) 31 v) 25 (nI k)).1 27 i = τ.1 27 i := by
      show upd (τ.1 27) k 0 i = _
      rw [pk_un (by omega)]
    unfold StF
    rw [e]
    exact q1
theorem StF.ne {σ τ : MS} {m i : Nat} (h : StF σ τ m i) : ¬ τ.1 27 i = 0 ∧ (σ.1 24 m = 4 ∨ σ.1 24 m = 5) := by
  rcases h with ⟨a, b⟩ | ⟨a, b | ⟨b, -⟩⟩
  · exact ⟨by rw [b]; decide, Or.inl a⟩
  · exact ⟨by rw [b]; decide, Or.inr a⟩
  · exact ⟨by rw [b]; decide, Or.inr a⟩
theorem LQ.uf {nf nl nm nt no K k : Nat} {ms : Nat → Nat} {σ τ : MS} {g : Int32} (h : LQ nf nl nm nt no K k ms σ τ) (hg : τ.2 31 = g) (h0 : g < 0) : UF nf nl nm nt no K k ms σ τ g := by
  obtain ⟨h1, h2, h3⟩ := h
  refine ⟨h1, fun i hi => ?_, h3, hg, h0⟩
  obtain ⟨q1, q2⟩ := (h2 i hi).1.ne
  refine ⟨q1, ?_⟩
  rcases q2 with q2 | q2 <;> (rw [q2]; decide)
/-- both come to a module -/
theorem cm_ok {nf nl nm nt no K k p : Nat} {ms : Nat → Nat} {σ τ : MS} (hK : K ≤ 511) (h : LQ nf nl nm nt no K k ms σ τ) (hp : p < nm) :
    ∃ (a : Int32) (σ' : MS), sX5_comeTo σ (nI p) = some (a, σ') ∧ ((a = 1 ∧ ∃ τ', RT (pushed τ k 2 (nI p) (-1) 0) τ' ∧ Loop nf nl nm nt no K σ' τ' ∧ cw wP (σ'.1 24) nm = cw wP (σ.1 24) nm) ∨ (¬ a = 1 ∧ Fin nf nl nm nt K a σ' (pushed τ k 2 (nI p) (-1) 0))) := by
  have hkb := h.1.kb
  have hbm := h.1.1.bm
  have r26 : (pushed τ k 2 (nI p) (-1) 0).1 26 k = 2 := pk_us
  have r27 : (pushed τ k 2 (nI p) (-1) 0).1 27 k = 0 := pk_us
  have r28 : (pushed τ k 2 (nI p) (-1) 0).1 28 k = nI p := pk_us
  -- what the fresh frame does, where the module isn't new
  have gone : ∀ v : Int32, ¬ τ.1 19 p ≤ 0 → (if τ.1 19 p = 2 then (-8 : Int32) else 0) = v → RT (pushed τ k 2 (nI p) (-1) 0) (sZ (sZ (pushed τ k 2 (nI p) (-1) 0) 31 v) 25 (nI k)) := by
    intro v hv e
    refine RT_begin (by omega) rfl r26 r28 ?_
    rw [begS_e (by omega) (by omega) r27 (by exact hv), gives_e (d := k) rfl, show (pushed τ k 2 (nI p) (-1) 0).1 19 p = τ.1 19 p from rfl, e]
  have done_ : ¬ σ.1 24 p = 2 → ¬ σ.1 24 p = 0 → ¬ τ.1 19 p ≤ 0 → ¬ τ.1 19 p = 2 → ∃ (a : Int32) (σ' : MS), sX5_comeTo σ (nI p) = some (a, σ') ∧ ((a = 1 ∧ ∃ τ', RT (pushed τ k 2 (nI p) (-1) 0) τ' ∧ Loop nf nl nm nt no K σ' τ' ∧ cw wP (σ'.1 24) nm = cw wP (σ.1 24) nm) ∨ (¬ a = 1 ∧ Fin nf nl nm nt K a σ' (pushed τ k 2 (nI p) (-1) 0))) := by
    intro n2 n0 t0 t2
    refine ⟨1, σ, come1 (by omega) n2 n0, Or.inl ⟨rfl, _, gone 0 t0 (by rw [if_neg t2]), ⟨k, ms, Or.inl ⟨h.pp 2 (nI p) (-1) 0 0, ?_⟩⟩, rfl⟩⟩
    show ¬ (0 : Int32) < 0
    decide
  rcases h.2.2 p hp with ⟨hs, ht⟩ | ⟨i, hi, ei⟩
  · rcases hs with s0 | s1 | s2
    · -- new: it is put on the row
      have wIp : wI (σ.1 24 p) = 0 := by rw [s0]; decide
      have hlt : cw wI (σ.1 24) nm < 1 * nm := cw_lt wI_le hp (by rw [wIp]; omega)
      obtain ⟨⟨h1, h2, h3, ⟨z3, r20, z4, r23, z5, r25⟩, ⟨b1, b2, b3⟩, htt, hf, hinj, hbig⟩, hst, hpl⟩ := h
      have cB := cw_upd (w := wB) (f := σ.1 24) (x := 3) hp
      have cI := cw_upd (w := wI) (f := σ.1 24) (x := 3) hp
      have cP := cw_upd (w := wP) (f := σ.1 24) (x := 3) hp
      rw [s0] at cB cI cP
      have w1_ : wB 3 = 0 ∧ wB 0 = 0 ∧ wI 3 = 1 ∧ wI 0 = 0 ∧ wP 3 = 0 ∧ wP 0 = 0 := by decide
      obtain ⟨v1, v2, v3, v4, v5, v6⟩ := w1_
      have hnp : ∀ i, i < k → ms i ≠ p := by
        intro i hi e
        rcases (hst i hi).1.ne.2 with q | q <;> (rw [e, s0] at q; exact absurd q (by decide))
      refine ⟨1, _, come0 (by omega) (by omega) z5 s0, Or.inl ⟨rfl, _, RT.rf, ⟨k, msU ms k p, Or.inr ⟨⟨h1, h2, h3, ⟨z3, r20, z4, r23, rfl, rfl⟩, ⟨b1, ?_, ?_⟩, htt, fun i hi => ?_, fun i j hi hj e => ?_, fun m hm => ?_⟩, fun i hi => ?_, ⟨?_, ?_, r27⟩, fun m hm => ?_⟩⟩, ?_⟩⟩
      · show no ≤ cw wB (upd (σ.1 24) p 3) nm
        omega
      · show k + 1 ≤ cw wI (upd (σ.1 24) p 3) nm
        omega
      · show upd (σ.1 28) k (nI p) i = nI (msU ms k p i) ∧ msU ms k p i < nm ∧ upd (τ.1 26) k 2 i = 2 ∧ upd (τ.1 28) k (nI p) i = nI (msU ms k p i)
        by_cases e : i = k
        · subst e
          rw [msU_eq, pk_us, pk_us, pk_us]
          exact ⟨rfl, hp, rfl, rfl⟩
        · rw [msU_ne e, pk_un e, pk_un e, pk_un e]
          exact hf i (by omega)
      · by_cases e1 : i = k
        · by_cases e2 : j = k
          · omega
          · rw [e1, msU_eq, msU_ne e2] at e
            exact absurd e.symm (hnp j (by omega))
        · by_cases e2 : j = k
          · rw [e2, msU_eq, msU_ne e1] at e
            exact absurd e (hnp i (by omega))
          · rw [msU_ne e1, msU_ne e2] at e
            exact hinj i j (by omega) (by omega) e
      · show upd (σ.1 24) p 3 m = τ.1 19 m
        rw [pk_un (by omega)]
        exact hbig m hm
      · rw [msU_ne (show i ≠ k by omega)]
        obtain ⟨q1, q2⟩ := hst i hi
        refine ⟨?_, q2⟩
        have e1 : (sA (sZ (sA σ 24 p 3) 5 (nI (k + 1))) 28 k (nI p)).1 24 (ms i) = σ.1 24 (ms i) := by
          show upd (σ.1 24) p 3 (ms i) = _
          rw [pk_un (hnp i hi)]
        have e2 : (pushed τ k 2 (nI p) (-1) 0).1 27 i = τ.1 27 i := by
          show upd (τ.1 27) k 0 i = _
          rw [pk_un (by omega)]
        unfold StF
        rw [e1, e2]
        exact q1
      · rw [msU_eq]
        show upd (σ.1 24) p 3 p = 3
        exact pk_us
      · rw [msU_eq]
        show τ.1 19 p = 0
        rw [ht]; exact s0
      · by_cases e : m = p
        · exact Or.inr ⟨k, by omega, by rw [msU_eq]; exact e.symm⟩
        · rcases hpl m hm with hq | ⟨i, hi, ei⟩
          · refine Or.inl ?_
            show (upd (σ.1 24) p 3 m = 0 ∨ upd (σ.1 24) p 3 m = 1 ∨ upd (σ.1 24) p 3 m = 2) ∧ τ.1 19 m = upd (σ.1 24) p 3 m
            rw [pk_un e]
            exact hq
          · exact Or.inr ⟨i, by omega, by rw [msU_ne (by omega)]; exact ei⟩
      · show cw wP (upd (σ.1 24) p 3) nm = _
        omega
    · exact done_ (by rw [s1]; decide) (by rw [s1]; decide) (by rw [ht, s1]; decide) (by rw [ht, s1]; decide)
    · refine ⟨-18, σ, come2 (by omega) s2, Or.inr ⟨by decide, Fin.of (g := -8) hK ((h.pp 2 (nI p) (-1) 0 (-8)).uf rfl (by decide)) (gone (-8) (by rw [ht, s2]; decide) (by rw [ht, s2]; decide)) (by decide) (Nat.le_refl _)⟩⟩
  · obtain ⟨q1, q2⟩ := h.2.1 i hi
    rw [ei] at q1 q2
    have q3 := q1.ne.2
    exact done_ (by rcases q3 with q | q <;> (rw [q]; decide)) (by rcases q3 with q | q <;> (rw [q]; decide)) (by rw [q2]; decide) (by rw [q2]; decide)
def StepOK (nf nl nm nt K m : Nat) (σ τ : MS) : Prop := ∃ (a : Int32) (σ' : MS), sX5_goOn σ (nI m) = some (a, σ') ∧ ((a = 1 ∧ ∃ (nm' no' : Nat) (τ' : MS), RT τ τ' ∧ Loop nf nl nm' nt no' K σ' τ' ∧ cw wP (σ'.1 24) nm' = cw wP (σ.1 24) nm + 1 ∧ nm ≤ nm') ∨ (¬ a = 1 ∧ Fin nf nl nm nt K a σ' τ))
theorem step_A {nf nl nm nt no K k : Nat} {ms : Nat → Nat} {σ τ : MS} (hK : K ≤ 511) (h : LA nf nl nm nt no K k ms σ τ) : StepOK nf nl nm nt K (ms k) σ τ := by
  have hkb := h.1.kb
  have hbm := h.1.1.bm
  obtain ⟨⟨h1, h2, h3, ⟨z3, r20, z4, r23, z5, r25⟩, ⟨b1, b2, b3⟩, htt, hf, hinj, hbig⟩, hst, ⟨a1, a2, a3⟩, hpl⟩ := h
  obtain ⟨f1, f2, f3, f4⟩ := hf k (by omega)
  have o23 := (h1.inv.2.2.2 (ms k) f2).2.2
  have hne : ∀ i, i < k → ms i ≠ ms k := fun i hi e => by have := hinj i k (by omega) (by omega) e; omega
  have cB := cw_upd (w := wB) (f := σ.1 24) (x := 4) f2
  have cI := cw_upd (w := wI) (f := σ.1 24) (x := 4) f2
  have cP := cw_upd (w := wP) (f := σ.1 24) (x := 4) f2
  rw [a1] at cB cI cP
  have w1_ : wB 4 = 0 ∧ wB 3 = 0 ∧ wI 4 = 1 ∧ wI 3 = 1 ∧ wP 4 = 1 ∧ wP 3 = 0 := by decide
  obtain ⟨v1, v2, v3, v4, v5, v6⟩ := w1_
  have hQ : LQ nf nl nm nt no K (k + 1) ms (sA σ 24 (ms k) 4) (sZ (sA (sA τ 19 (ms k) 3) 27 k 1) 31 0) := by
    refine ⟨⟨h1, h2, h3, ⟨z3, r20, z4, r23, z5, r25⟩, ⟨b1, ?_, ?_⟩, htt, hf, hinj, fun m hm => ?_⟩, fun i hi => ?_, fun m hm => ?_⟩
    · show no ≤ cw wB (upd (σ.1 24) (ms k) 4) nm
      omega
    · show k + 1 ≤ cw wI (upd (σ.1 24) (ms k) 4) nm
      omega
    · show upd (σ.1 24) (ms k) 4 m = upd (τ.1 19) (ms k) 3 m
      rw [pk_un (by omega), pk_un (by omega)]
      exact hbig m hm
    · by_cases e : i = k
      · subst e
        refine ⟨Or.inl ⟨?_, ?_⟩, ?_⟩
        · show upd (σ.1 24) (ms i) 4 (ms i) = 4
          exact pk_us
        · show upd (τ.1 27) i 1 i = 1
          exact pk_us
        · show upd (τ.1 19) (ms i) 3 (ms i) = 3
          exact pk_us
      · obtain ⟨q1, q2⟩ := hst i (by omega)
        have e1 : (sA σ 24 (ms k) 4).1 24 (ms i) = σ.1 24 (ms i) := by
          show upd (σ.1 24) (ms k) 4 (ms i) = _
          rw [pk_un (hne i (by omega))]
        have e2 : (sZ (sA (sA τ 19 (ms k) 3) 27 k 1) 31 0).1 27 i = τ.1 27 i := by
          show upd (τ.1 27) k 1 i = _
          rw [pk_un e]
        refine ⟨?_, ?_⟩
        · unfold StF
          rw [e1, e2]
          exact q1
        · show upd (τ.1 19) (ms k) 3 (ms i) = 3
          rw [pk_un (hne i (by omega))]
          exact q2
    · by_cases e : m = ms k
      · exact Or.inr ⟨k, by omega, e.symm⟩
      · rcases hpl m hm with hq | hq
        · refine Or.inl ?_
          show (upd (σ.1 24) (ms k) 4 m = 0 ∨ upd (σ.1 24) (ms k) 4 m = 1 ∨ upd (σ.1 24) (ms k) 4 m = 2) ∧ upd (τ.1 19) (ms k) 3 m = upd (σ.1 24) (ms k) 4 m
          rw [pk_un e, pk_un e]
          exact hq
        · exact Or.inr hq
  have hP : cw wP ((sA σ 24 (ms k) 4).1 24) nm = cw wP (σ.1 24) nm + 1 := by
    show cw wP (upd (σ.1 24) (ms k) 4) nm = _
    omega
  have hd : sX5_goOn σ (nI (ms k)) = if σ.1 23 (ms k) = -1 then some (1, sA σ 24 (ms k) 4) else sX5_comeTo (sA σ 24 (ms k) 4) (σ.1 23 (ms k)) := by
    rw [sX5_goOn, if_pos (gi_nI (by omega) (by omega)), nI_clamp (by omega), if_pos a1, ob_pr]
  have hr : sX6_begins τ (nI k) (nI (ms k)) = if τ.1 17 (ms k) = -1 then some (sZ (sA (sA τ 19 (ms k) 3) 27 k 1) 31 0) else sX6_push (sZ (sA (sA τ 19 (ms k) 3) 27 k 1) 31 0) 2 (τ.1 17 (ms k)) (-1) 0 := by
    rw [sX6_begins, if_pos (gi_nI (by omega) (by omega)), nI_clamp (by omega), if_pos a3, if_pos (gi_nI (by omega) (by omega)), nI_clamp (by omega), if_pos (by rw [a2]; decide), ob_id]
  by_cases c : σ.1 23 (ms k) = -1
  · refine ⟨1, _, by rw [hd, if_pos c], Or.inl ⟨rfl, nm, no, _, RT_begin (by omega) r25 f3 f4 (by rw [hr, h1.e17, if_pos c]), ⟨k + 1, ms, Or.inl ⟨hQ, ?_⟩⟩, hP, Nat.le_refl _⟩⟩
    show ¬ (0 : Int32) < 0
    decide
  · obtain ⟨p, hp, ep⟩ := o23.iv c
    obtain ⟨a, σ', s1, s2⟩ := cm_ok (p := p) hK hQ (by omega)
    have hRT : RT τ (pushed (sZ (sA (sA τ 19 (ms k) 3) 27 k 1) 31 0) (k + 1) 2 (nI p) (-1) 0) := by
      refine RT_begin (by omega) r25 f3 f4 ?_
      rw [hr, h1.e17, if_neg c, ep, push_e (d := k + 1) (by omega) (by exact r25)]
      rfl
    refine ⟨a, σ', by rw [hd, if_neg c, ep, s1], ?_⟩
    rcases s2 with ⟨e, τ', t1, t2, t3⟩ | ⟨e, g, nm', no', σf, τf, t0, t1, t2, t3⟩
    · exact Or.inl ⟨e, nm, no, τ', hRT.tr t1, t2, by rw [t3, hP], Nat.le_refl _⟩
    · exact Or.inr ⟨e, g, nm', no', σf, τf, t0, t1, hRT.tr t2, t3⟩
