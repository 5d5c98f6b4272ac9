/-! ===== beginning ===== -/
def wI (x : Int32) : Nat := if x = 3 ∨ x = 4 ∨ x = 5 then 1 else 0
def wP (x : Int32) : Nat := if x = 1 then 3 else if x = 4 then 1 else if x = 5 then 2 else 0
theorem wI_le (x : Int32) : wI x ≤ 1 := by unfold wI; split <;> omega
theorem wP_le (x : Int32) : wP x ≤ 3 := by unfold wP; repeat' split
                                           all_goals omega
def BB (nf nl nm nt no K k : Nat) (ms : Nat → Nat) (σ τ : MS) : Prop :=
  Rm nf nl nm K σ τ ∧ (∀ j, σ.1 19 j = 0) ∧ (σ.1 25 = τ.1 21 ∧ σ.1 26 = τ.1 22 ∧ σ.1 27 = τ.1 24) ∧
  (σ.2 3 = nI nt ∧ τ.2 20 = nI nt ∧ σ.2 4 = nI no ∧ τ.2 23 = nI no ∧ σ.2 5 = nI k ∧ τ.2 25 = nI k) ∧
  (nt ≤ 60 ∧ no ≤ cw wB (σ.1 24) nm ∧ k ≤ cw wI (σ.1 24) nm) ∧ ((∀ t, t < nt → iv (σ.1 25 t) nm) ∧ ∀ t, nt ≤ t → σ.1 26 t = 0) ∧
  (∀ i, i < k → σ.1 28 i = nI (ms i) ∧ ms i < nm ∧ τ.1 26 i = 2 ∧ τ.1 28 i = nI (ms i)) ∧ (∀ i j, i < k → j < k → ms i = ms j → i = j) ∧ (∀ m, nm ≤ m → σ.1 24 m = τ.1 19 m)
def plain (σ τ : MS) (m : Nat) : Prop := (σ.1 24 m = 0 ∨ σ.1 24 m = 1 ∨ σ.1 24 m = 2) ∧ τ.1 19 m = σ.1 24 m
def StF (σ τ : MS) (m i : Nat) : Prop := (σ.1 24 m = 4 ∧ τ.1 27 i = 1) ∨ (σ.1 24 m = 5 ∧ (τ.1 27 i = 3 ∨ (τ.1 27 i = 1 ∧ σ.1 11 ((σ.1 22 m).toNatClampNeg) = -1)))
def LQ (nf nl nm nt no K k : Nat) (ms : Nat → Nat) (σ τ : MS) : Prop := BB nf nl nm nt no K k ms σ τ ∧ (∀ i, i < k → StF σ τ (ms i) i ∧ τ.1 19 (ms i) = 3) ∧ (∀ m, m < nm → plain σ τ m ∨ ∃ i, i < k ∧ ms i = m)
def LA (nf nl nm nt no K k : Nat) (ms : Nat → Nat) (σ τ : MS) : Prop := BB nf nl nm nt no K (k + 1) ms σ τ ∧ (∀ i, i < k → StF σ τ (ms i) i ∧ τ.1 19 (ms i) = 3) ∧ (σ.1 24 (ms k) = 3 ∧ τ.1 19 (ms k) = 0 ∧ τ.1 27 k = 0) ∧ (∀ m, m < nm → plain σ τ m ∨ ∃ i, i < k + 1 ∧ ms i = m)
def UF (nf nl nm nt no K k : Nat) (ms : Nat → Nat) (σ τ : MS) (g : Int32) : Prop := BB nf nl nm nt no K k ms σ τ ∧ (∀ i, i < k → ¬ τ.1 27 i = 0 ∧ ¬ σ.1 24 (ms i) = 1) ∧ (∀ m, m < nm → plain σ τ m ∨ ∃ i, i < k ∧ ms i = m) ∧ τ.2 31 = g ∧ g < 0
theorem BB.kb {nf nl nm nt no K k : Nat} {ms : Nat → Nat} {σ τ : MS} (h : BB nf nl nm nt no K k ms σ τ) : k ≤ nm := by
  have h1 := h.2.2.2.2.1.2.2
  have h2 := cw_le (f := σ.1 24) wI_le nm
  omega
/-- one frame of the reference that fails -/
theorem begF_e {τ : MS} {d m : Nat} (hd : d < 1300) (hm : m < 1000) (h27 : ¬ τ.1 27 d = 0) (hg : τ.2 31 < 0) : sX6_begins τ (nI d) (nI m) = sX6_gives (sA τ 19 m 2) (τ.2 31) := by
  rw [sX6_begins, if_pos (gi_nI hd (by omega)), nI_clamp (by omega), if_neg h27, if_neg (Int32.not_le.mpr hg), if_pos (gi_nI hm (by omega)), nI_clamp (by omega), ob_id]
theorem unw {nf nl nt no K nm : Nat} {a g x1 x3 : Int32} (hK : K ≤ 511) : ∀ (k : Nat) (ms : Nat → Nat) (σ τ : MS), UF nf nl nm nt no K k ms σ τ g → ∃ σ' τ' : MS, (∀ fu n, k < n → sX5_beginFrom_L58 fu n σ x1 a x3 = some (a, σ')) ∧ RT τ τ' ∧ τ'.2 25 = nI 0 ∧ τ'.2 31 = g ∧ RR nf nl nm nt no K σ' τ' := by
  intro k
  induction k with
  | zero =>
    intro ms σ τ h
    obtain ⟨⟨h1, h2, ⟨h25, h26, h27⟩, ⟨z3, r20, z4, r23, z5, r25⟩, ⟨b1, b2, b3⟩, ht, hf, hinj, hbig⟩, -, hpl, hg, hg0⟩ := h
    have hst : ∀ m, m < nm → plain σ τ m := fun m hm => (hpl m hm).elim id (fun ⟨i, hi, _⟩ => absurd hi (Nat.not_lt_zero i))
    refine ⟨σ, τ, fun fu n hn => ?_, RT.rf, r25, hg, ⟨h1, ⟨?_, h25, h26, h27⟩, h2, ⟨z3, r20, z4, r23, z5⟩, ⟨b1, b2⟩, ht.1, fun m hm => (hst m hm).1, ht.2⟩⟩
    · obtain ⟨q, rfl⟩ : ∃ q, n = q + 1 := ⟨n - 1, by omega⟩
      rw [sX5_beginFrom_L58, z5, if_pos (by decide)]
    · funext m
      by_cases c : m < nm
      · exact (hst m c).2.symm
      · exact hbig m (by omega)
  | succ k ih =>
    intro ms σ τ h
    have hkb := h.1.kb
    have hbm := h.1.1.bm
    obtain ⟨⟨h1, h2, ⟨h25, h26, h27⟩, ⟨z3, r20, z4, r23, z5, r25⟩, ⟨b1, b2, b3⟩, ht, hf, hinj, hbig⟩, hfr, hpl, hg, hg0⟩ := h
    obtain ⟨f1, f2, f3, f4⟩ := hf k (by omega)
    obtain ⟨q1, q2⟩ := hfr k (by omega)
    have cB := cw_upd (w := wB) (f := σ.1 24) (x := 2) f2
    have cI := cw_upd (w := wI) (f := σ.1 24) (x := 2) f2
    have wB2 : wB 2 = 0 := by decide
    have wI2 : wI 2 = 0 := by decide
    have wBs : wB (σ.1 24 (ms k)) = 0 := by unfold wB; rw [if_neg q2]
    have wIs := wI_le (σ.1 24 (ms k))
    have hU : UF nf nl nm nt no K k ms (sZ (sA σ 24 (ms k) 2) 5 (nI k)) (sZ (sZ (sA τ 19 (ms k) 2) 31 g) 25 (nI k)) g := by
      refine ⟨⟨h1, h2, ⟨h25, h26, h27⟩, ⟨z3, r20, z4, r23, rfl, rfl⟩, ⟨b1, ?_, ?_⟩, ht, fun i hi => hf i (by omega), fun i j hi hj => hinj i j (by omega) (by omega), fun m hm => ?_⟩, fun i hi => ⟨(hfr i (by omega)).1, ?_⟩, fun m hm => ?_, rfl, hg0⟩
      · show no ≤ cw wB (upd (σ.1 24) (ms k) 2) nm
        omega
      · show k ≤ cw wI (upd (σ.1 24) (ms k) 2) nm
        omega
      · show upd (σ.1 24) (ms k) 2 m = upd (τ.1 19) (ms k) 2 m
        rw [pk_un (by omega), pk_un (by omega)]
        exact hbig m hm
      · show ¬ upd (σ.1 24) (ms k) 2 (ms i) = 1
        rw [upd_at]
        split
        · decide
        · exact (hfr i (by omega)).2
      · by_cases e : m = ms k
        · refine Or.inl ?_
          subst e
          show (upd (σ.1 24) (ms k) 2 (ms k) = 0 ∨ upd (σ.1 24) (ms k) 2 (ms k) = 1 ∨ upd (σ.1 24) (ms k) 2 (ms k) = 2) ∧ upd (τ.1 19) (ms k) 2 (ms k) = upd (σ.1 24) (ms k) 2 (ms k)
          rw [pk_us, pk_us]
          exact ⟨Or.inr (Or.inr rfl), rfl⟩
        · rcases hpl m hm with hp | ⟨i, hi, ei⟩
          · refine Or.inl ?_
            show (upd (σ.1 24) (ms k) 2 m = 0 ∨ upd (σ.1 24) (ms k) 2 m = 1 ∨ upd (σ.1 24) (ms k) 2 m = 2) ∧ upd (τ.1 19) (ms k) 2 m = upd (σ.1 24) (ms k) 2 m
            rw [pk_un e, pk_un e]
            exact hp
          · refine Or.inr ⟨i, ?_, ei⟩
            have : i ≠ k := fun e2 => e (by rw [← ei, e2])
            omega
    obtain ⟨σ', τ', t1, t2, t3, t4, t5⟩ := ih ms _ _ hU
    refine ⟨σ', τ', fun fu n hn => ?_, RT.tr (RT_begin (by omega) r25 f3 f4 ?_) t2, t3, t4, t5⟩
    · obtain ⟨q, rfl⟩ : ∃ q, n = q + 1 := ⟨n - 1, by omega⟩
      rw [sX5_beginFrom_L58, z5, if_neg (nI_nle (by omega) (by omega)), nI_pred, if_pos (gi_nI (by omega) (by omega)), nI_clamp (show k < 2 ^ 31 by omega), f1, if_pos (gi_nI (by omega) (by omega)), nI_clamp (show ms k < 2 ^ 31 by omega)]
      exact t1 fu q (by omega)
    · rw [begF_e (by omega) (by omega) q1 (by rw [hg]; exact hg0), hg, gives_e (d := k) (by exact r25)]
/-- coming to a module, dev -/
theorem come2 {σ : MS} {p : Nat} (hp : p < 512) (h : σ.1 24 p = 2) : sX5_comeTo σ (nI p) = some (-18, σ) := by
  rw [sX5_comeTo, if_pos (gi_nI hp (by omega)), nI_clamp (by omega), if_pos h]
theorem come0 {σ : MS} {p k : Nat} (hp : p < 512) (hk : k < 512) (h5 : σ.2 5 = nI k) (h : σ.1 24 p = 0) : sX5_comeTo σ (nI p) = some (1, sA (sZ (sA σ 24 p 3) 5 (nI (k + 1))) 28 k (nI p)) := by
  rw [sX5_comeTo, if_pos (gi_nI hp (by omega)), nI_clamp (by omega), if_neg (by rw [h]; decide), if_pos h, sX3_add_6, show (sA σ 24 p 3).2 5 = nI k from h5, if_neg (show ¬ (512 : Int32) ≤ nI k from nI_ge (b := 512) hk (by omega)), if_pos (gi_nI hk (by omega)), nI_clamp (by omega), nI_1]
  rfl
theorem come1 {σ : MS} {p : Nat} (hp : p < 512) (h2 : ¬ σ.1 24 p = 2) (h0 : ¬ σ.1 24 p = 0) : sX5_comeTo σ (nI p) = some (1, σ) := by
  rw [sX5_comeTo, if_pos (gi_nI hp (by omega)), nI_clamp (by omega), if_neg h2, if_neg h0]
/-- a fresh frame of the reference over a module that began, or failed -/
theorem begS_e {τ : MS} {d p : Nat} (hd : d < 1300) (hp : p < 1000) (h27 : τ.1 27 d = 0) (hs : ¬ τ.1 19 p ≤ 0) : sX6_begins τ (nI d) (nI p) = sX6_gives τ (if τ.1 19 p = 2 then -8 else 0) := by
  rw [sX6_begins, if_pos (gi_nI hd (by omega)), nI_clamp (by omega), if_pos h27, if_pos (gi_nI hp (by omega)), nI_clamp (by omega), if_neg hs, ob_id, ob_id]
  split <;> rfl
def Fin (nf nl nm0 nt K : Nat) (a : Int32) (σ τ : MS) : Prop := ∃ (g : Int32) (nm no : Nat) (σf τf : MS), nm0 ≤ nm ∧ (∀ fu n, 1000 ≤ n → ∀ x1 x3 : Int32, sX5_beginFrom_L58 fu n σ x1 a x3 = some (a, σf)) ∧ RT τ τf ∧ τf.2 25 = nI 0 ∧ τf.2 31 = g ∧ g < 0 ∧ (a = -10 + g ∧ a < 0) ∧ RR nf nl nm nt no K σf τf
def Loop (nf nl nm nt no K : Nat) (σ τ : MS) : Prop := ∃ (k : Nat) (ms : Nat → Nat), (LQ nf nl nm nt no K k ms σ τ ∧ ¬ τ.2 31 < 0) ∨ LA nf nl nm nt no K k ms σ τ
theorem L58_x {fu : Nat} {a : Int32} : ∀ (n : Nat) (σ : MS) (x1 x3 y1 y3 : Int32), sX5_beginFrom_L58 fu n σ x1 a x3 = sX5_beginFrom_L58 fu n σ y1 a y3 := by
  intro n
  induction n with
  | zero => intro σ x1 x3 y1 y3; rfl
  | succ n ih =>
    intro σ x1 x3 y1 y3
    rw [sX5_beginFrom_L58, sX5_beginFrom_L58, ih _ x1 x3 y1 y3]
theorem Fin.of {nf nl nm0 nm nt no K k : Nat} {ms : Nat → Nat} {σ τ τ0 : MS} {a g : Int32} (hK : K ≤ 511) (h : UF nf nl nm nt no K k ms σ τ g) (hr : RT τ0 τ) (ha : a = -10 + g ∧ a < 0) (hn : nm0 ≤ nm) : Fin nf nl nm0 nt K a σ τ0 := by
  have hkb := h.1.kb
  have hbm := h.1.1.bm
  obtain ⟨σ', τ', t1, t2, t3, t4, t5⟩ := unw (a := a) (x1 := 0) (x3 := 0) hK k ms σ τ h
  exact ⟨g, nm, no, σ', τ', hn, fun fu n hn x1 x3 => (L58_x n σ x1 x3 0 0).trans (t1 fu n (by omega)), hr.tr t2, t3, t4, h.2.2.2.2, ha, t5⟩
