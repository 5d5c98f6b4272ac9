/-! what is held -/
def setH (σ : MS) (f : Nat → Int32) : MS := (va_up σ.1 7 f, σ.2)
def setK (τ : MS) (g : Nat → Int32) : MS := (va_up τ.1 32 g, τ.2)
theorem setH_sA (σ : MS) (f : Nat → Int32) (i : Nat) (x : Int32) : sA (setH σ f) 7 i x = setH σ (upd f i x) := by
  show (va_up (va_up σ.1 7 f) 7 (upd f i x), σ.2) = (va_up σ.1 7 (upd f i x), σ.2)
  rw [bx_uu]
theorem setK_sA (τ : MS) (g : Nat → Int32) (i : Nat) (x : Int32) : sA (setK τ g) 32 i x = setK τ (upd g i x) := by
  show (va_up (va_up τ.1 32 g) 32 (upd g i x), τ.2) = (va_up τ.1 32 (upd g i x), τ.2)
  rw [bx_uu]
theorem setH_self (σ : MS) : setH σ (σ.1 7) = σ := by
  have : va_up σ.1 7 (σ.1 7) = σ.1 := by
    funext k
    show (if k = 7 then σ.1 7 else σ.1 k) = σ.1 k
    split
    · next e => rw [e]
    · rfl
  exact Prod.ext this rfl
theorem setK_self (τ : MS) : setK τ (τ.1 32) = τ := by
  have : va_up τ.1 32 (τ.1 32) = τ.1 := by
    funext k
    show (if k = 32 then τ.1 32 else τ.1 k) = τ.1 k
    split
    · next e => rw [e]
    · rfl
  exact Prod.ext this rfl
def EH (nm : Nat) (f g : Nat → Int32) : Prop := ∀ m, m < nm → f m = g m ∧ (f m = 0 ∨ f m = 1)
theorem EH.up {nm : Nat} {f g : Nat → Int32} (h : EH nm f g) (i : Nat) {x : Int32} (hx : x = 0 ∨ x = 1) : EH nm (upd f i x) (upd g i x) := by
  intro m hm
  by_cases e : m = i
  · subst e; rw [pk_us, pk_us]; exact ⟨rfl, hx⟩
  · rw [pk_un e, pk_un e]; exact h m hm
section HELD
variable {nf nl nm nt no K : Nat} {σ τ : MS}
/-- all are cleared -/
theorem h_clear (h : RR nf nl nm nt no K σ τ) (hK : K ≤ 511) : ∀ (k : Nat) (f g : Nat → Int32), k ≤ nm → (∀ m, m < nm - k → f m = 0 ∧ g m = 0) → ∃ f' g' : Nat → Int32, EH nm f' g' ∧ (∀ fu n, k < n → sX5_markHeld_L2 fu n (setH σ f) (nI (nm - k)) = sX5_markHeld_L28 fu fu (setH σ f') 0) ∧ (∀ fu n, k < n → sX6_holds_L2 fu n (setK τ g) (nI (nm - k)) = sX6_holds_L25 fu fu (setK τ g') 0) := by
  have hbm := h.1.bm
  intro k
  induction k with
  | zero =>
    intro f g _ h0
    refine ⟨f, g, fun m hm => ?_, fun fu n hn => ?_, fun fu n hn => ?_⟩
    · obtain ⟨a, b⟩ := h0 m (by omega)
      exact ⟨a.trans b.symm, Or.inl a⟩
    · obtain ⟨q, rfl⟩ : ∃ q, n = q + 1 := ⟨n - 1, by omega⟩
      rw [sX5_markHeld_L2, show (setH σ f).2 2 = nI nm from h.1.z2, if_pos (nI_le (by omega) (by omega))]
    · obtain ⟨q, rfl⟩ : ∃ q, n = q + 1 := ⟨n - 1, by omega⟩
      rw [sX6_holds_L2, show (setK τ g).2 14 = nI nm from h.1.r14, if_pos (nI_le (by omega) (by omega))]
  | succ k ih =>
    intro f g hk h0
    obtain ⟨f', g', e1, e2, e3⟩ := ih (upd f (nm - (k + 1)) 0) (upd g (nm - (k + 1)) 0) (by omega) (fun m hm => by
      by_cases e : m = nm - (k + 1)
      · subst e; rw [pk_us, pk_us]; exact ⟨rfl, rfl⟩
      · rw [pk_un e, pk_un e]; exact h0 m (by omega))
    refine ⟨f', g', e1, fun fu n hn => ?_, fun fu n hn => ?_⟩
    · obtain ⟨q, rfl⟩ : ∃ q, n = q + 1 := ⟨n - 1, by omega⟩
      rw [sX5_markHeld_L2, show (setH σ f).2 2 = nI nm from h.1.z2, if_neg (nI_ge (by omega) (by omega)), if_pos (gi_nI (by omega) (by omega)), nI_clamp (by omega), setH_sA, nI_1, show nm - (k + 1) + 1 = nm - k by omega]
      exact e2 fu q (by omega)
    · obtain ⟨q, rfl⟩ : ∃ q, n = q + 1 := ⟨n - 1, by omega⟩
      rw [sX6_holds_L2, show (setK τ g).2 14 = nI nm from h.1.r14, if_neg (nI_ge (by omega) (by omega)), if_pos (gi_nI (by omega) (by omega)), nI_clamp (by omega), setK_sA, nI_1, show nm - (k + 1) + 1 = nm - k by omega]
      exact e3 fu q (by omega)
/-- by things -/
theorem h_things (h : RR nf nl nm nt no K σ τ) (hK : K ≤ 511) : ∀ (k : Nat) (f g : Nat → Int32), k ≤ nt → EH nm f g → ∃ f' g' : Nat → Int32, EH nm f' g' ∧ (∀ fu n, k < n → sX5_markHeld_L28 fu n (setH σ f) (nI (nt - k)) = sX5_markHeld_L74 fu fu (setH σ f') 0) ∧ (∀ fu n, k < n → sX6_holds_L25 fu n (setK τ g) (nI (nt - k)) = sX6_holds_L80 fu fu (setK τ g') 0) := by
  have hbm := h.1.bm
  have hbt := h.2.2.2.2.1.1
  intro k
  induction k with
  | zero =>
    intro f g _ h0
    refine ⟨f, g, h0, fun fu n hn => ?_, fun fu n hn => ?_⟩
    · obtain ⟨q, rfl⟩ : ∃ q, n = q + 1 := ⟨n - 1, by omega⟩
      rw [sX5_markHeld_L28, show (setH σ f).2 3 = nI nt from h.2.2.2.1.1, if_pos (nI_le (by omega) (by omega))]
    · obtain ⟨q, rfl⟩ : ∃ q, n = q + 1 := ⟨n - 1, by omega⟩
      rw [sX6_holds_L25, show (setK τ g).2 20 = nI nt from h.2.2.2.1.2.1, if_pos (nI_le (by omega) (by omega))]
  | succ k ih =>
    intro f g hk h0
    obtain ⟨m, hm, em⟩ := h.2.2.2.2.2.1 (nt - (k + 1)) (by omega)
    obtain ⟨a1, a2⟩ := h0 m hm
    have em' : τ.1 21 (nt - (k + 1)) = nI m := by rw [← h.2.1.2.1]; exact em
    have e26 : τ.1 22 = σ.1 26 := h.2.1.2.2.1.symm
    by_cases c : σ.1 26 (nt - (k + 1)) = 0
    · obtain ⟨f', g', e1, e2, e3⟩ := ih (upd f m 1) (upd g m 1) (by omega) (h0.up m (Or.inr rfl))
      refine ⟨f', g', e1, fun fu n hn => ?_, fun fu n hn => ?_⟩
      · obtain ⟨q, rfl⟩ : ∃ q, n = q + 1 := ⟨n - 1, by omega⟩
        rw [sX5_markHeld_L28, show (setH σ f).2 3 = nI nt from h.2.2.2.1.1, if_neg (nI_ge (by omega) (by omega)), if_pos (gi_nI (by omega) (by omega)), nI_clamp (by omega), show (setH σ f).1 26 = σ.1 26 from rfl, if_pos c, show (setH σ f).1 25 = σ.1 25 from rfl, em, if_pos (gi_nI (by omega) (by omega)), nI_clamp (by omega), setH_sA, nI_1, show nt - (k + 1) + 1 = nt - k by omega]
        exact e2 fu q (by omega)
      · obtain ⟨q, rfl⟩ : ∃ q, n = q + 1 := ⟨n - 1, by omega⟩
        rw [sX6_holds_L25, show (setK τ g).2 20 = nI nt from h.2.2.2.1.2.1, if_neg (nI_ge (by omega) (by omega)), if_pos (gi_nI (by omega) (by omega)), nI_clamp (by omega), show (setK τ g).1 21 = τ.1 21 from rfl, em', if_pos (gi_nI (by omega) (by omega)), nI_clamp (by omega), show (setK τ g).1 22 = τ.1 22 from rfl, e26, if_pos c, ite_self, setK_sA, nI_1, show nt - (k + 1) + 1 = nt - k by omega]
        exact e3 fu q (by omega)
    · have hup : EH nm f (if g m = 0 then upd g m 0 else upd g m 1) := by
        intro i hi
        obtain ⟨b1, b2⟩ := h0 i hi
        refine ⟨?_, b2⟩
        by_cases e : i = m
        · subst e
          by_cases c3 : g i = 0
          · rw [if_pos c3, pk_us, b1, c3]
          · rw [if_neg c3, pk_us]
            rcases b2 with b2 | b2
            · exact absurd (b1.symm.trans b2) c3
            · exact b2
        · split <;> rw [pk_un e] <;> exact b1
      obtain ⟨f', g', e1, e2, e3⟩ := ih f _ (by omega) hup
      refine ⟨f', g', e1, fun fu n hn => ?_, fun fu n hn => ?_⟩
      · obtain ⟨q, rfl⟩ : ∃ q, n = q + 1 := ⟨n - 1, by omega⟩
        rw [sX5_markHeld_L28, show (setH σ f).2 3 = nI nt from h.2.2.2.1.1, if_neg (nI_ge (by omega) (by omega)), if_pos (gi_nI (by omega) (by omega)), nI_clamp (by omega), show (setH σ f).1 26 = σ.1 26 from rfl, if_neg c, nI_1, show nt - (k + 1) + 1 = nt - k by omega]
        exact e2 fu q (by omega)
      · obtain ⟨q, rfl⟩ : ∃ q, n = q + 1 := ⟨n - 1, by omega⟩
        rw [sX6_holds_L25, show (setK τ g).2 20 = nI nt from h.2.2.2.1.2.1, if_neg (nI_ge (by omega) (by omega)), if_pos (gi_nI (by omega) (by omega)), nI_clamp (by omega), show (setK τ g).1 21 = τ.1 21 from rfl, em', if_pos (gi_nI (by omega) (by omega)), nI_clamp (by omega), show (setK τ g).1 22 = τ.1 22 from rfl, e26, if_neg c, setK_sA, setK_sA, nI_1, show nt - (k + 1) + 1 = nt - k by omega, show (setK τ g).1 32 m = g m from rfl]
        have := e3 fu q (by omega)
        by_cases c3 : g m = 0
        · rw [if_pos c3] at this ⊢; exact this
        · rw [if_neg c3] at this ⊢; exact this
/-- by one loader -/
theorem h_one (h : RR nf nl nm nt no K σ τ) (hK : K ≤ 511) {l : Nat} (hl : l < nl) (hg : σ.1 15 l = 0) : ∀ (k : Nat) (f g : Nat → Int32), k ≤ 31 → EH nm f g → ∃ f' g' : Nat → Int32, EH nm f' g' ∧ (∀ fu n, k < n → sX5_markHeldBy_L2 fu n (setH σ f) (nI l) (nI (31 - k)) = some (setH σ f')) ∧ (∀ fu n, sX6_holds_L80 fu (n + k) (setK τ g) (nI (31 * l + (31 - k))) = sX6_holds_L80 fu n (setK τ g') (nI (31 * (l + 1)))) := by
  have hbm := h.1.bm
  have hbl := h.1.bl
  intro k
  induction k with
  | zero =>
    intro f g _ h0
    refine ⟨f, g, h0, fun fu n hn => ?_, fun fu n => ?_⟩
    · obtain ⟨q, rfl⟩ : ∃ q, n = q + 1 := ⟨n - 1, by omega⟩
      rw [sX5_markHeldBy_L2, if_pos (by decide)]
    · rw [show 31 * l + (31 - 0) = 31 * (l + 1) by omega]; rfl
  | succ k ih =>
    intro f g hk h0
    have hx : 31 - (k + 1) < 31 := by omega
    have hj : 31 * l + (31 - (k + 1)) < 310 := by omega
    have hj2 : 31 * l + (31 - (k + 1)) < 31 * nl := by omega
    obtain ⟨-, o17, o18⟩ := h.1.inv.2.2.1 _ hj2
    have hs : nI (31 - (k + 1)) + 1 = nI (31 - k) := by rw [nI_1, show 31 - (k + 1) + 1 = 31 - k by omega]
    have hs2 : nI (31 * l + (31 - (k + 1))) + 1 = nI (31 * l + (31 - k)) := by rw [nI_1, show 31 * l + (31 - (k + 1)) + 1 = 31 * l + (31 - k) by omega]
    have hd : ∀ fu n, sX5_markHeldBy_L2 fu (n + 1) (setH σ f) (nI l) (nI (31 - (k + 1))) = (if σ.1 17 (31 * l + (31 - (k + 1))) = -1 then (if σ.1 18 (31 * l + (31 - (k + 1))) = -1 then sX5_markHeldBy_L2 fu n (setH σ f) (nI l) (nI (31 - k)) else if gi (σ.1 18 (31 * l + (31 - (k + 1)))) 512 then sX5_markHeldBy_L2 fu n (setH σ (upd f ((σ.1 18 (31 * l + (31 - (k + 1)))).toNatClampNeg) 1)) (nI l) (nI (31 - k)) else none) else if gi (σ.1 17 (31 * l + (31 - (k + 1)))) 512 then (if σ.1 18 (31 * l + (31 - (k + 1))) = -1 then sX5_markHeldBy_L2 fu n (setH σ (upd f ((σ.1 17 (31 * l + (31 - (k + 1)))).toNatClampNeg) 1)) (nI l) (nI (31 - k)) else if gi (σ.1 18 (31 * l + (31 - (k + 1)))) 512 then sX5_markHeldBy_L2 fu n (setH σ (upd (upd f ((σ.1 17 (31 * l + (31 - (k + 1)))).toNatClampNeg) 1) ((σ.1 18 (31 * l + (31 - (k + 1)))).toNatClampNeg) 1)) (nI l) (nI (31 - k)) else none) else none) := by
      intro fu n
      rw [sX5_markHeldBy_L2, if_neg (show ¬ (31 : Int32) ≤ nI (31 - (k + 1)) from nI_ge (b := 31) hx (by omega))]
      simp only [sX5_slot, Option.bind_some, slot_e2, if_pos (gi_nI hj (show 310 < 2 ^ 31 by omega)), nI_clamp (show 31 * l + (31 - (k + 1)) < 2 ^ 31 by omega), hs, setH_sA, show (setH σ f).1 17 = σ.1 17 from rfl, show (setH σ f).1 18 = σ.1 18 from rfl]
    have hr : ∀ fu n, sX6_holds_L80 fu (n + 1) (setK τ g) (nI (31 * l + (31 - (k + 1)))) = (if σ.1 17 (31 * l + (31 - (k + 1))) = -1 then (if σ.1 18 (31 * l + (31 - (k + 1))) = -1 then sX6_holds_L80 fu n (setK τ g) (nI (31 * l + (31 - k))) else if gi (σ.1 18 (31 * l + (31 - (k + 1)))) 1000 then sX6_holds_L80 fu n (setK τ (upd g ((σ.1 18 (31 * l + (31 - (k + 1)))).toNatClampNeg) 1)) (nI (31 * l + (31 - k))) else none) else if gi (σ.1 17 (31 * l + (31 - (k + 1)))) 1000 then (if σ.1 18 (31 * l + (31 - (k + 1))) = -1 then sX6_holds_L80 fu n (setK τ (upd g ((σ.1 17 (31 * l + (31 - (k + 1)))).toNatClampNeg) 1)) (nI (31 * l + (31 - k))) else if gi (σ.1 18 (31 * l + (31 - (k + 1)))) 1000 then sX6_holds_L80 fu n (setK τ (upd (upd g ((σ.1 17 (31 * l + (31 - (k + 1)))).toNatClampNeg) 1) ((σ.1 18 (31 * l + (31 - (k + 1)))).toNatClampNeg) 1)) (nI (31 * l + (31 - k))) else none) else none) := by
      intro fu n
      have e6 : (31 : Int32) * (setK τ g).2 6 = nI (31 * nl) := by
        rw [show (setK τ g).2 6 = nI nl from h.1.r6, show (31 : Int32) = nI 31 from rfl, pk_mul]
      rw [sX6_holds_L80, e6, if_neg (nI_ge hj2 (by omega)), slot_div (by omega) hx, if_pos (gi_nI (by omega) (by omega)), nI_clamp (show l < 2 ^ 31 by omega), show (setK τ g).1 9 = τ.1 9 from rfl, h.1.e9, if_pos hg]
      simp only [if_pos (gi_nI hj (show 310 < 2 ^ 31 by omega)), nI_clamp (show 31 * l + (31 - (k + 1)) < 2 ^ 31 by omega), hs2, setK_sA, show (setK τ g).1 11 = τ.1 11 from rfl, show (setK τ g).1 12 = τ.1 12 from rfl, h.1.s11.at hj2, h.1.s12.at hj2]
    by_cases c1 : σ.1 17 (31 * l + (31 - (k + 1))) = -1
    · by_cases c2 : σ.1 18 (31 * l + (31 - (k + 1))) = -1
      · obtain ⟨f', g', e1, e2, e3⟩ := ih f g (by omega) h0
        refine ⟨f', g', e1, fun fu n hn => ?_, fun fu n => ?_⟩
        · obtain ⟨q, rfl⟩ : ∃ q, n = q + 1 := ⟨n - 1, by omega⟩
          rw [hd, if_pos c1, if_pos c2]
          exact e2 fu q (by omega)
        · rw [← Nat.add_assoc, hr, if_pos c1, if_pos c2]
          exact e3 fu n
      · obtain ⟨m2, hm2, em2⟩ := o18.iv c2
        obtain ⟨f', g', e1, e2, e3⟩ := ih (upd f m2 1) (upd g m2 1) (by omega) (h0.up m2 (Or.inr rfl))
        refine ⟨f', g', e1, fun fu n hn => ?_, fun fu n => ?_⟩
        · obtain ⟨q, rfl⟩ : ∃ q, n = q + 1 := ⟨n - 1, by omega⟩
          rw [hd, if_pos c1, if_neg c2, em2, if_pos (gi_nI (by omega) (by omega)), nI_clamp (by omega)]
          exact e2 fu q (by omega)
        · rw [← Nat.add_assoc, hr, if_pos c1, if_neg c2, em2, if_pos (gi_nI (by omega) (by omega)), nI_clamp (by omega)]
          exact e3 fu n
    · obtain ⟨m1, hm1, em1⟩ := o17.iv c1
      by_cases c2 : σ.1 18 (31 * l + (31 - (k + 1))) = -1
      · obtain ⟨f', g', e1, e2, e3⟩ := ih (upd f m1 1) (upd g m1 1) (by omega) (h0.up m1 (Or.inr rfl))
        refine ⟨f', g', e1, fun fu n hn => ?_, fun fu n => ?_⟩
        · obtain ⟨q, rfl⟩ : ∃ q, n = q + 1 := ⟨n - 1, by omega⟩
          rw [hd, if_neg c1, em1, if_pos (gi_nI (by omega) (by omega)), if_pos c2, nI_clamp (by omega)]
          exact e2 fu q (by omega)
        · rw [← Nat.add_assoc, hr, if_neg c1, em1, if_pos (gi_nI (by omega) (by omega)), if_pos c2, nI_clamp (by omega)]
          exact e3 fu n
      · obtain ⟨m2, hm2, em2⟩ := o18.iv c2
        obtain ⟨f', g', e1, e2, e3⟩ := ih (upd (upd f m1 1) m2 1) (upd (upd g m1 1) m2 1) (by omega) ((h0.up m1 (Or.inr rfl)).up m2 (Or.inr rfl))
        refine ⟨f', g', e1, fun fu n hn => ?_, fun fu n => ?_⟩
        · obtain ⟨q, rfl⟩ : ∃ q, n = q + 1 := ⟨n - 1, by omega⟩
          rw [hd, if_neg c1, em1, if_pos (gi_nI (by omega) (by omega)), if_neg c2, em2, if_pos (gi_nI (by omega) (by omega)), nI_clamp (show m1 < 2 ^ 31 by omega), nI_clamp (show m2 < 2 ^ 31 by omega)]
          exact e2 fu q (by omega)
        · rw [← Nat.add_assoc, hr, if_neg c1, em1, if_pos (gi_nI (by omega) (by omega)), if_neg c2, em2, if_pos (gi_nI (by omega) (by omega)), nI_clamp (show m1 < 2 ^ 31 by omega), nI_clamp (show m2 < 2 ^ 31 by omega)]
          exact e3 fu n
end HELD
