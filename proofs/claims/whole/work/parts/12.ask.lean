/-! ===== the two machines side by side: asking and making ===== -/
def w1 (x : Int32) : Nat := if x = 0 then 0 else 1
def wM (x : Int32) : Nat := if x = -1 then 0 else 1
theorem w1_le (x : Int32) : w1 x ≤ 1 := by unfold w1; split <;> omega
theorem wM_le (x : Int32) : wM x ≤ 1 := by unfold wM; split <;> omega
/-- the open places: a file on the shelf, and none made -/
def opn (s m : Nat → Int32) : Nat → Int32 := fun j => if m j = -1 then s j else -1
theorem opn_made {s m : Nat → Int32} {i : Nat} {v : Int32} (hv : ¬ v = -1) : opn s (upd m i v) = upd (opn s m) i (-1) := by
  funext j
  unfold opn
  rw [upd_at, upd_at]
  by_cases e : j = i
  · rw [if_pos e, if_pos e, if_neg hv]
  · rw [if_neg e, if_neg e]
theorem opn_put {s m : Nat → Int32} {i : Nat} {v : Int32} : opn (upd s i v) m = upd (opn s m) i (if m i = -1 then v else -1) := by
  funext j
  unfold opn
  rw [upd_at, upd_at]
  by_cases e : j = i
  · subst e
    rw [if_pos rfl, if_pos rfl]
  · rw [if_neg e, if_neg e]
def Inv (nf nl nm : Nat) (σ : MS) : Prop :=
  (∀ f, f < nf → iv (σ.1 8 f) 31 ∧ ov (σ.1 10 f) 31 ∧ ov (σ.1 11 f) 31 ∧ iv (σ.1 12 f) 4) ∧
  (∀ l, l < nl → σ.1 13 l = -1 ∨ ∃ k, k < nl ∧ σ.1 13 l = nI k ∧ σ.1 13 k = -1) ∧
  (∀ j, j < 31 * nl → ov (σ.1 16 j) nf ∧ ov (σ.1 17 j) nm ∧ ov (σ.1 18 j) nm) ∧
  (∀ m, m < nm → iv (σ.1 20 m) nl ∧ iv (σ.1 22 m) nf ∧ ov (σ.1 23 m) m)
def Rm (nf nl nm K : Nat) (σ τ : MS) : Prop :=
  (σ.1 8 = τ.1 1 ∧ σ.1 9 = τ.1 2 ∧ σ.1 10 = τ.1 3 ∧ σ.1 11 = τ.1 4 ∧ σ.1 12 = τ.1 5) ∧
  (σ.1 13 = τ.1 7 ∧ σ.1 14 = τ.1 8 ∧ σ.1 15 = τ.1 9 ∧ σ.1 19 = τ.1 13) ∧
  (σ.1 20 = τ.1 15 ∧ σ.1 21 = τ.1 16 ∧ σ.1 22 = τ.1 18 ∧ σ.1 23 = τ.1 17) ∧
  (slotEq nl (σ.1 16) (τ.1 10) ∧ slotEq nl (σ.1 17) (τ.1 11) ∧ slotEq nl (σ.1 18) (τ.1 12)) ∧
  (σ.2 0 = nI nf ∧ σ.2 1 = nI nl ∧ σ.2 2 = nI nm) ∧ (τ.2 0 = nI nf ∧ τ.2 6 = nI nl ∧ τ.2 14 = nI nm) ∧
  (nf ≤ 40 ∧ nl ≤ 10 ∧ nm + cw wM (opn (σ.1 16) (σ.1 17)) 310 ≤ K) ∧ Inv nf nl nm σ
section RM
variable {nf nl nm K : Nat} {σ τ : MS}
theorem Rm.e1 (h : Rm nf nl nm K σ τ) : τ.1 1 = σ.1 8 := h.1.1.symm
theorem Rm.e3 (h : Rm nf nl nm K σ τ) : τ.1 3 = σ.1 10 := h.1.2.2.1.symm
theorem Rm.e4 (h : Rm nf nl nm K σ τ) : τ.1 4 = σ.1 11 := h.1.2.2.2.1.symm
theorem Rm.e2 (h : Rm nf nl nm K σ τ) : τ.1 2 = σ.1 9 := h.1.2.1.symm
theorem Rm.e5 (h : Rm nf nl nm K σ τ) : τ.1 5 = σ.1 12 := h.1.2.2.2.2.symm
theorem Rm.e7 (h : Rm nf nl nm K σ τ) : τ.1 7 = σ.1 13 := h.2.1.1.symm
theorem Rm.e8 (h : Rm nf nl nm K σ τ) : τ.1 8 = σ.1 14 := h.2.1.2.1.symm
theorem Rm.e9 (h : Rm nf nl nm K σ τ) : τ.1 9 = σ.1 15 := h.2.1.2.2.1.symm
theorem Rm.e13 (h : Rm nf nl nm K σ τ) : τ.1 13 = σ.1 19 := h.2.1.2.2.2.symm
theorem Rm.e15 (h : Rm nf nl nm K σ τ) : τ.1 15 = σ.1 20 := h.2.2.1.1.symm
theorem Rm.e16 (h : Rm nf nl nm K σ τ) : τ.1 16 = σ.1 21 := h.2.2.1.2.1.symm
theorem Rm.e18 (h : Rm nf nl nm K σ τ) : τ.1 18 = σ.1 22 := h.2.2.1.2.2.1.symm
theorem Rm.e17 (h : Rm nf nl nm K σ τ) : τ.1 17 = σ.1 23 := h.2.2.1.2.2.2.symm
theorem Rm.s10 (h : Rm nf nl nm K σ τ) : slotEq nl (σ.1 16) (τ.1 10) := h.2.2.2.1.1
theorem Rm.s11 (h : Rm nf nl nm K σ τ) : slotEq nl (σ.1 17) (τ.1 11) := h.2.2.2.1.2.1
theorem Rm.s12 (h : Rm nf nl nm K σ τ) : slotEq nl (σ.1 18) (τ.1 12) := h.2.2.2.1.2.2
theorem Rm.z0 (h : Rm nf nl nm K σ τ) : σ.2 0 = nI nf := h.2.2.2.2.1.1
theorem Rm.z1 (h : Rm nf nl nm K σ τ) : σ.2 1 = nI nl := h.2.2.2.2.1.2.1
theorem Rm.z2 (h : Rm nf nl nm K σ τ) : σ.2 2 = nI nm := h.2.2.2.2.1.2.2
theorem Rm.r0 (h : Rm nf nl nm K σ τ) : τ.2 0 = nI nf := h.2.2.2.2.2.1.1
theorem Rm.r6 (h : Rm nf nl nm K σ τ) : τ.2 6 = nI nl := h.2.2.2.2.2.1.2.1
theorem Rm.r14 (h : Rm nf nl nm K σ τ) : τ.2 14 = nI nm := h.2.2.2.2.2.1.2.2
theorem Rm.bf (h : Rm nf nl nm K σ τ) : nf ≤ 40 := h.2.2.2.2.2.2.1.1
theorem Rm.bl (h : Rm nf nl nm K σ τ) : nl ≤ 10 := h.2.2.2.2.2.2.1.2.1
theorem Rm.cnt (h : Rm nf nl nm K σ τ) : nm + cw wM (opn (σ.1 16) (σ.1 17)) 310 ≤ K := h.2.2.2.2.2.2.1.2.2
theorem Rm.inv (h : Rm nf nl nm K σ τ) : Inv nf nl nm σ := h.2.2.2.2.2.2.2
theorem Rm.bm (h : Rm nf nl nm K σ τ) : nm ≤ K := by
  have h1 := h.cnt
  omega
theorem Rm.more (h : Rm nf nl nm K σ τ) {K' : Nat} (hK : K ≤ K') : Rm nf nl nm K' σ τ := by
  obtain ⟨h1, h2, h3, h4, h5, h6, ⟨h7, h8, h9⟩, h10⟩ := h
  exact ⟨h1, h2, h3, h4, h5, h6, ⟨h7, h8, by omega⟩, h10⟩
end RM
/-- what an asking or making leaves as it was -/
def Xd (nm nm' : Nat) (σ σ' : MS) : Prop :=
  nm ≤ nm' ∧ (∀ k, k ∉ [17, 18, 20, 21, 22, 23, 24] → σ'.1 k = σ.1 k) ∧ (∀ k, k ≠ 2 → σ'.2 k = σ.2 k) ∧
  (∀ j, σ'.1 24 j = if nm ≤ j ∧ j < nm' then 0 else σ.1 24 j) ∧ (∀ m, m < nm → σ'.1 20 m = σ.1 20 m ∧ σ'.1 22 m = σ.1 22 m ∧ σ'.1 23 m = σ.1 23 m) ∧
  (∀ j, ¬ σ.1 19 j = 0 → σ'.1 17 j = σ.1 17 j)
def Xr (nm nm' d : Nat) (τ τ' : MS) : Prop :=
  (∀ k, k ∉ [11, 12, 15, 16, 17, 18, 19, 26, 27, 28, 29, 30] → τ'.1 k = τ.1 k) ∧ (∀ k, k ∉ [14, 25, 31] → τ'.2 k = τ.2 k) ∧
  (∀ k j, k ∈ [26, 27, 28, 29, 30] → j < d → τ'.1 k j = τ.1 k j) ∧ (∀ j, τ'.1 19 j = if nm ≤ j ∧ j < nm' then 0 else τ.1 19 j)
theorem Xd.rf {nm : Nat} {σ : MS} : Xd nm nm σ σ := ⟨Nat.le_refl _, fun _ _ => rfl, fun _ _ => rfl, fun j => by rw [if_neg (by omega)], fun _ _ => ⟨rfl, rfl, rfl⟩, fun _ _ => rfl⟩
theorem Xd.tr {a b c : Nat} {σ1 σ2 σ3 : MS} (h : Xd a b σ1 σ2) (h' : Xd b c σ2 σ3) : Xd a c σ1 σ3 := by
  obtain ⟨h1, h2, h3, h4, h5, h6⟩ := h
  obtain ⟨g1, g2, g3, g4, g5, g6⟩ := h'
  refine ⟨by omega, fun k hk => (g2 k hk).trans (h2 k hk), fun k hk => (g3 k hk).trans (h3 k hk), fun j => ?_, fun m hm => ?_, fun j hj => ?_⟩
  · rw [g4 j, h4 j]
    by_cases e1 : b ≤ j ∧ j < c
    · rw [if_pos e1, if_pos (by omega)]
    · rw [if_neg e1]
      by_cases e2 : a ≤ j ∧ j < b
      · rw [if_pos e2, if_pos (by omega)]
      · rw [if_neg e2, if_neg (by omega)]
  · obtain ⟨p1, p2, p3⟩ := h5 m hm
    obtain ⟨q1, q2, q3⟩ := g5 m (by omega)
    exact ⟨q1.trans p1, q2.trans p2, q3.trans p3⟩
  · exact (g6 j (by rw [h2 19 (by decide)]; exact hj)).trans (h6 j hj)
theorem Xr.rf {nm d : Nat} {τ : MS} : Xr nm nm d τ τ := ⟨fun _ _ => rfl, fun _ _ => rfl, fun _ _ _ _ => rfl, fun j => by rw [if_neg (by omega)]⟩
theorem Xr.tr {a b c d d' : Nat} {τ1 τ2 τ3 : MS} (hab : a ≤ b) (hbc : b ≤ c) (hd : d ≤ d') (h : Xr a b d τ1 τ2) (h' : Xr b c d' τ2 τ3) : Xr a c d τ1 τ3 := by
  obtain ⟨h2, h3, h5, h4⟩ := h
  obtain ⟨g2, g3, g5, g4⟩ := h'
  refine ⟨fun k hk => (g2 k hk).trans (h2 k hk), fun k hk => (g3 k hk).trans (h3 k hk), fun k j hk hj => (g5 k j hk (by omega)).trans (h5 k j hk hj), fun j => ?_⟩
  rw [g4 j, h4 j]
  by_cases e1 : b ≤ j ∧ j < c
  · rw [if_pos e1, if_pos (by omega)]
  · rw [if_neg e1]
    by_cases e2 : a ≤ j ∧ j < b
    · rw [if_pos e2, if_pos (by omega)]
    · rw [if_neg e2, if_neg (by omega)]
/-- the answers: a module, or why not -/
def rg (nm : Nat) (r g : Int32) : Prop := (∃ m, m < nm ∧ r = nI m ∧ g = nI m) ∨ (r, g) ∈ [((-11 : Int32), (-1 : Int32)), (-13, -3), (-14, -4), (-15, -5), (-16, -6), (-12, -2)]
theorem rg.mono {a b : Nat} {r g : Int32} (h : rg a r g) (hab : a ≤ b) : rg b r g := by
  rcases h with ⟨m, h1, h2⟩ | h
  · exact Or.inl ⟨m, by omega, h2⟩
  · exact Or.inr h
theorem rg.neg {nm : Nat} {r g : Int32} (h : rg nm r g) (hr : r < 0) (hn : nm < 2 ^ 31) : g < 0 ∧ (r = -11 ↔ g = -1) ∧ r = -10 + g := by
  rcases h with ⟨m, h1, h2, h3⟩ | h
  · subst h2; exact absurd hr (nI_pos (by omega))
  · simp only [List.mem_cons, List.not_mem_nil, or_false, Prod.mk.injEq] at h
    rcases h with ⟨rfl, rfl⟩ | ⟨rfl, rfl⟩ | ⟨rfl, rfl⟩ | ⟨rfl, rfl⟩ | ⟨rfl, rfl⟩ | ⟨rfl, rfl⟩ <;> decide
theorem rg.pos {nm : Nat} {r g : Int32} (h : rg nm r g) (hr : ¬ r < 0) : ∃ m, m < nm ∧ r = nI m ∧ g = nI m := by
  rcases h with h | h
  · exact h
  · simp only [List.mem_cons, List.not_mem_nil, or_false, Prod.mk.injEq] at h
    rcases h with ⟨rfl, rfl⟩ | ⟨rfl, rfl⟩ | ⟨rfl, rfl⟩ | ⟨rfl, rfl⟩ | ⟨rfl, rfl⟩ | ⟨rfl, rfl⟩ <;> exact absurd (by decide) hr
def Out (nf nl nm nm' K d : Nat) (σ σ' τ τ' : MS) (r g : Int32) : Prop :=
  Rm nf nl nm' K σ' τ' ∧ Xd nm nm' σ σ' ∧ Xr nm nm' d τ τ' ∧ τ'.2 25 = nI d ∧ τ'.2 31 = g ∧ rg nm' r g
/-- a module stands, on both sides -/
theorem stand_ok {nf nl nm K K' l x f d : Nat} {σ τ : MS} {pv : Int32} (h : Rm nf nl nm K σ τ) (hK : K ≤ 511) (hl : l < nl) (hx : x < 31) (hf : f < nf) (hp : ov pv nm) (hc : (σ.1 17 (31 * l + x) = -1 ∧ ¬ σ.1 16 (31 * l + x) = -1 ∧ K' = K) ∨ K' = K + 1) (hfl : σ.1 19 (31 * l + x) = 0) (hd : τ.2 25 = nI (d + 1)) :
    ∃ σ' τ', sX5_stand σ (nI l) (nI x) (nI f) pv = some (nI nm, σ') ∧ sX6_stands τ (nI (31 * l + x)) (nI f) pv = some τ' ∧ Out nf nl nm (nm + 1) K' d σ σ' τ τ' (nI nm) (nI nm) ∧ (∀ j, ¬ j = 31 * l + x → σ'.1 17 j = σ.1 17 j) := by
  have hnl := h.bl
  have hj : 31 * l + x < 310 := by omega
  have hj2 : 31 * l + x < 31 * nl := by omega
  have hcu := cw_upd (w := wM) (f := opn (σ.1 16) (σ.1 17)) (x := -1) hj
  have hnm : nm ≤ 511 ∧ nm + 1 + cw wM (opn (σ.1 16) (upd (σ.1 17) (31 * l + x) (nI nm))) 310 ≤ K' := by
    have h1 := h.cnt
    have h4 : nm ≤ 511 := by omega
    have h5 : wM (-1) = 0 := rfl
    rw [h5, ← opn_made (v := nI nm) (nI_m1 (by omega))] at hcu
    refine ⟨h4, ?_⟩
    rcases hc with ⟨e1, e3, e2⟩ | e2
    · have h7 : wM (opn (σ.1 16) (σ.1 17) (31 * l + x)) = 1 := by
        unfold opn wM
        rw [if_pos e1, if_neg e3]
      omega
    · omega
  obtain ⟨hnm1, hnm2⟩ := hnm
  refine ⟨sA (sZ (sA (sA (sA (sA (sA σ 20 nm (nI l)) 21 nm (nI x)) 22 nm (nI f)) 23 nm pv) 24 nm 0) 2 (nI (nm + 1))) 17 (31 * l + x) (nI nm), sZ (sZ (sZ (sA (sA (sA (sA (sA (sA τ 15 nm (nI l)) 16 nm (nI x)) 17 nm pv) 18 nm (nI f)) 19 nm 0) 11 (31 * l + x) (nI nm)) 14 (nI (nm + 1))) 31 (nI nm)) 25 (nI d), ?_, ?_, ?_, fun j hj => pk_un hj⟩
  · rw [sX5_stand, sX2_add, h.z2, if_pos (show nI nm < (512 : Int32) from nI_lt (b := 512) (by omega) (by omega)), if_pos (gi_nI (by omega) (by omega)), nI_clamp (by omega), nI_1, Option.bind_some, if_neg (nI_pos (by omega)), sX5_slot, Option.bind_some, slot_e2, if_pos (gi_nI hj (by omega)), nI_clamp (by omega)]
  · rw [sX6_stands, h.r14, if_pos (gi_nI (by omega) (by omega)), if_pos (gi_nI hj (by omega)), slot_div (by omega) hx, show nI (31 * l + x) - nI l * (31 : Int32) = nI x by rw [← slot_div (l := l) (x := x) (by omega) hx]; exact slot_mod (by omega) hx, nI_clamp (by omega), nI_clamp (by omega), nI_1, show nI (nm + 1) - 1 = nI nm from nI_pred nm, gives_e (d := d) (by exact hd)]
    rfl
  · obtain ⟨⟨h8, h9, h10, h11, h12⟩, ⟨h13, h14, h15, h19⟩, ⟨h20, h21, h22, h23⟩, ⟨hs16, hs17, hs18⟩, ⟨hz0, hz1, hz2⟩, ⟨hr0, hr6, hr14⟩, ⟨hb1, hb2, hb3⟩, ⟨hi1, hi2, hi3, hi4⟩⟩ := h
    refine ⟨⟨⟨h8, h9, h10, h11, h12⟩, ⟨h13, h14, h15, h19⟩, ⟨congrArg (fun z => upd z nm (nI l)) h20, congrArg (fun z => upd z nm (nI x)) h21, congrArg (fun z => upd z nm (nI f)) h22, congrArg (fun z => upd z nm pv) h23⟩, ⟨hs16, hs17.upd hj2 _, hs18⟩, ⟨hz0, hz1, rfl⟩, ⟨hr0, hr6, rfl⟩, ⟨hb1, hb2, hnm2⟩, ⟨hi1, hi2, fun j hj => ?_, fun m hm => ?_⟩⟩, ⟨by omega, fun k hk => ?_, fun k hk => ?_, fun j => ?_, fun m hm => ?_, fun j hj => ?_⟩, ⟨fun k hk => ?_, fun k hk => ?_, fun k j hk hj => ?_, fun j => ?_⟩, rfl, rfl, Or.inl ⟨nm, by omega, rfl, rfl⟩⟩
    · obtain ⟨a1, a2, a3⟩ := hi3 j hj
      refine ⟨a1, ?_, a3.mono (by omega)⟩
      show ov (upd (σ.1 17) (31 * l + x) (nI nm) j) (nm + 1)
      rw [upd_at]
      split
      · exact Or.inr ⟨nm, by omega, rfl⟩
      · exact a2.mono (by omega)
    · show iv (upd (σ.1 20) nm (nI l) m) nl ∧ iv (upd (σ.1 22) nm (nI f) m) nf ∧ ov (upd (σ.1 23) nm pv m) m
      rw [upd_at, upd_at, upd_at]
      by_cases e : m = nm
      · subst e
        rw [if_pos rfl, if_pos rfl, if_pos rfl]
        exact ⟨⟨l, hl, rfl⟩, ⟨f, hf, rfl⟩, hp⟩
      · rw [if_neg e, if_neg e, if_neg e]
        exact hi4 m (by omega)
    · simp only [List.mem_cons, List.not_mem_nil, or_false, not_or] at hk
      simp [sA_at, sZ_1, hk]
    · simp [sA_2, sZ_at, hk]
    · show upd (σ.1 24) nm 0 j = _
      rw [upd_at]
      by_cases e : j = nm
      · rw [if_pos e, if_pos (by omega)]
      · rw [if_neg e, if_neg (by omega)]
    · show upd (σ.1 20) nm (nI l) m = _ ∧ upd (σ.1 22) nm (nI f) m = _ ∧ upd (σ.1 23) nm pv m = _
      rw [upd_at, upd_at, upd_at, if_neg (by omega), if_neg (by omega), if_neg (by omega)]
      exact ⟨rfl, rfl, rfl⟩
    · show upd (σ.1 17) (31 * l + x) (nI nm) j = _
      rw [upd_at, if_neg (fun e => hj (by rw [e]; exact hfl))]
    · simp only [List.mem_cons, List.not_mem_nil, or_false, not_or] at hk
      simp [sA_at, sZ_1, hk]
    · simp only [List.mem_cons, List.not_mem_nil, or_false, not_or] at hk
      simp [sA_2, sZ_at, hk]
    · simp only [List.mem_cons, List.not_mem_nil, or_false] at hk
      rcases hk with rfl | rfl | rfl | rfl | rfl <;> rfl
    · show upd (τ.1 19) nm 0 j = _
      rw [upd_at]
      by_cases e : j = nm
      · rw [if_pos e, if_pos (by omega)]
      · rw [if_neg e, if_neg (by omega)]
