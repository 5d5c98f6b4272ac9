/-! ===== between calls ===== -/
def wB (x : Int32) : Nat := if x = 1 then 1 else 0
theorem wB_le (x : Int32) : wB x ≤ 1 := by unfold wB; split <;> omega
def RR (nf nl nm nt no K : Nat) (σ τ : MS) : Prop :=
  Rm nf nl nm K σ τ ∧ (σ.1 24 = τ.1 19 ∧ σ.1 25 = τ.1 21 ∧ σ.1 26 = τ.1 22 ∧ σ.1 27 = τ.1 24) ∧ (∀ j, σ.1 19 j = 0) ∧
  (σ.2 3 = nI nt ∧ τ.2 20 = nI nt ∧ σ.2 4 = nI no ∧ τ.2 23 = nI no ∧ σ.2 5 = nI 0) ∧ (nt ≤ 60 ∧ no ≤ cw wB (σ.1 24) nm) ∧
  (∀ t, t < nt → iv (σ.1 25 t) nm) ∧ (∀ m, m < nm → σ.1 24 m = 0 ∨ σ.1 24 m = 1 ∨ σ.1 24 m = 2) ∧ (∀ t, nt ≤ t → σ.1 26 t = 0)
def SS (K : Nat) (σ τ : MS) : Prop := ∃ nf nl nm nt no, RR nf nl nm nt no K σ τ
theorem RR.more {nf nl nm nt no K K' : Nat} {σ τ : MS} (h : RR nf nl nm nt no K σ τ) (hK : K ≤ K') : RR nf nl nm nt no K' σ τ := ⟨h.1.more hK, h.2⟩
theorem SS.more {K K' : Nat} {σ τ : MS} (h : SS K σ τ) (hK : K ≤ K') : SS K' σ τ := by
  obtain ⟨nf, nl, nm, nt, no, h⟩ := h
  exact ⟨nf, nl, nm, nt, no, h.more hK⟩
def CallOK (dev ref : Nat → MS → Option (Int32 × MS)) : Prop := ∀ (K : Nat) (σ τ : MS), SS K σ τ → K ≤ 511 → ∃ (r : Int32) (σ' τ' : MS) (F : Nat), (∀ fu, F ≤ fu → dev fu σ = some (r, σ') ∧ ref fu τ = some (r, τ')) ∧ SS (K + 1) σ' τ'
def CallP (dev ref : Nat → MS → Option Int32) : Prop := ∀ (K : Nat) (σ τ : MS), SS K σ τ → K ≤ 511 → ∃ (r : Int32) (F : Nat), ∀ fu, F ≤ fu → dev fu σ = some r ∧ ref fu τ = some r
/-- numbers that are told: below n, or not -/
theorem ix_or (p : Int32) {n : Nat} (hn : n < 2 ^ 31) : (∃ j, j < n ∧ p = nI j) ∨ (p < 0 ∨ (¬ p < 0 ∧ nI n ≤ p)) := by
  by_cases h : p < 0
  · exact Or.inr (Or.inl h)
  · rcases pk_ix p hn with q | q | q
    · exact absurd q h
    · exact Or.inr (Or.inr ⟨h, q⟩)
    · exact Or.inl q
theorem pred_lt {p : Int32} {n : Nat} (hn : n < 2 ^ 31) (h0 : ¬ p < 0) (h : nI n ≤ p) : nI n - 1 < p := by
  obtain ⟨j, hj, rfl⟩ := nI_of h0
  have h1 : n ≤ j := (nI_leI hn hj).mp h
  cases n with
  | zero =>
    rw [show nI 0 - 1 = -1 by decide]
    rw [Int32.lt_iff_toInt_lt, nI_toInt hj, show (-1 : Int32).toInt = -1 by decide]
    omega
  | succ n => rw [nI_pred]; exact nI_lt (by omega) hj
theorem pred_nlt {j n : Nat} (hn : n < 2 ^ 31) (h : j < n) : ¬ nI n - 1 < nI j := by
  cases n with
  | zero => omega
  | succ n => rw [nI_pred]; exact nI_nlt (by omega) (by omega)
theorem rin_yes {τ : MS} {j n : Nat} (hn : n < 2 ^ 31) (h : j < n) : sX6_in τ (nI j) 0 (nI n - 1) = some 1 := by
  rw [sX6_in, if_neg (nI_pos (by omega)), if_neg (pred_nlt hn h)]
theorem rin_no {τ : MS} {p : Int32} {n : Nat} (hn : n < 2 ^ 31) (h : p < 0 ∨ (¬ p < 0 ∧ nI n ≤ p)) : sX6_in τ p 0 (nI n - 1) = some 0 := by
  rw [sX6_in]
  rcases h with h | ⟨h, h'⟩
  · rw [if_pos h]
  · rw [if_neg h, if_pos (pred_lt hn h h')]
theorem dhas_yes {j n : Nat} (hn : n < 2 ^ 31) (h : j < n) : (if nI j < (0 : Int32) then some (0 : Int32) else if nI n ≤ nI j then some 0 else some 1) = some 1 := by
  rw [if_neg (nI_pos (by omega)), if_neg (nI_ge h hn)]
theorem dhas_no {p : Int32} {n : Nat} (h : p < 0 ∨ (¬ p < 0 ∧ nI n ≤ p)) : (if p < (0 : Int32) then some (0 : Int32) else if nI n ≤ p then some 0 else some 1) = some 0 := by
  rcases h with h | ⟨h, h'⟩
  · rw [if_pos h]
  · rw [if_neg h, if_pos h']
section HAS
variable {nf nl nm nt no K : Nat} {σ τ : MS} {p : Int32} {j : Nat}
theorem d1_yes (h : RR nf nl nm nt no K σ τ) (hj : j < nl) : sX1_has σ (nI j) = some 1 := by have := h.1.bl; rw [sX1_has, h.1.z1]; exact dhas_yes (by omega) hj
theorem d1_no (h : RR nf nl nm nt no K σ τ) (hp : p < 0 ∨ (¬ p < 0 ∧ nI nl ≤ p)) : sX1_has σ p = some 0 := by rw [sX1_has, h.1.z1]; exact dhas_no hp
theorem d0_yes (h : RR nf nl nm nt no K σ τ) (hj : j < nf) : sX0_has σ (nI j) = some 1 := by have := h.1.bf; rw [sX0_has, h.1.z0]; exact dhas_yes (by omega) hj
theorem d0_no (h : RR nf nl nm nt no K σ τ) (hp : p < 0 ∨ (¬ p < 0 ∧ nI nf ≤ p)) : sX0_has σ p = some 0 := by rw [sX0_has, h.1.z0]; exact dhas_no hp
theorem d2_yes (h : RR nf nl nm nt no K σ τ) (hK : K ≤ 512) (hj : j < nm) : sX2_has σ (nI j) = some 1 := by have := h.1.bm; rw [sX2_has, h.1.z2]; exact dhas_yes (by omega) hj
theorem d2_no (h : RR nf nl nm nt no K σ τ) (hp : p < 0 ∨ (¬ p < 0 ∧ nI nm ≤ p)) : sX2_has σ p = some 0 := by rw [sX2_has, h.1.z2]; exact dhas_no hp
theorem d4_yes (h : RR nf nl nm nt no K σ τ) (hj : j < nt) : sX4_has σ (nI j) = some 1 := by have := h.2.2.2.2.1.1; rw [sX4_has, h.2.2.2.1.1]; exact dhas_yes (by omega) hj
theorem d4_no (h : RR nf nl nm nt no K σ τ) (hp : p < 0 ∨ (¬ p < 0 ∧ nI nt ≤ p)) : sX4_has σ p = some 0 := by rw [sX4_has, h.2.2.2.1.1]; exact dhas_no hp
theorem rl_yes (h : RR nf nl nm nt no K σ τ) (hj : j < nl) : sX6_isLoader τ (nI j) = some 1 := by have := h.1.bl; rw [sX6_isLoader, h.1.r6, rin_yes (by omega) hj, Option.bind_some, if_pos nb1]
theorem rl_no (h : RR nf nl nm nt no K σ τ) (hp : p < 0 ∨ (¬ p < 0 ∧ nI nl ≤ p)) : sX6_isLoader τ p = some 0 := by have := h.1.bl; rw [sX6_isLoader, h.1.r6, rin_no (by omega) hp, Option.bind_some, if_pos nb0]
theorem rf_yes (h : RR nf nl nm nt no K σ τ) (hj : j < nf) : sX6_isFile τ (nI j) = some 1 := by have := h.1.bf; rw [sX6_isFile, h.1.r0, rin_yes (by omega) hj, Option.bind_some, if_pos nb1]
theorem rf_no (h : RR nf nl nm nt no K σ τ) (hp : p < 0 ∨ (¬ p < 0 ∧ nI nf ≤ p)) : sX6_isFile τ p = some 0 := by have := h.1.bf; rw [sX6_isFile, h.1.r0, rin_no (by omega) hp, Option.bind_some, if_pos nb0]
theorem rm_yes (h : RR nf nl nm nt no K σ τ) (hK : K ≤ 512) (hj : j < nm) : sX6_isModule τ (nI j) = some 1 := by have := h.1.bm; rw [sX6_isModule, h.1.r14, rin_yes (by omega) hj, Option.bind_some, if_pos nb1]
theorem rm_no (h : RR nf nl nm nt no K σ τ) (hK : K ≤ 512) (hp : p < 0 ∨ (¬ p < 0 ∧ nI nm ≤ p)) : sX6_isModule τ p = some 0 := by have := h.1.bm; rw [sX6_isModule, h.1.r14, rin_no (by omega) hp, Option.bind_some, if_pos nb0]
theorem rt_yes (h : RR nf nl nm nt no K σ τ) (hj : j < nt) : sX6_isThing τ (nI j) = some 1 := by have := h.2.2.2.2.1.1; rw [sX6_isThing, h.2.2.2.1.2.1, rin_yes (by omega) hj, Option.bind_some, if_pos nb1]
theorem rt_no (h : RR nf nl nm nt no K σ τ) (hp : p < 0 ∨ (¬ p < 0 ∧ nI nt ≤ p)) : sX6_isThing τ p = some 0 := by have := h.2.2.2.2.1.1; rw [sX6_isThing, h.2.2.2.1.2.1, rin_no (by omega) hp, Option.bind_some, if_pos nb0]
end HAS
theorem dn_yes {σ : MS} {j : Nat} (hj : j < 31) : sX5_isName σ (nI j) = some 1 := by rw [sX5_isName]; exact dhas_yes (n := 31) (by omega) hj
theorem dn_no {σ : MS} {p : Int32} (hp : p < 0 ∨ (¬ p < 0 ∧ nI 31 ≤ p)) : sX5_isName σ p = some 0 := by rw [sX5_isName]; exact dhas_no (n := 31) hp
theorem rn_yes {τ : MS} {j : Nat} (hj : j < 31) : sX6_isName τ (nI j) = some 1 := by rw [sX6_isName, show (30 : Int32) = nI 31 - 1 by decide, rin_yes (by omega) hj, Option.bind_some, if_pos nb1]
theorem rn_no {τ : MS} {p : Int32} (hp : p < 0 ∨ (¬ p < 0 ∧ nI 31 ≤ p)) : sX6_isName τ p = some 0 := by rw [sX6_isName, show (30 : Int32) = nI 31 - 1 by decide, rin_no (by omega) hp, Option.bind_some, if_pos nb0]
/-- the reference's own call of its machine -/
theorem does_ok {τ τ' : MS} {p1 p2 p3 p4 g : Int32} (h : RT (pushed (sZ τ 25 0) 0 p1 p2 p3 p4) τ') (h25 : τ'.2 25 = nI 0) (h31 : τ'.2 31 = g) : ∃ F, ∀ fu, F ≤ fu → sX6_does fu τ p1 p2 p3 p4 = some (if 0 ≤ g then g else -10 + g, τ') := by
  obtain ⟨k, h⟩ := h
  refine ⟨k + 1, fun fu hfu => ?_⟩
  obtain ⟨q, rfl⟩ : ∃ q, fu = (q + 1) + k := ⟨fu - 1 - k, by omega⟩
  rw [sX6_does, push_e (τ := sZ τ 25 0) (d := 0) (by omega) rfl, Option.bind_some, sX6_runs]
  have e : sX6_runs_L0 (q + 1 + k) (q + 1 + k) (pushed (sZ τ 25 0) 0 p1 p2 p3 p4) = some (g, τ') := by
    rw [h (q + 1 + k) (q + 1), sX6_runs_L0, h25, if_pos (by decide), h31]
  rw [show sZ (sA (sA (sA (sA (sA (sZ τ 25 0) 26 0 p1) 27 0 0) 28 0 p2) 29 0 p3) 30 0 (vp_nar .boolean p4)) 25 (nI (0 + 1)) = pushed (sZ τ 25 0) 0 p1 p2 p3 p4 from rfl, e, Option.bind_some]
  dsimp only
  split <;> rfl
theorem rg.enc {nm : Nat} {r g : Int32} (h : rg nm r g) (hn : nm < 2 ^ 31) : (if 0 ≤ g then g else -10 + g) = r := by
  by_cases c : r < 0
  · obtain ⟨q1, -, q3⟩ := h.neg c hn
    rw [if_neg (Int32.not_le.mpr q1), q3]
  · obtain ⟨m, hm, rfl, rfl⟩ := h.pos c
    rw [if_pos (nI_pos' (by omega))]
theorem cw_ext {w : Int32 → Nat} {f g : Nat → Int32} {n : Nat} (h : ∀ j, j < n → f j = g j) : ∀ {m : Nat}, n ≤ m → cw w f n ≤ cw w g m
  | 0, hm => by
    have : n = 0 := by omega
    subst this
    exact Nat.le_refl _
  | m + 1, hm => by
    by_cases e : n = m + 1
    · subst e
      rw [cw_congr h]
      exact Nat.le_refl _
    · have := cw_ext (w := w) h (show n ≤ m by omega)
      rw [cw]
      omega
/-- the whole relation behind an asking or making -/
theorem RR_out {nf nl nm nm' nt no K K' d : Nat} {σ σ' τ τ0 τ' : MS} {r g : Int32} (h : RR nf nl nm nt no K σ τ) (o : Out nf nl nm nm' K' d σ σ' τ0 τ' r g) (e0 : τ0.1 19 = τ.1 19 ∧ τ0.1 21 = τ.1 21 ∧ τ0.1 22 = τ.1 22 ∧ τ0.1 24 = τ.1 24 ∧ τ0.2 20 = τ.2 20 ∧ τ0.2 23 = τ.2 23) : RR nf nl nm' nt no K' σ' τ' := by
  obtain ⟨h1, ⟨h24, h25, h26, h27⟩, h19, ⟨z3, r20, z4, r23, z5⟩, ⟨ht, hno⟩, hk, hs, hdr⟩ := h
  obtain ⟨o1, ⟨x1, x2, x3, x4, x5, x6⟩, ⟨y1, y2, y3, y4⟩, -, -, -⟩ := o
  obtain ⟨a1, a2, a3, a4, a5, a6⟩ := e0
  refine ⟨o1, ⟨?_, ?_, ?_, ?_⟩, fun j => ?_, ⟨?_, ?_, ?_, ?_, ?_⟩, ⟨ht, ?_⟩, fun t htt => ?_, fun m hm => ?_, fun t htt => ?_⟩
  · funext j
    rw [x4 j, y4 j, a1, h24]
  · rw [x2 25 (by decide), y1 21 (by decide), a2, h25]
  · rw [x2 26 (by decide), y1 22 (by decide), a3, h26]
  · rw [x2 27 (by decide), y1 24 (by decide), a4, h27]
  · rw [x2 19 (by decide)]; exact h19 j
  · rw [x3 3 (by decide)]; exact z3
  · rw [y2 20 (by decide), a5]; exact r20
  · rw [x3 4 (by decide)]; exact z4
  · rw [y2 23 (by decide), a6]; exact r23
  · rw [x3 5 (by decide)]; exact z5
  · refine Nat.le_trans hno (cw_ext (fun j hj => ?_) x1)
    rw [x4 j, if_neg (by omega)]
  · rw [x2 25 (by decide)]; exact (hk t htt).mono x1
  · rw [x4 m]
    split
    · exact Or.inl rfl
    · exact hs m (by omega)
  · rw [x2 26 (by decide)]; exact hdr t htt
theorem PreA0 {nf nl nm nt no K l x : Nat} {σ τ : MS} (h : RR nf nl nm nt no K σ τ) : PreA σ l x 0 := ⟨h.2.2.1 _, fun k y _ _ _ => h.2.2.1 _, 0, by omega, fun _ => rfl, by omega⟩
theorem c_load (p1 p2 : Int32) : CallOK (fun _ σ => sX5_load σ p1 p2) (fun fu τ => sX6_load fu τ p1 p2) := by
  intro K σ τ hS hK
  obtain ⟨nf, nl, nm, nt, no, h⟩ := id hS
  have hbl := h.1.bl
  rcases ix_or p1 (n := nl) (by omega) with ⟨l, hl, rfl⟩ | hp
  · rcases ix_or p2 (n := 31) (by omega) with ⟨x, hx, rfl⟩ | hp2
    · by_cases c : σ.1 15 l = 0
      · have hR : Rm nf nl nm K σ (pushed (sZ τ 25 0) 0 0 (nI (31 * l + x)) (-1) 0) := h.1
        obtain ⟨r, g, nm', σ', τ', s1, s2, s3⟩ := (rec_all 300).1 nf nl nm K l x 0 0 σ _ 0 hR hK hl hx (PreA0 h) (by omega) (by omega) rfl rfl rfl rfl
        have hbm := s3.1.bm
        obtain ⟨F, hF⟩ := does_ok s2 s3.2.2.2.1 s3.2.2.2.2.1
        refine ⟨r, σ', τ', F, fun fu hfu => ⟨?_, ?_⟩, SS.more (K := K) ⟨nf, nl, nm', nt, no, RR_out h s3 ⟨rfl, rfl, rfl, rfl, rfl, rfl⟩⟩ (by omega)⟩
        · show sX5_load _ _ _ = _
          rw [sX5_load, d1_yes h hl, Option.bind_some, if_neg n10, dn_yes hx, Option.bind_some, if_neg n10, if_pos (gi_nI (by omega) (by omega)), nI_clamp (by omega), if_pos c]
          rw [show (0 : Int32) = nI 0 from rfl] at s1 ⊢
          rw [s1, Option.bind_some]
        · show sX6_load _ _ _ _ = _
          rw [sX6_load, rl_yes h hl, Option.bind_some, if_neg n10, rn_yes hx, Option.bind_some, if_neg n10, if_pos (gi_nI (by omega) (by omega)), nI_clamp (by omega), h.1.e9, if_pos c, slot_e, hF fu hfu, Option.bind_some, s3.2.2.2.2.2.enc (by omega)]
      · refine ⟨-3, σ, τ, 0, fun fu hfu => ⟨?_, ?_⟩, hS.more (by omega)⟩
        · show sX5_load _ _ _ = _
          rw [sX5_load, d1_yes h hl, Option.bind_some, if_neg n10, dn_yes hx, Option.bind_some, if_neg n10, if_pos (gi_nI (by omega) (by omega)), nI_clamp (by omega), if_neg c]
        · show sX6_load _ _ _ _ = _
          rw [sX6_load, rl_yes h hl, Option.bind_some, if_neg n10, rn_yes hx, Option.bind_some, if_neg n10, if_pos (gi_nI (by omega) (by omega)), nI_clamp (by omega), h.1.e9, if_neg c]
    · refine ⟨-2, σ, τ, 0, fun fu hfu => ⟨?_, ?_⟩, hS.more (by omega)⟩
      · show sX5_load _ _ _ = _
        rw [sX5_load, d1_yes h hl, Option.bind_some, if_neg n10, dn_no hp2, Option.bind_some, if_pos rfl]
      · show sX6_load _ _ _ _ = _
        rw [sX6_load, rl_yes h hl, Option.bind_some, if_neg n10, rn_no hp2, Option.bind_some, if_pos rfl]
  · refine ⟨-2, σ, τ, 0, fun fu hfu => ⟨?_, ?_⟩, hS.more (by omega)⟩
    · show sX5_load _ _ _ = _
      rw [sX5_load, d1_no h hp, Option.bind_some, if_pos rfl]
    · show sX6_load _ _ _ _ = _
      rw [sX6_load, rl_no h hp, Option.bind_some, if_pos rfl]

theorem c_define (p1 p2 p3 : Int32) : CallOK (fun _ σ => sX5_define σ p1 p2 p3) (fun fu τ => sX6_define fu τ p1 p2 p3) := by
  intro K σ τ hS hK
  obtain ⟨nf, nl, nm, nt, no, h⟩ := id hS
  have hbl := h.1.bl
  have hbf := h.1.bf
  rcases ix_or p1 (n := nl) (by omega) with ⟨l, hl, rfl⟩ | hp
  · rcases ix_or p2 (n := 31) (by omega) with ⟨x, hx, rfl⟩ | hp2
    · rcases ix_or p3 (n := nf) (by omega) with ⟨f, hf, rfl⟩ | hp3
      · by_cases c : σ.1 15 l = 0
        · by_cases c2 : σ.1 17 (31 * l + x) = -1
          · have hR : Rm nf nl nm K σ (pushed (sZ τ 25 0) 0 1 (nI (31 * l + x)) (nI f) 0) := h.1
            obtain ⟨r, g, nm', σ', τ', s1, s2, s3, -⟩ := (rec_all 300).2.2.1 nf nl nm K (K + 1) l x f 0 0 σ _ hR hK hl hx hf (PreA0 h) (by omega) (by omega) rfl rfl rfl rfl rfl (Or.inl ⟨rfl, c2, Or.inr rfl⟩)
            have hbm := s3.1.bm
            obtain ⟨F, hF⟩ := does_ok s2 s3.2.2.2.1 s3.2.2.2.2.1
            refine ⟨r, σ', τ', F, fun fu hfu => ⟨?_, ?_⟩, ⟨nf, nl, nm', nt, no, RR_out h s3 ⟨rfl, rfl, rfl, rfl, rfl, rfl⟩⟩⟩
            · show sX5_define _ _ _ _ = _
              rw [sX5_define, d1_yes h hl, Option.bind_some, if_neg n10, dn_yes hx, Option.bind_some, if_neg n10, d0_yes h hf, Option.bind_some, if_neg n10, if_pos (gi_nI (by omega) (by omega)), nI_clamp (by omega), if_pos c, sX5_slot, Option.bind_some, slot_e2, if_pos (gi_nI (by omega) (by omega)), nI_clamp (by omega), if_pos c2]
              rw [show (0 : Int32) = nI 0 from rfl]
              rw [s1, Option.bind_some]
            · show sX6_define _ _ _ _ _ = _
              rw [sX6_define, rl_yes h hl, Option.bind_some, if_neg n10, rn_yes hx, Option.bind_some, if_neg n10, rf_yes h hf, Option.bind_some, if_neg n10, if_pos (gi_nI (by omega) (by omega)), nI_clamp (by omega), h.1.e9, if_pos c, slot_e, hF fu hfu, Option.bind_some, s3.2.2.2.2.2.enc (by omega)]
          · have hRT : RT (pushed (sZ τ 25 0) 0 1 (nI (31 * l + x)) (nI f) 0) (sZ (sZ (pushed (sZ τ 25 0) 0 1 (nI (31 * l + x)) (nI f) 0) 31 (-2)) 25 (nI 0)) := by
              refine RT_make (d := 0) (by omega) rfl rfl rfl rfl ?_
              rw [makes0_e (by omega) (by omega) hx (by omega) (by show ov (τ.1 3 f) 31; rw [h.1.e3]; exact (h.1.inv.1 f hf).2.1) rfl]
              have ha : AG (pushed (sZ τ 25 0) 0 1 (nI (31 * l + x)) (nI f) 0) 0 l x f = 2 := by
                rw [AG, if_pos ⟨rfl, by show ¬ τ.1 11 (31 * l + x) = -1; rw [h.1.s11.at (by omega)]; exact c2⟩]
              rw [ha, if_neg (by decide), gives_e (d := 0) rfl]
              first | done | rfl
            obtain ⟨F, hF⟩ := does_ok (g := -2) hRT rfl rfl
            refine ⟨-12, σ, _, F, fun fu hfu => ⟨?_, ?_⟩, SS.more (K := K) ⟨nf, nl, nm, nt, no, RR_out h (Out.gives (d := 0) (r := -12) (g := -2) (show Rm nf nl nm K σ (pushed (sZ τ 25 0) 0 1 (nI (31 * l + x)) (nI f) 0) from h.1) (Nat.le_refl K) (Or.inr (by decide))) ⟨rfl, rfl, rfl, rfl, rfl, rfl⟩⟩ (by omega)⟩
            · show sX5_define _ _ _ _ = _
              rw [sX5_define, d1_yes h hl, Option.bind_some, if_neg n10, dn_yes hx, Option.bind_some, if_neg n10, d0_yes h hf, Option.bind_some, if_neg n10, if_pos (gi_nI (by omega) (by omega)), nI_clamp (by omega), if_pos c, sX5_slot, Option.bind_some, slot_e2, if_pos (gi_nI (by omega) (by omega)), nI_clamp (by omega), if_neg c2]
            · show sX6_define _ _ _ _ _ = _
              rw [sX6_define, rl_yes h hl, Option.bind_some, if_neg n10, rn_yes hx, Option.bind_some, if_neg n10, rf_yes h hf, Option.bind_some, if_neg n10, if_pos (gi_nI (by omega) (by omega)), nI_clamp (by omega), h.1.e9, if_pos c, slot_e, hF fu hfu, Option.bind_some]
              rfl
        · refine ⟨-3, σ, τ, 0, fun fu hfu => ⟨?_, ?_⟩, hS.more (by omega)⟩
          · show sX5_define _ _ _ _ = _
            rw [sX5_define, d1_yes h hl, Option.bind_some, if_neg n10, dn_yes hx, Option.bind_some, if_neg n10, d0_yes h hf, Option.bind_some, if_neg n10, if_pos (gi_nI (by omega) (by omega)), nI_clamp (by omega), if_neg c]
          · show sX6_define _ _ _ _ _ = _
            rw [sX6_define, rl_yes h hl, Option.bind_some, if_neg n10, rn_yes hx, Option.bind_some, if_neg n10, rf_yes h hf, Option.bind_some, if_neg n10, if_pos (gi_nI (by omega) (by omega)), nI_clamp (by omega), h.1.e9, if_neg c]
      · refine ⟨-2, σ, τ, 0, fun fu hfu => ⟨?_, ?_⟩, hS.more (by omega)⟩
        · show sX5_define _ _ _ _ = _
          rw [sX5_define, d1_yes h hl, Option.bind_some, if_neg n10, dn_yes hx, Option.bind_some, if_neg n10, d0_no h hp3, Option.bind_some, if_pos rfl]
        · show sX6_define _ _ _ _ _ = _
          rw [sX6_define, rl_yes h hl, Option.bind_some, if_neg n10, rn_yes hx, Option.bind_some, if_neg n10, rf_no h hp3, Option.bind_some, if_pos rfl]
    · refine ⟨-2, σ, τ, 0, fun fu hfu => ⟨?_, ?_⟩, hS.more (by omega)⟩
      · show sX5_define _ _ _ _ = _
        rw [sX5_define, d1_yes h hl, Option.bind_some, if_neg n10, dn_no hp2, Option.bind_some, if_pos rfl]
      · show sX6_define _ _ _ _ _ = _
        rw [sX6_define, rl_yes h hl, Option.bind_some, if_neg n10, rn_no hp2, Option.bind_some, if_pos rfl]
  · refine ⟨-2, σ, τ, 0, fun fu hfu => ⟨?_, ?_⟩, hS.more (by omega)⟩
    · show sX5_define _ _ _ _ = _
      rw [sX5_define, d1_no h hp, Option.bind_some, if_pos rfl]
    · show sX6_define _ _ _ _ _ = _
      rw [sX6_define, rl_no h hp, Option.bind_some, if_pos rfl]
theorem c_anew (p1 p2 p3 : Int32) : CallOK (fun _ σ => sX5_anew σ p1 p2 p3) (fun fu τ => sX6_anew fu τ p1 p2 p3) := by
  intro K σ τ hS hK
  obtain ⟨nf, nl, nm, nt, no, h⟩ := id hS
  have hbl := h.1.bl
  have hbf := h.1.bf
  rcases ix_or p1 (n := nl) (by omega) with ⟨l, hl, rfl⟩ | hp
  · rcases ix_or p2 (n := 31) (by omega) with ⟨x, hx, rfl⟩ | hp2
    · rcases ix_or p3 (n := nf) (by omega) with ⟨f, hf, rfl⟩ | hp3
      · by_cases c : σ.1 15 l = 0
        · by_cases c2 : σ.1 17 (31 * l + x) = -1
          · refine ⟨-3, σ, τ, 0, fun fu hfu => ⟨?_, ?_⟩, hS.more (by omega)⟩
            · show sX5_anew _ _ _ _ = _
              rw [sX5_anew, d1_yes h hl, Option.bind_some, if_neg n10, dn_yes hx, Option.bind_some, if_neg n10, d0_yes h hf, Option.bind_some, if_neg n10, if_pos (gi_nI (by omega) (by omega)), nI_clamp (by omega), if_pos c, sX5_slot, Option.bind_some, slot_e2, if_pos (gi_nI (by omega) (by omega)), nI_clamp (by omega), if_pos c2]
            · show sX6_anew _ _ _ _ _ = _
              rw [sX6_anew, rl_yes h hl, Option.bind_some, if_neg n10, rn_yes hx, Option.bind_some, if_neg n10, rf_yes h hf, Option.bind_some, if_neg n10, if_pos (gi_nI (by omega) (by omega)), nI_clamp (by omega), h.1.e9, if_pos c, slot_e, if_pos (gi_nI (by omega) (by omega)), nI_clamp (by omega), h.1.s11.at (by omega), if_pos c2]
          · have hR : Rm nf nl nm K σ (pushed (sZ τ 25 0) 0 1 (nI (31 * l + x)) (nI f) 1) := h.1
            obtain ⟨r, g, nm', σ', τ', s1, s2, s3, -⟩ := (rec_all 300).2.2.1 nf nl nm K (K + 1) l x f 0 0 σ _ hR hK hl hx hf (PreA0 h) (by omega) (by omega) rfl rfl rfl rfl rfl (Or.inr ⟨by show ¬ vp_nar .boolean 1 = 0; decide, rfl⟩)
            have hbm := s3.1.bm
            obtain ⟨F, hF⟩ := does_ok s2 s3.2.2.2.1 s3.2.2.2.2.1
            refine ⟨r, σ', τ', F, fun fu hfu => ⟨?_, ?_⟩, ⟨nf, nl, nm', nt, no, RR_out h s3 ⟨rfl, rfl, rfl, rfl, rfl, rfl⟩⟩⟩
            · show sX5_anew _ _ _ _ = _
              rw [sX5_anew, d1_yes h hl, Option.bind_some, if_neg n10, dn_yes hx, Option.bind_some, if_neg n10, d0_yes h hf, Option.bind_some, if_neg n10, if_pos (gi_nI (by omega) (by omega)), nI_clamp (by omega), if_pos c, sX5_slot, Option.bind_some, slot_e2, if_pos (gi_nI (by omega) (by omega)), nI_clamp (by omega), if_neg c2]
              rw [show (0 : Int32) = nI 0 from rfl]
              rw [s1, Option.bind_some]
            · show sX6_anew _ _ _ _ _ = _
              rw [sX6_anew, rl_yes h hl, Option.bind_some, if_neg n10, rn_yes hx, Option.bind_some, if_neg n10, rf_yes h hf, Option.bind_some, if_neg n10, if_pos (gi_nI (by omega) (by omega)), nI_clamp (by omega), h.1.e9, if_pos c, slot_e, if_pos (gi_nI (by omega) (by omega)), nI_clamp (by omega), h.1.s11.at (by omega), if_neg c2, hF fu hfu, Option.bind_some, s3.2.2.2.2.2.enc (by omega)]
        · refine ⟨-3, σ, τ, 0, fun fu hfu => ⟨?_, ?_⟩, hS.more (by omega)⟩
          · show sX5_anew _ _ _ _ = _
            rw [sX5_anew, d1_yes h hl, Option.bind_some, if_neg n10, dn_yes hx, Option.bind_some, if_neg n10, d0_yes h hf, Option.bind_some, if_neg n10, if_pos (gi_nI (by omega) (by omega)), nI_clamp (by omega), if_neg c]
          · show sX6_anew _ _ _ _ _ = _
            rw [sX6_anew, rl_yes h hl, Option.bind_some, if_neg n10, rn_yes hx, Option.bind_some, if_neg n10, rf_yes h hf, Option.bind_some, if_neg n10, if_pos (gi_nI (by omega) (by omega)), nI_clamp (by omega), h.1.e9, if_neg c]
      · refine ⟨-2, σ, τ, 0, fun fu hfu => ⟨?_, ?_⟩, hS.more (by omega)⟩
        · show sX5_anew _ _ _ _ = _
          rw [sX5_anew, d1_yes h hl, Option.bind_some, if_neg n10, dn_yes hx, Option.bind_some, if_neg n10, d0_no h hp3, Option.bind_some, if_pos rfl]
        · show sX6_anew _ _ _ _ _ = _
          rw [sX6_anew, rl_yes h hl, Option.bind_some, if_neg n10, rn_yes hx, Option.bind_some, if_neg n10, rf_no h hp3, Option.bind_some, if_pos rfl]
    · refine ⟨-2, σ, τ, 0, fun fu hfu => ⟨?_, ?_⟩, hS.more (by omega)⟩
      · show sX5_anew _ _ _ _ = _
        rw [sX5_anew, d1_yes h hl, Option.bind_some, if_neg n10, dn_no hp2, Option.bind_some, if_pos rfl]
      · show sX6_anew _ _ _ _ _ = _
        rw [sX6_anew, rl_yes h hl, Option.bind_some, if_neg n10, rn_no hp2, Option.bind_some, if_pos rfl]
  · refine ⟨-2, σ, τ, 0, fun fu hfu => ⟨?_, ?_⟩, hS.more (by omega)⟩
    · show sX5_anew _ _ _ _ = _
      rw [sX5_anew, d1_no h hp, Option.bind_some, if_pos rfl]
    · show sX6_anew _ _ _ _ _ = _
      rw [sX6_anew, rl_no h hp, Option.bind_some, if_pos rfl]
