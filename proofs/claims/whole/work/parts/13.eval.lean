/-! ===== asking and making: what one step is, in plain numbers ===== -/
theorem ob_id {α : Type} (o : Option α) : (o.bind fun u => some u) = o := by cases o <;> rfl
theorem ob_pr {α β : Type} (o : Option (α × β)) : (o.bind fun q => some (q.1, q.2)) = o := by cases o <;> rfl
theorem sA_self {τ : MS} {k i : Nat} {x : Int32} (h : τ.1 k i = x) : sA τ k i x = τ := by
  have h1 : (sA τ k i x).1 = τ.1 := by
    funext k'
    rw [sA_at]
    split
    · next e => subst e; exact upd_self h
    · rfl
  exact Prod.ext h1 rfl
theorem n10 : ¬ (1 : Int32) = 0 := by decide
theorem slot_mod2 {l x : Nat} (hl : l < 10) (hx : x < 31) : nI (31 * l + x) - nI l * (31 : Int32) = nI x := by rw [← slot_div (l := l) (x := x) hl hx]; exact slot_mod hl hx
theorem isProg_e {σ : MS} {l : Nat} (hl : l < 10) : sX1_isProgram σ (nI l) = some (if σ.1 13 l = -1 then 0 else 1) := by
  rw [sX1_isProgram, if_pos (gi_nI hl (by omega)), nI_clamp (by omega)]
  split <;> rfl
theorem mog_e {σ : MS} {l x : Nat} (hl : l < 10) (hx : x < 31) : sX1_madeOrGiven σ (nI l) (nI x) = some (if σ.1 17 (31 * l + x) = -1 then σ.1 18 (31 * l + x) else σ.1 17 (31 * l + x)) := by
  rw [sX1_madeOrGiven, sX5_slot, Option.bind_some, slot_e2, if_pos (gi_nI (by omega) (by omega)), nI_clamp (by omega)]
  split
  · rw [Option.bind_some, if_pos (gi_nI (by omega) (by omega)), nI_clamp (by omega)]
  · rfl
theorem flag_e {σ : MS} {f : Nat} (hf : f < 40) (v : Int32) : sX0_hasFlag σ (nI f) v = some (if (σ.1 12 f &&& v) = 0 then 0 else 1) := by
  rw [sX0_hasFlag, if_pos (gi_nI hf (by omega)), nI_clamp (by omega)]
  split <;> rfl
theorem askL_e {fr : Nat → MS → Int32 → Int32 → Int32 → Int32 → Option (Int32 × MS)} {σ : MS} {l x : Nat} {p : Int32} (hl : l < 10) (hx : x < 31) (hp : σ.1 13 l = -1) : bX5_ask fr σ (nI l) (nI x) p = if (if σ.1 17 (31 * l + x) = -1 then σ.1 18 (31 * l + x) else σ.1 17 (31 * l + x)) = -1 then (if σ.1 16 (31 * l + x) = -1 then some (-11, σ) else fr 2 σ (nI l) (nI x) (σ.1 16 (31 * l + x)) p) else some (if σ.1 17 (31 * l + x) = -1 then σ.1 18 (31 * l + x) else σ.1 17 (31 * l + x), σ) := by
  rw [bX5_ask, mog_e hl hx, Option.bind_some, isProg_e hl, Option.bind_some, if_pos hp, if_pos (gi_nI hl (by omega)), if_pos rfl, sX5_slot, Option.bind_some, slot_e2, if_pos (gi_nI (by omega) (by omega)), nI_clamp (by omega), ob_pr]
theorem askP_e {fr : Nat → MS → Int32 → Int32 → Int32 → Int32 → Option (Int32 × MS)} {σ : MS} {l x : Nat} {p : Int32} (hl : l < 10) (hx : x < 31) (hp : ¬ σ.1 13 l = -1) (ho : σ.1 14 l = 0) : bX5_ask fr σ (nI l) (nI x) p = if (if σ.1 17 (31 * l + x) = -1 then σ.1 18 (31 * l + x) else σ.1 17 (31 * l + x)) = -1 then ((fr 1 σ (nI l) (nI x) p 0).bind fun q => if q.1 = -11 then (if q.2.1 16 (31 * l + x) = -1 then some (-11, q.2) else fr 2 q.2 (nI l) (nI x) (q.2.1 16 (31 * l + x)) p) else some (q.1, q.2)) else some (if σ.1 17 (31 * l + x) = -1 then σ.1 18 (31 * l + x) else σ.1 17 (31 * l + x), σ) := by
  rw [bX5_ask, mog_e hl hx, Option.bind_some, isProg_e hl, Option.bind_some, if_neg hp, if_pos (gi_nI hl (by omega)), if_neg n10, nI_clamp (by omega), if_pos ho]
  simp only [sX5_slot, Option.bind_some, slot_e2, if_pos (gi_nI (show 31 * l + x < 310 by omega) (by omega)), nI_clamp (show 31 * l + x < 2 ^ 31 by omega), ob_pr]
theorem askO_e {fr : Nat → MS → Int32 → Int32 → Int32 → Int32 → Option (Int32 × MS)} {σ : MS} {l x : Nat} {p : Int32} (hl : l < 10) (hx : x < 31) (hp : ¬ σ.1 13 l = -1) (ho : ¬ σ.1 14 l = 0) : bX5_ask fr σ (nI l) (nI x) p = if (if σ.1 17 (31 * l + x) = -1 then σ.1 18 (31 * l + x) else σ.1 17 (31 * l + x)) = -1 then (if σ.1 16 (31 * l + x) = -1 then fr 1 σ (nI l) (nI x) p 0 else fr 2 σ (nI l) (nI x) (σ.1 16 (31 * l + x)) p) else some (if σ.1 17 (31 * l + x) = -1 then σ.1 18 (31 * l + x) else σ.1 17 (31 * l + x), σ) := by
  rw [bX5_ask, mog_e hl hx, Option.bind_some, isProg_e hl, Option.bind_some, if_neg hp, if_pos (gi_nI hl (by omega)), if_neg n10, nI_clamp (by omega), if_neg ho, sX5_slot, Option.bind_some, slot_e2, if_pos (gi_nI (by omega) (by omega)), nI_clamp (by omega), ob_pr, ob_pr]
theorem lib_e {fr : Nat → MS → Int32 → Int32 → Int32 → Int32 → Option (Int32 × MS)} {σ : MS} {l x : Nat} {p : Int32} (hl : l < 10) (hx : x < 31) : bX5_askLibrary fr σ (nI l) (nI x) p = (fr 0 σ (σ.1 13 l) (nI x) p 0).bind fun q => if q.1 < 0 then some (q.1, q.2) else some (q.1, sA q.2 18 (31 * l + x) q.1) := by
  rw [bX5_askLibrary, if_pos (gi_nI hl (by omega)), nI_clamp (by omega)]
  simp only [sX5_slot, Option.bind_some, slot_e2, if_pos (gi_nI (show 31 * l + x < 310 by omega) (by omega)), nI_clamp (show 31 * l + x < 2 ^ 31 by omega)]
/-- what stands against a making, on the class's side -/
def FA (σ : MS) (l x f : Nat) : Int32 := if σ.1 8 f = nI x then (if x < 4 ∧ ¬ σ.1 13 l = -1 then -14 else if (σ.1 12 f &&& 1) = 0 then 1 else -16) else -13
theorem fa_e {σ : MS} {l x f : Nat} (hl : l < 10) (hx : x < 31) (hf : f < 40) : sX5_failureAhead σ (nI l) (nI x) (nI f) = some (FA σ l x f) := by
  rw [sX5_failureAhead, if_pos (gi_nI hf (by omega)), nI_clamp (by omega), FA]
  by_cases h1 : σ.1 8 f = nI x
  · rw [if_pos h1, if_pos h1]
    by_cases h2 : x < 4
    · rw [if_neg (show ¬ (4 : Int32) ≤ nI x from nI_ge (b := 4) h2 (by omega)), isProg_e hl, Option.bind_some]
      by_cases h3 : σ.1 13 l = -1
      · rw [if_pos h3, if_pos rfl, flag_e hf, Option.bind_some, if_neg (show ¬ (x < 4 ∧ ¬ σ.1 13 l = -1) from fun h => h.2 h3)]
        by_cases h4 : (σ.1 12 f &&& 1) = 0
        · rw [if_pos h4, if_pos rfl, if_pos h4]
        · rw [if_neg h4, if_neg n10, if_neg h4]
      · rw [if_neg h3, if_neg n10, if_pos ⟨h2, h3⟩]
    · rw [if_pos (show (4 : Int32) ≤ nI x from nI_le (a := 4) (by omega) (by omega)), flag_e hf, Option.bind_some, if_neg (show ¬ (x < 4 ∧ ¬ σ.1 13 l = -1) from fun h => h2 h.1)]
      by_cases h4 : (σ.1 12 f &&& 1) = 0
      · rw [if_pos h4, if_pos rfl, if_pos h4]
      · rw [if_neg h4, if_neg n10, if_neg h4]
  · rw [if_neg h1, if_neg h1]
theorem and1 {y : Int32} (h : iv y 4) : ((y &&& 1) = 1 ↔ ¬ (y &&& 1) = 0) ∧ ((y &&& 2) = 2 ↔ ¬ (y &&& 2) = 0) := by
  obtain ⟨k, hk, rfl⟩ := h
  rcases (show k = 0 ∨ k = 1 ∨ k = 2 ∨ k = 3 by omega) with rfl | rfl | rfl | rfl <;> decide
/-- what stands against a making, on the reference's side -/
def AG (τ : MS) (d l x f : Nat) : Int32 := if τ.1 30 d = 0 ∧ ¬ τ.1 11 (31 * l + x) = -1 then 2 else if τ.1 1 f = nI x then (if x < 4 ∧ ¬ τ.1 7 l = -1 then 4 else if (τ.1 5 f &&& 1) = 1 then 6 else if τ.1 3 f = -1 then 0 else if τ.1 3 f = nI x then 5 else if τ.1 13 (((nI (31 * l + x) - nI x) + τ.1 3 f).toNatClampNeg) = 0 then 0 else 5) else 3
theorem ag_e {τ : MS} {d l x f : Nat} (hd : d < 1300) (hl : l < 10) (hx : x < 31) (hf : f < 40) (hp : ov (τ.1 3 f) 31) : sX6_against τ (nI d) (nI (31 * l + x)) (nI f) = some (AG τ d l x f) := by
  rw [sX6_against, if_pos (gi_nI hd (by omega)), AG]
  simp only [slot_div hl hx, slot_mod2 hl hx, nI_clamp (show d < 2 ^ 31 by omega), nI_clamp (show f < 2 ^ 31 by omega), nI_clamp (show l < 2 ^ 31 by omega), nI_clamp (show 31 * l + x < 2 ^ 31 by omega), if_pos (gi_nI hf (show 40 < 2 ^ 31 by omega)), if_pos (gi_nI hl (show 10 < 2 ^ 31 by omega)), if_pos (gi_nI (show 31 * l + x < 310 by omega) (show 310 < 2 ^ 31 by omega))]
  have hgi : ¬ τ.1 3 f = -1 → gi (nI (31 * l + x) - nI x + τ.1 3 f) 310 := by
    intro h
    obtain ⟨k, hk, e⟩ := hp.iv h
    rw [e, slot_sub hl hx]
    exact gi_nI (by omega) (by omega)
  have h4 : ((4 : Int32) ≤ nI x) = ¬ x < 4 := by
    apply propext
    constructor
    · intro h h'
      exact nI_ge (b := 4) h' (by omega) h
    · intro h
      exact nI_le (a := 4) (by omega) (by omega)
  simp only [h4]
  have inner : (if (τ.1 5 f &&& 1) = 1 then some (6 : Int32) else if τ.1 3 f = -1 then some 0 else if τ.1 3 f = nI x then some 5 else if gi (nI (31 * l + x) - nI x + τ.1 3 f) 310 then (if τ.1 13 ((nI (31 * l + x) - nI x + τ.1 3 f).toNatClampNeg) = 0 then some 0 else some 5) else none) = some (if (τ.1 5 f &&& 1) = 1 then 6 else if τ.1 3 f = -1 then 0 else if τ.1 3 f = nI x then 5 else if τ.1 13 (((nI (31 * l + x) - nI x) + τ.1 3 f).toNatClampNeg) = 0 then 0 else 5) := by
    by_cases a6 : (τ.1 5 f &&& 1) = 1
    · rw [if_pos a6, if_pos a6]
    · rw [if_neg a6, if_neg a6]
      by_cases a7 : τ.1 3 f = -1
      · rw [if_pos a7, if_pos a7]
      · rw [if_neg a7, if_neg a7]
        by_cases a8 : τ.1 3 f = nI x
        · rw [if_pos a8, if_pos a8]
        · rw [if_neg a8, if_neg a8, if_pos (hgi a7)]
          split <;> rfl
  rw [inner]
  by_cases a1 : τ.1 30 d = 0 <;> by_cases a2 : τ.1 11 (31 * l + x) = -1 <;> by_cases a3 : τ.1 1 f = nI x <;> by_cases a4 : x < 4 <;> by_cases a5 : τ.1 7 l = -1 <;> simp only [a1, a2, a3, a4, a5, if_true, if_false, not_true, not_false_eq_true, and_true, true_and, and_false, false_and, and_self]
