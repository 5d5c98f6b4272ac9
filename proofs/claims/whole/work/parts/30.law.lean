theorem lw_call {dev ref : Nat → MS → Option (Int32 × MS)} (h : CallOK dev ref) {c Q L : Nat} {xs : Nat → Int32} {σ τ : MS} (hS : SS c σ τ) (hc : c ≤ 511) (ih : ∀ σ τ : MS, SS (c + 1) σ τ → ∃ F, ∀ fu n, F ≤ fu → Q < n → sLaw fu xs L n σ τ (nI (6 * c + 6)) = some 1) :
    ∃ F, ∀ fu n, F ≤ fu → Q < n → ((dev fu σ).bind fun q => (ref fu τ).bind fun q' => if q.1 = q'.1 then sLaw fu xs L n q.2 q'.2 (nI (6 * c + 6)) else some 0) = some 1 := by
  obtain ⟨r, σ', τ', F1, h1, h2⟩ := h c σ τ hS hc
  obtain ⟨F2, h3⟩ := ih σ' τ' h2
  refine ⟨F1 + F2, fun fu n hfu hn => ?_⟩
  obtain ⟨e1, e2⟩ := h1 fu (by omega)
  rw [e1, Option.bind_some, e2, Option.bind_some, if_pos rfl]
  exact h3 fu n (by omega) hn
theorem lw_callP {dev ref : Nat → MS → Option Int32} (h : CallP dev ref) {c Q L : Nat} {xs : Nat → Int32} {σ τ : MS} (hS : SS c σ τ) (hc : c ≤ 511) (ih : ∀ σ τ : MS, SS (c + 1) σ τ → ∃ F, ∀ fu n, F ≤ fu → Q < n → sLaw fu xs L n σ τ (nI (6 * c + 6)) = some 1) :
    ∃ F, ∀ fu n, F ≤ fu → Q < n → ((dev fu σ).bind fun q => (ref fu τ).bind fun q' => if q = q' then sLaw fu xs L n σ τ (nI (6 * c + 6)) else some 0) = some 1 := by
  obtain ⟨r, F1, h1⟩ := h c σ τ hS hc
  obtain ⟨F2, h3⟩ := ih σ τ (hS.more (by omega))
  refine ⟨F1 + F2, fun fu n hfu hn => ?_⟩
  obtain ⟨e1, e2⟩ := h1 fu (by omega)
  rw [e1, Option.bind_some, e2, Option.bind_some, if_pos rfl]
  exact h3 fu n (by omega) hn
theorem nI_plus (a : Nat) : nI a + 1 = nI (a + 1) ∧ nI a + 2 = nI (a + 2) ∧ nI a + 3 = nI (a + 3) ∧ nI a + 4 = nI (a + 4) ∧ nI a + 5 = nI (a + 5) ∧ nI a + 6 = nI (a + 6) := ⟨nI_add a 1, nI_add a 2, nI_add a 3, nI_add a 4, nI_add a 5, nI_add a 6⟩
theorem law_out {L c : Nat} (hL : L ≤ 3072) (hc : c ≤ 512) : (Int32.ofNat L - (6 : Int32) < nI (6 * c)) ↔ L < 6 * c + 6 := by
  have h1 : (Int32.ofNat L - (6 : Int32)).toInt = (L : Int) - 6 := pk_sub_toInt (a := L) (b := 6) (by omega) (by omega)
  rw [Int32.lt_iff_toInt_lt, h1, nI_toInt (by omega)]
  omega
set_option maxHeartbeats 8000000 in
set_option maxRecDepth 100000 in
theorem law_run {L : Nat} {xs : Nat → Int32} (hL : L ≤ 3072) : ∀ (Q c : Nat) (σ τ : MS), SS c σ τ → c + Q = 512 → ∃ F, ∀ fu n, F ≤ fu → Q < n → sLaw fu xs L n σ τ (nI (6 * c)) = some 1 := by
  intro Q
  induction Q with
  | zero =>
    intro c σ τ _ hc
    refine ⟨0, fun fu n _ hn => ?_⟩
    obtain ⟨w, rfl⟩ : ∃ w, n = w + 1 := ⟨n - 1, by omega⟩
    rw [sLaw, if_pos ((law_out hL (by omega)).mpr (by omega))]
  | succ Q ih0 =>
    intro c σ τ hS hc
    by_cases hex : L < 6 * c + 6
    · refine ⟨0, fun fu n _ hn => ?_⟩
      obtain ⟨w, rfl⟩ : ∃ w, n = w + 1 := ⟨n - 1, by omega⟩
      rw [sLaw, if_pos ((law_out hL (by omega)).mpr hex)]
    have hin : ¬ (Int32.ofNat L - (6 : Int32) < nI (6 * c)) := fun h => hex ((law_out hL (by omega)).mp h)
    have ih : ∀ σ τ : MS, SS (c + 1) σ τ → ∃ F, ∀ fu n, F ≤ fu → Q < n → sLaw fu xs L n σ τ (nI (6 * c + 6)) = some 1 := fun σ τ h => ih0 (c + 1) σ τ h (by omega)
    obtain ⟨k1, k2, k3, k4, k5, k6⟩ := nI_plus (6 * c)
    have hc' : c ≤ 511 := by omega
    have g0 : gi (nI (6 * c)) L := gi_nI (by omega) (by omega)
    have g1 : gi (nI (6 * c + 1)) L := gi_nI (by omega) (by omega)
    have g2 : gi (nI (6 * c + 2)) L := gi_nI (by omega) (by omega)
    have g3 : gi (nI (6 * c + 3)) L := gi_nI (by omega) (by omega)
    have g4 : gi (nI (6 * c + 4)) L := gi_nI (by omega) (by omega)
    have g5 : gi (nI (6 * c + 5)) L := gi_nI (by omega) (by omega)
    have q0 : (nI (6 * c)).toNatClampNeg = 6 * c := nI_clamp (by omega)
    have q1 : (nI (6 * c + 1)).toNatClampNeg = 6 * c + 1 := nI_clamp (by omega)
    have q2 : (nI (6 * c + 2)).toNatClampNeg = 6 * c + 2 := nI_clamp (by omega)
    have q3 : (nI (6 * c + 3)).toNatClampNeg = 6 * c + 3 := nI_clamp (by omega)
    have q4 : (nI (6 * c + 4)).toNatClampNeg = 6 * c + 4 := nI_clamp (by omega)
    have q5 : (nI (6 * c + 5)).toNatClampNeg = 6 * c + 5 := nI_clamp (by omega)
    by_cases s0 : (xs (6 * c) &&& (31 : Int32)) = (0 : Int32)
    · obtain ⟨F, hF⟩ := lw_call (c_file (xs (6 * c + 1)) (xs (6 * c + 2)) (xs (6 * c + 3)) (xs (6 * c + 4)) (xs (6 * c + 5))) hS hc' ih
      refine ⟨F, fun fu n hfu hn => ?_⟩
      obtain ⟨w, rfl⟩ : ∃ w, n = w + 1 := ⟨n - 1, by omega⟩
      rw [sLaw, if_neg hin, if_pos g0, q0, if_pos s0]
      simp only [k1, k2, k3, k4, k5, k6, q1, q2, q3, q4, q5, if_pos g1, if_pos g2, if_pos g3, if_pos g4, if_pos g5]
      exact hF fu w hfu (by omega)
    by_cases s1 : (xs (6 * c) &&& (31 : Int32)) = (1 : Int32)
    · by_cases b : xs (6 * c + 2) = 0
      · obtain ⟨F, hF⟩ := lw_call (c_loader (xs (6 * c + 1)) 0) hS hc' ih
        refine ⟨F, fun fu n hfu hn => ?_⟩
        obtain ⟨w, rfl⟩ : ∃ w, n = w + 1 := ⟨n - 1, by omega⟩
        rw [sLaw, if_neg hin, if_pos g0, q0, if_neg s0, if_pos s1]
        simp only [k1, k2, k3, k4, k5, k6, q1, q2, q3, q4, q5, if_pos g1, if_pos g2, if_pos g3, if_pos g4, if_pos g5]
        rw [if_pos b]
        exact hF fu w hfu (by omega)
      · obtain ⟨F, hF⟩ := lw_call (c_loader (xs (6 * c + 1)) 1) hS hc' ih
        refine ⟨F, fun fu n hfu hn => ?_⟩
        obtain ⟨w, rfl⟩ : ∃ w, n = w + 1 := ⟨n - 1, by omega⟩
        rw [sLaw, if_neg hin, if_pos g0, q0, if_neg s0, if_pos s1]
        simp only [k1, k2, k3, k4, k5, k6, q1, q2, q3, q4, q5, if_pos g1, if_pos g2, if_pos g3, if_pos g4, if_pos g5]
        rw [if_neg b]
        exact hF fu w hfu (by omega)
    by_cases s2 : (xs (6 * c) &&& (31 : Int32)) = (2 : Int32)
    · obtain ⟨F, hF⟩ := lw_call (c_put (xs (6 * c + 1)) (xs (6 * c + 2)) (xs (6 * c + 3))) hS hc' ih
      refine ⟨F, fun fu n hfu hn => ?_⟩
      obtain ⟨w, rfl⟩ : ∃ w, n = w + 1 := ⟨n - 1, by omega⟩
      rw [sLaw, if_neg hin, if_pos g0, q0, if_neg s0, if_neg s1, if_pos s2]
      simp only [k1, k2, k3, k4, k5, k6, q1, q2, q3, q4, q5, if_pos g1, if_pos g2, if_pos g3, if_pos g4, if_pos g5]
      exact hF fu w hfu (by omega)
    by_cases s3 : (xs (6 * c) &&& (31 : Int32)) = (3 : Int32)
    · obtain ⟨F, hF⟩ := lw_call (c_load (xs (6 * c + 1)) (xs (6 * c + 2))) hS hc' ih
      refine ⟨F, fun fu n hfu hn => ?_⟩
      obtain ⟨w, rfl⟩ : ∃ w, n = w + 1 := ⟨n - 1, by omega⟩
      rw [sLaw, if_neg hin, if_pos g0, q0, if_neg s0, if_neg s1, if_neg s2, if_pos s3]
      simp only [k1, k2, k3, k4, k5, k6, q1, q2, q3, q4, q5, if_pos g1, if_pos g2, if_pos g3, if_pos g4, if_pos g5]
      exact hF fu w hfu (by omega)
    by_cases s4 : (xs (6 * c) &&& (31 : Int32)) = (4 : Int32)
    · obtain ⟨F, hF⟩ := lw_call (c_define (xs (6 * c + 1)) (xs (6 * c + 2)) (xs (6 * c + 3))) hS hc' ih
      refine ⟨F, fun fu n hfu hn => ?_⟩
      obtain ⟨w, rfl⟩ : ∃ w, n = w + 1 := ⟨n - 1, by omega⟩
      rw [sLaw, if_neg hin, if_pos g0, q0, if_neg s0, if_neg s1, if_neg s2, if_neg s3, if_pos s4]
      simp only [k1, k2, k3, k4, k5, k6, q1, q2, q3, q4, q5, if_pos g1, if_pos g2, if_pos g3, if_pos g4, if_pos g5]
      exact hF fu w hfu (by omega)
    by_cases s5 : (xs (6 * c) &&& (31 : Int32)) = (5 : Int32)
    · obtain ⟨F, hF⟩ := lw_call (c_anew (xs (6 * c + 1)) (xs (6 * c + 2)) (xs (6 * c + 3))) hS hc' ih
      refine ⟨F, fun fu n hfu hn => ?_⟩
      obtain ⟨w, rfl⟩ : ∃ w, n = w + 1 := ⟨n - 1, by omega⟩
      rw [sLaw, if_neg hin, if_pos g0, q0, if_neg s0, if_neg s1, if_neg s2, if_neg s3, if_neg s4, if_pos s5]
      simp only [k1, k2, k3, k4, k5, k6, q1, q2, q3, q4, q5, if_pos g1, if_pos g2, if_pos g3, if_pos g4, if_pos g5]
      exact hF fu w hfu (by omega)
    by_cases s6 : (xs (6 * c) &&& (31 : Int32)) = (6 : Int32)
    · obtain ⟨F, hF⟩ := lw_callP (c_known (xs (6 * c + 1)) (xs (6 * c + 2))) hS hc' ih
      refine ⟨F, fun fu n hfu hn => ?_⟩
      obtain ⟨w, rfl⟩ : ∃ w, n = w + 1 := ⟨n - 1, by omega⟩
      rw [sLaw, if_neg hin, if_pos g0, q0, if_neg s0, if_neg s1, if_neg s2, if_neg s3, if_neg s4, if_neg s5, if_pos s6]
      simp only [k1, k2, k3, k4, k5, k6, q1, q2, q3, q4, q5, if_pos g1, if_pos g2, if_pos g3, if_pos g4, if_pos g5]
      exact hF fu w hfu (by omega)
    by_cases s7 : (xs (6 * c) &&& (31 : Int32)) = (7 : Int32)
    · obtain ⟨F, hF⟩ := lw_call (c_begin (xs (6 * c + 1))) hS hc' ih
      refine ⟨F, fun fu n hfu hn => ?_⟩
      obtain ⟨w, rfl⟩ : ∃ w, n = w + 1 := ⟨n - 1, by omega⟩
      rw [sLaw, if_neg hin, if_pos g0, q0, if_neg s0, if_neg s1, if_neg s2, if_neg s3, if_neg s4, if_neg s5, if_neg s6, if_pos s7]
      simp only [k1, k2, k3, k4, k5, k6, q1, q2, q3, q4, q5, if_pos g1, if_pos g2, if_pos g3, if_pos g4, if_pos g5]
      exact hF fu w hfu (by omega)
    by_cases s8 : (xs (6 * c) &&& (31 : Int32)) = (8 : Int32)
    · obtain ⟨F, hF⟩ := lw_call (c_thing (xs (6 * c + 1))) hS hc' ih
      refine ⟨F, fun fu n hfu hn => ?_⟩
      obtain ⟨w, rfl⟩ : ∃ w, n = w + 1 := ⟨n - 1, by omega⟩
      rw [sLaw, if_neg hin, if_pos g0, q0, if_neg s0, if_neg s1, if_neg s2, if_neg s3, if_neg s4, if_neg s5, if_neg s6, if_neg s7, if_pos s8]
      simp only [k1, k2, k3, k4, k5, k6, q1, q2, q3, q4, q5, if_pos g1, if_pos g2, if_pos g3, if_pos g4, if_pos g5]
      exact hF fu w hfu (by omega)
    by_cases s9 : (xs (6 * c) &&& (31 : Int32)) = (9 : Int32)
    · obtain ⟨F, hF⟩ := lw_callP (c_cast (xs (6 * c + 1)) (xs (6 * c + 2))) hS hc' ih
      refine ⟨F, fun fu n hfu hn => ?_⟩
      obtain ⟨w, rfl⟩ : ∃ w, n = w + 1 := ⟨n - 1, by omega⟩
      rw [sLaw, if_neg hin, if_pos g0, q0, if_neg s0, if_neg s1, if_neg s2, if_neg s3, if_neg s4, if_neg s5, if_neg s6, if_neg s7, if_neg s8, if_pos s9]
      simp only [k1, k2, k3, k4, k5, k6, q1, q2, q3, q4, q5, if_pos g1, if_pos g2, if_pos g3, if_pos g4, if_pos g5]
      exact hF fu w hfu (by omega)
    by_cases s10 : (xs (6 * c) &&& (31 : Int32)) = (10 : Int32)
    · obtain ⟨F, hF⟩ := lw_call (c_drop (xs (6 * c + 1))) hS hc' ih
      refine ⟨F, fun fu n hfu hn => ?_⟩
      obtain ⟨w, rfl⟩ : ∃ w, n = w + 1 := ⟨n - 1, by omega⟩
      rw [sLaw, if_neg hin, if_pos g0, q0, if_neg s0, if_neg s1, if_neg s2, if_neg s3, if_neg s4, if_neg s5, if_neg s6, if_neg s7, if_neg s8, if_neg s9, if_pos s10]
      simp only [k1, k2, k3, k4, k5, k6, q1, q2, q3, q4, q5, if_pos g1, if_pos g2, if_pos g3, if_pos g4, if_pos g5]
      exact hF fu w hfu (by omega)
    by_cases s11 : (xs (6 * c) &&& (31 : Int32)) = (11 : Int32)
    · obtain ⟨F, hF⟩ := lw_call (c_letGo (xs (6 * c + 1))) hS hc' ih
      refine ⟨F, fun fu n hfu hn => ?_⟩
      obtain ⟨w, rfl⟩ : ∃ w, n = w + 1 := ⟨n - 1, by omega⟩
      rw [sLaw, if_neg hin, if_pos g0, q0, if_neg s0, if_neg s1, if_neg s2, if_neg s3, if_neg s4, if_neg s5, if_neg s6, if_neg s7, if_neg s8, if_neg s9, if_neg s10, if_pos s11]
      simp only [k1, k2, k3, k4, k5, k6, q1, q2, q3, q4, q5, if_pos g1, if_pos g2, if_pos g3, if_pos g4, if_pos g5]
      exact hF fu w hfu (by omega)
    by_cases s12 : (xs (6 * c) &&& (31 : Int32)) = (12 : Int32)
    · obtain ⟨F, hF⟩ := lw_call (c_held (xs (6 * c + 1))) hS hc' ih
      refine ⟨F, fun fu n hfu hn => ?_⟩
      obtain ⟨w, rfl⟩ : ∃ w, n = w + 1 := ⟨n - 1, by omega⟩
      rw [sLaw, if_neg hin, if_pos g0, q0, if_neg s0, if_neg s1, if_neg s2, if_neg s3, if_neg s4, if_neg s5, if_neg s6, if_neg s7, if_neg s8, if_neg s9, if_neg s10, if_neg s11, if_pos s12]
      simp only [k1, k2, k3, k4, k5, k6, q1, q2, q3, q4, q5, if_pos g1, if_pos g2, if_pos g3, if_pos g4, if_pos g5]
      exact hF fu w hfu (by omega)
    by_cases s13 : (xs (6 * c) &&& (31 : Int32)) = (13 : Int32)
    · obtain ⟨F, hF⟩ := lw_call (c_isHeld (xs (6 * c + 1))) hS hc' ih
      refine ⟨F, fun fu n hfu hn => ?_⟩
      obtain ⟨w, rfl⟩ : ∃ w, n = w + 1 := ⟨n - 1, by omega⟩
      rw [sLaw, if_neg hin, if_pos g0, q0, if_neg s0, if_neg s1, if_neg s2, if_neg s3, if_neg s4, if_neg s5, if_neg s6, if_neg s7, if_neg s8, if_neg s9, if_neg s10, if_neg s11, if_neg s12, if_pos s13]
      simp only [k1, k2, k3, k4, k5, k6, q1, q2, q3, q4, q5, if_pos g1, if_pos g2, if_pos g3, if_pos g4, if_pos g5]
      exact hF fu w hfu (by omega)
    by_cases s14 : (xs (6 * c) &&& (31 : Int32)) = (14 : Int32)
    · obtain ⟨F, hF⟩ := lw_callP (c_about (xs (6 * c + 1)) (xs (6 * c + 2))) hS hc' ih
      refine ⟨F, fun fu n hfu hn => ?_⟩
      obtain ⟨w, rfl⟩ : ∃ w, n = w + 1 := ⟨n - 1, by omega⟩
      rw [sLaw, if_neg hin, if_pos g0, q0, if_neg s0, if_neg s1, if_neg s2, if_neg s3, if_neg s4, if_neg s5, if_neg s6, if_neg s7, if_neg s8, if_neg s9, if_neg s10, if_neg s11, if_neg s12, if_neg s13, if_pos s14]
      simp only [k1, k2, k3, k4, k5, k6, q1, q2, q3, q4, q5, if_pos g1, if_pos g2, if_pos g3, if_pos g4, if_pos g5]
      exact hF fu w hfu (by omega)
    by_cases s15 : (xs (6 * c) &&& (31 : Int32)) = (15 : Int32)
    · obtain ⟨F, hF⟩ := lw_callP (c_aboutThing (xs (6 * c + 1)) (xs (6 * c + 2))) hS hc' ih
      refine ⟨F, fun fu n hfu hn => ?_⟩
      obtain ⟨w, rfl⟩ : ∃ w, n = w + 1 := ⟨n - 1, by omega⟩
      rw [sLaw, if_neg hin, if_pos g0, q0, if_neg s0, if_neg s1, if_neg s2, if_neg s3, if_neg s4, if_neg s5, if_neg s6, if_neg s7, if_neg s8, if_neg s9, if_neg s10, if_neg s11, if_neg s12, if_neg s13, if_neg s14, if_pos s15]
      simp only [k1, k2, k3, k4, k5, k6, q1, q2, q3, q4, q5, if_pos g1, if_pos g2, if_pos g3, if_pos g4, if_pos g5]
      exact hF fu w hfu (by omega)
    by_cases s16 : (xs (6 * c) &&& (31 : Int32)) = (16 : Int32)
    · obtain ⟨F, hF⟩ := lw_callP (c_order (xs (6 * c + 1))) hS hc' ih
      refine ⟨F, fun fu n hfu hn => ?_⟩
      obtain ⟨w, rfl⟩ : ∃ w, n = w + 1 := ⟨n - 1, by omega⟩
      rw [sLaw, if_neg hin, if_pos g0, q0, if_neg s0, if_neg s1, if_neg s2, if_neg s3, if_neg s4, if_neg s5, if_neg s6, if_neg s7, if_neg s8, if_neg s9, if_neg s10, if_neg s11, if_neg s12, if_neg s13, if_neg s14, if_neg s15, if_pos s16]
      simp only [k1, k2, k3, k4, k5, k6, q1, q2, q3, q4, q5, if_pos g1, if_pos g2, if_pos g3, if_pos g4, if_pos g5]
      exact hF fu w hfu (by omega)
    by_cases s17 : (xs (6 * c) &&& (31 : Int32)) = (17 : Int32)
    · obtain ⟨F, hF⟩ := lw_callP (c_count (xs (6 * c + 1))) hS hc' ih
      refine ⟨F, fun fu n hfu hn => ?_⟩
      obtain ⟨w, rfl⟩ : ∃ w, n = w + 1 := ⟨n - 1, by omega⟩
      rw [sLaw, if_neg hin, if_pos g0, q0, if_neg s0, if_neg s1, if_neg s2, if_neg s3, if_neg s4, if_neg s5, if_neg s6, if_neg s7, if_neg s8, if_neg s9, if_neg s10, if_neg s11, if_neg s12, if_neg s13, if_neg s14, if_neg s15, if_neg s16, if_pos s17]
      simp only [k1, k2, k3, k4, k5, k6, q1, q2, q3, q4, q5, if_pos g1, if_pos g2, if_pos g3, if_pos g4, if_pos g5]
      exact hF fu w hfu (by omega)
    obtain ⟨F, hF⟩ := ih σ τ (hS.more (by omega))
    refine ⟨F, fun fu n hfu hn => ?_⟩
    obtain ⟨w, rfl⟩ : ∃ w, n = w + 1 := ⟨n - 1, by omega⟩
    rw [sLaw, if_neg hin, if_pos g0, q0, if_neg s0, if_neg s1, if_neg s2, if_neg s3, if_neg s4, if_neg s5, if_neg s6, if_neg s7, if_neg s8, if_neg s9, if_neg s10, if_neg s11, if_neg s12, if_neg s13, if_neg s14, if_neg s15, if_neg s16, if_neg s17, k6]
    exact hF fu w hfu (by omega)
theorem cw_z {w : Int32 → Nat} {f : Nat → Int32} (h : ∀ j, w (f j) = 0) : ∀ n, cw w f n = 0
  | 0 => rfl
  | n + 1 => by rw [cw, cw_z h n, h n]
theorem start_cw : 0 + cw wM (opn (dS0.1 16) (dS0.1 17)) 310 ≤ 0 := by
  rw [cw_z (fun j => by unfold opn; split <;> rfl)]
  omega
theorem start_SS : SS 0 dS0 rS0 := by
  refine ⟨0, 0, 0, 0, 0, ⟨⟨rfl, rfl, rfl, rfl, rfl⟩, ⟨rfl, rfl, rfl, rfl⟩, ⟨rfl, rfl, rfl, rfl⟩, ⟨fun j => ?_, fun j => ?_, fun j => ?_⟩, ⟨rfl, rfl, rfl⟩, ⟨rfl, rfl, rfl⟩, ⟨by omega, by omega, start_cw⟩, ⟨fun f hf => absurd hf (Nat.not_lt_zero f), fun l hl => absurd hl (Nat.not_lt_zero l), fun j hj => absurd hj (by omega), fun m hm => absurd hm (Nat.not_lt_zero m)⟩⟩, ⟨rfl, rfl, rfl, rfl⟩, fun _ => rfl, ⟨rfl, rfl, rfl, rfl, rfl⟩, ⟨by omega, Nat.zero_le _⟩, fun t ht => absurd ht (Nat.not_lt_zero t), fun m hm => absurd hm (Nat.not_lt_zero m), fun _ _ => rfl⟩
  · rw [if_neg (by omega)]; rfl
  · rw [if_neg (by omega)]; rfl
  · rw [if_neg (by omega)]; rfl
theorem law_pure (L : Nat) (xs : Nat → Int32) (hL : L ≤ 3072) : ∃ fu n : Nat, sLaw fu xs L n dS0 rS0 0 = some 1 := by
  obtain ⟨F, hF⟩ := law_run (xs := xs) hL 512 0 dS0 rS0 start_SS rfl
  exact ⟨F, 513, hF F 513 (Nat.le_refl _) (by omega)⟩
