set_option maxHeartbeats 4000000 in
set_option maxRecDepth 100000 in
theorem mX5_slot {l : Launch} {D : va_G} {cI cZ : ClassId} {a : Nat → Nat} (hD : ∀ σ, va_D (dAd a) (dW cI cZ a σ)) {σ : MS} {p0 p1 : Int32} {r : Int32} (h : sX5_slot σ p0 p1 = some r) : gMet (dW cI cZ a) (dAd a) l D cI cZ yX5_slot cX5_slot 2 (some .int) (0) (0) [.int p0, .int p1] σ r σ := by
  refine gEnt (by decide) (Nat.le_of_ble_eq_true rfl) (fun p e s m below meth c ls C hml hr hlocks hP hl => ?_)
  have hl : lv_has ls 2 [(0, .int p0), (1, .int p1)] := hl
  have hS : va_S (dAd a) s.heap s.heap [] := va_S.rf
  rw [sX5_slot] at h
  refine lv_iload_n C.hx C.hb dX5_slot_0 rfl (lv_at hl 0 rfl) ?_
  refine lv_bipush (v := (31 : Int32)) C.hx C.hb dX5_slot_1 (by decide) ?_
  refine lv_imul C.hx C.hb dX5_slot_3 ?_
  refine lv_iload_n C.hx C.hb dX5_slot_4 rfl (lv_at hl 1 rfl) ?_
  refine lv_iadd C.hx C.hb dX5_slot_5 ?_
  cases h
  exact gRetI C hr hlocks hP hS dX5_slot_6
set_option maxHeartbeats 4000000 in
set_option maxRecDepth 100000 in
theorem mX1_madeOrGiven {l : Launch} {D : va_G} {cI cZ : ClassId} {a : Nat → Nat} (hD : ∀ σ, va_D (dAd a) (dW cI cZ a σ)) {σ : MS} {p1 p2 : Int32} {r : Int32} (h : sX1_madeOrGiven σ p1 p2 = some r) : gMet (dW cI cZ a) (dAd a) l D cI cZ yX1_madeOrGiven cX1_madeOrGiven 4 (some .int) (1) (21) [.ref (a 2), .int p1, .int p2] σ r σ := by
  refine gEnt (by decide) (Nat.le_of_ble_eq_true rfl) (fun p e s m below meth c ls C hml hr hlocks hP hl => ?_)
  have hl : lv_has ls 4 [(0, .ref (a 2)), (1, .int p1), (2, .int p2)] := hl
  have hS : va_S (dAd a) s.heap s.heap [] := va_S.rf
  rw [sX1_madeOrGiven] at h
  refine lv_aload_n C.hx C.hb dX1_madeOrGiven_0 rfl (lv_at hl 0 rfl) ?_
  refine fd_X1_25_2 C hP dX1_madeOrGiven_1 ?_
  refine lv_iload_n C.hx C.hb dX1_madeOrGiven_4 rfl (lv_at hl 1 rfl) ?_
  refine lv_iload_n C.hx C.hb dX1_madeOrGiven_5 rfl (lv_at hl 2 rfl) ?_
  obtain ⟨r_1, e_1, h⟩ := gbind h
  refine gCallN (wd := dW cI cZ a) (As := [.int p1, .int p2]) (rest := [.ref (a 17)]) C hml hl.1 hS (mX5_slot hD e_1) k_245 k_29 k_246 rfl ⟨by show 0 + 1 ≤ 1; omega, by show 8 + (2 + 11) + (0) ≤ 21; omega⟩ hP rfl (Nat.le_of_ble_eq_true rfl) dX1_madeOrGiven_6 ⟨Nat.zero_le _, Nat.zero_le _⟩ (fun H locs hP hS => ?_)
  obtain ⟨g_2, h⟩ := gsplit h
  refine ldd_17 (i := r_1) C hP g_2 dX1_madeOrGiven_9 ?_
  refine lv_istore_n (lv' := [(3, .int (σ.1 17 (r_1.toNatClampNeg))), (0, .ref (a 2)), (1, .int p1), (2, .int p2)]) C.hx C.hb dX1_madeOrGiven_10 rfl hl (by decide) rfl (fun ls hl => ?_)
  refine lv_iload_n C.hx C.hb dX1_madeOrGiven_11 rfl (lv_at hl 0 rfl) ?_
  refine lv_iconst (v := (-1 : Int32)) C.hx C.hb dX1_madeOrGiven_12 (by decide) ?_
  refine lv_icmp_eq (tgt := 20) C.hx C.hb dX1_madeOrGiven_13 (by decide) (fun c_3 => ?_) (fun c_3 => ?_)
  · have h := gpos c_3 h
    refine lv_aload_n C.hx C.hb dX1_madeOrGiven_20 rfl (lv_at hl 1 rfl) ?_
    refine fd_X1_28_2 C hP dX1_madeOrGiven_21 ?_
    refine lv_iload_n C.hx C.hb dX1_madeOrGiven_24 rfl (lv_at hl 2 rfl) ?_
    refine lv_iload_n C.hx C.hb dX1_madeOrGiven_25 rfl (lv_at hl 3 rfl) ?_
    obtain ⟨r_4, e_4, h⟩ := gbind h
    refine gCallN (wd := dW cI cZ a) (As := [.int p1, .int p2]) (rest := [.ref (a 18)]) C hml hl.1 hS (mX5_slot hD e_4) k_245 k_29 k_246 rfl ⟨by show 0 + 1 ≤ 1; omega, by show 8 + (2 + 11) + (0) ≤ 21; omega⟩ hP rfl (Nat.le_of_ble_eq_true rfl) dX1_madeOrGiven_26 ⟨Nat.zero_le _, Nat.zero_le _⟩ (fun H locs hP hS => ?_)
    obtain ⟨g_5, h⟩ := gsplit h
    refine ldd_18 (i := r_4) C hP g_5 dX1_madeOrGiven_29 ?_
    cases h
    exact gRetI C hr hlocks hP hS dX1_madeOrGiven_30
  · have h := gneg c_3 h
    refine lv_iload_n C.hx C.hb dX1_madeOrGiven_16 rfl (lv_at hl 0 rfl) ?_
    refine lv_goto (tgt := 30) C.hx C.hb dX1_madeOrGiven_17 (by decide) ?_
    cases h
    exact gRetI C hr hlocks hP hS dX1_madeOrGiven_30
set_option maxHeartbeats 4000000 in
set_option maxRecDepth 100000 in
theorem mX1_isProgram {l : Launch} {D : va_G} {cI cZ : ClassId} {a : Nat → Nat} (hD : ∀ σ, va_D (dAd a) (dW cI cZ a σ)) {σ : MS} {p1 : Int32} {r : Int32} (h : sX1_isProgram σ p1 = some r) : gMet (dW cI cZ a) (dAd a) l D cI cZ yX1_isProgram cX1_isProgram 2 (some .boolean) (0) (0) [.ref (a 2), .int p1] σ r σ := by
  refine gEnt (by decide) (Nat.le_of_ble_eq_true rfl) (fun p e s m below meth c ls C hml hr hlocks hP hl => ?_)
  have hl : lv_has ls 2 [(0, .ref (a 2)), (1, .int p1)] := hl
  have hS : va_S (dAd a) s.heap s.heap [] := va_S.rf
  rw [sX1_isProgram] at h
  refine lv_aload_n C.hx C.hb dX1_isProgram_0 rfl (lv_at hl 0 rfl) ?_
  refine fd_X1_9_2 C hP dX1_isProgram_1 ?_
  refine lv_iload_n C.hx C.hb dX1_isProgram_4 rfl (lv_at hl 1 rfl) ?_
  obtain ⟨g_1, h⟩ := gsplit h
  refine ldd_13 (i := p1) C hP g_1 dX1_isProgram_5 ?_
  refine lv_iconst (v := (-1 : Int32)) C.hx C.hb dX1_isProgram_6 (by decide) ?_
  refine lv_icmp_eq (tgt := 14) C.hx C.hb dX1_isProgram_7 (by decide) (fun c_2 => ?_) (fun c_2 => ?_)
  · have h := gpos c_2 h
    refine lv_iconst (v := (0 : Int32)) C.hx C.hb dX1_isProgram_14 (by decide) ?_
    cases h
    exact gRetZ C hr hlocks (by decide) hP hS dX1_isProgram_15
  · have h := gneg c_2 h
    refine lv_iconst (v := (1 : Int32)) C.hx C.hb dX1_isProgram_10 (by decide) ?_
    refine lv_goto (tgt := 15) C.hx C.hb dX1_isProgram_11 (by decide) ?_
    cases h
    exact gRetZ C hr hlocks (by decide) hP hS dX1_isProgram_15
set_option maxHeartbeats 4000000 in
set_option maxRecDepth 100000 in
theorem mX0_hasFlag {l : Launch} {D : va_G} {cI cZ : ClassId} {a : Nat → Nat} (hD : ∀ σ, va_D (dAd a) (dW cI cZ a σ)) {σ : MS} {p1 p2 : Int32} {r : Int32} (h : sX0_hasFlag σ p1 p2 = some r) : gMet (dW cI cZ a) (dAd a) l D cI cZ yX0_hasFlag cX0_hasFlag 3 (some .boolean) (0) (0) [.ref (a 1), .int p1, .int p2] σ r σ := by
  refine gEnt (by decide) (Nat.le_of_ble_eq_true rfl) (fun p e s m below meth c ls C hml hr hlocks hP hl => ?_)
  have hl : lv_has ls 3 [(0, .ref (a 1)), (1, .int p1), (2, .int p2)] := hl
  have hS : va_S (dAd a) s.heap s.heap [] := va_S.rf
  rw [sX0_hasFlag] at h
  refine lv_aload_n C.hx C.hb dX0_hasFlag_0 rfl (lv_at hl 0 rfl) ?_
  refine fd_X0_24_1 C hP dX0_hasFlag_1 ?_
  refine lv_iload_n C.hx C.hb dX0_hasFlag_4 rfl (lv_at hl 1 rfl) ?_
  obtain ⟨g_1, h⟩ := gsplit h
  refine ldd_12 (i := p1) C hP g_1 dX0_hasFlag_5 ?_
  refine lv_iload_n C.hx C.hb dX0_hasFlag_6 rfl (lv_at hl 2 rfl) ?_
  refine lv_iand C.hx C.hb dX0_hasFlag_7 ?_
  refine lv_if_eq (tgt := 15) C.hx C.hb dX0_hasFlag_8 (by decide) (fun c_2 => ?_) (fun c_2 => ?_)
  · have h := gpos c_2 h
    refine lv_iconst (v := (0 : Int32)) C.hx C.hb dX0_hasFlag_15 (by decide) ?_
    cases h
    exact gRetZ C hr hlocks (by decide) hP hS dX0_hasFlag_16
  · have h := gneg c_2 h
    refine lv_iconst (v := (1 : Int32)) C.hx C.hb dX0_hasFlag_11 (by decide) ?_
    refine lv_goto (tgt := 16) C.hx C.hb dX0_hasFlag_12 (by decide) ?_
    cases h
    exact gRetZ C hr hlocks (by decide) hP hS dX0_hasFlag_16
set_option maxHeartbeats 4000000 in
set_option maxRecDepth 100000 in
theorem mX5_failureAhead {l : Launch} {D : va_G} {cI cZ : ClassId} {a : Nat → Nat} (hD : ∀ σ, va_D (dAd a) (dW cI cZ a σ)) {σ : MS} {p1 p2 p3 : Int32} {r : Int32} (h : sX5_failureAhead σ p1 p2 p3 = some r) : gMet (dW cI cZ a) (dAd a) l D cI cZ yX5_failureAhead cX5_failureAhead 4 (some .int) (1) (22) [.ref (a 0), .int p1, .int p2, .int p3] σ r σ := by
  refine gEnt (by decide) (Nat.le_of_ble_eq_true rfl) (fun p e s m below meth c ls C hml hr hlocks hP hl => ?_)
  have hl : lv_has ls 4 [(0, .ref (a 0)), (1, .int p1), (2, .int p2), (3, .int p3)] := hl
  have hS : va_S (dAd a) s.heap s.heap [] := va_S.rf
  rw [sX5_failureAhead] at h
  refine lv_aload_n C.hx C.hb dX5_failureAhead_0 rfl (lv_at hl 0 rfl) ?_
  refine fd_X5_12_0 C hP dX5_failureAhead_1 ?_
  refine fd_X5_176_1 C hP dX5_failureAhead_4 ?_
  refine lv_iload_n C.hx C.hb dX5_failureAhead_7 rfl (lv_at hl 3 rfl) ?_
  obtain ⟨g_1, h⟩ := gsplit h
  refine ldd_8 (i := p3) C hP g_1 dX5_failureAhead_8 ?_
  refine lv_iload_n C.hx C.hb dX5_failureAhead_9 rfl (lv_at hl 2 rfl) ?_
  refine lv_icmp_eq (tgt := 16) C.hx C.hb dX5_failureAhead_10 (by decide) (fun c_2 => ?_) (fun c_2 => ?_)
  · have h := gpos c_2 h
    refine lv_iload_n C.hx C.hb dX5_failureAhead_16 rfl (lv_at hl 2 rfl) ?_
    refine lv_iconst (v := (4 : Int32)) C.hx C.hb dX5_failureAhead_17 (by decide) ?_
    refine lv_icmp_ge (tgt := 35) C.hx C.hb dX5_failureAhead_18 (by decide) (fun c_3 => ?_) (fun c_3 => ?_)
    · have h := gpos c_3 h
      refine lv_aload_n C.hx C.hb dX5_failureAhead_35 rfl (lv_at hl 0 rfl) ?_
      refine fd_X5_12_0 C hP dX5_failureAhead_36 ?_
      refine lv_iload_n C.hx C.hb dX5_failureAhead_39 rfl (lv_at hl 3 rfl) ?_
      refine lv_iconst (v := (1 : Int32)) C.hx C.hb dX5_failureAhead_40 (by decide) ?_
      obtain ⟨r_4, e_4, h⟩ := gbind h
      refine gCallV (wd := dW cI cZ a) (As := [.int p3, .int (1 : Int32)]) (rest := []) C hml hl.1 hS (mX0_hasFlag hD e_4) k_272 k_273 k_274 k_30 k_275 hdX0_hasFlag ⟨by show 0 + 1 ≤ 1; omega, by show 8 + (3 + 11) + (0) ≤ 22; omega⟩ hP 1 0 rfl rfl rfl rfl rfl (Nat.le_of_ble_eq_true rfl) dX5_failureAhead_41 ⟨Nat.zero_le _, Nat.zero_le _⟩ (fun H locs hP hS => ?_)
      refine lv_if_eq (tgt := 52) C.hx C.hb dX5_failureAhead_44 (by decide) (fun c_5 => ?_) (fun c_5 => ?_)
      · have h := gpos c_5 h
        refine lv_iconst (v := (1 : Int32)) C.hx C.hb dX5_failureAhead_52 (by decide) ?_
        cases h
        exact gRetI C hr hlocks hP hS dX5_failureAhead_53
      · have h := gneg c_5 h
        refine lv_bipush (v := (-16 : Int32)) C.hx C.hb dX5_failureAhead_47 (by decide) ?_
        refine lv_goto (tgt := 53) C.hx C.hb dX5_failureAhead_49 (by decide) ?_
        cases h
        exact gRetI C hr hlocks hP hS dX5_failureAhead_53
    · have h := gneg c_3 h
      refine lv_aload_n C.hx C.hb dX5_failureAhead_21 rfl (lv_at hl 0 rfl) ?_
      refine fd_X5_19_0 C hP dX5_failureAhead_22 ?_
      refine lv_iload_n C.hx C.hb dX5_failureAhead_25 rfl (lv_at hl 1 rfl) ?_
      obtain ⟨r_6, e_6, h⟩ := gbind h
      refine gCallV (wd := dW cI cZ a) (As := [.int p1]) (rest := []) C hml hl.1 hS (mX1_isProgram hD e_6) k_228 k_229 k_230 k_31 k_231 hdX1_isProgram ⟨by show 0 + 1 ≤ 1; omega, by show 8 + (2 + 11) + (0) ≤ 22; omega⟩ hP 2 1 rfl rfl rfl rfl rfl (Nat.le_of_ble_eq_true rfl) dX5_failureAhead_26 ⟨Nat.zero_le _, Nat.zero_le _⟩ (fun H locs hP hS => ?_)
      refine lv_if_eq (tgt := 35) C.hx C.hb dX5_failureAhead_29 (by decide) (fun c_7 => ?_) (fun c_7 => ?_)
      · have h := gpos c_7 h
        refine lv_aload_n C.hx C.hb dX5_failureAhead_35 rfl (lv_at hl 0 rfl) ?_
        refine fd_X5_12_0 C hP dX5_failureAhead_36 ?_
        refine lv_iload_n C.hx C.hb dX5_failureAhead_39 rfl (lv_at hl 3 rfl) ?_
        refine lv_iconst (v := (1 : Int32)) C.hx C.hb dX5_failureAhead_40 (by decide) ?_
        obtain ⟨r_8, e_8, h⟩ := gbind h
        refine gCallV (wd := dW cI cZ a) (As := [.int p3, .int (1 : Int32)]) (rest := []) C hml hl.1 hS (mX0_hasFlag hD e_8) k_272 k_273 k_274 k_30 k_275 hdX0_hasFlag ⟨by show 0 + 1 ≤ 1; omega, by show 8 + (3 + 11) + (0) ≤ 22; omega⟩ hP 1 0 rfl rfl rfl rfl rfl (Nat.le_of_ble_eq_true rfl) dX5_failureAhead_41 ⟨Nat.zero_le _, Nat.zero_le _⟩ (fun H locs hP hS => ?_)
        refine lv_if_eq (tgt := 52) C.hx C.hb dX5_failureAhead_44 (by decide) (fun c_9 => ?_) (fun c_9 => ?_)
        · have h := gpos c_9 h
          refine lv_iconst (v := (1 : Int32)) C.hx C.hb dX5_failureAhead_52 (by decide) ?_
          cases h
          exact gRetI C hr hlocks hP hS dX5_failureAhead_53
        · have h := gneg c_9 h
          refine lv_bipush (v := (-16 : Int32)) C.hx C.hb dX5_failureAhead_47 (by decide) ?_
          refine lv_goto (tgt := 53) C.hx C.hb dX5_failureAhead_49 (by decide) ?_
          cases h
          exact gRetI C hr hlocks hP hS dX5_failureAhead_53
      · have h := gneg c_7 h
        refine lv_bipush (v := (-14 : Int32)) C.hx C.hb dX5_failureAhead_32 (by decide) ?_
        cases h
        exact gRetI C hr hlocks hP hS dX5_failureAhead_34
  · have h := gneg c_2 h
    refine lv_bipush (v := (-13 : Int32)) C.hx C.hb dX5_failureAhead_13 (by decide) ?_
    cases h
    exact gRetI C hr hlocks hP hS dX5_failureAhead_15
set_option maxHeartbeats 4000000 in
set_option maxRecDepth 100000 in
theorem mX2_add {l : Launch} {D : va_G} {cI cZ : ClassId} {a : Nat → Nat} (hD : ∀ σ, va_D (dAd a) (dW cI cZ a σ)) {σ : MS} {p1 p2 p3 p4 : Int32} {r : Int32} {σ' : MS} (h : sX2_add σ p1 p2 p3 p4 = some (r, σ')) : gMet (dW cI cZ a) (dAd a) l D cI cZ yX2_add cX2_add 5 (some .int) (0) (0) [.ref (a 3), .int p1, .int p2, .int p3, .int p4] σ r σ' := by
  refine gEnt (by decide) (Nat.le_of_ble_eq_true rfl) (fun p e s m below meth c ls C hml hr hlocks hP hl => ?_)
  have hl : lv_has ls 5 [(0, .ref (a 3)), (1, .int p1), (2, .int p2), (3, .int p3), (4, .int p4)] := hl
  have hS : va_S (dAd a) s.heap s.heap [] := va_S.rf
  rw [sX2_add] at h
  refine lv_aload_n C.hx C.hb dX2_add_0 rfl (lv_at hl 0 rfl) ?_
  refine fd_X2_27_3 C hP dX2_add_1 ?_
  refine lv_sipush (v := (512 : Int32)) C.hx C.hb dX2_add_4 (by decide) ?_
  refine lv_icmp_lt (tgt := 13) C.hx C.hb dX2_add_7 (by decide) (fun c_1 => ?_) (fun c_1 => ?_)
  · have h := gpos c_1 h
    refine lv_aload_n C.hx C.hb dX2_add_13 rfl (lv_at hl 0 rfl) ?_
    refine fd_X2_9_3 C hP dX2_add_14 ?_
    refine lv_aload_n C.hx C.hb dX2_add_17 rfl (lv_at hl 0 rfl) ?_
    refine fd_X2_27_3 C hP dX2_add_18 ?_
    refine lv_iload_n C.hx C.hb dX2_add_21 rfl (lv_at hl 1 rfl) ?_
    obtain ⟨g_2, h⟩ := gsplit h
    refine std_20 (i := (σ.2 2)) (x := p1) C hD hP hS g_2 dX2_add_22 (fun H locs hP hS => ?_)
    have hP : va_P D vwCl (dW cI cZ a (sA σ 20 ((σ.2 2).toNatClampNeg) p1)) H := hP
    refine lv_aload_n C.hx C.hb dX2_add_23 rfl (lv_at hl 0 rfl) ?_
    refine fd_X2_15_3 C hP dX2_add_24 ?_
    refine lv_aload_n C.hx C.hb dX2_add_27 rfl (lv_at hl 0 rfl) ?_
    refine fd_X2_27_3 C hP dX2_add_28 ?_
    refine lv_iload_n C.hx C.hb dX2_add_31 rfl (lv_at hl 2 rfl) ?_
    refine std_21 (i := (σ.2 2)) (x := p2) C hD hP hS g_2 dX2_add_32 (fun H locs hP hS => ?_)
    have hP : va_P D vwCl (dW cI cZ a (sA (sA σ 20 ((σ.2 2).toNatClampNeg) p1) 21 ((σ.2 2).toNatClampNeg) p2)) H := hP
    refine lv_aload_n C.hx C.hb dX2_add_33 rfl (lv_at hl 0 rfl) ?_
    refine fd_X2_18_3 C hP dX2_add_34 ?_
    refine lv_aload_n C.hx C.hb dX2_add_37 rfl (lv_at hl 0 rfl) ?_
    refine fd_X2_27_3 C hP dX2_add_38 ?_
    refine lv_iload_n C.hx C.hb dX2_add_41 rfl (lv_at hl 3 rfl) ?_
    refine std_22 (i := (σ.2 2)) (x := p3) C hD hP hS g_2 dX2_add_42 (fun H locs hP hS => ?_)
    have hP : va_P D vwCl (dW cI cZ a (sA (sA (sA σ 20 ((σ.2 2).toNatClampNeg) p1) 21 ((σ.2 2).toNatClampNeg) p2) 22 ((σ.2 2).toNatClampNeg) p3)) H := hP
    refine lv_aload_n C.hx C.hb dX2_add_43 rfl (lv_at hl 0 rfl) ?_
    refine fd_X2_21_3 C hP dX2_add_44 ?_
    refine lv_aload_n C.hx C.hb dX2_add_47 rfl (lv_at hl 0 rfl) ?_
    refine fd_X2_27_3 C hP dX2_add_48 ?_
    refine lv_iload C.hx C.hb dX2_add_51 (lv_at hl 4 rfl) ?_
    refine std_23 (i := (σ.2 2)) (x := p4) C hD hP hS g_2 dX2_add_53 (fun H locs hP hS => ?_)
    have hP : va_P D vwCl (dW cI cZ a (sA (sA (sA (sA σ 20 ((σ.2 2).toNatClampNeg) p1) 21 ((σ.2 2).toNatClampNeg) p2) 22 ((σ.2 2).toNatClampNeg) p3) 23 ((σ.2 2).toNatClampNeg) p4)) H := hP
    refine lv_aload_n C.hx C.hb dX2_add_54 rfl (lv_at hl 0 rfl) ?_
    refine fd_X2_24_3 C hP dX2_add_55 ?_
    refine lv_aload_n C.hx C.hb dX2_add_58 rfl (lv_at hl 0 rfl) ?_
    refine fd_X2_27_3 C hP dX2_add_59 ?_
    refine lv_iconst (v := (0 : Int32)) C.hx C.hb dX2_add_62 (by decide) ?_
    refine std_24 (i := (σ.2 2)) (x := (0 : Int32)) C hD hP hS g_2 dX2_add_63 (fun H locs hP hS => ?_)
    have hP : va_P D vwCl (dW cI cZ a (sA (sA (sA (sA (sA σ 20 ((σ.2 2).toNatClampNeg) p1) 21 ((σ.2 2).toNatClampNeg) p2) 22 ((σ.2 2).toNatClampNeg) p3) 23 ((σ.2 2).toNatClampNeg) p4) 24 ((σ.2 2).toNatClampNeg) (0 : Int32))) H := hP
    refine lv_aload_n C.hx C.hb dX2_add_64 rfl (lv_at hl 0 rfl) ?_
    refine lv_dup C.hx C.hb dX2_add_65 rfl ?_
    refine fd_X2_27_3 C hP dX2_add_66 ?_
    refine lv_dup_x1 C.hx C.hb dX2_add_69 rfl rfl ?_
    refine lv_iconst (v := (1 : Int32)) C.hx C.hb dX2_add_70 (by decide) ?_
    refine lv_iadd C.hx C.hb dX2_add_71 ?_
    refine pd_X2_27_3 (x := ((σ.2 2) + (1 : Int32))) C hD hP hS dX2_add_72 (fun H locs hP hS => ?_)
    have hP : va_P D vwCl (dW cI cZ a (sZ (sA (sA (sA (sA (sA σ 20 ((σ.2 2).toNatClampNeg) p1) 21 ((σ.2 2).toNatClampNeg) p2) 22 ((σ.2 2).toNatClampNeg) p3) 23 ((σ.2 2).toNatClampNeg) p4) 24 ((σ.2 2).toNatClampNeg) (0 : Int32)) 2 ((σ.2 2) + (1 : Int32)))) H := hP
    cases h
    exact gRetI C hr hlocks hP hS dX2_add_75
  · have h := gneg c_1 h
    refine lv_bipush (v := (-4 : Int32)) C.hx C.hb dX2_add_10 (by decide) ?_
    cases h
    exact gRetI C hr hlocks hP hS dX2_add_12
set_option maxHeartbeats 4000000 in
set_option maxRecDepth 100000 in
theorem mX5_stand {l : Launch} {D : va_G} {cI cZ : ClassId} {a : Nat → Nat} (hD : ∀ σ, va_D (dAd a) (dW cI cZ a σ)) {σ : MS} {p1 p2 p3 p4 : Int32} {r : Int32} {σ' : MS} (h : sX5_stand σ p1 p2 p3 p4 = some (r, σ')) : gMet (dW cI cZ a) (dAd a) l D cI cZ yX5_stand cX5_stand 6 (some .int) (1) (24) [.ref (a 0), .int p1, .int p2, .int p3, .int p4] σ r σ' := by
  refine gEnt (by decide) (Nat.le_of_ble_eq_true rfl) (fun p e s m below meth c ls C hml hr hlocks hP hl => ?_)
  have hl : lv_has ls 6 [(0, .ref (a 0)), (1, .int p1), (2, .int p2), (3, .int p3), (4, .int p4)] := hl
  have hS : va_S (dAd a) s.heap s.heap [] := va_S.rf
  rw [sX5_stand] at h
  refine lv_aload_n C.hx C.hb dX5_stand_0 rfl (lv_at hl 0 rfl) ?_
  refine fd_X5_26_0 C hP dX5_stand_1 ?_
  refine lv_iload_n C.hx C.hb dX5_stand_4 rfl (lv_at hl 1 rfl) ?_
  refine lv_iload_n C.hx C.hb dX5_stand_5 rfl (lv_at hl 2 rfl) ?_
  refine lv_iload_n C.hx C.hb dX5_stand_6 rfl (lv_at hl 3 rfl) ?_
  refine lv_iload C.hx C.hb dX5_stand_7 (lv_at hl 4 rfl) ?_
  obtain ⟨⟨r_1, u_1⟩, e_1, h⟩ := gbind h
  refine gCallV (wd := dW cI cZ a) (As := [.int p1, .int p2, .int p3, .int p4]) (rest := []) C hml hl.1 hS (mX2_add hD e_1) k_280 k_281 k_282 k_33 k_283 hdX2_add ⟨by show 0 + 1 ≤ 1; omega, by show 8 + (5 + 11) + (0) ≤ 24; omega⟩ hP 3 2 rfl rfl rfl rfl rfl (Nat.le_of_ble_eq_true rfl) dX5_stand_9 ⟨Nat.zero_le _, Nat.zero_le _⟩ (fun H locs hP hS => ?_)
  refine lv_istore (lv' := [(5, .int r_1), (0, .ref (a 0)), (1, .int p1), (2, .int p2), (3, .int p3), (4, .int p4)]) C.hx C.hb dX5_stand_12 hl (by decide) rfl (fun ls hl => ?_)
  refine lv_iload C.hx C.hb dX5_stand_14 (lv_at hl 0 rfl) ?_
  refine lv_if_lt (tgt := 34) C.hx C.hb dX5_stand_16 (by decide) (fun c_2 => ?_) (fun c_2 => ?_)
  · have h := gpos c_2 h
    refine lv_iload C.hx C.hb dX5_stand_34 (lv_at hl 0 rfl) ?_
    cases h
    exact gRetI C hr hlocks hP hS dX5_stand_36
  · have h := gneg c_2 h
    refine lv_aload_n C.hx C.hb dX5_stand_19 rfl (lv_at hl 1 rfl) ?_
    refine fd_X5_19_0 C hP dX5_stand_20 ?_
    refine fd_X5_87_2 C hP dX5_stand_23 ?_
    refine lv_iload_n C.hx C.hb dX5_stand_26 rfl (lv_at hl 2 rfl) ?_
    refine lv_iload_n C.hx C.hb dX5_stand_27 rfl (lv_at hl 3 rfl) ?_
    obtain ⟨r_3, e_3, h⟩ := gbind h
    refine gCallS (wd := dW cI cZ a) (As := [.int p1, .int p2]) (rest := [.ref (a 17)]) C hml hl.1 hS (mX5_slot hD e_3) k_244 k_245 k_29 k_246 hdX5_slot ⟨by show 0 + 1 ≤ 1; omega, by show 8 + (2 + 11) + (0) ≤ 24; omega⟩ hP rfl rfl (Nat.le_of_ble_eq_true rfl) dX5_stand_28 ⟨Nat.zero_le _, Nat.zero_le _⟩ (fun H locs hP hS => ?_)
    refine lv_iload C.hx C.hb dX5_stand_31 (lv_at hl 0 rfl) ?_
    obtain ⟨g_4, h⟩ := gsplit h
    refine std_17 (i := r_3) (x := r_1) C hD hP hS g_4 dX5_stand_33 (fun H locs hP hS => ?_)
    have hP : va_P D vwCl (dW cI cZ a (sA u_1 17 (r_3.toNatClampNeg) r_1)) H := hP
    refine lv_iload C.hx C.hb dX5_stand_34 (lv_at hl 0 rfl) ?_
    cases h
    exact gRetI C hr hlocks hP hS dX5_stand_36
set_option maxHeartbeats 4000000 in
set_option maxRecDepth 100000 in
theorem mbX5_ask {l : Launch} {D : va_G} {cI cZ : ClassId} {a : Nat → Nat} {n : Nat} (hD : ∀ σ, va_D (dAd a) (dW cI cZ a σ)) {fr : Nat → MS → Int32 → Int32 → Int32 → Int32 → Option (Int32 × MS)}  (ih0 : ∀ (σ σ' : MS) (p1 p2 p3 p4 r : Int32), fr 0 σ p1 p2 p3 p4 = some (r, σ') → gMet (dW cI cZ a) (dAd a) l D cI cZ yX5_ask cX5_ask 8 (some .int) (n + 4) (29 * n + 100) [.ref (a 0), .int p1, .int p2, .int p3] σ r σ') (ih1 : ∀ (σ σ' : MS) (p1 p2 p3 p4 r : Int32), fr 1 σ p1 p2 p3 p4 = some (r, σ') → gMet (dW cI cZ a) (dAd a) l D cI cZ yX5_askLibrary cX5_askLibrary 5 (some .int) (n + 4) (29 * n + 100) [.ref (a 0), .int p1, .int p2, .int p3] σ r σ') (ih2 : ∀ (σ σ' : MS) (p1 p2 p3 p4 r : Int32), fr 2 σ p1 p2 p3 p4 = some (r, σ') → gMet (dW cI cZ a) (dAd a) l D cI cZ yX5_make cX5_make 10 (some .int) (n + 4) (29 * n + 100) [.ref (a 0), .int p1, .int p2, .int p3, .int p4] σ r σ') {σ : MS} {p1 p2 p3 : Int32} {r : Int32} {σ' : MS} (h : bX5_ask fr σ p1 p2 p3 = some (r, σ')) : gMet (dW cI cZ a) (dAd a) l D cI cZ yX5_ask cX5_ask 8 (some .int) (n + 1 + 4) (29 * (n + 1) + 100) [.ref (a 0), .int p1, .int p2, .int p3] σ r σ' := by
  refine gEnt (by decide) (Nat.le_of_ble_eq_true rfl) (fun p e s m below meth c ls C hml hr hlocks hP hl => ?_)
  have hl : lv_has ls 8 [(0, .ref (a 0)), (1, .int p1), (2, .int p2), (3, .int p3)] := hl
  have hS : va_S (dAd a) s.heap s.heap [] := va_S.rf
  rw [bX5_ask] at h
  refine lv_aload_n C.hx C.hb dX5_ask_0 rfl (lv_at hl 0 rfl) ?_
  refine fd_X5_19_0 C hP dX5_ask_1 ?_
  refine lv_iload_n C.hx C.hb dX5_ask_4 rfl (lv_at hl 1 rfl) ?_
  refine lv_iload_n C.hx C.hb dX5_ask_5 rfl (lv_at hl 2 rfl) ?_
  obtain ⟨r_1, e_1, h⟩ := gbind h
  refine gCallV (wd := dW cI cZ a) (As := [.int p1, .int p2]) (rest := []) C hml hl.1 hS (mX1_madeOrGiven hD e_1) k_255 k_256 k_257 k_31 k_258 hdX1_madeOrGiven ⟨by show 1 + 1 ≤ n + 1 + 4; omega, by show 8 + (4 + 11) + (21) ≤ 29 * (n + 1) + 100; omega⟩ hP 2 1 rfl rfl rfl rfl rfl (Nat.le_of_ble_eq_true rfl) dX5_ask_6 ⟨Nat.zero_le _, Nat.zero_le _⟩ (fun H locs hP hS => ?_)
  refine lv_istore (lv' := [(4, .int r_1), (0, .ref (a 0)), (1, .int p1), (2, .int p2), (3, .int p3)]) C.hx C.hb dX5_ask_9 hl (by decide) rfl (fun ls hl => ?_)
  refine lv_iload C.hx C.hb dX5_ask_11 (lv_at hl 0 rfl) ?_
  refine lv_iconst (v := (-1 : Int32)) C.hx C.hb dX5_ask_13 (by decide) ?_
  refine lv_icmp_eq (tgt := 20) C.hx C.hb dX5_ask_14 (by decide) (fun c_2 => ?_) (fun c_2 => ?_)
  · have h := gpos c_2 h
    refine lv_aload_n C.hx C.hb dX5_ask_20 rfl (lv_at hl 1 rfl) ?_
    refine fd_X5_19_0 C hP dX5_ask_21 ?_
    refine lv_iload_n C.hx C.hb dX5_ask_24 rfl (lv_at hl 2 rfl) ?_
    obtain ⟨r_3, e_3, h⟩ := gbind h
    refine gCallV (wd := dW cI cZ a) (As := [.int p1]) (rest := []) C hml hl.1 hS (mX1_isProgram hD e_3) k_228 k_229 k_230 k_31 k_231 hdX1_isProgram ⟨by show 0 + 1 ≤ n + 1 + 4; omega, by show 8 + (2 + 11) + (0) ≤ 29 * (n + 1) + 100; omega⟩ hP 2 1 rfl rfl rfl rfl rfl (Nat.le_of_ble_eq_true rfl) dX5_ask_25 ⟨Nat.zero_le _, Nat.zero_le _⟩ (fun H locs hP hS => ?_)
    refine lv_istore (lv' := [(5, .int r_3), (4, .int r_1), (0, .ref (a 0)), (1, .int p1), (2, .int p2), (3, .int p3)]) C.hx C.hb dX5_ask_28 hl (by decide) rfl (fun ls hl => ?_)
    refine lv_aload_n C.hx C.hb dX5_ask_30 rfl (lv_at hl 2 rfl) ?_
    refine fd_X5_19_0 C hP dX5_ask_31 ?_
    refine fd_X5_154_2 C hP dX5_ask_34 ?_
    refine lv_iload_n C.hx C.hb dX5_ask_37 rfl (lv_at hl 3 rfl) ?_
    obtain ⟨g_4, h⟩ := gsplit h
    refine ldd_14 (i := p1) C hP g_4 dX5_ask_38 ?_
    refine lv_istore (lv' := [(6, .int (σ.1 14 (p1.toNatClampNeg))), (5, .int r_3), (4, .int r_1), (0, .ref (a 0)), (1, .int p1), (2, .int p2), (3, .int p3)]) C.hx C.hb dX5_ask_39 hl (by decide) rfl (fun ls hl => ?_)
    refine lv_iload C.hx C.hb dX5_ask_41 (lv_at hl 1 rfl) ?_
    refine lv_if_eq (tgt := 70) C.hx C.hb dX5_ask_43 (by decide) (fun c_5 => ?_) (fun c_5 => ?_)
    · have h := gpos c_5 h
      refine lv_aload_n C.hx C.hb dX5_ask_70 rfl (lv_at hl 3 rfl) ?_
      refine fd_X5_19_0 C hP dX5_ask_71 ?_
      refine fd_X5_75_2 C hP dX5_ask_74 ?_
      refine lv_iload_n C.hx C.hb dX5_ask_77 rfl (lv_at hl 4 rfl) ?_
      refine lv_iload_n C.hx C.hb dX5_ask_78 rfl (lv_at hl 5 rfl) ?_
      obtain ⟨r_6, e_6, h⟩ := gbind h
      refine gCallS (wd := dW cI cZ a) (As := [.int p1, .int p2]) (rest := [.ref (a 16)]) C hml hl.1 hS (mX5_slot hD e_6) k_244 k_245 k_29 k_246 hdX5_slot ⟨by show 0 + 1 ≤ n + 1 + 4; omega, by show 8 + (2 + 11) + (0) ≤ 29 * (n + 1) + 100; omega⟩ hP rfl rfl (Nat.le_of_ble_eq_true rfl) dX5_ask_79 ⟨Nat.zero_le _, Nat.zero_le _⟩ (fun H locs hP hS => ?_)
      obtain ⟨g_7, h⟩ := gsplit h
      refine ldd_16 (i := r_6) C hP g_7 dX5_ask_82 ?_
      refine lv_istore (lv' := [(7, .int (σ.1 16 (r_6.toNatClampNeg))), (6, .int (σ.1 14 (p1.toNatClampNeg))), (5, .int r_3), (4, .int r_1), (0, .ref (a 0)), (1, .int p1), (2, .int p2), (3, .int p3)]) C.hx C.hb dX5_ask_83 hl (by decide) rfl (fun ls hl => ?_)
      refine lv_iload C.hx C.hb dX5_ask_85 (lv_at hl 0 rfl) ?_
      refine lv_iconst (v := (-1 : Int32)) C.hx C.hb dX5_ask_87 (by decide) ?_
      refine lv_icmp_eq (tgt := 101) C.hx C.hb dX5_ask_88 (by decide) (fun c_8 => ?_) (fun c_8 => ?_)
      · have h := gpos c_8 h
        refine lv_iload C.hx C.hb dX5_ask_101 (lv_at hl 2 rfl) ?_
        refine lv_if_eq (tgt := 121) C.hx C.hb dX5_ask_103 (by decide) (fun _ => ?_) (fun c_ => absurd c_5 c_)
        refine lv_bipush (v := (-11 : Int32)) C.hx C.hb dX5_ask_121 (by decide) ?_
        cases h
        exact gRetI C hr hlocks hP hS dX5_ask_123
      · have h := gneg c_8 h
        refine lv_aload_n C.hx C.hb dX5_ask_91 rfl (lv_at hl 4 rfl) ?_
        refine lv_iload_n C.hx C.hb dX5_ask_92 rfl (lv_at hl 5 rfl) ?_
        refine lv_iload_n C.hx C.hb dX5_ask_93 rfl (lv_at hl 6 rfl) ?_
        refine lv_iload C.hx C.hb dX5_ask_94 (lv_at hl 0 rfl) ?_
        refine lv_iload_n C.hx C.hb dX5_ask_96 rfl (lv_at hl 7 rfl) ?_
        obtain ⟨⟨r_9, u_9⟩, e_9, h⟩ := gbind h
        refine gCallV (wd := dW cI cZ a) (As := [.int p1, .int p2, .int (σ.1 16 (r_6.toNatClampNeg)), .int p3]) (rest := []) C hml hl.1 hS (ih2 _ _ _ _ _ _ _ e_9) k_264 k_266 k_2 k_29 k_267 hdX5_make ⟨by show n + 4 + 1 ≤ n + 1 + 4; omega, by show 8 + (10 + 11) + (29 * n + 100) ≤ 29 * (n + 1) + 100; omega⟩ hP 0 5 rfl rfl rfl rfl rfl (Nat.le_of_ble_eq_true rfl) dX5_ask_97 ⟨Nat.zero_le _, Nat.zero_le _⟩ (fun H locs hP hS => ?_)
        cases h
        exact gRetI C hr hlocks hP hS dX5_ask_100
    · have h := gneg c_5 h
      refine lv_iload C.hx C.hb dX5_ask_46 (lv_at hl 0 rfl) ?_
      refine lv_if_ne (tgt := 70) C.hx C.hb dX5_ask_48 (by decide) (fun c_10 => ?_) (fun c_10 => ?_)
      · have h := gneg c_10 h
        refine lv_aload_n C.hx C.hb dX5_ask_70 rfl (lv_at hl 3 rfl) ?_
        refine fd_X5_19_0 C hP dX5_ask_71 ?_
        refine fd_X5_75_2 C hP dX5_ask_74 ?_
        refine lv_iload_n C.hx C.hb dX5_ask_77 rfl (lv_at hl 4 rfl) ?_
        refine lv_iload_n C.hx C.hb dX5_ask_78 rfl (lv_at hl 5 rfl) ?_
        obtain ⟨r_11, e_11, h⟩ := gbind h
        refine gCallS (wd := dW cI cZ a) (As := [.int p1, .int p2]) (rest := [.ref (a 16)]) C hml hl.1 hS (mX5_slot hD e_11) k_244 k_245 k_29 k_246 hdX5_slot ⟨by show 0 + 1 ≤ n + 1 + 4; omega, by show 8 + (2 + 11) + (0) ≤ 29 * (n + 1) + 100; omega⟩ hP rfl rfl (Nat.le_of_ble_eq_true rfl) dX5_ask_79 ⟨Nat.zero_le _, Nat.zero_le _⟩ (fun H locs hP hS => ?_)
        obtain ⟨g_12, h⟩ := gsplit h
        refine ldd_16 (i := r_11) C hP g_12 dX5_ask_82 ?_
        refine lv_istore (lv' := [(7, .int (σ.1 16 (r_11.toNatClampNeg))), (6, .int (σ.1 14 (p1.toNatClampNeg))), (5, .int r_3), (4, .int r_1), (0, .ref (a 0)), (1, .int p1), (2, .int p2), (3, .int p3)]) C.hx C.hb dX5_ask_83 hl (by decide) rfl (fun ls hl => ?_)
        refine lv_iload C.hx C.hb dX5_ask_85 (lv_at hl 0 rfl) ?_
        refine lv_iconst (v := (-1 : Int32)) C.hx C.hb dX5_ask_87 (by decide) ?_
        refine lv_icmp_eq (tgt := 101) C.hx C.hb dX5_ask_88 (by decide) (fun c_13 => ?_) (fun c_13 => ?_)
        · have h := gpos c_13 h
          refine lv_iload C.hx C.hb dX5_ask_101 (lv_at hl 2 rfl) ?_
          refine lv_if_eq (tgt := 121) C.hx C.hb dX5_ask_103 (by decide) (fun c_ => absurd c_ c_5) (fun _ => ?_)
          refine lv_iload C.hx C.hb dX5_ask_106 (lv_at hl 1 rfl) ?_
          refine lv_if_eq (tgt := 121) C.hx C.hb dX5_ask_108 (by decide) (fun c_ => absurd c_ c_10) (fun _ => ?_)
          refine lv_aload_n C.hx C.hb dX5_ask_111 rfl (lv_at hl 4 rfl) ?_
          refine lv_iload_n C.hx C.hb dX5_ask_112 rfl (lv_at hl 5 rfl) ?_
          refine lv_iload_n C.hx C.hb dX5_ask_113 rfl (lv_at hl 6 rfl) ?_
          refine lv_iload_n C.hx C.hb dX5_ask_114 rfl (lv_at hl 7 rfl) ?_
          obtain ⟨⟨r_14, u_14⟩, e_14, h⟩ := gbind h
          refine gCallV (wd := dW cI cZ a) (As := [.int p1, .int p2, .int p3]) (rest := []) C hml hl.1 hS (ih1 _ _ _ _ _ _ _ e_14) k_260 k_262 k_1 k_29 k_263 hdX5_askLibrary ⟨by show n + 4 + 1 ≤ n + 1 + 4; omega, by show 8 + (5 + 11) + (29 * n + 100) ≤ 29 * (n + 1) + 100; omega⟩ hP 0 5 rfl rfl rfl rfl rfl (Nat.le_of_ble_eq_true rfl) dX5_ask_115 ⟨Nat.zero_le _, Nat.zero_le _⟩ (fun H locs hP hS => ?_)
          refine lv_goto (tgt := 123) C.hx C.hb dX5_ask_118 (by decide) ?_
          cases h
          exact gRetI C hr hlocks hP hS dX5_ask_123
        · have h := gneg c_13 h
          refine lv_aload_n C.hx C.hb dX5_ask_91 rfl (lv_at hl 4 rfl) ?_
          refine lv_iload_n C.hx C.hb dX5_ask_92 rfl (lv_at hl 5 rfl) ?_
          refine lv_iload_n C.hx C.hb dX5_ask_93 rfl (lv_at hl 6 rfl) ?_
          refine lv_iload C.hx C.hb dX5_ask_94 (lv_at hl 0 rfl) ?_
          refine lv_iload_n C.hx C.hb dX5_ask_96 rfl (lv_at hl 7 rfl) ?_
          obtain ⟨⟨r_15, u_15⟩, e_15, h⟩ := gbind h
          refine gCallV (wd := dW cI cZ a) (As := [.int p1, .int p2, .int (σ.1 16 (r_11.toNatClampNeg)), .int p3]) (rest := []) C hml hl.1 hS (ih2 _ _ _ _ _ _ _ e_15) k_264 k_266 k_2 k_29 k_267 hdX5_make ⟨by show n + 4 + 1 ≤ n + 1 + 4; omega, by show 8 + (10 + 11) + (29 * n + 100) ≤ 29 * (n + 1) + 100; omega⟩ hP 0 5 rfl rfl rfl rfl rfl (Nat.le_of_ble_eq_true rfl) dX5_ask_97 ⟨Nat.zero_le _, Nat.zero_le _⟩ (fun H locs hP hS => ?_)
          cases h
          exact gRetI C hr hlocks hP hS dX5_ask_100
      · have h := gpos c_10 h
        refine lv_aload_n C.hx C.hb dX5_ask_51 rfl (lv_at hl 3 rfl) ?_
        refine lv_iload_n C.hx C.hb dX5_ask_52 rfl (lv_at hl 4 rfl) ?_
        refine lv_iload_n C.hx C.hb dX5_ask_53 rfl (lv_at hl 5 rfl) ?_
        refine lv_iload_n C.hx C.hb dX5_ask_54 rfl (lv_at hl 6 rfl) ?_
        obtain ⟨⟨r_16, u_16⟩, e_16, h⟩ := gbind h
        refine gCallV (wd := dW cI cZ a) (As := [.int p1, .int p2, .int p3]) (rest := []) C hml hl.1 hS (ih1 _ _ _ _ _ _ _ e_16) k_260 k_262 k_1 k_29 k_263 hdX5_askLibrary ⟨by show n + 4 + 1 ≤ n + 1 + 4; omega, by show 8 + (5 + 11) + (29 * n + 100) ≤ 29 * (n + 1) + 100; omega⟩ hP 0 5 rfl rfl rfl rfl rfl (Nat.le_of_ble_eq_true rfl) dX5_ask_55 ⟨Nat.zero_le _, Nat.zero_le _⟩ (fun H locs hP hS => ?_)
        refine lv_istore (lv' := [(7, .int r_16), (6, .int (σ.1 14 (p1.toNatClampNeg))), (5, .int r_3), (4, .int r_1), (0, .ref (a 0)), (1, .int p1), (2, .int p2), (3, .int p3)]) C.hx C.hb dX5_ask_58 hl (by decide) rfl (fun ls hl => ?_)
        refine lv_iload C.hx C.hb dX5_ask_60 (lv_at hl 0 rfl) ?_
        refine lv_bipush (v := (-11 : Int32)) C.hx C.hb dX5_ask_62 (by decide) ?_
        refine lv_icmp_eq (tgt := 70) C.hx C.hb dX5_ask_64 (by decide) (fun c_17 => ?_) (fun c_17 => ?_)
        · have h := gpos c_17 h
          refine lv_aload_n C.hx C.hb dX5_ask_70 rfl (lv_at hl 4 rfl) ?_
          refine fd_X5_19_0 C hP dX5_ask_71 ?_
          refine fd_X5_75_2 C hP dX5_ask_74 ?_
          refine lv_iload_n C.hx C.hb dX5_ask_77 rfl (lv_at hl 5 rfl) ?_
          refine lv_iload_n C.hx C.hb dX5_ask_78 rfl (lv_at hl 6 rfl) ?_
          obtain ⟨r_18, e_18, h⟩ := gbind h
          refine gCallS (wd := dW cI cZ a) (As := [.int p1, .int p2]) (rest := [.ref (a 16)]) C hml hl.1 hS (mX5_slot hD e_18) k_244 k_245 k_29 k_246 hdX5_slot ⟨by show 0 + 1 ≤ n + 1 + 4; omega, by show 8 + (2 + 11) + (0) ≤ 29 * (n + 1) + 100; omega⟩ hP rfl rfl (Nat.le_of_ble_eq_true rfl) dX5_ask_79 ⟨Nat.zero_le _, Nat.zero_le _⟩ (fun H locs hP hS => ?_)
          obtain ⟨g_19, h⟩ := gsplit h
          refine ldd_16 (i := r_18) C hP g_19 dX5_ask_82 ?_
          refine lv_istore (lv' := [(7, .int (u_16.1 16 (r_18.toNatClampNeg))), (6, .int (σ.1 14 (p1.toNatClampNeg))), (5, .int r_3), (4, .int r_1), (0, .ref (a 0)), (1, .int p1), (2, .int p2), (3, .int p3)]) C.hx C.hb dX5_ask_83 hl (by decide) rfl (fun ls hl => ?_)
          refine lv_iload C.hx C.hb dX5_ask_85 (lv_at hl 0 rfl) ?_
          refine lv_iconst (v := (-1 : Int32)) C.hx C.hb dX5_ask_87 (by decide) ?_
          refine lv_icmp_eq (tgt := 101) C.hx C.hb dX5_ask_88 (by decide) (fun c_20 => ?_) (fun c_20 => ?_)
          · have h := gpos c_20 h
            refine lv_iload C.hx C.hb dX5_ask_101 (lv_at hl 2 rfl) ?_
            refine lv_if_eq (tgt := 121) C.hx C.hb dX5_ask_103 (by decide) (fun c_ => absurd c_ c_5) (fun _ => ?_)
            refine lv_iload C.hx C.hb dX5_ask_106 (lv_at hl 1 rfl) ?_
            refine lv_if_eq (tgt := 121) C.hx C.hb dX5_ask_108 (by decide) (fun _ => ?_) (fun c_ => absurd c_10 c_)
            refine lv_bipush (v := (-11 : Int32)) C.hx C.hb dX5_ask_121 (by decide) ?_
            cases h
            exact gRetI C hr hlocks hP hS dX5_ask_123
          · have h := gneg c_20 h
            refine lv_aload_n C.hx C.hb dX5_ask_91 rfl (lv_at hl 4 rfl) ?_
            refine lv_iload_n C.hx C.hb dX5_ask_92 rfl (lv_at hl 5 rfl) ?_
            refine lv_iload_n C.hx C.hb dX5_ask_93 rfl (lv_at hl 6 rfl) ?_
            refine lv_iload C.hx C.hb dX5_ask_94 (lv_at hl 0 rfl) ?_
            refine lv_iload_n C.hx C.hb dX5_ask_96 rfl (lv_at hl 7 rfl) ?_
            obtain ⟨⟨r_21, u_21⟩, e_21, h⟩ := gbind h
            refine gCallV (wd := dW cI cZ a) (As := [.int p1, .int p2, .int (u_16.1 16 (r_18.toNatClampNeg)), .int p3]) (rest := []) C hml hl.1 hS (ih2 _ _ _ _ _ _ _ e_21) k_264 k_266 k_2 k_29 k_267 hdX5_make ⟨by show n + 4 + 1 ≤ n + 1 + 4; omega, by show 8 + (10 + 11) + (29 * n + 100) ≤ 29 * (n + 1) + 100; omega⟩ hP 0 5 rfl rfl rfl rfl rfl (Nat.le_of_ble_eq_true rfl) dX5_ask_97 ⟨Nat.zero_le _, Nat.zero_le _⟩ (fun H locs hP hS => ?_)
            cases h
            exact gRetI C hr hlocks hP hS dX5_ask_100
        · have h := gneg c_17 h
          refine lv_iload C.hx C.hb dX5_ask_67 (lv_at hl 0 rfl) ?_
          cases h
          exact gRetI C hr hlocks hP hS dX5_ask_69
  · have h := gneg c_2 h
    refine lv_iload C.hx C.hb dX5_ask_17 (lv_at hl 0 rfl) ?_
    cases h
    exact gRetI C hr hlocks hP hS dX5_ask_19
set_option maxHeartbeats 4000000 in
set_option maxRecDepth 100000 in
theorem mbX5_askLibrary {l : Launch} {D : va_G} {cI cZ : ClassId} {a : Nat → Nat} {n : Nat} (hD : ∀ σ, va_D (dAd a) (dW cI cZ a σ)) {fr : Nat → MS → Int32 → Int32 → Int32 → Int32 → Option (Int32 × MS)}  (ih0 : ∀ (σ σ' : MS) (p1 p2 p3 p4 r : Int32), fr 0 σ p1 p2 p3 p4 = some (r, σ') → gMet (dW cI cZ a) (dAd a) l D cI cZ yX5_ask cX5_ask 8 (some .int) (n + 4) (29 * n + 100) [.ref (a 0), .int p1, .int p2, .int p3] σ r σ') (ih1 : ∀ (σ σ' : MS) (p1 p2 p3 p4 r : Int32), fr 1 σ p1 p2 p3 p4 = some (r, σ') → gMet (dW cI cZ a) (dAd a) l D cI cZ yX5_askLibrary cX5_askLibrary 5 (some .int) (n + 4) (29 * n + 100) [.ref (a 0), .int p1, .int p2, .int p3] σ r σ') (ih2 : ∀ (σ σ' : MS) (p1 p2 p3 p4 r : Int32), fr 2 σ p1 p2 p3 p4 = some (r, σ') → gMet (dW cI cZ a) (dAd a) l D cI cZ yX5_make cX5_make 10 (some .int) (n + 4) (29 * n + 100) [.ref (a 0), .int p1, .int p2, .int p3, .int p4] σ r σ') {σ : MS} {p1 p2 p3 : Int32} {r : Int32} {σ' : MS} (h : bX5_askLibrary fr σ p1 p2 p3 = some (r, σ')) : gMet (dW cI cZ a) (dAd a) l D cI cZ yX5_askLibrary cX5_askLibrary 5 (some .int) (n + 1 + 4) (29 * (n + 1) + 100) [.ref (a 0), .int p1, .int p2, .int p3] σ r σ' := by
  refine gEnt (by decide) (Nat.le_of_ble_eq_true rfl) (fun p e s m below meth c ls C hml hr hlocks hP hl => ?_)
  have hl : lv_has ls 5 [(0, .ref (a 0)), (1, .int p1), (2, .int p2), (3, .int p3)] := hl
  have hS : va_S (dAd a) s.heap s.heap [] := va_S.rf
  rw [bX5_askLibrary] at h
  refine lv_aload_n C.hx C.hb dX5_askLibrary_0 rfl (lv_at hl 0 rfl) ?_
  refine lv_aload_n C.hx C.hb dX5_askLibrary_1 rfl (lv_at hl 0 rfl) ?_
  refine fd_X5_19_0 C hP dX5_askLibrary_2 ?_
  refine fd_X5_160_2 C hP dX5_askLibrary_5 ?_
  refine lv_iload_n C.hx C.hb dX5_askLibrary_8 rfl (lv_at hl 1 rfl) ?_
  obtain ⟨g_1, h⟩ := gsplit h
  refine ldd_13 (i := p1) C hP g_1 dX5_askLibrary_9 ?_
  refine lv_iload_n C.hx C.hb dX5_askLibrary_10 rfl (lv_at hl 2 rfl) ?_
  refine lv_iload_n C.hx C.hb dX5_askLibrary_11 rfl (lv_at hl 3 rfl) ?_
  obtain ⟨⟨r_2, u_2⟩, e_2, h⟩ := gbind h
  refine gCallV (wd := dW cI cZ a) (As := [.int (σ.1 13 (p1.toNatClampNeg)), .int p2, .int p3]) (rest := []) C hml hl.1 hS (ih0 _ _ _ _ _ _ _ e_2) k_251 k_253 k_0 k_29 k_254 hdX5_ask ⟨by show n + 4 + 1 ≤ n + 1 + 4; omega, by show 8 + (8 + 11) + (29 * n + 100) ≤ 29 * (n + 1) + 100; omega⟩ hP 0 5 rfl rfl rfl rfl rfl (Nat.le_of_ble_eq_true rfl) dX5_askLibrary_12 ⟨Nat.zero_le _, Nat.zero_le _⟩ (fun H locs hP hS => ?_)
  refine lv_istore (lv' := [(4, .int r_2), (0, .ref (a 0)), (1, .int p1), (2, .int p2), (3, .int p3)]) C.hx C.hb dX5_askLibrary_15 hl (by decide) rfl (fun ls hl => ?_)
  refine lv_iload C.hx C.hb dX5_askLibrary_17 (lv_at hl 0 rfl) ?_
  refine lv_if_lt (tgt := 37) C.hx C.hb dX5_askLibrary_19 (by decide) (fun c_3 => ?_) (fun c_3 => ?_)
  · have h := gpos c_3 h
    refine lv_iload C.hx C.hb dX5_askLibrary_37 (lv_at hl 0 rfl) ?_
    cases h
    exact gRetI C hr hlocks hP hS dX5_askLibrary_39
  · have h := gneg c_3 h
    refine lv_aload_n C.hx C.hb dX5_askLibrary_22 rfl (lv_at hl 1 rfl) ?_
    refine fd_X5_19_0 C hP dX5_askLibrary_23 ?_
    refine fd_X5_163_2 C hP dX5_askLibrary_26 ?_
    refine lv_iload_n C.hx C.hb dX5_askLibrary_29 rfl (lv_at hl 2 rfl) ?_
    refine lv_iload_n C.hx C.hb dX5_askLibrary_30 rfl (lv_at hl 3 rfl) ?_
    obtain ⟨r_4, e_4, h⟩ := gbind h
    refine gCallS (wd := dW cI cZ a) (As := [.int p1, .int p2]) (rest := [.ref (a 18)]) C hml hl.1 hS (mX5_slot hD e_4) k_244 k_245 k_29 k_246 hdX5_slot ⟨by show 0 + 1 ≤ n + 1 + 4; omega, by show 8 + (2 + 11) + (0) ≤ 29 * (n + 1) + 100; omega⟩ hP rfl rfl (Nat.le_of_ble_eq_true rfl) dX5_askLibrary_31 ⟨Nat.zero_le _, Nat.zero_le _⟩ (fun H locs hP hS => ?_)
    refine lv_iload C.hx C.hb dX5_askLibrary_34 (lv_at hl 0 rfl) ?_
    obtain ⟨g_5, h⟩ := gsplit h
    refine std_18 (i := r_4) (x := r_2) C hD hP hS g_5 dX5_askLibrary_36 (fun H locs hP hS => ?_)
    have hP : va_P D vwCl (dW cI cZ a (sA u_2 18 (r_4.toNatClampNeg) r_2)) H := hP
    refine lv_iload C.hx C.hb dX5_askLibrary_37 (lv_at hl 0 rfl) ?_
    cases h
    exact gRetI C hr hlocks hP hS dX5_askLibrary_39
set_option maxHeartbeats 4000000 in
set_option maxRecDepth 100000 in
theorem mbX5_make {l : Launch} {D : va_G} {cI cZ : ClassId} {a : Nat → Nat} {n : Nat} (hD : ∀ σ, va_D (dAd a) (dW cI cZ a σ)) {fr : Nat → MS → Int32 → Int32 → Int32 → Int32 → Option (Int32 × MS)}  (ih0 : ∀ (σ σ' : MS) (p1 p2 p3 p4 r : Int32), fr 0 σ p1 p2 p3 p4 = some (r, σ') → gMet (dW cI cZ a) (dAd a) l D cI cZ yX5_ask cX5_ask 8 (some .int) (n + 4) (29 * n + 100) [.ref (a 0), .int p1, .int p2, .int p3] σ r σ') (ih1 : ∀ (σ σ' : MS) (p1 p2 p3 p4 r : Int32), fr 1 σ p1 p2 p3 p4 = some (r, σ') → gMet (dW cI cZ a) (dAd a) l D cI cZ yX5_askLibrary cX5_askLibrary 5 (some .int) (n + 4) (29 * n + 100) [.ref (a 0), .int p1, .int p2, .int p3] σ r σ') (ih2 : ∀ (σ σ' : MS) (p1 p2 p3 p4 r : Int32), fr 2 σ p1 p2 p3 p4 = some (r, σ') → gMet (dW cI cZ a) (dAd a) l D cI cZ yX5_make cX5_make 10 (some .int) (n + 4) (29 * n + 100) [.ref (a 0), .int p1, .int p2, .int p3, .int p4] σ r σ') {σ : MS} {p1 p2 p3 p4 : Int32} {r : Int32} {σ' : MS} (h : bX5_make fr σ p1 p2 p3 p4 = some (r, σ')) : gMet (dW cI cZ a) (dAd a) l D cI cZ yX5_make cX5_make 10 (some .int) (n + 1 + 4) (29 * (n + 1) + 100) [.ref (a 0), .int p1, .int p2, .int p3, .int p4] σ r σ' := by
  refine gEnt (by decide) (Nat.le_of_ble_eq_true rfl) (fun p e s m below meth c ls C hml hr hlocks hP hl => ?_)
  have hl : lv_has ls 10 [(0, .ref (a 0)), (1, .int p1), (2, .int p2), (3, .int p3), (4, .int p4)] := hl
  have hS : va_S (dAd a) s.heap s.heap [] := va_S.rf
  rw [bX5_make] at h
  refine lv_aload_n C.hx C.hb dX5_make_0 rfl (lv_at hl 0 rfl) ?_
  refine lv_iload_n C.hx C.hb dX5_make_1 rfl (lv_at hl 1 rfl) ?_
  refine lv_iload_n C.hx C.hb dX5_make_2 rfl (lv_at hl 2 rfl) ?_
  refine lv_iload_n C.hx C.hb dX5_make_3 rfl (lv_at hl 3 rfl) ?_
  obtain ⟨r_1, e_1, h⟩ := gbind h
  refine gCallV (wd := dW cI cZ a) (As := [.int p1, .int p2, .int p3]) (rest := []) C hml hl.1 hS (mX5_failureAhead hD e_1) k_268 k_270 k_3 k_29 k_271 hdX5_failureAhead ⟨by show 1 + 1 ≤ n + 1 + 4; omega, by show 8 + (4 + 11) + (22) ≤ 29 * (n + 1) + 100; omega⟩ hP 0 5 rfl rfl rfl rfl rfl (Nat.le_of_ble_eq_true rfl) dX5_make_4 ⟨Nat.zero_le _, Nat.zero_le _⟩ (fun H locs hP hS => ?_)
  refine lv_istore (lv' := [(5, .int r_1), (0, .ref (a 0)), (1, .int p1), (2, .int p2), (3, .int p3), (4, .int p4)]) C.hx C.hb dX5_make_7 hl (by decide) rfl (fun ls hl => ?_)
  refine lv_iload C.hx C.hb dX5_make_9 (lv_at hl 0 rfl) ?_
  refine lv_iconst (v := (1 : Int32)) C.hx C.hb dX5_make_11 (by decide) ?_
  refine lv_icmp_eq (tgt := 18) C.hx C.hb dX5_make_12 (by decide) (fun c_2 => ?_) (fun c_2 => ?_)
  · have h := gpos c_2 h
    refine lv_aload_n C.hx C.hb dX5_make_18 rfl (lv_at hl 1 rfl) ?_
    refine fd_X5_12_0 C hP dX5_make_19 ?_
    refine fd_X5_169_1 C hP dX5_make_22 ?_
    refine lv_iload_n C.hx C.hb dX5_make_25 rfl (lv_at hl 4 rfl) ?_
    obtain ⟨g_3, h⟩ := gsplit h
    refine ldd_10 (i := p3) C hP g_3 dX5_make_26 ?_
    refine lv_istore (lv' := [(6, .int (σ.1 10 (p3.toNatClampNeg))), (5, .int r_1), (0, .ref (a 0)), (1, .int p1), (2, .int p2), (3, .int p3), (4, .int p4)]) C.hx C.hb dX5_make_27 hl (by decide) rfl (fun ls hl => ?_)
    refine lv_iload C.hx C.hb dX5_make_29 (lv_at hl 0 rfl) ?_
    refine lv_iconst (v := (-1 : Int32)) C.hx C.hb dX5_make_31 (by decide) ?_
    refine lv_icmp_ne (tgt := 44) C.hx C.hb dX5_make_32 (by decide) (fun c_4 => ?_) (fun c_4 => ?_)
    · have h := gneg c_4 h
      refine lv_iload_n C.hx C.hb dX5_make_44 rfl (lv_at hl 3 rfl) ?_
      refine lv_iload_n C.hx C.hb dX5_make_45 rfl (lv_at hl 4 rfl) ?_
      obtain ⟨r_5, e_5, h⟩ := gbind h
      refine gCallS (wd := dW cI cZ a) (As := [.int p1, .int p2]) (rest := []) C hml hl.1 hS (mX5_slot hD e_5) k_244 k_245 k_29 k_246 hdX5_slot ⟨by show 0 + 1 ≤ n + 1 + 4; omega, by show 8 + (2 + 11) + (0) ≤ 29 * (n + 1) + 100; omega⟩ hP rfl rfl (Nat.le_of_ble_eq_true rfl) dX5_make_46 ⟨Nat.zero_le _, Nat.zero_le _⟩ (fun H locs hP hS => ?_)
      refine lv_istore (lv' := [(7, .int r_5), (6, .int (σ.1 10 (p3.toNatClampNeg))), (5, .int r_1), (0, .ref (a 0)), (1, .int p1), (2, .int p2), (3, .int p3), (4, .int p4)]) C.hx C.hb dX5_make_49 hl (by decide) rfl (fun ls hl => ?_)
      refine lv_aload_n C.hx C.hb dX5_make_51 rfl (lv_at hl 3 rfl) ?_
      refine fd_X5_19_0 C hP dX5_make_52 ?_
      refine fd_X5_173_2 C hP dX5_make_55 ?_
      refine lv_iload C.hx C.hb dX5_make_58 (lv_at hl 0 rfl) ?_
      refine lv_iconst (v := (1 : Int32)) C.hx C.hb dX5_make_60 (by decide) ?_
      obtain ⟨g_6, h⟩ := gsplit h
      refine std_19 (i := r_5) (x := (1 : Int32)) C hD hP hS g_6 dX5_make_61 (fun H locs hP hS => ?_)
      have hP : va_P D vwCl (dW cI cZ a (sA σ 19 (r_5.toNatClampNeg) (1 : Int32))) H := hP
      refine lv_aload_n C.hx C.hb dX5_make_62 rfl (lv_at hl 3 rfl) ?_
      refine fd_X5_19_0 C hP dX5_make_63 ?_
      refine fd_X5_173_2 C hP dX5_make_66 ?_
      refine lv_iload_n C.hx C.hb dX5_make_69 rfl (lv_at hl 4 rfl) ?_
      refine lv_iload C.hx C.hb dX5_make_70 (lv_at hl 1 rfl) ?_
      obtain ⟨r_7, e_7, h⟩ := gbind h
      refine gCallS (wd := dW cI cZ a) (As := [.int p1, .int (σ.1 10 (p3.toNatClampNeg))]) (rest := [.ref (a 19)]) C hml hl.1 hS (mX5_slot hD e_7) k_244 k_245 k_29 k_246 hdX5_slot ⟨by show 0 + 1 ≤ n + 1 + 4; omega, by show 8 + (2 + 11) + (0) ≤ 29 * (n + 1) + 100; omega⟩ hP rfl rfl (Nat.le_of_ble_eq_true rfl) dX5_make_72 ⟨Nat.zero_le _, Nat.zero_le _⟩ (fun H locs hP hS => ?_)
      obtain ⟨g_8, h⟩ := gsplit h
      refine ldd_19 (i := r_7) C hP g_8 dX5_make_75 ?_
      refine lv_if_ne (tgt := 86) C.hx C.hb dX5_make_76 (by decide) (fun c_9 => ?_) (fun c_9 => ?_)
      · have h := gneg c_9 h
        refine lv_iconst (v := (1 : Int32)) C.hx C.hb dX5_make_86 (by decide) ?_
        refine lv_goto (tgt := 91) C.hx C.hb dX5_make_87 (by decide) ?_
        refine lv_istore (lv' := [(8, .int (1 : Int32)), (7, .int r_5), (6, .int (σ.1 10 (p3.toNatClampNeg))), (5, .int r_1), (0, .ref (a 0)), (1, .int p1), (2, .int p2), (3, .int p3), (4, .int p4)]) C.hx C.hb dX5_make_91 hl (by decide) rfl (fun ls hl => ?_)
        refine lv_iload C.hx C.hb dX5_make_93 (lv_at hl 0 rfl) ?_
        refine lv_if_eq (tgt := 103) C.hx C.hb dX5_make_95 (by decide) (fun c_ => absurd c_ (by decide)) (fun _ => ?_)
        refine lv_bipush (v := (-15 : Int32)) C.hx C.hb dX5_make_98 (by decide) ?_
        refine lv_goto (tgt := 114) C.hx C.hb dX5_make_100 (by decide) ?_
        refine lv_istore (lv' := [(9, .int (-15 : Int32)), (8, .int (1 : Int32)), (7, .int r_5), (6, .int (σ.1 10 (p3.toNatClampNeg))), (5, .int r_1), (0, .ref (a 0)), (1, .int p1), (2, .int p2), (3, .int p3), (4, .int p4)]) C.hx C.hb dX5_make_114 hl (by decide) rfl (fun ls hl => ?_)
        refine lv_aload_n C.hx C.hb dX5_make_116 rfl (lv_at hl 5 rfl) ?_
        refine fd_X5_19_0 C hP dX5_make_117 ?_
        refine fd_X5_173_2 C hP dX5_make_120 ?_
        refine lv_iload C.hx C.hb dX5_make_123 (lv_at hl 2 rfl) ?_
        refine lv_iconst (v := (0 : Int32)) C.hx C.hb dX5_make_125 (by decide) ?_
        refine std_19 (i := r_5) (x := (0 : Int32)) C hD hP hS g_6 dX5_make_126 (fun H locs hP hS => ?_)
        have hP : va_P D vwCl (dW cI cZ a (sA (sA σ 19 (r_5.toNatClampNeg) (1 : Int32)) 19 (r_5.toNatClampNeg) (0 : Int32))) H := hP
        refine lv_iload C.hx C.hb dX5_make_127 (lv_at hl 0 rfl) ?_
        refine lv_if_lt (tgt := 144) C.hx C.hb dX5_make_129 (by decide) (fun _ => ?_) (fun c_ => absurd c_ (by decide))
        refine lv_iload C.hx C.hb dX5_make_144 (lv_at hl 0 rfl) ?_
        cases h
        exact gRetI C hr hlocks hP hS dX5_make_146
      · have h := gpos c_9 h
        refine lv_iload C.hx C.hb dX5_make_79 (lv_at hl 7 rfl) ?_
        refine lv_bipush (v := (62 : Int32)) C.hx C.hb dX5_make_81 (by decide) ?_
        refine lv_icmp_lt (tgt := 90) C.hx C.hb dX5_make_83 (by decide) (fun c_10 => ?_) (fun c_10 => ?_)
        · have h := gpos c_10 h
          refine lv_iconst (v := (0 : Int32)) C.hx C.hb dX5_make_90 (by decide) ?_
          refine lv_istore (lv' := [(8, .int (0 : Int32)), (7, .int r_5), (6, .int (σ.1 10 (p3.toNatClampNeg))), (5, .int r_1), (0, .ref (a 0)), (1, .int p1), (2, .int p2), (3, .int p3), (4, .int p4)]) C.hx C.hb dX5_make_91 hl (by decide) rfl (fun ls hl => ?_)
          refine lv_iload C.hx C.hb dX5_make_93 (lv_at hl 0 rfl) ?_
          refine lv_if_eq (tgt := 103) C.hx C.hb dX5_make_95 (by decide) (fun _ => ?_) (fun c_ => absurd c_ (by decide))
          refine lv_aload_n C.hx C.hb dX5_make_103 rfl (lv_at hl 4 rfl) ?_
          refine lv_iload_n C.hx C.hb dX5_make_104 rfl (lv_at hl 5 rfl) ?_
          refine lv_iload C.hx C.hb dX5_make_105 (lv_at hl 2 rfl) ?_
          refine lv_iload C.hx C.hb dX5_make_107 (lv_at hl 8 rfl) ?_
          refine lv_iconst (v := (1 : Int32)) C.hx C.hb dX5_make_109 (by decide) ?_
          refine lv_iadd C.hx C.hb dX5_make_110 ?_
          obtain ⟨⟨r_11, u_11⟩, e_11, h⟩ := gbind h
          refine gCallV (wd := dW cI cZ a) (As := [.int p1, .int (σ.1 10 (p3.toNatClampNeg)), .int (p4 + (1 : Int32))]) (rest := []) C hml hl.1 hS (ih0 _ _ _ _ _ _ _ e_11) k_251 k_253 k_0 k_29 k_254 hdX5_ask ⟨by show n + 4 + 1 ≤ n + 1 + 4; omega, by show 8 + (8 + 11) + (29 * n + 100) ≤ 29 * (n + 1) + 100; omega⟩ hP 0 5 rfl rfl rfl rfl rfl (Nat.le_of_ble_eq_true rfl) dX5_make_111 ⟨Nat.zero_le _, Nat.zero_le _⟩ (fun H locs hP hS => ?_)
          refine lv_istore (lv' := [(9, .int r_11), (8, .int (0 : Int32)), (7, .int r_5), (6, .int (σ.1 10 (p3.toNatClampNeg))), (5, .int r_1), (0, .ref (a 0)), (1, .int p1), (2, .int p2), (3, .int p3), (4, .int p4)]) C.hx C.hb dX5_make_114 hl (by decide) rfl (fun ls hl => ?_)
          refine lv_aload_n C.hx C.hb dX5_make_116 rfl (lv_at hl 5 rfl) ?_
          refine fd_X5_19_0 C hP dX5_make_117 ?_
          refine fd_X5_173_2 C hP dX5_make_120 ?_
          refine lv_iload C.hx C.hb dX5_make_123 (lv_at hl 2 rfl) ?_
          refine lv_iconst (v := (0 : Int32)) C.hx C.hb dX5_make_125 (by decide) ?_
          refine std_19 (i := r_5) (x := (0 : Int32)) C hD hP hS g_6 dX5_make_126 (fun H locs hP hS => ?_)
          have hP : va_P D vwCl (dW cI cZ a (sA u_11 19 (r_5.toNatClampNeg) (0 : Int32))) H := hP
          refine lv_iload C.hx C.hb dX5_make_127 (lv_at hl 0 rfl) ?_
          refine lv_if_lt (tgt := 144) C.hx C.hb dX5_make_129 (by decide) (fun c_12 => ?_) (fun c_12 => ?_)
          · have h := gpos c_12 h
            refine lv_iload C.hx C.hb dX5_make_144 (lv_at hl 0 rfl) ?_
            cases h
            exact gRetI C hr hlocks hP hS dX5_make_146
          · have h := gneg c_12 h
            refine lv_aload_n C.hx C.hb dX5_make_132 rfl (lv_at hl 5 rfl) ?_
            refine lv_iload_n C.hx C.hb dX5_make_133 rfl (lv_at hl 6 rfl) ?_
            refine lv_iload_n C.hx C.hb dX5_make_134 rfl (lv_at hl 7 rfl) ?_
            refine lv_iload_n C.hx C.hb dX5_make_135 rfl (lv_at hl 8 rfl) ?_
            refine lv_iload C.hx C.hb dX5_make_136 (lv_at hl 0 rfl) ?_
            obtain ⟨⟨r_13, u_13⟩, e_13, h⟩ := gbind h
            refine gCallV (wd := dW cI cZ a) (As := [.int p1, .int p2, .int p3, .int r_11]) (rest := []) C hml hl.1 hS (mX5_stand hD e_13) k_276 k_278 k_4 k_29 k_279 hdX5_stand ⟨by show 1 + 1 ≤ n + 1 + 4; omega, by show 8 + (6 + 11) + (24) ≤ 29 * (n + 1) + 100; omega⟩ hP 0 5 rfl rfl rfl rfl rfl (Nat.le_of_ble_eq_true rfl) dX5_make_138 ⟨Nat.zero_le _, Nat.zero_le _⟩ (fun H locs hP hS => ?_)
            refine lv_goto (tgt := 146) C.hx C.hb dX5_make_141 (by decide) ?_
            cases h
            exact gRetI C hr hlocks hP hS dX5_make_146
        · have h := gneg c_10 h
          refine lv_iconst (v := (1 : Int32)) C.hx C.hb dX5_make_86 (by decide) ?_
          refine lv_goto (tgt := 91) C.hx C.hb dX5_make_87 (by decide) ?_
          refine lv_istore (lv' := [(8, .int (1 : Int32)), (7, .int r_5), (6, .int (σ.1 10 (p3.toNatClampNeg))), (5, .int r_1), (0, .ref (a 0)), (1, .int p1), (2, .int p2), (3, .int p3), (4, .int p4)]) C.hx C.hb dX5_make_91 hl (by decide) rfl (fun ls hl => ?_)
          refine lv_iload C.hx C.hb dX5_make_93 (lv_at hl 0 rfl) ?_
          refine lv_if_eq (tgt := 103) C.hx C.hb dX5_make_95 (by decide) (fun c_ => absurd c_ (by decide)) (fun _ => ?_)
          refine lv_bipush (v := (-15 : Int32)) C.hx C.hb dX5_make_98 (by decide) ?_
          refine lv_goto (tgt := 114) C.hx C.hb dX5_make_100 (by decide) ?_
          refine lv_istore (lv' := [(9, .int (-15 : Int32)), (8, .int (1 : Int32)), (7, .int r_5), (6, .int (σ.1 10 (p3.toNatClampNeg))), (5, .int r_1), (0, .ref (a 0)), (1, .int p1), (2, .int p2), (3, .int p3), (4, .int p4)]) C.hx C.hb dX5_make_114 hl (by decide) rfl (fun ls hl => ?_)
          refine lv_aload_n C.hx C.hb dX5_make_116 rfl (lv_at hl 5 rfl) ?_
          refine fd_X5_19_0 C hP dX5_make_117 ?_
          refine fd_X5_173_2 C hP dX5_make_120 ?_
          refine lv_iload C.hx C.hb dX5_make_123 (lv_at hl 2 rfl) ?_
          refine lv_iconst (v := (0 : Int32)) C.hx C.hb dX5_make_125 (by decide) ?_
          refine std_19 (i := r_5) (x := (0 : Int32)) C hD hP hS g_6 dX5_make_126 (fun H locs hP hS => ?_)
          have hP : va_P D vwCl (dW cI cZ a (sA (sA σ 19 (r_5.toNatClampNeg) (1 : Int32)) 19 (r_5.toNatClampNeg) (0 : Int32))) H := hP
          refine lv_iload C.hx C.hb dX5_make_127 (lv_at hl 0 rfl) ?_
          refine lv_if_lt (tgt := 144) C.hx C.hb dX5_make_129 (by decide) (fun _ => ?_) (fun c_ => absurd c_ (by decide))
          refine lv_iload C.hx C.hb dX5_make_144 (lv_at hl 0 rfl) ?_
          cases h
          exact gRetI C hr hlocks hP hS dX5_make_146
    · have h := gpos c_4 h
      refine lv_aload_n C.hx C.hb dX5_make_35 rfl (lv_at hl 2 rfl) ?_
      refine lv_iload_n C.hx C.hb dX5_make_36 rfl (lv_at hl 3 rfl) ?_
      refine lv_iload_n C.hx C.hb dX5_make_37 rfl (lv_at hl 4 rfl) ?_
      refine lv_iload_n C.hx C.hb dX5_make_38 rfl (lv_at hl 5 rfl) ?_
      refine lv_iconst (v := (-1 : Int32)) C.hx C.hb dX5_make_39 (by decide) ?_
      obtain ⟨⟨r_14, u_14⟩, e_14, h⟩ := gbind h
      refine gCallV (wd := dW cI cZ a) (As := [.int p1, .int p2, .int p3, .int (-1 : Int32)]) (rest := []) C hml hl.1 hS (mX5_stand hD e_14) k_276 k_278 k_4 k_29 k_279 hdX5_stand ⟨by show 1 + 1 ≤ n + 1 + 4; omega, by show 8 + (6 + 11) + (24) ≤ 29 * (n + 1) + 100; omega⟩ hP 0 5 rfl rfl rfl rfl rfl (Nat.le_of_ble_eq_true rfl) dX5_make_40 ⟨Nat.zero_le _, Nat.zero_le _⟩ (fun H locs hP hS => ?_)
      cases h
      exact gRetI C hr hlocks hP hS dX5_make_43
  · have h := gneg c_2 h
    refine lv_iload C.hx C.hb dX5_make_15 (lv_at hl 0 rfl) ?_
    cases h
    exact gRetI C hr hlocks hP hS dX5_make_17
theorem mRec {l : Launch} {D : va_G} {cI cZ : ClassId} {a : Nat → Nat} (hD : ∀ σ, va_D (dAd a) (dW cI cZ a σ)) : ∀ n : Nat, (∀ (σ σ' : MS) (p1 p2 p3 p4 r : Int32), sRec n 0 σ p1 p2 p3 p4 = some (r, σ') → gMet (dW cI cZ a) (dAd a) l D cI cZ yX5_ask cX5_ask 8 (some .int) (n + 4) (29 * n + 100) [.ref (a 0), .int p1, .int p2, .int p3] σ r σ') ∧ (∀ (σ σ' : MS) (p1 p2 p3 p4 r : Int32), sRec n 1 σ p1 p2 p3 p4 = some (r, σ') → gMet (dW cI cZ a) (dAd a) l D cI cZ yX5_askLibrary cX5_askLibrary 5 (some .int) (n + 4) (29 * n + 100) [.ref (a 0), .int p1, .int p2, .int p3] σ r σ') ∧ (∀ (σ σ' : MS) (p1 p2 p3 p4 r : Int32), sRec n 2 σ p1 p2 p3 p4 = some (r, σ') → gMet (dW cI cZ a) (dAd a) l D cI cZ yX5_make cX5_make 10 (some .int) (n + 4) (29 * n + 100) [.ref (a 0), .int p1, .int p2, .int p3, .int p4] σ r σ') := by
  intro n
  induction n with
  | zero => exact ⟨fun _ _ _ _ _ _ _ h => (by cases h), fun _ _ _ _ _ _ _ h => (by cases h), fun _ _ _ _ _ _ _ h => (by cases h)⟩
  | succ n ih =>
    obtain ⟨i0, i1, i2⟩ := ih
    exact ⟨fun σ σ' p1 p2 p3 p4 r h => mbX5_ask hD i0 i1 i2 h, fun σ σ' p1 p2 p3 p4 r h => mbX5_askLibrary hD i0 i1 i2 h, fun σ σ' p1 p2 p3 p4 r h => mbX5_make hD i0 i1 i2 h⟩
theorem mRec_0 {l : Launch} {D : va_G} {cI cZ : ClassId} {a : Nat → Nat} (hD : ∀ σ, va_D (dAd a) (dW cI cZ a σ)) {σ σ' : MS} {p1 p2 p3 p4 r : Int32} (h : sRec 300 0 σ p1 p2 p3 p4 = some (r, σ')) : gMet (dW cI cZ a) (dAd a) l D cI cZ yX5_ask cX5_ask 8 (some .int) (304) (8800) [.ref (a 0), .int p1, .int p2, .int p3] σ r σ' := (mRec hD 300).1 _ _ _ _ _ _ _ h
theorem mRec_1 {l : Launch} {D : va_G} {cI cZ : ClassId} {a : Nat → Nat} (hD : ∀ σ, va_D (dAd a) (dW cI cZ a σ)) {σ σ' : MS} {p1 p2 p3 p4 r : Int32} (h : sRec 300 1 σ p1 p2 p3 p4 = some (r, σ')) : gMet (dW cI cZ a) (dAd a) l D cI cZ yX5_askLibrary cX5_askLibrary 5 (some .int) (304) (8800) [.ref (a 0), .int p1, .int p2, .int p3] σ r σ' := (mRec hD 300).2.1 _ _ _ _ _ _ _ h
theorem mRec_2 {l : Launch} {D : va_G} {cI cZ : ClassId} {a : Nat → Nat} (hD : ∀ σ, va_D (dAd a) (dW cI cZ a σ)) {σ σ' : MS} {p1 p2 p3 p4 r : Int32} (h : sRec 300 2 σ p1 p2 p3 p4 = some (r, σ')) : gMet (dW cI cZ a) (dAd a) l D cI cZ yX5_make cX5_make 10 (some .int) (304) (8800) [.ref (a 0), .int p1, .int p2, .int p3, .int p4] σ r σ' := (mRec hD 300).2.2 _ _ _ _ _ _ _ h
set_option maxHeartbeats 4000000 in
set_option maxRecDepth 100000 in
theorem mX5_isName {l : Launch} {D : va_G} {cI cZ : ClassId} {a : Nat → Nat} (hD : ∀ σ, va_D (dAd a) (dW cI cZ a σ)) {σ : MS} {p0 : Int32} {r : Int32} (h : sX5_isName σ p0 = some r) : gMet (dW cI cZ a) (dAd a) l D cI cZ yX5_isName cX5_isName 1 (some .boolean) (0) (0) [.int p0] σ r σ := by
  refine gEnt (by decide) (Nat.le_of_ble_eq_true rfl) (fun p e s m below meth c ls C hml hr hlocks hP hl => ?_)
  have hl : lv_has ls 1 [(0, .int p0)] := hl
  have hS : va_S (dAd a) s.heap s.heap [] := va_S.rf
  rw [sX5_isName] at h
  refine lv_iload_n C.hx C.hb dX5_isName_0 rfl (lv_at hl 0 rfl) ?_
  refine lv_if_lt (tgt := 14) C.hx C.hb dX5_isName_1 (by decide) (fun c_1 => ?_) (fun c_1 => ?_)
  · have h := gpos c_1 h
    refine lv_iconst (v := (0 : Int32)) C.hx C.hb dX5_isName_14 (by decide) ?_
    cases h
    exact gRetZ C hr hlocks (by decide) hP hS dX5_isName_15
  · have h := gneg c_1 h
    refine lv_iload_n C.hx C.hb dX5_isName_4 rfl (lv_at hl 0 rfl) ?_
    refine lv_bipush (v := (31 : Int32)) C.hx C.hb dX5_isName_5 (by decide) ?_
    refine lv_icmp_ge (tgt := 14) C.hx C.hb dX5_isName_7 (by decide) (fun c_2 => ?_) (fun c_2 => ?_)
    · have h := gpos c_2 h
      refine lv_iconst (v := (0 : Int32)) C.hx C.hb dX5_isName_14 (by decide) ?_
      cases h
      exact gRetZ C hr hlocks (by decide) hP hS dX5_isName_15
    · have h := gneg c_2 h
      refine lv_iconst (v := (1 : Int32)) C.hx C.hb dX5_isName_10 (by decide) ?_
      refine lv_goto (tgt := 15) C.hx C.hb dX5_isName_11 (by decide) ?_
      cases h
      exact gRetZ C hr hlocks (by decide) hP hS dX5_isName_15
set_option maxHeartbeats 4000000 in
set_option maxRecDepth 100000 in
theorem mX5_isNameOrNone {l : Launch} {D : va_G} {cI cZ : ClassId} {a : Nat → Nat} (hD : ∀ σ, va_D (dAd a) (dW cI cZ a σ)) {σ : MS} {p0 : Int32} {r : Int32} (h : sX5_isNameOrNone σ p0 = some r) : gMet (dW cI cZ a) (dAd a) l D cI cZ yX5_isNameOrNone cX5_isNameOrNone 1 (some .boolean) (1) (20) [.int p0] σ r σ := by
  refine gEnt (by decide) (Nat.le_of_ble_eq_true rfl) (fun p e s m below meth c ls C hml hr hlocks hP hl => ?_)
  have hl : lv_has ls 1 [(0, .int p0)] := hl
  have hS : va_S (dAd a) s.heap s.heap [] := va_S.rf
  rw [sX5_isNameOrNone] at h
  refine lv_iload_n C.hx C.hb dX5_isNameOrNone_0 rfl (lv_at hl 0 rfl) ?_
  refine lv_iconst (v := (-1 : Int32)) C.hx C.hb dX5_isNameOrNone_1 (by decide) ?_
  refine lv_icmp_eq (tgt := 12) C.hx C.hb dX5_isNameOrNone_2 (by decide) (fun c_1 => ?_) (fun c_1 => ?_)
  · have h := gpos c_1 h
    refine lv_iconst (v := (1 : Int32)) C.hx C.hb dX5_isNameOrNone_12 (by decide) ?_
    refine lv_goto (tgt := 17) C.hx C.hb dX5_isNameOrNone_13 (by decide) ?_
    cases h
    exact gRetZ C hr hlocks (by decide) hP hS dX5_isNameOrNone_17
  · have h := gneg c_1 h
    refine lv_iload_n C.hx C.hb dX5_isNameOrNone_5 rfl (lv_at hl 0 rfl) ?_
    obtain ⟨r_2, e_2, h⟩ := gbind h
    refine gCallS (wd := dW cI cZ a) (As := [.int p0]) (rest := []) C hml hl.1 hS (mX5_isName hD e_2) k_210 k_211 k_29 k_212 hdX5_isName ⟨by show 0 + 1 ≤ 1; omega, by show 8 + (1 + 11) + (0) ≤ 20; omega⟩ hP rfl rfl (Nat.le_of_ble_eq_true rfl) dX5_isNameOrNone_6 ⟨Nat.zero_le _, Nat.zero_le _⟩ (fun H locs hP hS => ?_)
    refine lv_if_eq (tgt := 16) C.hx C.hb dX5_isNameOrNone_9 (by decide) (fun c_3 => ?_) (fun c_3 => ?_)
    · have h := gpos c_3 h
      refine lv_iconst (v := (0 : Int32)) C.hx C.hb dX5_isNameOrNone_16 (by decide) ?_
      cases h
      exact gRetZ C hr hlocks (by decide) hP hS dX5_isNameOrNone_17
    · have h := gneg c_3 h
      refine lv_iconst (v := (1 : Int32)) C.hx C.hb dX5_isNameOrNone_12 (by decide) ?_
      refine lv_goto (tgt := 17) C.hx C.hb dX5_isNameOrNone_13 (by decide) ?_
      cases h
      exact gRetZ C hr hlocks (by decide) hP hS dX5_isNameOrNone_17
set_option maxHeartbeats 4000000 in
set_option maxRecDepth 100000 in
theorem mX0_add {l : Launch} {D : va_G} {cI cZ : ClassId} {a : Nat → Nat} (hD : ∀ σ, va_D (dAd a) (dW cI cZ a σ)) {σ : MS} {p1 p2 p3 p4 p5 : Int32} {r : Int32} {σ' : MS} (h : sX0_add σ p1 p2 p3 p4 p5 = some (r, σ')) : gMet (dW cI cZ a) (dAd a) l D cI cZ yX0_add cX0_add 6 (some .int) (0) (0) [.ref (a 1), .int p1, .int p2, .int p3, .int p4, .int p5] σ r σ' := by
  refine gEnt (by decide) (Nat.le_of_ble_eq_true rfl) (fun p e s m below meth c ls C hml hr hlocks hP hl => ?_)
  have hl : lv_has ls 6 [(0, .ref (a 1)), (1, .int p1), (2, .int p2), (3, .int p3), (4, .int p4), (5, .int p5)] := hl
  have hS : va_S (dAd a) s.heap s.heap [] := va_S.rf
  rw [sX0_add] at h
  refine lv_aload_n C.hx C.hb dX0_add_0 rfl (lv_at hl 0 rfl) ?_
  refine fd_X0_27_1 C hP dX0_add_1 ?_
  refine lv_bipush (v := (40 : Int32)) C.hx C.hb dX0_add_4 (by decide) ?_
  refine lv_icmp_lt (tgt := 12) C.hx C.hb dX0_add_6 (by decide) (fun c_1 => ?_) (fun c_1 => ?_)
  · have h := gpos c_1 h
    refine lv_aload_n C.hx C.hb dX0_add_12 rfl (lv_at hl 0 rfl) ?_
    refine fd_X0_9_1 C hP dX0_add_13 ?_
    refine lv_aload_n C.hx C.hb dX0_add_16 rfl (lv_at hl 0 rfl) ?_
    refine fd_X0_27_1 C hP dX0_add_17 ?_
    refine lv_iload_n C.hx C.hb dX0_add_20 rfl (lv_at hl 1 rfl) ?_
    obtain ⟨g_2, h⟩ := gsplit h
    refine std_8 (i := (σ.2 0)) (x := p1) C hD hP hS g_2 dX0_add_21 (fun H locs hP hS => ?_)
    have hP : va_P D vwCl (dW cI cZ a (sA σ 8 ((σ.2 0).toNatClampNeg) p1)) H := hP
    refine lv_aload_n C.hx C.hb dX0_add_22 rfl (lv_at hl 0 rfl) ?_
    refine fd_X0_15_1 C hP dX0_add_23 ?_
    refine lv_aload_n C.hx C.hb dX0_add_26 rfl (lv_at hl 0 rfl) ?_
    refine fd_X0_27_1 C hP dX0_add_27 ?_
    refine lv_iload_n C.hx C.hb dX0_add_30 rfl (lv_at hl 2 rfl) ?_
    refine std_9 (i := (σ.2 0)) (x := p2) C hD hP hS g_2 dX0_add_31 (fun H locs hP hS => ?_)
    have hP : va_P D vwCl (dW cI cZ a (sA (sA σ 8 ((σ.2 0).toNatClampNeg) p1) 9 ((σ.2 0).toNatClampNeg) p2)) H := hP
    refine lv_aload_n C.hx C.hb dX0_add_32 rfl (lv_at hl 0 rfl) ?_
    refine fd_X0_18_1 C hP dX0_add_33 ?_
    refine lv_aload_n C.hx C.hb dX0_add_36 rfl (lv_at hl 0 rfl) ?_
    refine fd_X0_27_1 C hP dX0_add_37 ?_
    refine lv_iload_n C.hx C.hb dX0_add_40 rfl (lv_at hl 3 rfl) ?_
    refine std_10 (i := (σ.2 0)) (x := p3) C hD hP hS g_2 dX0_add_41 (fun H locs hP hS => ?_)
    have hP : va_P D vwCl (dW cI cZ a (sA (sA (sA σ 8 ((σ.2 0).toNatClampNeg) p1) 9 ((σ.2 0).toNatClampNeg) p2) 10 ((σ.2 0).toNatClampNeg) p3)) H := hP
    refine lv_aload_n C.hx C.hb dX0_add_42 rfl (lv_at hl 0 rfl) ?_
    refine fd_X0_21_1 C hP dX0_add_43 ?_
    refine lv_aload_n C.hx C.hb dX0_add_46 rfl (lv_at hl 0 rfl) ?_
    refine fd_X0_27_1 C hP dX0_add_47 ?_
    refine lv_iload C.hx C.hb dX0_add_50 (lv_at hl 4 rfl) ?_
    refine std_11 (i := (σ.2 0)) (x := p4) C hD hP hS g_2 dX0_add_52 (fun H locs hP hS => ?_)
    have hP : va_P D vwCl (dW cI cZ a (sA (sA (sA (sA σ 8 ((σ.2 0).toNatClampNeg) p1) 9 ((σ.2 0).toNatClampNeg) p2) 10 ((σ.2 0).toNatClampNeg) p3) 11 ((σ.2 0).toNatClampNeg) p4)) H := hP
    refine lv_aload_n C.hx C.hb dX0_add_53 rfl (lv_at hl 0 rfl) ?_
    refine fd_X0_24_1 C hP dX0_add_54 ?_
    refine lv_aload_n C.hx C.hb dX0_add_57 rfl (lv_at hl 0 rfl) ?_
    refine fd_X0_27_1 C hP dX0_add_58 ?_
    refine lv_iload C.hx C.hb dX0_add_61 (lv_at hl 5 rfl) ?_
    refine std_12 (i := (σ.2 0)) (x := p5) C hD hP hS g_2 dX0_add_63 (fun H locs hP hS => ?_)
    have hP : va_P D vwCl (dW cI cZ a (sA (sA (sA (sA (sA σ 8 ((σ.2 0).toNatClampNeg) p1) 9 ((σ.2 0).toNatClampNeg) p2) 10 ((σ.2 0).toNatClampNeg) p3) 11 ((σ.2 0).toNatClampNeg) p4) 12 ((σ.2 0).toNatClampNeg) p5)) H := hP
    refine lv_aload_n C.hx C.hb dX0_add_64 rfl (lv_at hl 0 rfl) ?_
    refine lv_dup C.hx C.hb dX0_add_65 rfl ?_
    refine fd_X0_27_1 C hP dX0_add_66 ?_
    refine lv_dup_x1 C.hx C.hb dX0_add_69 rfl rfl ?_
    refine lv_iconst (v := (1 : Int32)) C.hx C.hb dX0_add_70 (by decide) ?_
    refine lv_iadd C.hx C.hb dX0_add_71 ?_
    refine pd_X0_27_1 (x := ((σ.2 0) + (1 : Int32))) C hD hP hS dX0_add_72 (fun H locs hP hS => ?_)
    have hP : va_P D vwCl (dW cI cZ a (sZ (sA (sA (sA (sA (sA σ 8 ((σ.2 0).toNatClampNeg) p1) 9 ((σ.2 0).toNatClampNeg) p2) 10 ((σ.2 0).toNatClampNeg) p3) 11 ((σ.2 0).toNatClampNeg) p4) 12 ((σ.2 0).toNatClampNeg) p5) 0 ((σ.2 0) + (1 : Int32)))) H := hP
    cases h
    exact gRetI C hr hlocks hP hS dX0_add_75
  · have h := gneg c_1 h
    refine lv_bipush (v := (-4 : Int32)) C.hx C.hb dX0_add_9 (by decide) ?_
    cases h
    exact gRetI C hr hlocks hP hS dX0_add_11
set_option maxHeartbeats 4000000 in
set_option maxRecDepth 100000 in
theorem mX5_file {l : Launch} {D : va_G} {cI cZ : ClassId} {a : Nat → Nat} (hD : ∀ σ, va_D (dAd a) (dW cI cZ a σ)) {σ : MS} {p1 p2 p3 p4 p5 : Int32} {r : Int32} {σ' : MS} (h : sX5_file σ p1 p2 p3 p4 p5 = some (r, σ')) : gMet (dW cI cZ a) (dAd a) l D cI cZ yX5_file cX5_file 6 (some .int) (2) (40) [.ref (a 0), .int p1, .int p2, .int p3, .int p4, .int p5] σ r σ' := by
  refine gEnt (by decide) (Nat.le_of_ble_eq_true rfl) (fun p e s m below meth c ls C hml hr hlocks hP hl => ?_)
  have hl : lv_has ls 6 [(0, .ref (a 0)), (1, .int p1), (2, .int p2), (3, .int p3), (4, .int p4), (5, .int p5)] := hl
  have hS : va_S (dAd a) s.heap s.heap [] := va_S.rf
  rw [sX5_file] at h
  refine lv_iload_n C.hx C.hb dX5_file_0 rfl (lv_at hl 1 rfl) ?_
  obtain ⟨r_1, e_1, h⟩ := gbind h
  refine gCallS (wd := dW cI cZ a) (As := [.int p1]) (rest := []) C hml hl.1 hS (mX5_isName hD e_1) k_210 k_211 k_29 k_212 hdX5_isName ⟨by show 0 + 1 ≤ 2; omega, by show 8 + (1 + 11) + (0) ≤ 40; omega⟩ hP rfl rfl (Nat.le_of_ble_eq_true rfl) dX5_file_1 ⟨Nat.zero_le _, Nat.zero_le _⟩ (fun H locs hP hS => ?_)
  refine lv_if_eq (tgt := 22) C.hx C.hb dX5_file_4 (by decide) (fun c_2 => ?_) (fun c_2 => ?_)
  · have h := gpos c_2 h
    refine lv_bipush (v := (-2 : Int32)) C.hx C.hb dX5_file_22 (by decide) ?_
    cases h
    exact gRetI C hr hlocks hP hS dX5_file_24
  · have h := gneg c_2 h
    refine lv_iload_n C.hx C.hb dX5_file_7 rfl (lv_at hl 3 rfl) ?_
    obtain ⟨r_3, e_3, h⟩ := gbind h
    refine gCallS (wd := dW cI cZ a) (As := [.int p3]) (rest := []) C hml hl.1 hS (mX5_isNameOrNone hD e_3) k_213 k_214 k_29 k_215 hdX5_isNameOrNone ⟨by show 1 + 1 ≤ 2; omega, by show 8 + (1 + 11) + (20) ≤ 40; omega⟩ hP rfl rfl (Nat.le_of_ble_eq_true rfl) dX5_file_8 ⟨Nat.zero_le _, Nat.zero_le _⟩ (fun H locs hP hS => ?_)
    refine lv_if_eq (tgt := 22) C.hx C.hb dX5_file_11 (by decide) (fun c_4 => ?_) (fun c_4 => ?_)
    · have h := gpos c_4 h
      refine lv_bipush (v := (-2 : Int32)) C.hx C.hb dX5_file_22 (by decide) ?_
      cases h
      exact gRetI C hr hlocks hP hS dX5_file_24
    · have h := gneg c_4 h
      refine lv_iload C.hx C.hb dX5_file_14 (lv_at hl 4 rfl) ?_
      obtain ⟨r_5, e_5, h⟩ := gbind h
      refine gCallS (wd := dW cI cZ a) (As := [.int p4]) (rest := []) C hml hl.1 hS (mX5_isNameOrNone hD e_5) k_213 k_214 k_29 k_215 hdX5_isNameOrNone ⟨by show 1 + 1 ≤ 2; omega, by show 8 + (1 + 11) + (20) ≤ 40; omega⟩ hP rfl rfl (Nat.le_of_ble_eq_true rfl) dX5_file_16 ⟨Nat.zero_le _, Nat.zero_le _⟩ (fun H locs hP hS => ?_)
      refine lv_if_ne (tgt := 25) C.hx C.hb dX5_file_19 (by decide) (fun c_6 => ?_) (fun c_6 => ?_)
      · have h := gneg c_6 h
        refine lv_iload C.hx C.hb dX5_file_25 (lv_at hl 5 rfl) ?_
        refine lv_if_lt (tgt := 36) C.hx C.hb dX5_file_27 (by decide) (fun c_7 => ?_) (fun c_7 => ?_)
        · have h := gpos c_7 h
          refine lv_bipush (v := (-2 : Int32)) C.hx C.hb dX5_file_36 (by decide) ?_
          cases h
          exact gRetI C hr hlocks hP hS dX5_file_38
        · have h := gneg c_7 h
          refine lv_iload C.hx C.hb dX5_file_30 (lv_at hl 5 rfl) ?_
          refine lv_iconst (v := (3 : Int32)) C.hx C.hb dX5_file_32 (by decide) ?_
          refine lv_icmp_le (tgt := 39) C.hx C.hb dX5_file_33 (by decide) (fun c_8 => ?_) (fun c_8 => ?_)
          · have h := gpos c_8 h
            refine lv_aload_n C.hx C.hb dX5_file_39 rfl (lv_at hl 0 rfl) ?_
            refine fd_X5_12_0 C hP dX5_file_40 ?_
            refine lv_iload_n C.hx C.hb dX5_file_43 rfl (lv_at hl 1 rfl) ?_
            refine lv_iload_n C.hx C.hb dX5_file_44 rfl (lv_at hl 2 rfl) ?_
            refine lv_iload_n C.hx C.hb dX5_file_45 rfl (lv_at hl 3 rfl) ?_
            refine lv_iload C.hx C.hb dX5_file_46 (lv_at hl 4 rfl) ?_
            refine lv_iload C.hx C.hb dX5_file_48 (lv_at hl 5 rfl) ?_
            obtain ⟨⟨r_9, u_9⟩, e_9, h⟩ := gbind h
            refine gCallV (wd := dW cI cZ a) (As := [.int p1, .int p2, .int p3, .int p4, .int p5]) (rest := []) C hml hl.1 hS (mX0_add hD e_9) k_216 k_217 k_218 k_30 k_219 hdX0_add ⟨by show 0 + 1 ≤ 2; omega, by show 8 + (6 + 11) + (0) ≤ 40; omega⟩ hP 1 0 rfl rfl rfl rfl rfl (Nat.le_of_ble_eq_true rfl) dX5_file_50 ⟨Nat.zero_le _, Nat.zero_le _⟩ (fun H locs hP hS => ?_)
            cases h
            exact gRetI C hr hlocks hP hS dX5_file_53
          · have h := gneg c_8 h
            refine lv_bipush (v := (-2 : Int32)) C.hx C.hb dX5_file_36 (by decide) ?_
            cases h
            exact gRetI C hr hlocks hP hS dX5_file_38
      · have h := gpos c_6 h
        refine lv_bipush (v := (-2 : Int32)) C.hx C.hb dX5_file_22 (by decide) ?_
        cases h
        exact gRetI C hr hlocks hP hS dX5_file_24
set_option maxHeartbeats 4000000 in
set_option maxRecDepth 100000 in
theorem mX1_add {l : Launch} {D : va_G} {cI cZ : ClassId} {a : Nat → Nat} (hD : ∀ σ, va_D (dAd a) (dW cI cZ a σ)) {σ : MS} {p1 p2 : Int32} {r : Int32} {σ' : MS} (h : sX1_add σ p1 p2 = some (r, σ')) : gMet (dW cI cZ a) (dAd a) l D cI cZ yX1_add cX1_add 3 (some .int) (0) (0) [.ref (a 2), .int p1, .int p2] σ r σ' := by
  refine gEnt (by decide) (Nat.le_of_ble_eq_true rfl) (fun p e s m below meth c ls C hml hr hlocks hP hl => ?_)
  have hl : lv_has ls 3 [(0, .ref (a 2)), (1, .int p1), (2, .int p2)] := hl
  have hS : va_S (dAd a) s.heap s.heap [] := va_S.rf
  rw [sX1_add] at h
  refine lv_aload_n C.hx C.hb dX1_add_0 rfl (lv_at hl 0 rfl) ?_
  refine fd_X1_34_2 C hP dX1_add_1 ?_
  refine lv_bipush (v := (10 : Int32)) C.hx C.hb dX1_add_4 (by decide) ?_
  refine lv_icmp_lt (tgt := 12) C.hx C.hb dX1_add_6 (by decide) (fun c_1 => ?_) (fun c_1 => ?_)
  · have h := gpos c_1 h
    refine lv_aload_n C.hx C.hb dX1_add_12 rfl (lv_at hl 0 rfl) ?_
    refine fd_X1_9_2 C hP dX1_add_13 ?_
    refine lv_aload_n C.hx C.hb dX1_add_16 rfl (lv_at hl 0 rfl) ?_
    refine fd_X1_34_2 C hP dX1_add_17 ?_
    refine lv_iload_n C.hx C.hb dX1_add_20 rfl (lv_at hl 1 rfl) ?_
    obtain ⟨g_2, h⟩ := gsplit h
    refine std_13 (i := (σ.2 1)) (x := p1) C hD hP hS g_2 dX1_add_21 (fun H locs hP hS => ?_)
    have hP : va_P D vwCl (dW cI cZ a (sA σ 13 ((σ.2 1).toNatClampNeg) p1)) H := hP
    refine lv_aload_n C.hx C.hb dX1_add_22 rfl (lv_at hl 0 rfl) ?_
    refine fd_X1_15_2 C hP dX1_add_23 ?_
    refine lv_aload_n C.hx C.hb dX1_add_26 rfl (lv_at hl 0 rfl) ?_
    refine fd_X1_34_2 C hP dX1_add_27 ?_
    refine lv_iload_n C.hx C.hb dX1_add_30 rfl (lv_at hl 2 rfl) ?_
    refine std_14 (i := (σ.2 1)) (x := p2) C hD hP hS g_2 dX1_add_31 (fun H locs hP hS => ?_)
    have hP : va_P D vwCl (dW cI cZ a (sA (sA σ 13 ((σ.2 1).toNatClampNeg) p1) 14 ((σ.2 1).toNatClampNeg) (vp_nar .boolean p2))) H := hP
    refine lv_aload_n C.hx C.hb dX1_add_32 rfl (lv_at hl 0 rfl) ?_
    refine lv_dup C.hx C.hb dX1_add_33 rfl ?_
    refine fd_X1_34_2 C hP dX1_add_34 ?_
    refine lv_dup_x1 C.hx C.hb dX1_add_37 rfl rfl ?_
    refine lv_iconst (v := (1 : Int32)) C.hx C.hb dX1_add_38 (by decide) ?_
    refine lv_iadd C.hx C.hb dX1_add_39 ?_
    refine pd_X1_34_2 (x := ((σ.2 1) + (1 : Int32))) C hD hP hS dX1_add_40 (fun H locs hP hS => ?_)
    have hP : va_P D vwCl (dW cI cZ a (sZ (sA (sA σ 13 ((σ.2 1).toNatClampNeg) p1) 14 ((σ.2 1).toNatClampNeg) (vp_nar .boolean p2)) 1 ((σ.2 1) + (1 : Int32)))) H := hP
    cases h
    exact gRetI C hr hlocks hP hS dX1_add_43
  · have h := gneg c_1 h
    refine lv_bipush (v := (-4 : Int32)) C.hx C.hb dX1_add_9 (by decide) ?_
    cases h
    exact gRetI C hr hlocks hP hS dX1_add_11
set_option maxHeartbeats 4000000 in
set_option maxRecDepth 100000 in
theorem mX1_has {l : Launch} {D : va_G} {cI cZ : ClassId} {a : Nat → Nat} (hD : ∀ σ, va_D (dAd a) (dW cI cZ a σ)) {σ : MS} {p1 : Int32} {r : Int32} (h : sX1_has σ p1 = some r) : gMet (dW cI cZ a) (dAd a) l D cI cZ yX1_has cX1_has 2 (some .boolean) (0) (0) [.ref (a 2), .int p1] σ r σ := by
  refine gEnt (by decide) (Nat.le_of_ble_eq_true rfl) (fun p e s m below meth c ls C hml hr hlocks hP hl => ?_)
  have hl : lv_has ls 2 [(0, .ref (a 2)), (1, .int p1)] := hl
  have hS : va_S (dAd a) s.heap s.heap [] := va_S.rf
  rw [sX1_has] at h
  refine lv_iload_n C.hx C.hb dX1_has_0 rfl (lv_at hl 1 rfl) ?_
  refine lv_if_lt (tgt := 16) C.hx C.hb dX1_has_1 (by decide) (fun c_1 => ?_) (fun c_1 => ?_)
  · have h := gpos c_1 h
    refine lv_iconst (v := (0 : Int32)) C.hx C.hb dX1_has_16 (by decide) ?_
    cases h
    exact gRetZ C hr hlocks (by decide) hP hS dX1_has_17
  · have h := gneg c_1 h
    refine lv_iload_n C.hx C.hb dX1_has_4 rfl (lv_at hl 1 rfl) ?_
    refine lv_aload_n C.hx C.hb dX1_has_5 rfl (lv_at hl 0 rfl) ?_
    refine fd_X1_34_2 C hP dX1_has_6 ?_
    refine lv_icmp_ge (tgt := 16) C.hx C.hb dX1_has_9 (by decide) (fun c_2 => ?_) (fun c_2 => ?_)
    · have h := gpos c_2 h
      refine lv_iconst (v := (0 : Int32)) C.hx C.hb dX1_has_16 (by decide) ?_
      cases h
      exact gRetZ C hr hlocks (by decide) hP hS dX1_has_17
    · have h := gneg c_2 h
      refine lv_iconst (v := (1 : Int32)) C.hx C.hb dX1_has_12 (by decide) ?_
      refine lv_goto (tgt := 17) C.hx C.hb dX1_has_13 (by decide) ?_
      cases h
      exact gRetZ C hr hlocks (by decide) hP hS dX1_has_17
set_option maxHeartbeats 4000000 in
set_option maxRecDepth 100000 in
theorem mX5_loader {l : Launch} {D : va_G} {cI cZ : ClassId} {a : Nat → Nat} (hD : ∀ σ, va_D (dAd a) (dW cI cZ a σ)) {σ : MS} {p1 p2 : Int32} {r : Int32} {σ' : MS} (h : sX5_loader σ p1 p2 = some (r, σ')) : gMet (dW cI cZ a) (dAd a) l D cI cZ yX5_loader cX5_loader 3 (some .int) (1) (22) [.ref (a 0), .int p1, .int p2] σ r σ' := by
  refine gEnt (by decide) (Nat.le_of_ble_eq_true rfl) (fun p e s m below meth c ls C hml hr hlocks hP hl => ?_)
  have hl : lv_has ls 3 [(0, .ref (a 0)), (1, .int p1), (2, .int p2)] := hl
  have hS : va_S (dAd a) s.heap s.heap [] := va_S.rf
  rw [sX5_loader] at h
  refine lv_iload_n C.hx C.hb dX5_loader_0 rfl (lv_at hl 1 rfl) ?_
  refine lv_iconst (v := (-1 : Int32)) C.hx C.hb dX5_loader_1 (by decide) ?_
  refine lv_icmp_eq (tgt := 45) C.hx C.hb dX5_loader_2 (by decide) (fun c_1 => ?_) (fun c_1 => ?_)
  · have h := gpos c_1 h
    refine lv_aload_n C.hx C.hb dX5_loader_45 rfl (lv_at hl 0 rfl) ?_
    refine fd_X5_19_0 C hP dX5_loader_46 ?_
    refine lv_iload_n C.hx C.hb dX5_loader_49 rfl (lv_at hl 1 rfl) ?_
    refine lv_iload_n C.hx C.hb dX5_loader_50 rfl (lv_at hl 2 rfl) ?_
    obtain ⟨⟨r_2, u_2⟩, e_2, h⟩ := gbind h
    refine gCallV (wd := dW cI cZ a) (As := [.int p1, .int p2]) (rest := []) C hml hl.1 hS (mX1_add hD e_2) k_232 k_233 k_234 k_31 k_235 hdX1_add ⟨by show 0 + 1 ≤ 1; omega, by show 8 + (3 + 11) + (0) ≤ 22; omega⟩ hP 2 1 rfl rfl rfl rfl rfl (Nat.le_of_ble_eq_true rfl) dX5_loader_51 ⟨Nat.zero_le _, Nat.zero_le _⟩ (fun H locs hP hS => ?_)
    cases h
    exact gRetI C hr hlocks hP hS dX5_loader_54
  · have h := gneg c_1 h
    refine lv_aload_n C.hx C.hb dX5_loader_5 rfl (lv_at hl 0 rfl) ?_
    refine fd_X5_19_0 C hP dX5_loader_6 ?_
    refine lv_iload_n C.hx C.hb dX5_loader_9 rfl (lv_at hl 1 rfl) ?_
    obtain ⟨r_3, e_3, h⟩ := gbind h
    refine gCallV (wd := dW cI cZ a) (As := [.int p1]) (rest := []) C hml hl.1 hS (mX1_has hD e_3) k_224 k_225 k_226 k_31 k_227 hdX1_has ⟨by show 0 + 1 ≤ 1; omega, by show 8 + (2 + 11) + (0) ≤ 22; omega⟩ hP 2 1 rfl rfl rfl rfl rfl (Nat.le_of_ble_eq_true rfl) dX5_loader_10 ⟨Nat.zero_le _, Nat.zero_le _⟩ (fun H locs hP hS => ?_)
    refine lv_if_eq (tgt := 27) C.hx C.hb dX5_loader_13 (by decide) (fun c_4 => ?_) (fun c_4 => ?_)
    · have h := gpos c_4 h
      refine lv_bipush (v := (-2 : Int32)) C.hx C.hb dX5_loader_27 (by decide) ?_
      cases h
      exact gRetI C hr hlocks hP hS dX5_loader_29
    · have h := gneg c_4 h
      refine lv_aload_n C.hx C.hb dX5_loader_16 rfl (lv_at hl 0 rfl) ?_
      refine fd_X5_19_0 C hP dX5_loader_17 ?_
      refine lv_iload_n C.hx C.hb dX5_loader_20 rfl (lv_at hl 1 rfl) ?_
      obtain ⟨r_5, e_5, h⟩ := gbind h
      refine gCallV (wd := dW cI cZ a) (As := [.int p1]) (rest := []) C hml hl.1 hS (mX1_isProgram hD e_5) k_228 k_229 k_230 k_31 k_231 hdX1_isProgram ⟨by show 0 + 1 ≤ 1; omega, by show 8 + (2 + 11) + (0) ≤ 22; omega⟩ hP 2 1 rfl rfl rfl rfl rfl (Nat.le_of_ble_eq_true rfl) dX5_loader_21 ⟨Nat.zero_le _, Nat.zero_le _⟩ (fun H locs hP hS => ?_)
      refine lv_if_eq (tgt := 30) C.hx C.hb dX5_loader_24 (by decide) (fun c_6 => ?_) (fun c_6 => ?_)
      · have h := gpos c_6 h
        refine lv_aload_n C.hx C.hb dX5_loader_30 rfl (lv_at hl 0 rfl) ?_
        refine fd_X5_19_0 C hP dX5_loader_31 ?_
        refine fd_X5_68_2 C hP dX5_loader_34 ?_
        refine lv_iload_n C.hx C.hb dX5_loader_37 rfl (lv_at hl 1 rfl) ?_
        obtain ⟨g_7, h⟩ := gsplit h
        refine ldd_15 (i := p1) C hP g_7 dX5_loader_38 ?_
        refine lv_if_eq (tgt := 45) C.hx C.hb dX5_loader_39 (by decide) (fun c_8 => ?_) (fun c_8 => ?_)
        · have h := gpos c_8 h
          refine lv_aload_n C.hx C.hb dX5_loader_45 rfl (lv_at hl 0 rfl) ?_
          refine fd_X5_19_0 C hP dX5_loader_46 ?_
          refine lv_iload_n C.hx C.hb dX5_loader_49 rfl (lv_at hl 1 rfl) ?_
          refine lv_iload_n C.hx C.hb dX5_loader_50 rfl (lv_at hl 2 rfl) ?_
          obtain ⟨⟨r_9, u_9⟩, e_9, h⟩ := gbind h
          refine gCallV (wd := dW cI cZ a) (As := [.int p1, .int p2]) (rest := []) C hml hl.1 hS (mX1_add hD e_9) k_232 k_233 k_234 k_31 k_235 hdX1_add ⟨by show 0 + 1 ≤ 1; omega, by show 8 + (3 + 11) + (0) ≤ 22; omega⟩ hP 2 1 rfl rfl rfl rfl rfl (Nat.le_of_ble_eq_true rfl) dX5_loader_51 ⟨Nat.zero_le _, Nat.zero_le _⟩ (fun H locs hP hS => ?_)
          cases h
          exact gRetI C hr hlocks hP hS dX5_loader_54
        · have h := gneg c_8 h
          refine lv_bipush (v := (-3 : Int32)) C.hx C.hb dX5_loader_42 (by decide) ?_
          cases h
          exact gRetI C hr hlocks hP hS dX5_loader_44
      · have h := gneg c_6 h
        refine lv_bipush (v := (-2 : Int32)) C.hx C.hb dX5_loader_27 (by decide) ?_
        cases h
        exact gRetI C hr hlocks hP hS dX5_loader_29
set_option maxHeartbeats 4000000 in
set_option maxRecDepth 100000 in
theorem mX0_has {l : Launch} {D : va_G} {cI cZ : ClassId} {a : Nat → Nat} (hD : ∀ σ, va_D (dAd a) (dW cI cZ a σ)) {σ : MS} {p1 : Int32} {r : Int32} (h : sX0_has σ p1 = some r) : gMet (dW cI cZ a) (dAd a) l D cI cZ yX0_has cX0_has 2 (some .boolean) (0) (0) [.ref (a 1), .int p1] σ r σ := by
  refine gEnt (by decide) (Nat.le_of_ble_eq_true rfl) (fun p e s m below meth c ls C hml hr hlocks hP hl => ?_)
  have hl : lv_has ls 2 [(0, .ref (a 1)), (1, .int p1)] := hl
  have hS : va_S (dAd a) s.heap s.heap [] := va_S.rf
  rw [sX0_has] at h
  refine lv_iload_n C.hx C.hb dX0_has_0 rfl (lv_at hl 1 rfl) ?_
  refine lv_if_lt (tgt := 16) C.hx C.hb dX0_has_1 (by decide) (fun c_1 => ?_) (fun c_1 => ?_)
  · have h := gpos c_1 h
    refine lv_iconst (v := (0 : Int32)) C.hx C.hb dX0_has_16 (by decide) ?_
    cases h
    exact gRetZ C hr hlocks (by decide) hP hS dX0_has_17
  · have h := gneg c_1 h
    refine lv_iload_n C.hx C.hb dX0_has_4 rfl (lv_at hl 1 rfl) ?_
    refine lv_aload_n C.hx C.hb dX0_has_5 rfl (lv_at hl 0 rfl) ?_
    refine fd_X0_27_1 C hP dX0_has_6 ?_
    refine lv_icmp_ge (tgt := 16) C.hx C.hb dX0_has_9 (by decide) (fun c_2 => ?_) (fun c_2 => ?_)
    · have h := gpos c_2 h
      refine lv_iconst (v := (0 : Int32)) C.hx C.hb dX0_has_16 (by decide) ?_
      cases h
      exact gRetZ C hr hlocks (by decide) hP hS dX0_has_17
    · have h := gneg c_2 h
      refine lv_iconst (v := (1 : Int32)) C.hx C.hb dX0_has_12 (by decide) ?_
      refine lv_goto (tgt := 17) C.hx C.hb dX0_has_13 (by decide) ?_
      cases h
      exact gRetZ C hr hlocks (by decide) hP hS dX0_has_17
set_option maxHeartbeats 4000000 in
set_option maxRecDepth 100000 in
theorem mX5_put {l : Launch} {D : va_G} {cI cZ : ClassId} {a : Nat → Nat} (hD : ∀ σ, va_D (dAd a) (dW cI cZ a σ)) {σ : MS} {p1 p2 p3 : Int32} {r : Int32} {σ' : MS} (h : sX5_put σ p1 p2 p3 = some (r, σ')) : gMet (dW cI cZ a) (dAd a) l D cI cZ yX5_put cX5_put 4 (some .int) (1) (21) [.ref (a 0), .int p1, .int p2, .int p3] σ r σ' := by
  refine gEnt (by decide) (Nat.le_of_ble_eq_true rfl) (fun p e s m below meth c ls C hml hr hlocks hP hl => ?_)
  have hl : lv_has ls 4 [(0, .ref (a 0)), (1, .int p1), (2, .int p2), (3, .int p3)] := hl
  have hS : va_S (dAd a) s.heap s.heap [] := va_S.rf
  rw [sX5_put] at h
  refine lv_aload_n C.hx C.hb dX5_put_0 rfl (lv_at hl 0 rfl) ?_
  refine fd_X5_19_0 C hP dX5_put_1 ?_
  refine lv_iload_n C.hx C.hb dX5_put_4 rfl (lv_at hl 1 rfl) ?_
  obtain ⟨r_1, e_1, h⟩ := gbind h
  refine gCallV (wd := dW cI cZ a) (As := [.int p1]) (rest := []) C hml hl.1 hS (mX1_has hD e_1) k_224 k_225 k_226 k_31 k_227 hdX1_has ⟨by show 0 + 1 ≤ 1; omega, by show 8 + (2 + 11) + (0) ≤ 21; omega⟩ hP 2 1 rfl rfl rfl rfl rfl (Nat.le_of_ble_eq_true rfl) dX5_put_5 ⟨Nat.zero_le _, Nat.zero_le _⟩ (fun H locs hP hS => ?_)
  refine lv_if_eq (tgt := 29) C.hx C.hb dX5_put_8 (by decide) (fun c_2 => ?_) (fun c_2 => ?_)
  · have h := gpos c_2 h
    refine lv_bipush (v := (-2 : Int32)) C.hx C.hb dX5_put_29 (by decide) ?_
    cases h
    exact gRetI C hr hlocks hP hS dX5_put_31
  · have h := gneg c_2 h
    refine lv_iload_n C.hx C.hb dX5_put_11 rfl (lv_at hl 2 rfl) ?_
    obtain ⟨r_3, e_3, h⟩ := gbind h
    refine gCallS (wd := dW cI cZ a) (As := [.int p2]) (rest := []) C hml hl.1 hS (mX5_isName hD e_3) k_210 k_211 k_29 k_212 hdX5_isName ⟨by show 0 + 1 ≤ 1; omega, by show 8 + (1 + 11) + (0) ≤ 21; omega⟩ hP rfl rfl (Nat.le_of_ble_eq_true rfl) dX5_put_12 ⟨Nat.zero_le _, Nat.zero_le _⟩ (fun H locs hP hS => ?_)
    refine lv_if_eq (tgt := 29) C.hx C.hb dX5_put_15 (by decide) (fun c_4 => ?_) (fun c_4 => ?_)
    · have h := gpos c_4 h
      refine lv_bipush (v := (-2 : Int32)) C.hx C.hb dX5_put_29 (by decide) ?_
      cases h
      exact gRetI C hr hlocks hP hS dX5_put_31
    · have h := gneg c_4 h
      refine lv_aload_n C.hx C.hb dX5_put_18 rfl (lv_at hl 0 rfl) ?_
      refine fd_X5_12_0 C hP dX5_put_19 ?_
      refine lv_iload_n C.hx C.hb dX5_put_22 rfl (lv_at hl 3 rfl) ?_
      obtain ⟨r_5, e_5, h⟩ := gbind h
      refine gCallV (wd := dW cI cZ a) (As := [.int p3]) (rest := []) C hml hl.1 hS (mX0_has hD e_5) k_240 k_241 k_242 k_30 k_243 hdX0_has ⟨by show 0 + 1 ≤ 1; omega, by show 8 + (2 + 11) + (0) ≤ 21; omega⟩ hP 1 0 rfl rfl rfl rfl rfl (Nat.le_of_ble_eq_true rfl) dX5_put_23 ⟨Nat.zero_le _, Nat.zero_le _⟩ (fun H locs hP hS => ?_)
      refine lv_if_ne (tgt := 32) C.hx C.hb dX5_put_26 (by decide) (fun c_6 => ?_) (fun c_6 => ?_)
      · have h := gneg c_6 h
        refine lv_aload_n C.hx C.hb dX5_put_32 rfl (lv_at hl 0 rfl) ?_
        refine fd_X5_19_0 C hP dX5_put_33 ?_
        refine fd_X5_68_2 C hP dX5_put_36 ?_
        refine lv_iload_n C.hx C.hb dX5_put_39 rfl (lv_at hl 1 rfl) ?_
        obtain ⟨g_7, h⟩ := gsplit h
        refine ldd_15 (i := p1) C hP g_7 dX5_put_40 ?_
        refine lv_if_eq (tgt := 47) C.hx C.hb dX5_put_41 (by decide) (fun c_8 => ?_) (fun c_8 => ?_)
        · have h := gpos c_8 h
          refine lv_aload_n C.hx C.hb dX5_put_47 rfl (lv_at hl 0 rfl) ?_
          refine fd_X5_19_0 C hP dX5_put_48 ?_
          refine fd_X5_75_2 C hP dX5_put_51 ?_
          refine lv_iload_n C.hx C.hb dX5_put_54 rfl (lv_at hl 1 rfl) ?_
          refine lv_iload_n C.hx C.hb dX5_put_55 rfl (lv_at hl 2 rfl) ?_
          obtain ⟨r_9, e_9, h⟩ := gbind h
          refine gCallS (wd := dW cI cZ a) (As := [.int p1, .int p2]) (rest := [.ref (a 16)]) C hml hl.1 hS (mX5_slot hD e_9) k_244 k_245 k_29 k_246 hdX5_slot ⟨by show 0 + 1 ≤ 1; omega, by show 8 + (2 + 11) + (0) ≤ 21; omega⟩ hP rfl rfl (Nat.le_of_ble_eq_true rfl) dX5_put_56 ⟨Nat.zero_le _, Nat.zero_le _⟩ (fun H locs hP hS => ?_)
          refine lv_iload_n C.hx C.hb dX5_put_59 rfl (lv_at hl 3 rfl) ?_
          obtain ⟨g_10, h⟩ := gsplit h
          refine std_16 (i := r_9) (x := p3) C hD hP hS g_10 dX5_put_60 (fun H locs hP hS => ?_)
          have hP : va_P D vwCl (dW cI cZ a (sA σ 16 (r_9.toNatClampNeg) p3)) H := hP
          refine lv_iconst (v := (1 : Int32)) C.hx C.hb dX5_put_61 (by decide) ?_
          cases h
          exact gRetI C hr hlocks hP hS dX5_put_62
        · have h := gneg c_8 h
          refine lv_bipush (v := (-3 : Int32)) C.hx C.hb dX5_put_44 (by decide) ?_
          cases h
          exact gRetI C hr hlocks hP hS dX5_put_46
      · have h := gpos c_6 h
        refine lv_bipush (v := (-2 : Int32)) C.hx C.hb dX5_put_29 (by decide) ?_
        cases h
        exact gRetI C hr hlocks hP hS dX5_put_31
set_option maxHeartbeats 4000000 in
set_option maxRecDepth 100000 in
theorem mX5_load {l : Launch} {D : va_G} {cI cZ : ClassId} {a : Nat → Nat} (hD : ∀ σ, va_D (dAd a) (dW cI cZ a σ)) {σ : MS} {p1 p2 : Int32} {r : Int32} {σ' : MS} (h : sX5_load σ p1 p2 = some (r, σ')) : gMet (dW cI cZ a) (dAd a) l D cI cZ yX5_load cX5_load 3 (some .int) (305) (8827) [.ref (a 0), .int p1, .int p2] σ r σ' := by
  refine gEnt (by decide) (Nat.le_of_ble_eq_true rfl) (fun p e s m below meth c ls C hml hr hlocks hP hl => ?_)
  have hl : lv_has ls 3 [(0, .ref (a 0)), (1, .int p1), (2, .int p2)] := hl
  have hS : va_S (dAd a) s.heap s.heap [] := va_S.rf
  rw [sX5_load] at h
  refine lv_aload_n C.hx C.hb dX5_load_0 rfl (lv_at hl 0 rfl) ?_
  refine fd_X5_19_0 C hP dX5_load_1 ?_
  refine lv_iload_n C.hx C.hb dX5_load_4 rfl (lv_at hl 1 rfl) ?_
  obtain ⟨r_1, e_1, h⟩ := gbind h
  refine gCallV (wd := dW cI cZ a) (As := [.int p1]) (rest := []) C hml hl.1 hS (mX1_has hD e_1) k_224 k_225 k_226 k_31 k_227 hdX1_has ⟨by show 0 + 1 ≤ 305; omega, by show 8 + (2 + 11) + (0) ≤ 8827; omega⟩ hP 2 1 rfl rfl rfl rfl rfl (Nat.le_of_ble_eq_true rfl) dX5_load_5 ⟨Nat.zero_le _, Nat.zero_le _⟩ (fun H locs hP hS => ?_)
  refine lv_if_eq (tgt := 18) C.hx C.hb dX5_load_8 (by decide) (fun c_2 => ?_) (fun c_2 => ?_)
  · have h := gpos c_2 h
    refine lv_bipush (v := (-2 : Int32)) C.hx C.hb dX5_load_18 (by decide) ?_
    cases h
    exact gRetI C hr hlocks hP hS dX5_load_20
  · have h := gneg c_2 h
    refine lv_iload_n C.hx C.hb dX5_load_11 rfl (lv_at hl 2 rfl) ?_
    obtain ⟨r_3, e_3, h⟩ := gbind h
    refine gCallS (wd := dW cI cZ a) (As := [.int p2]) (rest := []) C hml hl.1 hS (mX5_isName hD e_3) k_210 k_211 k_29 k_212 hdX5_isName ⟨by show 0 + 1 ≤ 305; omega, by show 8 + (1 + 11) + (0) ≤ 8827; omega⟩ hP rfl rfl (Nat.le_of_ble_eq_true rfl) dX5_load_12 ⟨Nat.zero_le _, Nat.zero_le _⟩ (fun H locs hP hS => ?_)
    refine lv_if_ne (tgt := 21) C.hx C.hb dX5_load_15 (by decide) (fun c_4 => ?_) (fun c_4 => ?_)
    · have h := gneg c_4 h
      refine lv_aload_n C.hx C.hb dX5_load_21 rfl (lv_at hl 0 rfl) ?_
      refine fd_X5_19_0 C hP dX5_load_22 ?_
      refine fd_X5_68_2 C hP dX5_load_25 ?_
      refine lv_iload_n C.hx C.hb dX5_load_28 rfl (lv_at hl 1 rfl) ?_
      obtain ⟨g_5, h⟩ := gsplit h
      refine ldd_15 (i := p1) C hP g_5 dX5_load_29 ?_
      refine lv_if_eq (tgt := 36) C.hx C.hb dX5_load_30 (by decide) (fun c_6 => ?_) (fun c_6 => ?_)
      · have h := gpos c_6 h
        refine lv_aload_n C.hx C.hb dX5_load_36 rfl (lv_at hl 0 rfl) ?_
        refine lv_iload_n C.hx C.hb dX5_load_37 rfl (lv_at hl 1 rfl) ?_
        refine lv_iload_n C.hx C.hb dX5_load_38 rfl (lv_at hl 2 rfl) ?_
        refine lv_iconst (v := (0 : Int32)) C.hx C.hb dX5_load_39 (by decide) ?_
        obtain ⟨⟨r_7, u_7⟩, e_7, h⟩ := gbind h
        refine gCallV (wd := dW cI cZ a) (As := [.int p1, .int p2, .int (0 : Int32)]) (rest := []) C hml hl.1 hS (mRec_0 hD e_7) k_251 k_253 k_0 k_29 k_254 hdX5_ask ⟨by show 304 + 1 ≤ 305; omega, by show 8 + (8 + 11) + (8800) ≤ 8827; omega⟩ hP 0 5 rfl rfl rfl rfl rfl (Nat.le_of_ble_eq_true rfl) dX5_load_40 ⟨Nat.zero_le _, Nat.zero_le _⟩ (fun H locs hP hS => ?_)
        cases h
        exact gRetI C hr hlocks hP hS dX5_load_43
      · have h := gneg c_6 h
        refine lv_bipush (v := (-3 : Int32)) C.hx C.hb dX5_load_33 (by decide) ?_
        cases h
        exact gRetI C hr hlocks hP hS dX5_load_35
    · have h := gpos c_4 h
      refine lv_bipush (v := (-2 : Int32)) C.hx C.hb dX5_load_18 (by decide) ?_
      cases h
      exact gRetI C hr hlocks hP hS dX5_load_20
set_option maxHeartbeats 4000000 in
set_option maxRecDepth 100000 in
theorem mX5_define {l : Launch} {D : va_G} {cI cZ : ClassId} {a : Nat → Nat} (hD : ∀ σ, va_D (dAd a) (dW cI cZ a σ)) {σ : MS} {p1 p2 p3 : Int32} {r : Int32} {σ' : MS} (h : sX5_define σ p1 p2 p3 = some (r, σ')) : gMet (dW cI cZ a) (dAd a) l D cI cZ yX5_define cX5_define 4 (some .int) (305) (8829) [.ref (a 0), .int p1, .int p2, .int p3] σ r σ' := by
  refine gEnt (by decide) (Nat.le_of_ble_eq_true rfl) (fun p e s m below meth c ls C hml hr hlocks hP hl => ?_)
  have hl : lv_has ls 4 [(0, .ref (a 0)), (1, .int p1), (2, .int p2), (3, .int p3)] := hl
  have hS : va_S (dAd a) s.heap s.heap [] := va_S.rf
  rw [sX5_define] at h
  refine lv_aload_n C.hx C.hb dX5_define_0 rfl (lv_at hl 0 rfl) ?_
  refine fd_X5_19_0 C hP dX5_define_1 ?_
  refine lv_iload_n C.hx C.hb dX5_define_4 rfl (lv_at hl 1 rfl) ?_
  obtain ⟨r_1, e_1, h⟩ := gbind h
  refine gCallV (wd := dW cI cZ a) (As := [.int p1]) (rest := []) C hml hl.1 hS (mX1_has hD e_1) k_224 k_225 k_226 k_31 k_227 hdX1_has ⟨by show 0 + 1 ≤ 305; omega, by show 8 + (2 + 11) + (0) ≤ 8829; omega⟩ hP 2 1 rfl rfl rfl rfl rfl (Nat.le_of_ble_eq_true rfl) dX5_define_5 ⟨Nat.zero_le _, Nat.zero_le _⟩ (fun H locs hP hS => ?_)
  refine lv_if_eq (tgt := 29) C.hx C.hb dX5_define_8 (by decide) (fun c_2 => ?_) (fun c_2 => ?_)
  · have h := gpos c_2 h
    refine lv_bipush (v := (-2 : Int32)) C.hx C.hb dX5_define_29 (by decide) ?_
    cases h
    exact gRetI C hr hlocks hP hS dX5_define_31
  · have h := gneg c_2 h
    refine lv_iload_n C.hx C.hb dX5_define_11 rfl (lv_at hl 2 rfl) ?_
    obtain ⟨r_3, e_3, h⟩ := gbind h
    refine gCallS (wd := dW cI cZ a) (As := [.int p2]) (rest := []) C hml hl.1 hS (mX5_isName hD e_3) k_210 k_211 k_29 k_212 hdX5_isName ⟨by show 0 + 1 ≤ 305; omega, by show 8 + (1 + 11) + (0) ≤ 8829; omega⟩ hP rfl rfl (Nat.le_of_ble_eq_true rfl) dX5_define_12 ⟨Nat.zero_le _, Nat.zero_le _⟩ (fun H locs hP hS => ?_)
    refine lv_if_eq (tgt := 29) C.hx C.hb dX5_define_15 (by decide) (fun c_4 => ?_) (fun c_4 => ?_)
    · have h := gpos c_4 h
      refine lv_bipush (v := (-2 : Int32)) C.hx C.hb dX5_define_29 (by decide) ?_
      cases h
      exact gRetI C hr hlocks hP hS dX5_define_31
    · have h := gneg c_4 h
      refine lv_aload_n C.hx C.hb dX5_define_18 rfl (lv_at hl 0 rfl) ?_
      refine fd_X5_12_0 C hP dX5_define_19 ?_
      refine lv_iload_n C.hx C.hb dX5_define_22 rfl (lv_at hl 3 rfl) ?_
      obtain ⟨r_5, e_5, h⟩ := gbind h
      refine gCallV (wd := dW cI cZ a) (As := [.int p3]) (rest := []) C hml hl.1 hS (mX0_has hD e_5) k_240 k_241 k_242 k_30 k_243 hdX0_has ⟨by show 0 + 1 ≤ 305; omega, by show 8 + (2 + 11) + (0) ≤ 8829; omega⟩ hP 1 0 rfl rfl rfl rfl rfl (Nat.le_of_ble_eq_true rfl) dX5_define_23 ⟨Nat.zero_le _, Nat.zero_le _⟩ (fun H locs hP hS => ?_)
      refine lv_if_ne (tgt := 32) C.hx C.hb dX5_define_26 (by decide) (fun c_6 => ?_) (fun c_6 => ?_)
      · have h := gneg c_6 h
        refine lv_aload_n C.hx C.hb dX5_define_32 rfl (lv_at hl 0 rfl) ?_
        refine fd_X5_19_0 C hP dX5_define_33 ?_
        refine fd_X5_68_2 C hP dX5_define_36 ?_
        refine lv_iload_n C.hx C.hb dX5_define_39 rfl (lv_at hl 1 rfl) ?_
        obtain ⟨g_7, h⟩ := gsplit h
        refine ldd_15 (i := p1) C hP g_7 dX5_define_40 ?_
        refine lv_if_eq (tgt := 47) C.hx C.hb dX5_define_41 (by decide) (fun c_8 => ?_) (fun c_8 => ?_)
        · have h := gpos c_8 h
          refine lv_aload_n C.hx C.hb dX5_define_47 rfl (lv_at hl 0 rfl) ?_
          refine fd_X5_19_0 C hP dX5_define_48 ?_
          refine fd_X5_87_2 C hP dX5_define_51 ?_
          refine lv_iload_n C.hx C.hb dX5_define_54 rfl (lv_at hl 1 rfl) ?_
          refine lv_iload_n C.hx C.hb dX5_define_55 rfl (lv_at hl 2 rfl) ?_
          obtain ⟨r_9, e_9, h⟩ := gbind h
          refine gCallS (wd := dW cI cZ a) (As := [.int p1, .int p2]) (rest := [.ref (a 17)]) C hml hl.1 hS (mX5_slot hD e_9) k_244 k_245 k_29 k_246 hdX5_slot ⟨by show 0 + 1 ≤ 305; omega, by show 8 + (2 + 11) + (0) ≤ 8829; omega⟩ hP rfl rfl (Nat.le_of_ble_eq_true rfl) dX5_define_56 ⟨Nat.zero_le _, Nat.zero_le _⟩ (fun H locs hP hS => ?_)
          obtain ⟨g_10, h⟩ := gsplit h
          refine ldd_17 (i := r_9) C hP g_10 dX5_define_59 ?_
          refine lv_iconst (v := (-1 : Int32)) C.hx C.hb dX5_define_60 (by decide) ?_
          refine lv_icmp_eq (tgt := 67) C.hx C.hb dX5_define_61 (by decide) (fun c_11 => ?_) (fun c_11 => ?_)
          · have h := gpos c_11 h
            refine lv_aload_n C.hx C.hb dX5_define_67 rfl (lv_at hl 0 rfl) ?_
            refine lv_iload_n C.hx C.hb dX5_define_68 rfl (lv_at hl 1 rfl) ?_
            refine lv_iload_n C.hx C.hb dX5_define_69 rfl (lv_at hl 2 rfl) ?_
            refine lv_iload_n C.hx C.hb dX5_define_70 rfl (lv_at hl 3 rfl) ?_
            refine lv_iconst (v := (0 : Int32)) C.hx C.hb dX5_define_71 (by decide) ?_
            obtain ⟨⟨r_12, u_12⟩, e_12, h⟩ := gbind h
            refine gCallV (wd := dW cI cZ a) (As := [.int p1, .int p2, .int p3, .int (0 : Int32)]) (rest := []) C hml hl.1 hS (mRec_2 hD e_12) k_264 k_266 k_2 k_29 k_267 hdX5_make ⟨by show 304 + 1 ≤ 305; omega, by show 8 + (10 + 11) + (8800) ≤ 8829; omega⟩ hP 0 5 rfl rfl rfl rfl rfl (Nat.le_of_ble_eq_true rfl) dX5_define_72 ⟨Nat.zero_le _, Nat.zero_le _⟩ (fun H locs hP hS => ?_)
            cases h
            exact gRetI C hr hlocks hP hS dX5_define_75
          · have h := gneg c_11 h
            refine lv_bipush (v := (-12 : Int32)) C.hx C.hb dX5_define_64 (by decide) ?_
            cases h
            exact gRetI C hr hlocks hP hS dX5_define_66
        · have h := gneg c_8 h
          refine lv_bipush (v := (-3 : Int32)) C.hx C.hb dX5_define_44 (by decide) ?_
          cases h
          exact gRetI C hr hlocks hP hS dX5_define_46
      · have h := gpos c_6 h
        refine lv_bipush (v := (-2 : Int32)) C.hx C.hb dX5_define_29 (by decide) ?_
        cases h
        exact gRetI C hr hlocks hP hS dX5_define_31
set_option maxHeartbeats 4000000 in
set_option maxRecDepth 100000 in
theorem mX5_anew {l : Launch} {D : va_G} {cI cZ : ClassId} {a : Nat → Nat} (hD : ∀ σ, va_D (dAd a) (dW cI cZ a σ)) {σ : MS} {p1 p2 p3 : Int32} {r : Int32} {σ' : MS} (h : sX5_anew σ p1 p2 p3 = some (r, σ')) : gMet (dW cI cZ a) (dAd a) l D cI cZ yX5_anew cX5_anew 4 (some .int) (305) (8829) [.ref (a 0), .int p1, .int p2, .int p3] σ r σ' := by
  refine gEnt (by decide) (Nat.le_of_ble_eq_true rfl) (fun p e s m below meth c ls C hml hr hlocks hP hl => ?_)
  have hl : lv_has ls 4 [(0, .ref (a 0)), (1, .int p1), (2, .int p2), (3, .int p3)] := hl
  have hS : va_S (dAd a) s.heap s.heap [] := va_S.rf
  rw [sX5_anew] at h
  refine lv_aload_n C.hx C.hb dX5_anew_0 rfl (lv_at hl 0 rfl) ?_
  refine fd_X5_19_0 C hP dX5_anew_1 ?_
  refine lv_iload_n C.hx C.hb dX5_anew_4 rfl (lv_at hl 1 rfl) ?_
  obtain ⟨r_1, e_1, h⟩ := gbind h
  refine gCallV (wd := dW cI cZ a) (As := [.int p1]) (rest := []) C hml hl.1 hS (mX1_has hD e_1) k_224 k_225 k_226 k_31 k_227 hdX1_has ⟨by show 0 + 1 ≤ 305; omega, by show 8 + (2 + 11) + (0) ≤ 8829; omega⟩ hP 2 1 rfl rfl rfl rfl rfl (Nat.le_of_ble_eq_true rfl) dX5_anew_5 ⟨Nat.zero_le _, Nat.zero_le _⟩ (fun H locs hP hS => ?_)
  refine lv_if_eq (tgt := 29) C.hx C.hb dX5_anew_8 (by decide) (fun c_2 => ?_) (fun c_2 => ?_)
  · have h := gpos c_2 h
    refine lv_bipush (v := (-2 : Int32)) C.hx C.hb dX5_anew_29 (by decide) ?_
    cases h
    exact gRetI C hr hlocks hP hS dX5_anew_31
  · have h := gneg c_2 h
    refine lv_iload_n C.hx C.hb dX5_anew_11 rfl (lv_at hl 2 rfl) ?_
    obtain ⟨r_3, e_3, h⟩ := gbind h
    refine gCallS (wd := dW cI cZ a) (As := [.int p2]) (rest := []) C hml hl.1 hS (mX5_isName hD e_3) k_210 k_211 k_29 k_212 hdX5_isName ⟨by show 0 + 1 ≤ 305; omega, by show 8 + (1 + 11) + (0) ≤ 8829; omega⟩ hP rfl rfl (Nat.le_of_ble_eq_true rfl) dX5_anew_12 ⟨Nat.zero_le _, Nat.zero_le _⟩ (fun H locs hP hS => ?_)
    refine lv_if_eq (tgt := 29) C.hx C.hb dX5_anew_15 (by decide) (fun c_4 => ?_) (fun c_4 => ?_)
    · have h := gpos c_4 h
      refine lv_bipush (v := (-2 : Int32)) C.hx C.hb dX5_anew_29 (by decide) ?_
      cases h
      exact gRetI C hr hlocks hP hS dX5_anew_31
    · have h := gneg c_4 h
      refine lv_aload_n C.hx C.hb dX5_anew_18 rfl (lv_at hl 0 rfl) ?_
      refine fd_X5_12_0 C hP dX5_anew_19 ?_
      refine lv_iload_n C.hx C.hb dX5_anew_22 rfl (lv_at hl 3 rfl) ?_
      obtain ⟨r_5, e_5, h⟩ := gbind h
      refine gCallV (wd := dW cI cZ a) (As := [.int p3]) (rest := []) C hml hl.1 hS (mX0_has hD e_5) k_240 k_241 k_242 k_30 k_243 hdX0_has ⟨by show 0 + 1 ≤ 305; omega, by show 8 + (2 + 11) + (0) ≤ 8829; omega⟩ hP 1 0 rfl rfl rfl rfl rfl (Nat.le_of_ble_eq_true rfl) dX5_anew_23 ⟨Nat.zero_le _, Nat.zero_le _⟩ (fun H locs hP hS => ?_)
      refine lv_if_ne (tgt := 32) C.hx C.hb dX5_anew_26 (by decide) (fun c_6 => ?_) (fun c_6 => ?_)
      · have h := gneg c_6 h
        refine lv_aload_n C.hx C.hb dX5_anew_32 rfl (lv_at hl 0 rfl) ?_
        refine fd_X5_19_0 C hP dX5_anew_33 ?_
        refine fd_X5_68_2 C hP dX5_anew_36 ?_
        refine lv_iload_n C.hx C.hb dX5_anew_39 rfl (lv_at hl 1 rfl) ?_
        obtain ⟨g_7, h⟩ := gsplit h
        refine ldd_15 (i := p1) C hP g_7 dX5_anew_40 ?_
        refine lv_if_ne (tgt := 61) C.hx C.hb dX5_anew_41 (by decide) (fun c_8 => ?_) (fun c_8 => ?_)
        · have h := gneg c_8 h
          refine lv_bipush (v := (-3 : Int32)) C.hx C.hb dX5_anew_61 (by decide) ?_
          cases h
          exact gRetI C hr hlocks hP hS dX5_anew_63
        · have h := gpos c_8 h
          refine lv_aload_n C.hx C.hb dX5_anew_44 rfl (lv_at hl 0 rfl) ?_
          refine fd_X5_19_0 C hP dX5_anew_45 ?_
          refine fd_X5_87_2 C hP dX5_anew_48 ?_
          refine lv_iload_n C.hx C.hb dX5_anew_51 rfl (lv_at hl 1 rfl) ?_
          refine lv_iload_n C.hx C.hb dX5_anew_52 rfl (lv_at hl 2 rfl) ?_
          obtain ⟨r_9, e_9, h⟩ := gbind h
          refine gCallS (wd := dW cI cZ a) (As := [.int p1, .int p2]) (rest := [.ref (a 17)]) C hml hl.1 hS (mX5_slot hD e_9) k_244 k_245 k_29 k_246 hdX5_slot ⟨by show 0 + 1 ≤ 305; omega, by show 8 + (2 + 11) + (0) ≤ 8829; omega⟩ hP rfl rfl (Nat.le_of_ble_eq_true rfl) dX5_anew_53 ⟨Nat.zero_le _, Nat.zero_le _⟩ (fun H locs hP hS => ?_)
          obtain ⟨g_10, h⟩ := gsplit h
          refine ldd_17 (i := r_9) C hP g_10 dX5_anew_56 ?_
          refine lv_iconst (v := (-1 : Int32)) C.hx C.hb dX5_anew_57 (by decide) ?_
          refine lv_icmp_ne (tgt := 64) C.hx C.hb dX5_anew_58 (by decide) (fun c_11 => ?_) (fun c_11 => ?_)
          · have h := gneg c_11 h
            refine lv_aload_n C.hx C.hb dX5_anew_64 rfl (lv_at hl 0 rfl) ?_
            refine lv_iload_n C.hx C.hb dX5_anew_65 rfl (lv_at hl 1 rfl) ?_
            refine lv_iload_n C.hx C.hb dX5_anew_66 rfl (lv_at hl 2 rfl) ?_
            refine lv_iload_n C.hx C.hb dX5_anew_67 rfl (lv_at hl 3 rfl) ?_
            refine lv_iconst (v := (0 : Int32)) C.hx C.hb dX5_anew_68 (by decide) ?_
            obtain ⟨⟨r_12, u_12⟩, e_12, h⟩ := gbind h
            refine gCallV (wd := dW cI cZ a) (As := [.int p1, .int p2, .int p3, .int (0 : Int32)]) (rest := []) C hml hl.1 hS (mRec_2 hD e_12) k_264 k_266 k_2 k_29 k_267 hdX5_make ⟨by show 304 + 1 ≤ 305; omega, by show 8 + (10 + 11) + (8800) ≤ 8829; omega⟩ hP 0 5 rfl rfl rfl rfl rfl (Nat.le_of_ble_eq_true rfl) dX5_anew_69 ⟨Nat.zero_le _, Nat.zero_le _⟩ (fun H locs hP hS => ?_)
            cases h
            exact gRetI C hr hlocks hP hS dX5_anew_72
          · have h := gpos c_11 h
            refine lv_bipush (v := (-3 : Int32)) C.hx C.hb dX5_anew_61 (by decide) ?_
            cases h
            exact gRetI C hr hlocks hP hS dX5_anew_63
      · have h := gpos c_6 h
        refine lv_bipush (v := (-2 : Int32)) C.hx C.hb dX5_anew_29 (by decide) ?_
        cases h
        exact gRetI C hr hlocks hP hS dX5_anew_31
set_option maxHeartbeats 4000000 in
set_option maxRecDepth 100000 in
theorem mX5_known {l : Launch} {D : va_G} {cI cZ : ClassId} {a : Nat → Nat} (hD : ∀ σ, va_D (dAd a) (dW cI cZ a σ)) {σ : MS} {p1 p2 : Int32} {r : Int32} (h : sX5_known σ p1 p2 = some r) : gMet (dW cI cZ a) (dAd a) l D cI cZ yX5_known cX5_known 3 (some .int) (2) (44) [.ref (a 0), .int p1, .int p2] σ r σ := by
  refine gEnt (by decide) (Nat.le_of_ble_eq_true rfl) (fun p e s m below meth c ls C hml hr hlocks hP hl => ?_)
  have hl : lv_has ls 3 [(0, .ref (a 0)), (1, .int p1), (2, .int p2)] := hl
  have hS : va_S (dAd a) s.heap s.heap [] := va_S.rf
  rw [sX5_known] at h
  refine lv_aload_n C.hx C.hb dX5_known_0 rfl (lv_at hl 0 rfl) ?_
  refine fd_X5_19_0 C hP dX5_known_1 ?_
  refine lv_iload_n C.hx C.hb dX5_known_4 rfl (lv_at hl 1 rfl) ?_
  obtain ⟨r_1, e_1, h⟩ := gbind h
  refine gCallV (wd := dW cI cZ a) (As := [.int p1]) (rest := []) C hml hl.1 hS (mX1_has hD e_1) k_224 k_225 k_226 k_31 k_227 hdX1_has ⟨by show 0 + 1 ≤ 2; omega, by show 8 + (2 + 11) + (0) ≤ 44; omega⟩ hP 2 1 rfl rfl rfl rfl rfl (Nat.le_of_ble_eq_true rfl) dX5_known_5 ⟨Nat.zero_le _, Nat.zero_le _⟩ (fun H locs hP hS => ?_)
  refine lv_if_eq (tgt := 18) C.hx C.hb dX5_known_8 (by decide) (fun c_2 => ?_) (fun c_2 => ?_)
  · have h := gpos c_2 h
    refine lv_bipush (v := (-2 : Int32)) C.hx C.hb dX5_known_18 (by decide) ?_
    cases h
    exact gRetI C hr hlocks hP hS dX5_known_20
  · have h := gneg c_2 h
    refine lv_iload_n C.hx C.hb dX5_known_11 rfl (lv_at hl 2 rfl) ?_
    obtain ⟨r_3, e_3, h⟩ := gbind h
    refine gCallS (wd := dW cI cZ a) (As := [.int p2]) (rest := []) C hml hl.1 hS (mX5_isName hD e_3) k_210 k_211 k_29 k_212 hdX5_isName ⟨by show 0 + 1 ≤ 2; omega, by show 8 + (1 + 11) + (0) ≤ 44; omega⟩ hP rfl rfl (Nat.le_of_ble_eq_true rfl) dX5_known_12 ⟨Nat.zero_le _, Nat.zero_le _⟩ (fun H locs hP hS => ?_)
    refine lv_if_ne (tgt := 21) C.hx C.hb dX5_known_15 (by decide) (fun c_4 => ?_) (fun c_4 => ?_)
    · have h := gneg c_4 h
      refine lv_aload_n C.hx C.hb dX5_known_21 rfl (lv_at hl 0 rfl) ?_
      refine fd_X5_19_0 C hP dX5_known_22 ?_
      refine lv_iload_n C.hx C.hb dX5_known_25 rfl (lv_at hl 1 rfl) ?_
      refine lv_iload_n C.hx C.hb dX5_known_26 rfl (lv_at hl 2 rfl) ?_
      obtain ⟨r_5, e_5, h⟩ := gbind h
      refine gCallV (wd := dW cI cZ a) (As := [.int p1, .int p2]) (rest := []) C hml hl.1 hS (mX1_madeOrGiven hD e_5) k_255 k_256 k_257 k_31 k_258 hdX1_madeOrGiven ⟨by show 1 + 1 ≤ 2; omega, by show 8 + (4 + 11) + (21) ≤ 44; omega⟩ hP 2 1 rfl rfl rfl rfl rfl (Nat.le_of_ble_eq_true rfl) dX5_known_27 ⟨Nat.zero_le _, Nat.zero_le _⟩ (fun H locs hP hS => ?_)
      cases h
      exact gRetI C hr hlocks hP hS dX5_known_30
    · have h := gpos c_4 h
      refine lv_bipush (v := (-2 : Int32)) C.hx C.hb dX5_known_18 (by decide) ?_
      cases h
      exact gRetI C hr hlocks hP hS dX5_known_20
set_option maxHeartbeats 4000000 in
set_option maxRecDepth 100000 in
theorem mX2_has {l : Launch} {D : va_G} {cI cZ : ClassId} {a : Nat → Nat} (hD : ∀ σ, va_D (dAd a) (dW cI cZ a σ)) {σ : MS} {p1 : Int32} {r : Int32} (h : sX2_has σ p1 = some r) : gMet (dW cI cZ a) (dAd a) l D cI cZ yX2_has cX2_has 2 (some .boolean) (0) (0) [.ref (a 3), .int p1] σ r σ := by
  refine gEnt (by decide) (Nat.le_of_ble_eq_true rfl) (fun p e s m below meth c ls C hml hr hlocks hP hl => ?_)
  have hl : lv_has ls 2 [(0, .ref (a 3)), (1, .int p1)] := hl
  have hS : va_S (dAd a) s.heap s.heap [] := va_S.rf
  rw [sX2_has] at h
  refine lv_iload_n C.hx C.hb dX2_has_0 rfl (lv_at hl 1 rfl) ?_
  refine lv_if_lt (tgt := 16) C.hx C.hb dX2_has_1 (by decide) (fun c_1 => ?_) (fun c_1 => ?_)
  · have h := gpos c_1 h
    refine lv_iconst (v := (0 : Int32)) C.hx C.hb dX2_has_16 (by decide) ?_
    cases h
    exact gRetZ C hr hlocks (by decide) hP hS dX2_has_17
  · have h := gneg c_1 h
    refine lv_iload_n C.hx C.hb dX2_has_4 rfl (lv_at hl 1 rfl) ?_
    refine lv_aload_n C.hx C.hb dX2_has_5 rfl (lv_at hl 0 rfl) ?_
    refine fd_X2_27_3 C hP dX2_has_6 ?_
    refine lv_icmp_ge (tgt := 16) C.hx C.hb dX2_has_9 (by decide) (fun c_2 => ?_) (fun c_2 => ?_)
    · have h := gpos c_2 h
      refine lv_iconst (v := (0 : Int32)) C.hx C.hb dX2_has_16 (by decide) ?_
      cases h
      exact gRetZ C hr hlocks (by decide) hP hS dX2_has_17
    · have h := gneg c_2 h
      refine lv_iconst (v := (1 : Int32)) C.hx C.hb dX2_has_12 (by decide) ?_
      refine lv_goto (tgt := 17) C.hx C.hb dX2_has_13 (by decide) ?_
      cases h
      exact gRetZ C hr hlocks (by decide) hP hS dX2_has_17
set_option maxHeartbeats 4000000 in
set_option maxRecDepth 100000 in
theorem mX3_add_6 {l : Launch} {D : va_G} {cI cZ : ClassId} {a : Nat → Nat} (hD : ∀ σ, va_D (dAd a) (dW cI cZ a σ)) {σ : MS} {p1 : Int32} {σ' : MS} (h : sX3_add_6 σ p1 = some σ') : gMetV (dW cI cZ a) (dAd a) l D cI cZ yX3_add cX3_add 2 (0) (0) [.ref (a 6), .int p1] σ σ' := by
  refine gEnt (by decide) (Nat.le_of_ble_eq_true rfl) (fun p e s m below meth c ls C hml hr hlocks hP hl => ?_)
  have hl : lv_has ls 2 [(0, .ref (a 6)), (1, .int p1)] := hl
  have hS : va_S (dAd a) s.heap s.heap [] := va_S.rf
  rw [sX3_add_6] at h
  refine lv_aload_n C.hx C.hb dX3_add_0 rfl (lv_at hl 0 rfl) ?_
  refine fd_X3_15_6 C hP dX3_add_1 ?_
  refine lv_sipush (v := (512 : Int32)) C.hx C.hb dX3_add_4 (by decide) ?_
  refine lv_icmp_ge (tgt := 27) C.hx C.hb dX3_add_7 (by decide) (fun c_1 => ?_) (fun c_1 => ?_)
  · have h := gpos c_1 h
    cases h
    exact gRetV C hr hlocks hP hS dX3_add_27
  · have h := gneg c_1 h
    refine lv_aload_n C.hx C.hb dX3_add_10 rfl (lv_at hl 0 rfl) ?_
    refine fd_X3_9_6 C hP dX3_add_11 ?_
    refine lv_aload_n C.hx C.hb dX3_add_14 rfl (lv_at hl 0 rfl) ?_
    refine lv_dup C.hx C.hb dX3_add_15 rfl ?_
    refine fd_X3_15_6 C hP dX3_add_16 ?_
    refine lv_dup_x1 C.hx C.hb dX3_add_19 rfl rfl ?_
    refine lv_iconst (v := (1 : Int32)) C.hx C.hb dX3_add_20 (by decide) ?_
    refine lv_iadd C.hx C.hb dX3_add_21 ?_
    refine pd_X3_15_6 (x := ((σ.2 5) + (1 : Int32))) C hD hP hS dX3_add_22 (fun H locs hP hS => ?_)
    have hP : va_P D vwCl (dW cI cZ a (sZ σ 5 ((σ.2 5) + (1 : Int32)))) H := hP
    refine lv_iload_n C.hx C.hb dX3_add_25 rfl (lv_at hl 1 rfl) ?_
    obtain ⟨g_2, h⟩ := gsplit h
    refine std_28 (i := (σ.2 5)) (x := p1) C hD hP hS g_2 dX3_add_26 (fun H locs hP hS => ?_)
    have hP : va_P D vwCl (dW cI cZ a (sA (sZ σ 5 ((σ.2 5) + (1 : Int32))) 28 ((σ.2 5).toNatClampNeg) p1)) H := hP
    cases h
    exact gRetV C hr hlocks hP hS dX3_add_27
set_option maxHeartbeats 4000000 in
set_option maxRecDepth 100000 in
theorem mX5_comeTo {l : Launch} {D : va_G} {cI cZ : ClassId} {a : Nat → Nat} (hD : ∀ σ, va_D (dAd a) (dW cI cZ a σ)) {σ : MS} {p1 : Int32} {r : Int32} {σ' : MS} (h : sX5_comeTo σ p1 = some (r, σ')) : gMet (dW cI cZ a) (dAd a) l D cI cZ yX5_comeTo cX5_comeTo 3 (some .int) (1) (21) [.ref (a 0), .int p1] σ r σ' := by
  refine gEnt (by decide) (Nat.le_of_ble_eq_true rfl) (fun p e s m below meth c ls C hml hr hlocks hP hl => ?_)
  have hl : lv_has ls 3 [(0, .ref (a 0)), (1, .int p1)] := hl
  have hS : va_S (dAd a) s.heap s.heap [] := va_S.rf
  rw [sX5_comeTo] at h
  refine lv_aload_n C.hx C.hb dX5_comeTo_0 rfl (lv_at hl 0 rfl) ?_
  refine fd_X5_26_0 C hP dX5_comeTo_1 ?_
  refine fd_X5_138_3 C hP dX5_comeTo_4 ?_
  refine lv_iload_n C.hx C.hb dX5_comeTo_7 rfl (lv_at hl 1 rfl) ?_
  obtain ⟨g_1, h⟩ := gsplit h
  refine ldd_24 (i := p1) C hP g_1 dX5_comeTo_8 ?_
  refine lv_istore_n (lv' := [(2, .int (σ.1 24 (p1.toNatClampNeg))), (0, .ref (a 0)), (1, .int p1)]) C.hx C.hb dX5_comeTo_9 rfl hl (by decide) rfl (fun ls hl => ?_)
  refine lv_iload_n C.hx C.hb dX5_comeTo_10 rfl (lv_at hl 0 rfl) ?_
  refine lv_iconst (v := (2 : Int32)) C.hx C.hb dX5_comeTo_11 (by decide) ?_
  refine lv_icmp_ne (tgt := 18) C.hx C.hb dX5_comeTo_12 (by decide) (fun c_2 => ?_) (fun c_2 => ?_)
  · have h := gneg c_2 h
    refine lv_iload_n C.hx C.hb dX5_comeTo_18 rfl (lv_at hl 0 rfl) ?_
    refine lv_if_ne (tgt := 40) C.hx C.hb dX5_comeTo_19 (by decide) (fun c_3 => ?_) (fun c_3 => ?_)
    · have h := gneg c_3 h
      refine lv_iconst (v := (1 : Int32)) C.hx C.hb dX5_comeTo_40 (by decide) ?_
      cases h
      exact gRetI C hr hlocks hP hS dX5_comeTo_41
    · have h := gpos c_3 h
      refine lv_aload_n C.hx C.hb dX5_comeTo_22 rfl (lv_at hl 1 rfl) ?_
      refine fd_X5_26_0 C hP dX5_comeTo_23 ?_
      refine fd_X5_138_3 C hP dX5_comeTo_26 ?_
      refine lv_iload_n C.hx C.hb dX5_comeTo_29 rfl (lv_at hl 2 rfl) ?_
      refine lv_iconst (v := (3 : Int32)) C.hx C.hb dX5_comeTo_30 (by decide) ?_
      refine std_24 (i := p1) (x := (3 : Int32)) C hD hP hS g_1 dX5_comeTo_31 (fun H locs hP hS => ?_)
      have hP : va_P D vwCl (dW cI cZ a (sA σ 24 (p1.toNatClampNeg) (3 : Int32))) H := hP
      refine lv_aload_n C.hx C.hb dX5_comeTo_32 rfl (lv_at hl 1 rfl) ?_
      refine fd_X5_44_0 C hP dX5_comeTo_33 ?_
      refine lv_iload_n C.hx C.hb dX5_comeTo_36 rfl (lv_at hl 2 rfl) ?_
      obtain ⟨u_4, e_4, h⟩ := gbind h
      refine gCallVv (wd := dW cI cZ a) (As := [.int p1]) (rest := []) C hml hl.1 hS (mX3_add_6 hD e_4) k_312 k_313 k_314 k_35 k_315 hdX3_add ⟨by show 0 + 1 ≤ 1; omega, by show 8 + (2 + 11) + (0) ≤ 21; omega⟩ hP 6 3 rfl rfl rfl rfl rfl (Nat.le_of_ble_eq_true rfl) dX5_comeTo_37 ⟨Nat.zero_le _, Nat.zero_le _⟩ (fun H locs hP hS => ?_)
      refine lv_iconst (v := (1 : Int32)) C.hx C.hb dX5_comeTo_40 (by decide) ?_
      cases h
      exact gRetI C hr hlocks hP hS dX5_comeTo_41
  · have h := gpos c_2 h
    refine lv_bipush (v := (-18 : Int32)) C.hx C.hb dX5_comeTo_15 (by decide) ?_
    cases h
    exact gRetI C hr hlocks hP hS dX5_comeTo_17
set_option maxHeartbeats 4000000 in
set_option maxRecDepth 100000 in
theorem mX5_comeToNeed {l : Launch} {D : va_G} {cI cZ : ClassId} {a : Nat → Nat} (hD : ∀ σ, va_D (dAd a) (dW cI cZ a σ)) {σ : MS} {p1 : Int32} {r : Int32} {σ' : MS} (h : sX5_comeToNeed σ p1 = some (r, σ')) : gMet (dW cI cZ a) (dAd a) l D cI cZ yX5_comeToNeed cX5_comeToNeed 4 (some .int) (305) (8827) [.ref (a 0), .int p1] σ r σ' := by
  refine gEnt (by decide) (Nat.le_of_ble_eq_true rfl) (fun p e s m below meth c ls C hml hr hlocks hP hl => ?_)
  have hl : lv_has ls 4 [(0, .ref (a 0)), (1, .int p1)] := hl
  have hS : va_S (dAd a) s.heap s.heap [] := va_S.rf
  rw [sX5_comeToNeed] at h
  refine lv_aload_n C.hx C.hb dX5_comeToNeed_0 rfl (lv_at hl 0 rfl) ?_
  refine fd_X5_12_0 C hP dX5_comeToNeed_1 ?_
  refine fd_X5_199_1 C hP dX5_comeToNeed_4 ?_
  refine lv_aload_n C.hx C.hb dX5_comeToNeed_7 rfl (lv_at hl 0 rfl) ?_
  refine fd_X5_26_0 C hP dX5_comeToNeed_8 ?_
  refine fd_X5_144_3 C hP dX5_comeToNeed_11 ?_
  refine lv_iload_n C.hx C.hb dX5_comeToNeed_14 rfl (lv_at hl 1 rfl) ?_
  obtain ⟨g_1, h⟩ := gsplit h
  refine ldd_22 (i := p1) C hP g_1 dX5_comeToNeed_15 ?_
  obtain ⟨g_2, h⟩ := gsplit h
  refine ldd_11 (i := (σ.1 22 (p1.toNatClampNeg))) C hP g_2 dX5_comeToNeed_16 ?_
  refine lv_istore_n (lv' := [(2, .int (σ.1 11 ((σ.1 22 (p1.toNatClampNeg)).toNatClampNeg))), (0, .ref (a 0)), (1, .int p1)]) C.hx C.hb dX5_comeToNeed_17 rfl hl (by decide) rfl (fun ls hl => ?_)
  refine lv_iload_n C.hx C.hb dX5_comeToNeed_18 rfl (lv_at hl 0 rfl) ?_
  refine lv_iconst (v := (-1 : Int32)) C.hx C.hb dX5_comeToNeed_19 (by decide) ?_
  refine lv_icmp_ne (tgt := 25) C.hx C.hb dX5_comeToNeed_20 (by decide) (fun c_3 => ?_) (fun c_3 => ?_)
  · have h := gneg c_3 h
    refine lv_aload_n C.hx C.hb dX5_comeToNeed_25 rfl (lv_at hl 1 rfl) ?_
    refine lv_aload_n C.hx C.hb dX5_comeToNeed_26 rfl (lv_at hl 1 rfl) ?_
    refine fd_X5_26_0 C hP dX5_comeToNeed_27 ?_
    refine fd_X5_98_3 C hP dX5_comeToNeed_30 ?_
    refine lv_iload_n C.hx C.hb dX5_comeToNeed_33 rfl (lv_at hl 2 rfl) ?_
    refine ldd_20 (i := p1) C hP g_1 dX5_comeToNeed_34 ?_
    refine lv_iload_n C.hx C.hb dX5_comeToNeed_35 rfl (lv_at hl 0 rfl) ?_
    refine lv_iconst (v := (0 : Int32)) C.hx C.hb dX5_comeToNeed_36 (by decide) ?_
    obtain ⟨⟨r_4, u_4⟩, e_4, h⟩ := gbind h
    refine gCallV (wd := dW cI cZ a) (As := [.int (σ.1 20 (p1.toNatClampNeg)), .int (σ.1 11 ((σ.1 22 (p1.toNatClampNeg)).toNatClampNeg)), .int (0 : Int32)]) (rest := []) C hml hl.1 hS (mRec_0 hD e_4) k_251 k_253 k_0 k_29 k_254 hdX5_ask ⟨by show 304 + 1 ≤ 305; omega, by show 8 + (8 + 11) + (8800) ≤ 8827; omega⟩ hP 0 5 rfl rfl rfl rfl rfl (Nat.le_of_ble_eq_true rfl) dX5_comeToNeed_37 ⟨Nat.zero_le _, Nat.zero_le _⟩ (fun H locs hP hS => ?_)
    refine lv_istore_n (lv' := [(3, .int r_4), (2, .int (σ.1 11 ((σ.1 22 (p1.toNatClampNeg)).toNatClampNeg))), (0, .ref (a 0)), (1, .int p1)]) C.hx C.hb dX5_comeToNeed_40 rfl hl (by decide) rfl (fun ls hl => ?_)
    refine lv_iload_n C.hx C.hb dX5_comeToNeed_41 rfl (lv_at hl 0 rfl) ?_
    refine lv_if_lt (tgt := 53) C.hx C.hb dX5_comeToNeed_42 (by decide) (fun c_5 => ?_) (fun c_5 => ?_)
    · have h := gpos c_5 h
      refine lv_iload_n C.hx C.hb dX5_comeToNeed_53 rfl (lv_at hl 0 rfl) ?_
      cases h
      exact gRetI C hr hlocks hP hS dX5_comeToNeed_54
    · have h := gneg c_5 h
      refine lv_aload_n C.hx C.hb dX5_comeToNeed_45 rfl (lv_at hl 2 rfl) ?_
      refine lv_iload_n C.hx C.hb dX5_comeToNeed_46 rfl (lv_at hl 0 rfl) ?_
      obtain ⟨⟨r_6, u_6⟩, e_6, h⟩ := gbind h
      refine gCallV (wd := dW cI cZ a) (As := [.int r_4]) (rest := []) C hml hl.1 hS (mX5_comeTo hD e_6) k_308 k_310 k_6 k_29 k_311 hdX5_comeTo ⟨by show 1 + 1 ≤ 305; omega, by show 8 + (3 + 11) + (21) ≤ 8827; omega⟩ hP 0 5 rfl rfl rfl rfl rfl (Nat.le_of_ble_eq_true rfl) dX5_comeToNeed_47 ⟨Nat.zero_le _, Nat.zero_le _⟩ (fun H locs hP hS => ?_)
      refine lv_goto (tgt := 54) C.hx C.hb dX5_comeToNeed_50 (by decide) ?_
      cases h
      exact gRetI C hr hlocks hP hS dX5_comeToNeed_54
  · have h := gpos c_3 h
    refine lv_iconst (v := (1 : Int32)) C.hx C.hb dX5_comeToNeed_23 (by decide) ?_
    cases h
    exact gRetI C hr hlocks hP hS dX5_comeToNeed_24
set_option maxHeartbeats 4000000 in
set_option maxRecDepth 100000 in
theorem mX3_add_5 {l : Launch} {D : va_G} {cI cZ : ClassId} {a : Nat → Nat} (hD : ∀ σ, va_D (dAd a) (dW cI cZ a σ)) {σ : MS} {p1 : Int32} {σ' : MS} (h : sX3_add_5 σ p1 = some σ') : gMetV (dW cI cZ a) (dAd a) l D cI cZ yX3_add cX3_add 2 (0) (0) [.ref (a 5), .int p1] σ σ' := by
  refine gEnt (by decide) (Nat.le_of_ble_eq_true rfl) (fun p e s m below meth c ls C hml hr hlocks hP hl => ?_)
  have hl : lv_has ls 2 [(0, .ref (a 5)), (1, .int p1)] := hl
  have hS : va_S (dAd a) s.heap s.heap [] := va_S.rf
  rw [sX3_add_5] at h
  refine lv_aload_n C.hx C.hb dX3_add_0 rfl (lv_at hl 0 rfl) ?_
  refine fd_X3_15_5 C hP dX3_add_1 ?_
  refine lv_sipush (v := (512 : Int32)) C.hx C.hb dX3_add_4 (by decide) ?_
  refine lv_icmp_ge (tgt := 27) C.hx C.hb dX3_add_7 (by decide) (fun c_1 => ?_) (fun c_1 => ?_)
  · have h := gpos c_1 h
    cases h
    exact gRetV C hr hlocks hP hS dX3_add_27
  · have h := gneg c_1 h
    refine lv_aload_n C.hx C.hb dX3_add_10 rfl (lv_at hl 0 rfl) ?_
    refine fd_X3_9_5 C hP dX3_add_11 ?_
    refine lv_aload_n C.hx C.hb dX3_add_14 rfl (lv_at hl 0 rfl) ?_
    refine lv_dup C.hx C.hb dX3_add_15 rfl ?_
    refine fd_X3_15_5 C hP dX3_add_16 ?_
    refine lv_dup_x1 C.hx C.hb dX3_add_19 rfl rfl ?_
    refine lv_iconst (v := (1 : Int32)) C.hx C.hb dX3_add_20 (by decide) ?_
    refine lv_iadd C.hx C.hb dX3_add_21 ?_
    refine pd_X3_15_5 (x := ((σ.2 4) + (1 : Int32))) C hD hP hS dX3_add_22 (fun H locs hP hS => ?_)
    have hP : va_P D vwCl (dW cI cZ a (sZ σ 4 ((σ.2 4) + (1 : Int32)))) H := hP
    refine lv_iload_n C.hx C.hb dX3_add_25 rfl (lv_at hl 1 rfl) ?_
    obtain ⟨g_2, h⟩ := gsplit h
    refine std_27 (i := (σ.2 4)) (x := p1) C hD hP hS g_2 dX3_add_26 (fun H locs hP hS => ?_)
    have hP : va_P D vwCl (dW cI cZ a (sA (sZ σ 4 ((σ.2 4) + (1 : Int32))) 27 ((σ.2 4).toNatClampNeg) p1)) H := hP
    cases h
    exact gRetV C hr hlocks hP hS dX3_add_27
set_option maxHeartbeats 4000000 in
set_option maxRecDepth 100000 in
theorem mX5_beginItself {l : Launch} {D : va_G} {cI cZ : ClassId} {a : Nat → Nat} (hD : ∀ σ, va_D (dAd a) (dW cI cZ a σ)) {σ : MS} {p1 : Int32} {r : Int32} {σ' : MS} (h : sX5_beginItself σ p1 = some (r, σ')) : gMet (dW cI cZ a) (dAd a) l D cI cZ yX5_beginItself cX5_beginItself 3 (some .int) (1) (22) [.ref (a 0), .int p1] σ r σ' := by
  refine gEnt (by decide) (Nat.le_of_ble_eq_true rfl) (fun p e s m below meth c ls C hml hr hlocks hP hl => ?_)
  have hl : lv_has ls 3 [(0, .ref (a 0)), (1, .int p1)] := hl
  have hS : va_S (dAd a) s.heap s.heap [] := va_S.rf
  rw [sX5_beginItself] at h
  refine lv_aload_n C.hx C.hb dX5_beginItself_0 rfl (lv_at hl 0 rfl) ?_
  refine fd_X5_26_0 C hP dX5_beginItself_1 ?_
  refine fd_X5_144_3 C hP dX5_beginItself_4 ?_
  refine lv_iload_n C.hx C.hb dX5_beginItself_7 rfl (lv_at hl 1 rfl) ?_
  obtain ⟨g_1, h⟩ := gsplit h
  refine ldd_22 (i := p1) C hP g_1 dX5_beginItself_8 ?_
  refine lv_istore_n (lv' := [(2, .int (σ.1 22 (p1.toNatClampNeg))), (0, .ref (a 0)), (1, .int p1)]) C.hx C.hb dX5_beginItself_9 rfl hl (by decide) rfl (fun ls hl => ?_)
  refine lv_aload_n C.hx C.hb dX5_beginItself_10 rfl (lv_at hl 1 rfl) ?_
  refine fd_X5_12_0 C hP dX5_beginItself_11 ?_
  refine lv_iload_n C.hx C.hb dX5_beginItself_14 rfl (lv_at hl 0 rfl) ?_
  refine lv_iconst (v := (2 : Int32)) C.hx C.hb dX5_beginItself_15 (by decide) ?_
  obtain ⟨r_2, e_2, h⟩ := gbind h
  refine gCallV (wd := dW cI cZ a) (As := [.int (σ.1 22 (p1.toNatClampNeg)), .int (2 : Int32)]) (rest := []) C hml hl.1 hS (mX0_hasFlag hD e_2) k_272 k_273 k_274 k_30 k_275 hdX0_hasFlag ⟨by show 0 + 1 ≤ 1; omega, by show 8 + (3 + 11) + (0) ≤ 22; omega⟩ hP 1 0 rfl rfl rfl rfl rfl (Nat.le_of_ble_eq_true rfl) dX5_beginItself_16 ⟨Nat.zero_le _, Nat.zero_le _⟩ (fun H locs hP hS => ?_)
  refine lv_if_eq (tgt := 25) C.hx C.hb dX5_beginItself_19 (by decide) (fun c_3 => ?_) (fun c_3 => ?_)
  · have h := gpos c_3 h
    refine lv_aload_n C.hx C.hb dX5_beginItself_25 rfl (lv_at hl 1 rfl) ?_
    refine fd_X5_40_0 C hP dX5_beginItself_26 ?_
    refine lv_aload_n C.hx C.hb dX5_beginItself_29 rfl (lv_at hl 1 rfl) ?_
    refine fd_X5_12_0 C hP dX5_beginItself_30 ?_
    refine fd_X5_141_1 C hP dX5_beginItself_33 ?_
    refine lv_iload_n C.hx C.hb dX5_beginItself_36 rfl (lv_at hl 0 rfl) ?_
    obtain ⟨g_4, h⟩ := gsplit h
    refine ldd_9 (i := (σ.1 22 (p1.toNatClampNeg))) C hP g_4 dX5_beginItself_37 ?_
    obtain ⟨u_5, e_5, h⟩ := gbind h
    refine gCallVv (wd := dW cI cZ a) (As := [.int (σ.1 9 ((σ.1 22 (p1.toNatClampNeg)).toNatClampNeg))]) (rest := []) C hml hl.1 hS (mX3_add_5 hD e_5) k_312 k_313 k_314 k_35 k_315 hdX3_add ⟨by show 0 + 1 ≤ 1; omega, by show 8 + (2 + 11) + (0) ≤ 22; omega⟩ hP 5 3 rfl rfl rfl rfl rfl (Nat.le_of_ble_eq_true rfl) dX5_beginItself_38 ⟨Nat.zero_le _, Nat.zero_le _⟩ (fun H locs hP hS => ?_)
    refine lv_aload_n C.hx C.hb dX5_beginItself_41 rfl (lv_at hl 1 rfl) ?_
    refine fd_X5_26_0 C hP dX5_beginItself_42 ?_
    refine fd_X5_138_3 C hP dX5_beginItself_45 ?_
    refine lv_iload_n C.hx C.hb dX5_beginItself_48 rfl (lv_at hl 2 rfl) ?_
    refine lv_iconst (v := (1 : Int32)) C.hx C.hb dX5_beginItself_49 (by decide) ?_
    refine std_24 (i := p1) (x := (1 : Int32)) C hD hP hS g_1 dX5_beginItself_50 (fun H locs hP hS => ?_)
    have hP : va_P D vwCl (dW cI cZ a (sA u_5 24 (p1.toNatClampNeg) (1 : Int32))) H := hP
    refine lv_aload_n C.hx C.hb dX5_beginItself_51 rfl (lv_at hl 1 rfl) ?_
    refine fd_X5_44_0 C hP dX5_beginItself_52 ?_
    refine lv_dup C.hx C.hb dX5_beginItself_55 rfl ?_
    refine fd_X5_147_6 C hP dX5_beginItself_56 ?_
    refine lv_iconst (v := (1 : Int32)) C.hx C.hb dX5_beginItself_59 (by decide) ?_
    refine lv_isub C.hx C.hb dX5_beginItself_60 ?_
    refine pd_X5_147_6 (x := ((u_5.2 5) - (1 : Int32))) C hD hP hS dX5_beginItself_61 (fun H locs hP hS => ?_)
    have hP : va_P D vwCl (dW cI cZ a (sZ (sA u_5 24 (p1.toNatClampNeg) (1 : Int32)) 5 ((u_5.2 5) - (1 : Int32)))) H := hP
    refine lv_iconst (v := (1 : Int32)) C.hx C.hb dX5_beginItself_64 (by decide) ?_
    cases h
    exact gRetI C hr hlocks hP hS dX5_beginItself_65
  · have h := gneg c_3 h
    refine lv_bipush (v := (-17 : Int32)) C.hx C.hb dX5_beginItself_22 (by decide) ?_
    cases h
    exact gRetI C hr hlocks hP hS dX5_beginItself_24
set_option maxHeartbeats 4000000 in
set_option maxRecDepth 100000 in
theorem mX5_goOn {l : Launch} {D : va_G} {cI cZ : ClassId} {a : Nat → Nat} (hD : ∀ σ, va_D (dAd a) (dW cI cZ a σ)) {σ : MS} {p1 : Int32} {r : Int32} {σ' : MS} (h : sX5_goOn σ p1 = some (r, σ')) : gMet (dW cI cZ a) (dAd a) l D cI cZ yX5_goOn cX5_goOn 2 (some .int) (306) (8850) [.ref (a 0), .int p1] σ r σ' := by
  refine gEnt (by decide) (Nat.le_of_ble_eq_true rfl) (fun p e s m below meth c ls C hml hr hlocks hP hl => ?_)
  have hl : lv_has ls 2 [(0, .ref (a 0)), (1, .int p1)] := hl
  have hS : va_S (dAd a) s.heap s.heap [] := va_S.rf
  rw [sX5_goOn] at h
  refine lv_aload_n C.hx C.hb dX5_goOn_0 rfl (lv_at hl 0 rfl) ?_
  refine fd_X5_26_0 C hP dX5_goOn_1 ?_
  refine fd_X5_138_3 C hP dX5_goOn_4 ?_
  refine lv_iload_n C.hx C.hb dX5_goOn_7 rfl (lv_at hl 1 rfl) ?_
  obtain ⟨g_1, h⟩ := gsplit h
  refine ldd_24 (i := p1) C hP g_1 dX5_goOn_8 ?_
  by_cases s_9_0 : (σ.1 24 (p1.toNatClampNeg)) = (3 : Int32)
  · have h := gpos s_9_0 h
    refine lv_lookup (tgt := 36) (off := 27) C.hx C.hb dX5_goOn_9 (by decide) (by rw [s_9_0]; rfl) (by decide) ?_
    refine lv_aload_n C.hx C.hb dX5_goOn_36 rfl (lv_at hl 0 rfl) ?_
    refine fd_X5_26_0 C hP dX5_goOn_37 ?_
    refine fd_X5_138_3 C hP dX5_goOn_40 ?_
    refine lv_iload_n C.hx C.hb dX5_goOn_43 rfl (lv_at hl 1 rfl) ?_
    refine lv_iconst (v := (4 : Int32)) C.hx C.hb dX5_goOn_44 (by decide) ?_
    refine std_24 (i := p1) (x := (4 : Int32)) C hD hP hS g_1 dX5_goOn_45 (fun H locs hP hS => ?_)
    have hP : va_P D vwCl (dW cI cZ a (sA σ 24 (p1.toNatClampNeg) (4 : Int32))) H := hP
    refine lv_aload_n C.hx C.hb dX5_goOn_46 rfl (lv_at hl 0 rfl) ?_
    refine fd_X5_26_0 C hP dX5_goOn_47 ?_
    refine fd_X5_135_3 C hP dX5_goOn_50 ?_
    refine lv_iload_n C.hx C.hb dX5_goOn_53 rfl (lv_at hl 1 rfl) ?_
    refine ldd_23 (i := p1) C hP g_1 dX5_goOn_54 ?_
    refine lv_iconst (v := (-1 : Int32)) C.hx C.hb dX5_goOn_55 (by decide) ?_
    refine lv_icmp_ne (tgt := 63) C.hx C.hb dX5_goOn_56 (by decide) (fun c_2 => ?_) (fun c_2 => ?_)
    · have h := gneg c_2 h
      refine lv_aload_n C.hx C.hb dX5_goOn_63 rfl (lv_at hl 0 rfl) ?_
      refine lv_aload_n C.hx C.hb dX5_goOn_64 rfl (lv_at hl 0 rfl) ?_
      refine fd_X5_26_0 C hP dX5_goOn_65 ?_
      refine fd_X5_135_3 C hP dX5_goOn_68 ?_
      refine lv_iload_n C.hx C.hb dX5_goOn_71 rfl (lv_at hl 1 rfl) ?_
      refine ldd_23 (i := p1) C hP g_1 dX5_goOn_72 ?_
      obtain ⟨⟨r_3, u_3⟩, e_3, h⟩ := gbind h
      refine gCallV (wd := dW cI cZ a) (As := [.int (σ.1 23 (p1.toNatClampNeg))]) (rest := []) C hml hl.1 hS (mX5_comeTo hD e_3) k_308 k_310 k_6 k_29 k_311 hdX5_comeTo ⟨by show 1 + 1 ≤ 306; omega, by show 8 + (3 + 11) + (21) ≤ 8850; omega⟩ hP 0 5 rfl rfl rfl rfl rfl (Nat.le_of_ble_eq_true rfl) dX5_goOn_73 ⟨Nat.zero_le _, Nat.zero_le _⟩ (fun H locs hP hS => ?_)
      cases h
      exact gRetI C hr hlocks hP hS dX5_goOn_76
    · have h := gpos c_2 h
      refine lv_iconst (v := (1 : Int32)) C.hx C.hb dX5_goOn_59 (by decide) ?_
      refine lv_goto (tgt := 76) C.hx C.hb dX5_goOn_60 (by decide) ?_
      cases h
      exact gRetI C hr hlocks hP hS dX5_goOn_76
  · have h := gneg s_9_0 h
    by_cases s_9_1 : (σ.1 24 (p1.toNatClampNeg)) = (4 : Int32)
    · have h := gpos s_9_1 h
      refine lv_lookup (tgt := 77) (off := 68) C.hx C.hb dX5_goOn_9 (by decide) (by rw [s_9_1]; rfl) (by decide) ?_
      refine lv_aload_n C.hx C.hb dX5_goOn_77 rfl (lv_at hl 0 rfl) ?_
      refine fd_X5_26_0 C hP dX5_goOn_78 ?_
      refine fd_X5_138_3 C hP dX5_goOn_81 ?_
      refine lv_iload_n C.hx C.hb dX5_goOn_84 rfl (lv_at hl 1 rfl) ?_
      refine lv_iconst (v := (5 : Int32)) C.hx C.hb dX5_goOn_85 (by decide) ?_
      refine std_24 (i := p1) (x := (5 : Int32)) C hD hP hS g_1 dX5_goOn_86 (fun H locs hP hS => ?_)
      have hP : va_P D vwCl (dW cI cZ a (sA σ 24 (p1.toNatClampNeg) (5 : Int32))) H := hP
      refine lv_aload_n C.hx C.hb dX5_goOn_87 rfl (lv_at hl 0 rfl) ?_
      refine lv_iload_n C.hx C.hb dX5_goOn_88 rfl (lv_at hl 1 rfl) ?_
      obtain ⟨⟨r_4, u_4⟩, e_4, h⟩ := gbind h
      refine gCallV (wd := dW cI cZ a) (As := [.int p1]) (rest := []) C hml hl.1 hS (mX5_comeToNeed hD e_4) k_320 k_322 k_8 k_29 k_323 hdX5_comeToNeed ⟨by show 305 + 1 ≤ 306; omega, by show 8 + (4 + 11) + (8827) ≤ 8850; omega⟩ hP 0 5 rfl rfl rfl rfl rfl (Nat.le_of_ble_eq_true rfl) dX5_goOn_89 ⟨Nat.zero_le _, Nat.zero_le _⟩ (fun H locs hP hS => ?_)
      cases h
      exact gRetI C hr hlocks hP hS dX5_goOn_92
    · have h := gneg s_9_1 h
      have t_0 : ((σ.1 24 (p1.toNatClampNeg))).toInt ≠ 3 := sw_ne (by decide) s_9_0
      have t_1 : ((σ.1 24 (p1.toNatClampNeg))).toInt ≠ 4 := sw_ne (by decide) s_9_1
      refine lv_lookup (tgt := 93) (off := 84) C.hx C.hb dX5_goOn_9 (by decide) (sw_lk2 t_0 t_1) (by decide) ?_
      refine lv_aload_n C.hx C.hb dX5_goOn_93 rfl (lv_at hl 0 rfl) ?_
      refine lv_iload_n C.hx C.hb dX5_goOn_94 rfl (lv_at hl 1 rfl) ?_
      obtain ⟨⟨r_5, u_5⟩, e_5, h⟩ := gbind h
      refine gCallV (wd := dW cI cZ a) (As := [.int p1]) (rest := []) C hml hl.1 hS (mX5_beginItself hD e_5) k_324 k_326 k_9 k_29 k_327 hdX5_beginItself ⟨by show 1 + 1 ≤ 306; omega, by show 8 + (3 + 11) + (22) ≤ 8850; omega⟩ hP 0 5 rfl rfl rfl rfl rfl (Nat.le_of_ble_eq_true rfl) dX5_goOn_95 ⟨Nat.zero_le _, Nat.zero_le _⟩ (fun H locs hP hS => ?_)
      cases h
      exact gRetI C hr hlocks hP hS dX5_goOn_98
set_option maxHeartbeats 4000000 in
set_option maxRecDepth 100000 in
theorem wX5_beginFrom_L58 {l : Launch} {D : va_G} {cI cZ : ClassId} {a : Nat → Nat} {p : Program} {e : Env} {s : State} {m : MethodId} {args : Array Value} {below : List Frame} {meth : Method} {c : Code} {fu : Nat} {r : Int32} {σ' : MS} (C : Cx RX5 cX5_beginFrom D cI cZ p s m args c) (hml : c.maxLocals = 4) (hr : meth.sig.returnType = (some .int)) (hlocks : meth.locks = false) (hD : ∀ σ, va_D (dAd a) (dW cI cZ a σ)) : ∀ (n : Nat) (σ : MS) (x1 : Int32) (x2 : Int32) (x3 : Int32) (H : Heap) (locs : List Loc) (ls : Array Slot), lv_has ls 4 [(0, .ref (a 0)), (1, .int x1), (2, .int x2), (3, .int x3)] → va_P D vwCl (dW cI cZ a σ) H → va_S (dAd a) s.heap H locs → sX5_beginFrom_L58 fu n σ x1 x2 x3 = some (r, σ') → W p l e (gRm (307) (8871)) s m args below meth c H locs 0 0 (MQ below (gQi (dW cI cZ a) (dAd a) D r σ') args s 0 0 (dAd a)) (F0 m 58 ls []) := by
  intro n
  induction n with
  | zero => intro σ x1 x2 x3 H locs ls hl hP hS h; cases h
  | succ n ih =>
    intro σ x1 x2 x3 H locs ls hl hP hS h
    rw [sX5_beginFrom_L58] at h
    refine lv_aload_n C.hx C.hb dX5_beginFrom_58 rfl (lv_at hl 0 rfl) ?_
    refine fd_X5_44_0 C hP dX5_beginFrom_59 ?_
    refine fd_X5_147_6 C hP dX5_beginFrom_62 ?_
    refine lv_if_le (tgt := 110) C.hx C.hb dX5_beginFrom_65 (by decide) (fun c_1 => ?_) (fun c_1 => ?_)
    · have h := gpos c_1 h
      refine lv_iload_n C.hx C.hb dX5_beginFrom_110 rfl (lv_at hl 2 rfl) ?_
      cases h
      exact gRetI C hr hlocks hP hS dX5_beginFrom_111
    · have h := gneg c_1 h
      refine lv_aload_n C.hx C.hb dX5_beginFrom_68 rfl (lv_at hl 0 rfl) ?_
      refine fd_X5_26_0 C hP dX5_beginFrom_69 ?_
      refine fd_X5_138_3 C hP dX5_beginFrom_72 ?_
      refine lv_aload_n C.hx C.hb dX5_beginFrom_75 rfl (lv_at hl 0 rfl) ?_
      refine fd_X5_44_0 C hP dX5_beginFrom_76 ?_
      refine fd_X5_148_6 C hP dX5_beginFrom_79 ?_
      refine lv_aload_n C.hx C.hb dX5_beginFrom_82 rfl (lv_at hl 0 rfl) ?_
      refine fd_X5_44_0 C hP dX5_beginFrom_83 ?_
      refine fd_X5_147_6 C hP dX5_beginFrom_86 ?_
      refine lv_iconst (v := (1 : Int32)) C.hx C.hb dX5_beginFrom_89 (by decide) ?_
      refine lv_isub C.hx C.hb dX5_beginFrom_90 ?_
      obtain ⟨g_2, h⟩ := gsplit h
      refine ldd_28 (i := ((σ.2 5) - (1 : Int32))) C hP g_2 dX5_beginFrom_91 ?_
      refine lv_iconst (v := (2 : Int32)) C.hx C.hb dX5_beginFrom_92 (by decide) ?_
      obtain ⟨g_3, h⟩ := gsplit h
      refine std_24 (i := (σ.1 28 (((σ.2 5) - (1 : Int32)).toNatClampNeg))) (x := (2 : Int32)) C hD hP hS g_3 dX5_beginFrom_93 (fun H locs hP hS => ?_)
      have hP : va_P D vwCl (dW cI cZ a (sA σ 24 ((σ.1 28 (((σ.2 5) - (1 : Int32)).toNatClampNeg)).toNatClampNeg) (2 : Int32))) H := hP
      refine lv_aload_n C.hx C.hb dX5_beginFrom_94 rfl (lv_at hl 0 rfl) ?_
      refine fd_X5_44_0 C hP dX5_beginFrom_95 ?_
      refine lv_dup C.hx C.hb dX5_beginFrom_98 rfl ?_
      refine fd_X5_147_6 C hP dX5_beginFrom_99 ?_
      refine lv_iconst (v := (1 : Int32)) C.hx C.hb dX5_beginFrom_102 (by decide) ?_
      refine lv_isub C.hx C.hb dX5_beginFrom_103 ?_
      refine pd_X5_147_6 (x := ((σ.2 5) - (1 : Int32))) C hD hP hS dX5_beginFrom_104 (fun H locs hP hS => ?_)
      have hP : va_P D vwCl (dW cI cZ a (sZ (sA σ 24 ((σ.1 28 (((σ.2 5) - (1 : Int32)).toNatClampNeg)).toNatClampNeg) (2 : Int32)) 5 ((σ.2 5) - (1 : Int32)))) H := hP
      refine lv_goto (tgt := 58) C.hx C.hb dX5_beginFrom_107 (by decide) ?_
      exact ih (sZ (sA σ 24 ((σ.1 28 (((σ.2 5) - (1 : Int32)).toNatClampNeg)).toNatClampNeg) (2 : Int32)) 5 ((σ.2 5) - (1 : Int32))) x1 x2 x3 _ _ ls (lv_sub hl [0, 1, 2, 3] rfl) hP hS h
set_option maxHeartbeats 4000000 in
set_option maxRecDepth 100000 in
theorem wX5_beginFrom_L8 {l : Launch} {D : va_G} {cI cZ : ClassId} {a : Nat → Nat} {p : Program} {e : Env} {s : State} {m : MethodId} {args : Array Value} {below : List Frame} {meth : Method} {c : Code} {fu : Nat} {r : Int32} {σ' : MS} (C : Cx RX5 cX5_beginFrom D cI cZ p s m args c) (hml : c.maxLocals = 4) (hr : meth.sig.returnType = (some .int)) (hlocks : meth.locks = false) (hD : ∀ σ, va_D (dAd a) (dW cI cZ a σ)) : ∀ (n : Nat) (σ : MS) (x1 : Int32) (x2 : Int32) (x3 : Int32) (H : Heap) (locs : List Loc) (ls : Array Slot), lv_has ls 4 [(0, .ref (a 0)), (1, .int x1), (2, .int x2), (3, .int x3)] → va_P D vwCl (dW cI cZ a σ) H → va_S (dAd a) s.heap H locs → sX5_beginFrom_L8 fu n σ x1 x2 x3 = some (r, σ') → W p l e (gRm (307) (8871)) s m args below meth c H locs 0 0 (MQ below (gQi (dW cI cZ a) (dAd a) D r σ') args s 0 0 (dAd a)) (F0 m 8 ls []) := by
  intro n
  induction n with
  | zero => intro σ x1 x2 x3 H locs ls hl hP hS h; cases h
  | succ n ih =>
    intro σ x1 x2 x3 H locs ls hl hP hS h
    rw [sX5_beginFrom_L8] at h
    refine lv_iload_n C.hx C.hb dX5_beginFrom_8 rfl (lv_at hl 3 rfl) ?_
    refine lv_sipush (v := (1536 : Int32)) C.hx C.hb dX5_beginFrom_9 (by decide) ?_
    refine lv_icmp_ge (tgt := 58) C.hx C.hb dX5_beginFrom_12 (by decide) (fun c_1 => ?_) (fun c_1 => ?_)
    · have h := gpos c_1 h
      exact wX5_beginFrom_L58 C hml hr hlocks hD fu σ x1 x2 x3 _ _ ls (lv_sub hl [0, 1, 2, 3] rfl) hP hS h
    · have h := gneg c_1 h
      refine lv_iload_n C.hx C.hb dX5_beginFrom_15 rfl (lv_at hl 2 rfl) ?_
      refine lv_iconst (v := (1 : Int32)) C.hx C.hb dX5_beginFrom_16 (by decide) ?_
      refine lv_icmp_ne (tgt := 58) C.hx C.hb dX5_beginFrom_17 (by decide) (fun c_2 => ?_) (fun c_2 => ?_)
      · have h := gneg c_2 h
        exact wX5_beginFrom_L58 C hml hr hlocks hD fu σ x1 x2 x3 _ _ ls (lv_sub hl [0, 1, 2, 3] rfl) hP hS h
      · have h := gpos c_2 h
        refine lv_aload_n C.hx C.hb dX5_beginFrom_20 rfl (lv_at hl 0 rfl) ?_
        refine fd_X5_44_0 C hP dX5_beginFrom_21 ?_
        refine fd_X5_147_6 C hP dX5_beginFrom_24 ?_
        refine lv_if_le (tgt := 58) C.hx C.hb dX5_beginFrom_27 (by decide) (fun c_3 => ?_) (fun c_3 => ?_)
        · have h := gpos c_3 h
          exact wX5_beginFrom_L58 C hml hr hlocks hD fu σ x1 x2 x3 _ _ ls (lv_sub hl [0, 1, 2, 3] rfl) hP hS h
        · have h := gneg c_3 h
          refine lv_aload_n C.hx C.hb dX5_beginFrom_30 rfl (lv_at hl 0 rfl) ?_
          refine lv_aload_n C.hx C.hb dX5_beginFrom_31 rfl (lv_at hl 0 rfl) ?_
          refine fd_X5_44_0 C hP dX5_beginFrom_32 ?_
          refine fd_X5_148_6 C hP dX5_beginFrom_35 ?_
          refine lv_aload_n C.hx C.hb dX5_beginFrom_38 rfl (lv_at hl 0 rfl) ?_
          refine fd_X5_44_0 C hP dX5_beginFrom_39 ?_
          refine fd_X5_147_6 C hP dX5_beginFrom_42 ?_
          refine lv_iconst (v := (1 : Int32)) C.hx C.hb dX5_beginFrom_45 (by decide) ?_
          refine lv_isub C.hx C.hb dX5_beginFrom_46 ?_
          obtain ⟨g_4, h⟩ := gsplit h
          refine ldd_28 (i := ((σ.2 5) - (1 : Int32))) C hP g_4 dX5_beginFrom_47 ?_
          obtain ⟨⟨r_5, u_5⟩, e_5, h⟩ := gbind h
          refine gCallV (wd := dW cI cZ a) (As := [.int (σ.1 28 (((σ.2 5) - (1 : Int32)).toNatClampNeg))]) (rest := []) C hml hl.1 hS (mX5_goOn hD e_5) k_316 k_318 k_7 k_29 k_319 hdX5_goOn ⟨by show 306 + 1 ≤ 307; omega, by show 8 + (2 + 11) + (8850) ≤ 8871; omega⟩ hP 0 5 rfl rfl rfl rfl rfl (Nat.le_of_ble_eq_true rfl) dX5_beginFrom_48 ⟨Nat.zero_le _, Nat.zero_le _⟩ (fun H locs hP hS => ?_)
          refine lv_istore_n (lv' := [(2, .int r_5), (0, .ref (a 0)), (1, .int x1), (3, .int x3)]) C.hx C.hb dX5_beginFrom_51 rfl hl (by decide) rfl (fun ls hl => ?_)
          refine lv_iinc (v := (x3 + (1 : Int32))) (lv' := [(3, .int (x3 + (1 : Int32))), (2, .int r_5), (0, .ref (a 0)), (1, .int x1)]) C.hx C.hb dX5_beginFrom_52 hl (k := 3) rfl rfl (by decide) rfl (fun ls hl => ?_)
          refine lv_goto (tgt := 8) C.hx C.hb dX5_beginFrom_55 (by decide) ?_
          exact ih u_5 x1 r_5 (x3 + (1 : Int32)) _ _ ls (lv_sub hl [2, 3, 1, 0] rfl) hP hS h
set_option maxHeartbeats 4000000 in
set_option maxRecDepth 100000 in
theorem mX5_beginFrom {l : Launch} {D : va_G} {cI cZ : ClassId} {a : Nat → Nat} (hD : ∀ σ, va_D (dAd a) (dW cI cZ a σ)) {fu : Nat} {σ : MS} {p1 : Int32} {r : Int32} {σ' : MS} (h : sX5_beginFrom fu σ p1 = some (r, σ')) : gMet (dW cI cZ a) (dAd a) l D cI cZ yX5_beginFrom cX5_beginFrom 4 (some .int) (307) (8871) [.ref (a 0), .int p1] σ r σ' := by
  refine gEnt (by decide) (Nat.le_of_ble_eq_true rfl) (fun p e s m below meth c ls C hml hr hlocks hP hl => ?_)
  have hl : lv_has ls 4 [(0, .ref (a 0)), (1, .int p1)] := hl
  have hS : va_S (dAd a) s.heap s.heap [] := va_S.rf
  rw [sX5_beginFrom] at h
  refine lv_aload_n C.hx C.hb dX5_beginFrom_0 rfl (lv_at hl 0 rfl) ?_
  refine lv_iload_n C.hx C.hb dX5_beginFrom_1 rfl (lv_at hl 1 rfl) ?_
  obtain ⟨⟨r_1, u_1⟩, e_1, h⟩ := gbind h
  refine gCallV (wd := dW cI cZ a) (As := [.int p1]) (rest := []) C hml hl.1 hS (mX5_comeTo hD e_1) k_308 k_310 k_6 k_29 k_311 hdX5_comeTo ⟨by show 1 + 1 ≤ 307; omega, by show 8 + (3 + 11) + (21) ≤ 8871; omega⟩ hP 0 5 rfl rfl rfl rfl rfl (Nat.le_of_ble_eq_true rfl) dX5_beginFrom_2 ⟨Nat.zero_le _, Nat.zero_le _⟩ (fun H locs hP hS => ?_)
  refine lv_istore_n (lv' := [(2, .int r_1), (0, .ref (a 0)), (1, .int p1)]) C.hx C.hb dX5_beginFrom_5 rfl hl (by decide) rfl (fun ls hl => ?_)
  refine lv_iconst (v := (0 : Int32)) C.hx C.hb dX5_beginFrom_6 (by decide) ?_
  refine lv_istore_n (lv' := [(3, .int (0 : Int32)), (2, .int r_1), (0, .ref (a 0)), (1, .int p1)]) C.hx C.hb dX5_beginFrom_7 rfl hl (by decide) rfl (fun ls hl => ?_)
  exact wX5_beginFrom_L8 C hml hr hlocks hD fu u_1 p1 r_1 (0 : Int32) _ _ ls (lv_sub hl [2, 3, 1, 0] rfl) hP hS h
set_option maxHeartbeats 4000000 in
set_option maxRecDepth 100000 in
theorem mX5_begin {l : Launch} {D : va_G} {cI cZ : ClassId} {a : Nat → Nat} (hD : ∀ σ, va_D (dAd a) (dW cI cZ a σ)) {fu : Nat} {σ : MS} {p1 : Int32} {r : Int32} {σ' : MS} (h : sX5_begin fu σ p1 = some (r, σ')) : gMet (dW cI cZ a) (dAd a) l D cI cZ yX5_begin cX5_begin 2 (some .int) (308) (8894) [.ref (a 0), .int p1] σ r σ' := by
  refine gEnt (by decide) (Nat.le_of_ble_eq_true rfl) (fun p e s m below meth c ls C hml hr hlocks hP hl => ?_)
  have hl : lv_has ls 2 [(0, .ref (a 0)), (1, .int p1)] := hl
  have hS : va_S (dAd a) s.heap s.heap [] := va_S.rf
  rw [sX5_begin] at h
  refine lv_aload_n C.hx C.hb dX5_begin_0 rfl (lv_at hl 0 rfl) ?_
  refine fd_X5_26_0 C hP dX5_begin_1 ?_
  refine lv_iload_n C.hx C.hb dX5_begin_4 rfl (lv_at hl 1 rfl) ?_
  obtain ⟨r_1, e_1, h⟩ := gbind h
  refine gCallV (wd := dW cI cZ a) (As := [.int p1]) (rest := []) C hml hl.1 hS (mX2_has hD e_1) k_300 k_301 k_302 k_33 k_303 hdX2_has ⟨by show 0 + 1 ≤ 308; omega, by show 8 + (2 + 11) + (0) ≤ 8894; omega⟩ hP 3 2 rfl rfl rfl rfl rfl (Nat.le_of_ble_eq_true rfl) dX5_begin_5 ⟨Nat.zero_le _, Nat.zero_le _⟩ (fun H locs hP hS => ?_)
  refine lv_if_ne (tgt := 14) C.hx C.hb dX5_begin_8 (by decide) (fun c_2 => ?_) (fun c_2 => ?_)
  · have h := gneg c_2 h
    refine lv_aload_n C.hx C.hb dX5_begin_14 rfl (lv_at hl 0 rfl) ?_
    refine fd_X5_19_0 C hP dX5_begin_15 ?_
    refine fd_X5_68_2 C hP dX5_begin_18 ?_
    refine lv_aload_n C.hx C.hb dX5_begin_21 rfl (lv_at hl 0 rfl) ?_
    refine fd_X5_26_0 C hP dX5_begin_22 ?_
    refine fd_X5_98_3 C hP dX5_begin_25 ?_
    refine lv_iload_n C.hx C.hb dX5_begin_28 rfl (lv_at hl 1 rfl) ?_
    obtain ⟨g_3, h⟩ := gsplit h
    refine ldd_20 (i := p1) C hP g_3 dX5_begin_29 ?_
    obtain ⟨g_4, h⟩ := gsplit h
    refine ldd_15 (i := (σ.1 20 (p1.toNatClampNeg))) C hP g_4 dX5_begin_30 ?_
    refine lv_if_eq (tgt := 37) C.hx C.hb dX5_begin_31 (by decide) (fun c_5 => ?_) (fun c_5 => ?_)
    · have h := gpos c_5 h
      refine lv_aload_n C.hx C.hb dX5_begin_37 rfl (lv_at hl 0 rfl) ?_
      refine lv_iload_n C.hx C.hb dX5_begin_38 rfl (lv_at hl 1 rfl) ?_
      obtain ⟨⟨r_6, u_6⟩, e_6, h⟩ := gbind h
      refine gCallV (wd := dW cI cZ a) (As := [.int p1]) (rest := []) C hml hl.1 hS (mX5_beginFrom hD e_6) k_304 k_306 k_5 k_29 k_307 hdX5_beginFrom ⟨by show 307 + 1 ≤ 308; omega, by show 8 + (4 + 11) + (8871) ≤ 8894; omega⟩ hP 0 5 rfl rfl rfl rfl rfl (Nat.le_of_ble_eq_true rfl) dX5_begin_39 ⟨Nat.zero_le _, Nat.zero_le _⟩ (fun H locs hP hS => ?_)
      cases h
      exact gRetI C hr hlocks hP hS dX5_begin_42
    · have h := gneg c_5 h
      refine lv_bipush (v := (-3 : Int32)) C.hx C.hb dX5_begin_34 (by decide) ?_
      cases h
      exact gRetI C hr hlocks hP hS dX5_begin_36
  · have h := gpos c_2 h
    refine lv_bipush (v := (-2 : Int32)) C.hx C.hb dX5_begin_11 (by decide) ?_
    cases h
    exact gRetI C hr hlocks hP hS dX5_begin_13
set_option maxHeartbeats 4000000 in
set_option maxRecDepth 100000 in
theorem mX4_areFull {l : Launch} {D : va_G} {cI cZ : ClassId} {a : Nat → Nat} (hD : ∀ σ, va_D (dAd a) (dW cI cZ a σ)) {σ : MS} {r : Int32} (h : sX4_areFull σ = some r) : gMet (dW cI cZ a) (dAd a) l D cI cZ yX4_areFull cX4_areFull 1 (some .boolean) (0) (0) [.ref (a 4)] σ r σ := by
  refine gEnt (by decide) (Nat.le_of_ble_eq_true rfl) (fun p e s m below meth c ls C hml hr hlocks hP hl => ?_)
  have hl : lv_has ls 1 [(0, .ref (a 4))] := hl
  have hS : va_S (dAd a) s.heap s.heap [] := va_S.rf
  rw [sX4_areFull] at h
  refine lv_aload_n C.hx C.hb dX4_areFull_0 rfl (lv_at hl 0 rfl) ?_
  refine fd_X4_19_4 C hP dX4_areFull_1 ?_
  refine lv_bipush (v := (60 : Int32)) C.hx C.hb dX4_areFull_4 (by decide) ?_
  refine lv_icmp_lt (tgt := 13) C.hx C.hb dX4_areFull_6 (by decide) (fun c_1 => ?_) (fun c_1 => ?_)
  · have h := gpos c_1 h
    refine lv_iconst (v := (0 : Int32)) C.hx C.hb dX4_areFull_13 (by decide) ?_
    cases h
    exact gRetZ C hr hlocks (by decide) hP hS dX4_areFull_14
  · have h := gneg c_1 h
    refine lv_iconst (v := (1 : Int32)) C.hx C.hb dX4_areFull_9 (by decide) ?_
    refine lv_goto (tgt := 14) C.hx C.hb dX4_areFull_10 (by decide) ?_
    cases h
    exact gRetZ C hr hlocks (by decide) hP hS dX4_areFull_14
set_option maxHeartbeats 4000000 in
set_option maxRecDepth 100000 in
theorem mX4_add {l : Launch} {D : va_G} {cI cZ : ClassId} {a : Nat → Nat} (hD : ∀ σ, va_D (dAd a) (dW cI cZ a σ)) {σ : MS} {p1 : Int32} {r : Int32} {σ' : MS} (h : sX4_add σ p1 = some (r, σ')) : gMet (dW cI cZ a) (dAd a) l D cI cZ yX4_add cX4_add 2 (some .int) (1) (20) [.ref (a 4), .int p1] σ r σ' := by
  refine gEnt (by decide) (Nat.le_of_ble_eq_true rfl) (fun p e s m below meth c ls C hml hr hlocks hP hl => ?_)
  have hl : lv_has ls 2 [(0, .ref (a 4)), (1, .int p1)] := hl
  have hS : va_S (dAd a) s.heap s.heap [] := va_S.rf
  rw [sX4_add] at h
  refine lv_aload_n C.hx C.hb dX4_add_0 rfl (lv_at hl 0 rfl) ?_
  obtain ⟨r_1, e_1, h⟩ := gbind h
  refine gCallV (wd := dW cI cZ a) (As := []) (rest := []) C hml hl.1 hS (mX4_areFull hD e_1) k_340 k_333 k_334 k_34 k_335 hdX4_areFull ⟨by show 0 + 1 ≤ 1; omega, by show 8 + (1 + 11) + (0) ≤ 20; omega⟩ hP 4 4 rfl rfl rfl rfl rfl (Nat.le_of_ble_eq_true rfl) dX4_add_1 ⟨Nat.zero_le _, Nat.zero_le _⟩ (fun H locs hP hS => ?_)
  refine lv_if_eq (tgt := 10) C.hx C.hb dX4_add_4 (by decide) (fun c_2 => ?_) (fun c_2 => ?_)
  · have h := gpos c_2 h
    refine lv_aload_n C.hx C.hb dX4_add_10 rfl (lv_at hl 0 rfl) ?_
    refine fd_X4_9_4 C hP dX4_add_11 ?_
    refine lv_aload_n C.hx C.hb dX4_add_14 rfl (lv_at hl 0 rfl) ?_
    refine fd_X4_19_4 C hP dX4_add_15 ?_
    refine lv_iload_n C.hx C.hb dX4_add_18 rfl (lv_at hl 1 rfl) ?_
    obtain ⟨g_3, h⟩ := gsplit h
    refine std_25 (i := (σ.2 3)) (x := p1) C hD hP hS g_3 dX4_add_19 (fun H locs hP hS => ?_)
    have hP : va_P D vwCl (dW cI cZ a (sA σ 25 ((σ.2 3).toNatClampNeg) p1)) H := hP
    refine lv_aload_n C.hx C.hb dX4_add_20 rfl (lv_at hl 0 rfl) ?_
    refine lv_dup C.hx C.hb dX4_add_21 rfl ?_
    refine fd_X4_19_4 C hP dX4_add_22 ?_
    refine lv_dup_x1 C.hx C.hb dX4_add_25 rfl rfl ?_
    refine lv_iconst (v := (1 : Int32)) C.hx C.hb dX4_add_26 (by decide) ?_
    refine lv_iadd C.hx C.hb dX4_add_27 ?_
    refine pd_X4_19_4 (x := ((σ.2 3) + (1 : Int32))) C hD hP hS dX4_add_28 (fun H locs hP hS => ?_)
    have hP : va_P D vwCl (dW cI cZ a (sZ (sA σ 25 ((σ.2 3).toNatClampNeg) p1) 3 ((σ.2 3) + (1 : Int32)))) H := hP
    cases h
    exact gRetI C hr hlocks hP hS dX4_add_31
  · have h := gneg c_2 h
    refine lv_bipush (v := (-4 : Int32)) C.hx C.hb dX4_add_7 (by decide) ?_
    cases h
    exact gRetI C hr hlocks hP hS dX4_add_9
set_option maxHeartbeats 4000000 in
set_option maxRecDepth 100000 in
theorem mX5_thing {l : Launch} {D : va_G} {cI cZ : ClassId} {a : Nat → Nat} (hD : ∀ σ, va_D (dAd a) (dW cI cZ a σ)) {fu : Nat} {σ : MS} {p1 : Int32} {r : Int32} {σ' : MS} (h : sX5_thing fu σ p1 = some (r, σ')) : gMet (dW cI cZ a) (dAd a) l D cI cZ yX5_thing cX5_thing 3 (some .int) (308) (8894) [.ref (a 0), .int p1] σ r σ' := by
  refine gEnt (by decide) (Nat.le_of_ble_eq_true rfl) (fun p e s m below meth c ls C hml hr hlocks hP hl => ?_)
  have hl : lv_has ls 3 [(0, .ref (a 0)), (1, .int p1)] := hl
  have hS : va_S (dAd a) s.heap s.heap [] := va_S.rf
  rw [sX5_thing] at h
  refine lv_aload_n C.hx C.hb dX5_thing_0 rfl (lv_at hl 0 rfl) ?_
  refine fd_X5_26_0 C hP dX5_thing_1 ?_
  refine lv_iload_n C.hx C.hb dX5_thing_4 rfl (lv_at hl 1 rfl) ?_
  obtain ⟨r_1, e_1, h⟩ := gbind h
  refine gCallV (wd := dW cI cZ a) (As := [.int p1]) (rest := []) C hml hl.1 hS (mX2_has hD e_1) k_300 k_301 k_302 k_33 k_303 hdX2_has ⟨by show 0 + 1 ≤ 308; omega, by show 8 + (2 + 11) + (0) ≤ 8894; omega⟩ hP 3 2 rfl rfl rfl rfl rfl (Nat.le_of_ble_eq_true rfl) dX5_thing_5 ⟨Nat.zero_le _, Nat.zero_le _⟩ (fun H locs hP hS => ?_)
  refine lv_if_ne (tgt := 14) C.hx C.hb dX5_thing_8 (by decide) (fun c_2 => ?_) (fun c_2 => ?_)
  · have h := gneg c_2 h
    refine lv_aload_n C.hx C.hb dX5_thing_14 rfl (lv_at hl 0 rfl) ?_
    refine fd_X5_19_0 C hP dX5_thing_15 ?_
    refine fd_X5_68_2 C hP dX5_thing_18 ?_
    refine lv_aload_n C.hx C.hb dX5_thing_21 rfl (lv_at hl 0 rfl) ?_
    refine fd_X5_26_0 C hP dX5_thing_22 ?_
    refine fd_X5_98_3 C hP dX5_thing_25 ?_
    refine lv_iload_n C.hx C.hb dX5_thing_28 rfl (lv_at hl 1 rfl) ?_
    obtain ⟨g_3, h⟩ := gsplit h
    refine ldd_20 (i := p1) C hP g_3 dX5_thing_29 ?_
    obtain ⟨g_4, h⟩ := gsplit h
    refine ldd_15 (i := (σ.1 20 (p1.toNatClampNeg))) C hP g_4 dX5_thing_30 ?_
    refine lv_if_eq (tgt := 37) C.hx C.hb dX5_thing_31 (by decide) (fun c_5 => ?_) (fun c_5 => ?_)
    · have h := gpos c_5 h
      refine lv_aload_n C.hx C.hb dX5_thing_37 rfl (lv_at hl 0 rfl) ?_
      refine fd_X5_33_0 C hP dX5_thing_38 ?_
      obtain ⟨r_6, e_6, h⟩ := gbind h
      refine gCallV (wd := dW cI cZ a) (As := []) (rest := []) C hml hl.1 hS (mX4_areFull hD e_6) k_332 k_333 k_334 k_34 k_335 hdX4_areFull ⟨by show 0 + 1 ≤ 308; omega, by show 8 + (1 + 11) + (0) ≤ 8894; omega⟩ hP 4 4 rfl rfl rfl rfl rfl (Nat.le_of_ble_eq_true rfl) dX5_thing_41 ⟨Nat.zero_le _, Nat.zero_le _⟩ (fun H locs hP hS => ?_)
      refine lv_if_eq (tgt := 50) C.hx C.hb dX5_thing_44 (by decide) (fun c_7 => ?_) (fun c_7 => ?_)
      · have h := gpos c_7 h
        refine lv_aload_n C.hx C.hb dX5_thing_50 rfl (lv_at hl 0 rfl) ?_
        refine lv_iload_n C.hx C.hb dX5_thing_51 rfl (lv_at hl 1 rfl) ?_
        obtain ⟨⟨r_8, u_8⟩, e_8, h⟩ := gbind h
        refine gCallV (wd := dW cI cZ a) (As := [.int p1]) (rest := []) C hml hl.1 hS (mX5_beginFrom hD e_8) k_304 k_306 k_5 k_29 k_307 hdX5_beginFrom ⟨by show 307 + 1 ≤ 308; omega, by show 8 + (4 + 11) + (8871) ≤ 8894; omega⟩ hP 0 5 rfl rfl rfl rfl rfl (Nat.le_of_ble_eq_true rfl) dX5_thing_52 ⟨Nat.zero_le _, Nat.zero_le _⟩ (fun H locs hP hS => ?_)
        refine lv_istore_n (lv' := [(2, .int r_8), (0, .ref (a 0)), (1, .int p1)]) C.hx C.hb dX5_thing_55 rfl hl (by decide) rfl (fun ls hl => ?_)
        refine lv_iload_n C.hx C.hb dX5_thing_56 rfl (lv_at hl 0 rfl) ?_
        refine lv_iconst (v := (1 : Int32)) C.hx C.hb dX5_thing_57 (by decide) ?_
        refine lv_icmp_ne (tgt := 72) C.hx C.hb dX5_thing_58 (by decide) (fun c_9 => ?_) (fun c_9 => ?_)
        · have h := gneg c_9 h
          refine lv_iload_n C.hx C.hb dX5_thing_72 rfl (lv_at hl 0 rfl) ?_
          cases h
          exact gRetI C hr hlocks hP hS dX5_thing_73
        · have h := gpos c_9 h
          refine lv_aload_n C.hx C.hb dX5_thing_61 rfl (lv_at hl 1 rfl) ?_
          refine fd_X5_33_0 C hP dX5_thing_62 ?_
          refine lv_iload_n C.hx C.hb dX5_thing_65 rfl (lv_at hl 2 rfl) ?_
          obtain ⟨⟨r_10, u_10⟩, e_10, h⟩ := gbind h
          refine gCallV (wd := dW cI cZ a) (As := [.int p1]) (rest := []) C hml hl.1 hS (mX4_add hD e_10) k_336 k_337 k_338 k_34 k_339 hdX4_add ⟨by show 1 + 1 ≤ 308; omega, by show 8 + (2 + 11) + (20) ≤ 8894; omega⟩ hP 4 4 rfl rfl rfl rfl rfl (Nat.le_of_ble_eq_true rfl) dX5_thing_66 ⟨Nat.zero_le _, Nat.zero_le _⟩ (fun H locs hP hS => ?_)
          refine lv_goto (tgt := 73) C.hx C.hb dX5_thing_69 (by decide) ?_
          cases h
          exact gRetI C hr hlocks hP hS dX5_thing_73
      · have h := gneg c_7 h
        refine lv_bipush (v := (-4 : Int32)) C.hx C.hb dX5_thing_47 (by decide) ?_
        cases h
        exact gRetI C hr hlocks hP hS dX5_thing_49
    · have h := gneg c_5 h
      refine lv_bipush (v := (-3 : Int32)) C.hx C.hb dX5_thing_34 (by decide) ?_
      cases h
      exact gRetI C hr hlocks hP hS dX5_thing_36
  · have h := gpos c_2 h
    refine lv_bipush (v := (-2 : Int32)) C.hx C.hb dX5_thing_11 (by decide) ?_
    cases h
    exact gRetI C hr hlocks hP hS dX5_thing_13
set_option maxHeartbeats 4000000 in
set_option maxRecDepth 100000 in
theorem mX4_has {l : Launch} {D : va_G} {cI cZ : ClassId} {a : Nat → Nat} (hD : ∀ σ, va_D (dAd a) (dW cI cZ a σ)) {σ : MS} {p1 : Int32} {r : Int32} (h : sX4_has σ p1 = some r) : gMet (dW cI cZ a) (dAd a) l D cI cZ yX4_has cX4_has 2 (some .boolean) (0) (0) [.ref (a 4), .int p1] σ r σ := by
  refine gEnt (by decide) (Nat.le_of_ble_eq_true rfl) (fun p e s m below meth c ls C hml hr hlocks hP hl => ?_)
  have hl : lv_has ls 2 [(0, .ref (a 4)), (1, .int p1)] := hl
  have hS : va_S (dAd a) s.heap s.heap [] := va_S.rf
  rw [sX4_has] at h
  refine lv_iload_n C.hx C.hb dX4_has_0 rfl (lv_at hl 1 rfl) ?_
  refine lv_if_lt (tgt := 16) C.hx C.hb dX4_has_1 (by decide) (fun c_1 => ?_) (fun c_1 => ?_)
  · have h := gpos c_1 h
    refine lv_iconst (v := (0 : Int32)) C.hx C.hb dX4_has_16 (by decide) ?_
    cases h
    exact gRetZ C hr hlocks (by decide) hP hS dX4_has_17
  · have h := gneg c_1 h
    refine lv_iload_n C.hx C.hb dX4_has_4 rfl (lv_at hl 1 rfl) ?_
    refine lv_aload_n C.hx C.hb dX4_has_5 rfl (lv_at hl 0 rfl) ?_
    refine fd_X4_19_4 C hP dX4_has_6 ?_
    refine lv_icmp_ge (tgt := 16) C.hx C.hb dX4_has_9 (by decide) (fun c_2 => ?_) (fun c_2 => ?_)
    · have h := gpos c_2 h
      refine lv_iconst (v := (0 : Int32)) C.hx C.hb dX4_has_16 (by decide) ?_
      cases h
      exact gRetZ C hr hlocks (by decide) hP hS dX4_has_17
    · have h := gneg c_2 h
      refine lv_iconst (v := (1 : Int32)) C.hx C.hb dX4_has_12 (by decide) ?_
      refine lv_goto (tgt := 17) C.hx C.hb dX4_has_13 (by decide) ?_
      cases h
      exact gRetZ C hr hlocks (by decide) hP hS dX4_has_17
set_option maxHeartbeats 4000000 in
set_option maxRecDepth 100000 in
theorem wX2_isOrDescends_L5 {l : Launch} {D : va_G} {cI cZ : ClassId} {a : Nat → Nat} {p : Program} {e : Env} {s : State} {m : MethodId} {args : Array Value} {below : List Frame} {meth : Method} {c : Code} {fu : Nat} {r : Int32} (C : Cx RX2 cX2_isOrDescends D cI cZ p s m args c) (hml : c.maxLocals = 5) (hr : meth.sig.returnType = (some .boolean)) (hlocks : meth.locks = false) (hD : ∀ σ, va_D (dAd a) (dW cI cZ a σ)) : ∀ (n : Nat) (σ : MS) (x1 : Int32) (x2 : Int32) (x3 : Int32) (x4 : Int32) (H : Heap) (locs : List Loc) (ls : Array Slot), lv_has ls 5 [(0, .ref (a 3)), (1, .int x1), (2, .int x2), (3, .int x3), (4, .int x4)] → va_P D vwCl (dW cI cZ a σ) H → va_S (dAd a) s.heap H locs → sX2_isOrDescends_L5 fu n σ x1 x2 x3 x4 = some r → W p l e (gRm (0) (0)) s m args below meth c H locs 0 0 (MQ below (gQi (dW cI cZ a) (dAd a) D r σ) args s 0 0 (dAd a)) (F0 m 5 ls []) := by
  intro n
  induction n with
  | zero => intro σ x1 x2 x3 x4 H locs ls hl hP hS h; cases h
  | succ n ih =>
    intro σ x1 x2 x3 x4 H locs ls hl hP hS h
    rw [sX2_isOrDescends_L5] at h
    refine lv_iload C.hx C.hb dX2_isOrDescends_5 (lv_at hl 4 rfl) ?_
    refine lv_aload_n C.hx C.hb dX2_isOrDescends_7 rfl (lv_at hl 0 rfl) ?_
    refine fd_X2_27_3 C hP dX2_isOrDescends_8 ?_
    refine lv_icmp_ge (tgt := 39) C.hx C.hb dX2_isOrDescends_11 (by decide) (fun c_1 => ?_) (fun c_1 => ?_)
    · have h := gpos c_1 h
      refine lv_iconst (v := (0 : Int32)) C.hx C.hb dX2_isOrDescends_39 (by decide) ?_
      cases h
      exact gRetZ C hr hlocks (by decide) hP hS dX2_isOrDescends_40
    · have h := gneg c_1 h
      refine lv_iload_n C.hx C.hb dX2_isOrDescends_14 rfl (lv_at hl 3 rfl) ?_
      refine lv_iconst (v := (-1 : Int32)) C.hx C.hb dX2_isOrDescends_15 (by decide) ?_
      refine lv_icmp_eq (tgt := 39) C.hx C.hb dX2_isOrDescends_16 (by decide) (fun c_2 => ?_) (fun c_2 => ?_)
      · have h := gpos c_2 h
        refine lv_iconst (v := (0 : Int32)) C.hx C.hb dX2_isOrDescends_39 (by decide) ?_
        cases h
        exact gRetZ C hr hlocks (by decide) hP hS dX2_isOrDescends_40
      · have h := gneg c_2 h
        refine lv_iload_n C.hx C.hb dX2_isOrDescends_19 rfl (lv_at hl 3 rfl) ?_
        refine lv_iload_n C.hx C.hb dX2_isOrDescends_20 rfl (lv_at hl 2 rfl) ?_
        refine lv_icmp_ne (tgt := 26) C.hx C.hb dX2_isOrDescends_21 (by decide) (fun c_3 => ?_) (fun c_3 => ?_)
        · have h := gneg c_3 h
          refine lv_aload_n C.hx C.hb dX2_isOrDescends_26 rfl (lv_at hl 0 rfl) ?_
          refine fd_X2_21_3 C hP dX2_isOrDescends_27 ?_
          refine lv_iload_n C.hx C.hb dX2_isOrDescends_30 rfl (lv_at hl 3 rfl) ?_
          obtain ⟨g_4, h⟩ := gsplit h
          refine ldd_23 (i := x3) C hP g_4 dX2_isOrDescends_31 ?_
          refine lv_istore_n (lv' := [(3, .int (σ.1 23 (x3.toNatClampNeg))), (0, .ref (a 3)), (1, .int x1), (2, .int x2), (4, .int x4)]) C.hx C.hb dX2_isOrDescends_32 rfl hl (by decide) rfl (fun ls hl => ?_)
          refine lv_iinc (v := (x4 + (1 : Int32))) (lv' := [(4, .int (x4 + (1 : Int32))), (3, .int (σ.1 23 (x3.toNatClampNeg))), (0, .ref (a 3)), (1, .int x1), (2, .int x2)]) C.hx C.hb dX2_isOrDescends_33 hl (k := 4) rfl rfl (by decide) rfl (fun ls hl => ?_)
          refine lv_goto (tgt := 5) C.hx C.hb dX2_isOrDescends_36 (by decide) ?_
          exact ih σ x1 x2 (σ.1 23 (x3.toNatClampNeg)) (x4 + (1 : Int32)) _ _ ls (lv_sub hl [2, 3, 4, 1, 0] rfl) hP hS h
        · have h := gpos c_3 h
          refine lv_iconst (v := (1 : Int32)) C.hx C.hb dX2_isOrDescends_24 (by decide) ?_
          cases h
          exact gRetZ C hr hlocks (by decide) hP hS dX2_isOrDescends_25
set_option maxHeartbeats 4000000 in
set_option maxRecDepth 100000 in
theorem mX2_isOrDescends {l : Launch} {D : va_G} {cI cZ : ClassId} {a : Nat → Nat} (hD : ∀ σ, va_D (dAd a) (dW cI cZ a σ)) {fu : Nat} {σ : MS} {p1 p2 : Int32} {r : Int32} (h : sX2_isOrDescends fu σ p1 p2 = some r) : gMet (dW cI cZ a) (dAd a) l D cI cZ yX2_isOrDescends cX2_isOrDescends 5 (some .boolean) (0) (0) [.ref (a 3), .int p1, .int p2] σ r σ := by
  refine gEnt (by decide) (Nat.le_of_ble_eq_true rfl) (fun p e s m below meth c ls C hml hr hlocks hP hl => ?_)
  have hl : lv_has ls 5 [(0, .ref (a 3)), (1, .int p1), (2, .int p2)] := hl
  have hS : va_S (dAd a) s.heap s.heap [] := va_S.rf
  rw [sX2_isOrDescends] at h
  refine lv_iload_n C.hx C.hb dX2_isOrDescends_0 rfl (lv_at hl 1 rfl) ?_
  refine lv_istore_n (lv' := [(3, .int p1), (0, .ref (a 3)), (1, .int p1), (2, .int p2)]) C.hx C.hb dX2_isOrDescends_1 rfl hl (by decide) rfl (fun ls hl => ?_)
  refine lv_iconst (v := (0 : Int32)) C.hx C.hb dX2_isOrDescends_2 (by decide) ?_
  refine lv_istore (lv' := [(4, .int (0 : Int32)), (3, .int p1), (0, .ref (a 3)), (1, .int p1), (2, .int p2)]) C.hx C.hb dX2_isOrDescends_3 hl (by decide) rfl (fun ls hl => ?_)
  exact wX2_isOrDescends_L5 C hml hr hlocks hD fu σ p1 p2 p1 (0 : Int32) _ _ ls (lv_sub hl [2, 3, 4, 1, 0] rfl) hP hS h
set_option maxHeartbeats 4000000 in
set_option maxRecDepth 100000 in
theorem mX5_cast {l : Launch} {D : va_G} {cI cZ : ClassId} {a : Nat → Nat} (hD : ∀ σ, va_D (dAd a) (dW cI cZ a σ)) {fu : Nat} {σ : MS} {p1 p2 : Int32} {r : Int32} (h : sX5_cast fu σ p1 p2 = some r) : gMet (dW cI cZ a) (dAd a) l D cI cZ yX5_cast cX5_cast 3 (some .int) (1) (24) [.ref (a 0), .int p1, .int p2] σ r σ := by
  refine gEnt (by decide) (Nat.le_of_ble_eq_true rfl) (fun p e s m below meth c ls C hml hr hlocks hP hl => ?_)
  have hl : lv_has ls 3 [(0, .ref (a 0)), (1, .int p1), (2, .int p2)] := hl
  have hS : va_S (dAd a) s.heap s.heap [] := va_S.rf
  rw [sX5_cast] at h
  refine lv_aload_n C.hx C.hb dX5_cast_0 rfl (lv_at hl 0 rfl) ?_
  refine fd_X5_33_0 C hP dX5_cast_1 ?_
  refine lv_iload_n C.hx C.hb dX5_cast_4 rfl (lv_at hl 1 rfl) ?_
  obtain ⟨r_1, e_1, h⟩ := gbind h
  refine gCallV (wd := dW cI cZ a) (As := [.int p1]) (rest := []) C hml hl.1 hS (mX4_has hD e_1) k_345 k_346 k_347 k_34 k_348 hdX4_has ⟨by show 0 + 1 ≤ 1; omega, by show 8 + (2 + 11) + (0) ≤ 24; omega⟩ hP 4 4 rfl rfl rfl rfl rfl (Nat.le_of_ble_eq_true rfl) dX5_cast_5 ⟨Nat.zero_le _, Nat.zero_le _⟩ (fun H locs hP hS => ?_)
  refine lv_if_eq (tgt := 22) C.hx C.hb dX5_cast_8 (by decide) (fun c_2 => ?_) (fun c_2 => ?_)
  · have h := gpos c_2 h
    refine lv_bipush (v := (-2 : Int32)) C.hx C.hb dX5_cast_22 (by decide) ?_
    cases h
    exact gRetI C hr hlocks hP hS dX5_cast_24
  · have h := gneg c_2 h
    refine lv_aload_n C.hx C.hb dX5_cast_11 rfl (lv_at hl 0 rfl) ?_
    refine fd_X5_26_0 C hP dX5_cast_12 ?_
    refine lv_iload_n C.hx C.hb dX5_cast_15 rfl (lv_at hl 2 rfl) ?_
    obtain ⟨r_3, e_3, h⟩ := gbind h
    refine gCallV (wd := dW cI cZ a) (As := [.int p2]) (rest := []) C hml hl.1 hS (mX2_has hD e_3) k_300 k_301 k_302 k_33 k_303 hdX2_has ⟨by show 0 + 1 ≤ 1; omega, by show 8 + (2 + 11) + (0) ≤ 24; omega⟩ hP 3 2 rfl rfl rfl rfl rfl (Nat.le_of_ble_eq_true rfl) dX5_cast_16 ⟨Nat.zero_le _, Nat.zero_le _⟩ (fun H locs hP hS => ?_)
    refine lv_if_ne (tgt := 25) C.hx C.hb dX5_cast_19 (by decide) (fun c_4 => ?_) (fun c_4 => ?_)
    · have h := gneg c_4 h
      refine lv_aload_n C.hx C.hb dX5_cast_25 rfl (lv_at hl 0 rfl) ?_
      refine fd_X5_33_0 C hP dX5_cast_26 ?_
      refine fd_X5_112_4 C hP dX5_cast_29 ?_
      refine lv_iload_n C.hx C.hb dX5_cast_32 rfl (lv_at hl 1 rfl) ?_
      obtain ⟨g_5, h⟩ := gsplit h
      refine ldd_26 (i := p1) C hP g_5 dX5_cast_33 ?_
      refine lv_if_eq (tgt := 40) C.hx C.hb dX5_cast_34 (by decide) (fun c_6 => ?_) (fun c_6 => ?_)
      · have h := gpos c_6 h
        refine lv_aload_n C.hx C.hb dX5_cast_40 rfl (lv_at hl 0 rfl) ?_
        refine fd_X5_26_0 C hP dX5_cast_41 ?_
        refine lv_aload_n C.hx C.hb dX5_cast_44 rfl (lv_at hl 0 rfl) ?_
        refine fd_X5_33_0 C hP dX5_cast_45 ?_
        refine fd_X5_115_4 C hP dX5_cast_48 ?_
        refine lv_iload_n C.hx C.hb dX5_cast_51 rfl (lv_at hl 1 rfl) ?_
        refine ldd_25 (i := p1) C hP g_5 dX5_cast_52 ?_
        refine lv_iload_n C.hx C.hb dX5_cast_53 rfl (lv_at hl 2 rfl) ?_
        obtain ⟨r_7, e_7, h⟩ := gbind h
        refine gCallV (wd := dW cI cZ a) (As := [.int (σ.1 25 (p1.toNatClampNeg)), .int p2]) (rest := []) C hml hl.1 hS (mX2_isOrDescends hD e_7) k_349 k_350 k_351 k_33 k_352 hdX2_isOrDescends ⟨by show 0 + 1 ≤ 1; omega, by show 8 + (5 + 11) + (0) ≤ 24; omega⟩ hP 3 2 rfl rfl rfl rfl rfl (Nat.le_of_ble_eq_true rfl) dX5_cast_54 ⟨Nat.zero_le _, Nat.zero_le _⟩ (fun H locs hP hS => ?_)
        refine lv_if_eq (tgt := 64) C.hx C.hb dX5_cast_57 (by decide) (fun c_8 => ?_) (fun c_8 => ?_)
        · have h := gpos c_8 h
          refine lv_bipush (v := (-19 : Int32)) C.hx C.hb dX5_cast_64 (by decide) ?_
          cases h
          exact gRetI C hr hlocks hP hS dX5_cast_66
        · have h := gneg c_8 h
          refine lv_iconst (v := (1 : Int32)) C.hx C.hb dX5_cast_60 (by decide) ?_
          refine lv_goto (tgt := 66) C.hx C.hb dX5_cast_61 (by decide) ?_
          cases h
          exact gRetI C hr hlocks hP hS dX5_cast_66
      · have h := gneg c_6 h
        refine lv_bipush (v := (-3 : Int32)) C.hx C.hb dX5_cast_37 (by decide) ?_
        cases h
        exact gRetI C hr hlocks hP hS dX5_cast_39
    · have h := gpos c_4 h
      refine lv_bipush (v := (-2 : Int32)) C.hx C.hb dX5_cast_22 (by decide) ?_
      cases h
      exact gRetI C hr hlocks hP hS dX5_cast_24
set_option maxHeartbeats 4000000 in
set_option maxRecDepth 100000 in
theorem mX5_drop {l : Launch} {D : va_G} {cI cZ : ClassId} {a : Nat → Nat} (hD : ∀ σ, va_D (dAd a) (dW cI cZ a σ)) {σ : MS} {p1 : Int32} {r : Int32} {σ' : MS} (h : sX5_drop σ p1 = some (r, σ')) : gMet (dW cI cZ a) (dAd a) l D cI cZ yX5_drop cX5_drop 2 (some .int) (1) (21) [.ref (a 0), .int p1] σ r σ' := by
  refine gEnt (by decide) (Nat.le_of_ble_eq_true rfl) (fun p e s m below meth c ls C hml hr hlocks hP hl => ?_)
  have hl : lv_has ls 2 [(0, .ref (a 0)), (1, .int p1)] := hl
  have hS : va_S (dAd a) s.heap s.heap [] := va_S.rf
  rw [sX5_drop] at h
  refine lv_aload_n C.hx C.hb dX5_drop_0 rfl (lv_at hl 0 rfl) ?_
  refine fd_X5_33_0 C hP dX5_drop_1 ?_
  refine lv_iload_n C.hx C.hb dX5_drop_4 rfl (lv_at hl 1 rfl) ?_
  obtain ⟨r_1, e_1, h⟩ := gbind h
  refine gCallV (wd := dW cI cZ a) (As := [.int p1]) (rest := []) C hml hl.1 hS (mX4_has hD e_1) k_345 k_346 k_347 k_34 k_348 hdX4_has ⟨by show 0 + 1 ≤ 1; omega, by show 8 + (2 + 11) + (0) ≤ 21; omega⟩ hP 4 4 rfl rfl rfl rfl rfl (Nat.le_of_ble_eq_true rfl) dX5_drop_5 ⟨Nat.zero_le _, Nat.zero_le _⟩ (fun H locs hP hS => ?_)
  refine lv_if_ne (tgt := 14) C.hx C.hb dX5_drop_8 (by decide) (fun c_2 => ?_) (fun c_2 => ?_)
  · have h := gneg c_2 h
    refine lv_aload_n C.hx C.hb dX5_drop_14 rfl (lv_at hl 0 rfl) ?_
    refine fd_X5_33_0 C hP dX5_drop_15 ?_
    refine fd_X5_112_4 C hP dX5_drop_18 ?_
    refine lv_iload_n C.hx C.hb dX5_drop_21 rfl (lv_at hl 1 rfl) ?_
    obtain ⟨g_3, h⟩ := gsplit h
    refine ldd_26 (i := p1) C hP g_3 dX5_drop_22 ?_
    refine lv_if_eq (tgt := 29) C.hx C.hb dX5_drop_23 (by decide) (fun c_4 => ?_) (fun c_4 => ?_)
    · have h := gpos c_4 h
      refine lv_aload_n C.hx C.hb dX5_drop_29 rfl (lv_at hl 0 rfl) ?_
      refine fd_X5_33_0 C hP dX5_drop_30 ?_
      refine fd_X5_112_4 C hP dX5_drop_33 ?_
      refine lv_iload_n C.hx C.hb dX5_drop_36 rfl (lv_at hl 1 rfl) ?_
      refine lv_iconst (v := (1 : Int32)) C.hx C.hb dX5_drop_37 (by decide) ?_
      refine std_26 (i := p1) (x := (1 : Int32)) C hD hP hS g_3 dX5_drop_38 (fun H locs hP hS => ?_)
      have hP : va_P D vwCl (dW cI cZ a (sA σ 26 (p1.toNatClampNeg) (1 : Int32))) H := hP
      refine lv_iconst (v := (1 : Int32)) C.hx C.hb dX5_drop_39 (by decide) ?_
      cases h
      exact gRetI C hr hlocks hP hS dX5_drop_40
    · have h := gneg c_4 h
      refine lv_bipush (v := (-3 : Int32)) C.hx C.hb dX5_drop_26 (by decide) ?_
      cases h
      exact gRetI C hr hlocks hP hS dX5_drop_28
  · have h := gpos c_2 h
    refine lv_bipush (v := (-2 : Int32)) C.hx C.hb dX5_drop_11 (by decide) ?_
    cases h
    exact gRetI C hr hlocks hP hS dX5_drop_13
set_option maxHeartbeats 4000000 in
set_option maxRecDepth 100000 in
theorem wX1_hasLiveProgram_L2 {l : Launch} {D : va_G} {cI cZ : ClassId} {a : Nat → Nat} {p : Program} {e : Env} {s : State} {m : MethodId} {args : Array Value} {below : List Frame} {meth : Method} {c : Code} {fu : Nat} {r : Int32} (C : Cx RX1 cX1_hasLiveProgram D cI cZ p s m args c) (hml : c.maxLocals = 3) (hr : meth.sig.returnType = (some .boolean)) (hlocks : meth.locks = false) (hD : ∀ σ, va_D (dAd a) (dW cI cZ a σ)) : ∀ (n : Nat) (σ : MS) (x1 : Int32) (x2 : Int32) (H : Heap) (locs : List Loc) (ls : Array Slot), lv_has ls 3 [(0, .ref (a 2)), (1, .int x1), (2, .int x2)] → va_P D vwCl (dW cI cZ a σ) H → va_S (dAd a) s.heap H locs → sX1_hasLiveProgram_L2 fu n σ x1 x2 = some r → W p l e (gRm (0) (0)) s m args below meth c H locs 0 0 (MQ below (gQi (dW cI cZ a) (dAd a) D r σ) args s 0 0 (dAd a)) (F0 m 2 ls []) := by
  intro n
  induction n with
  | zero => intro σ x1 x2 H locs ls hl hP hS h; cases h
  | succ n ih =>
    intro σ x1 x2 H locs ls hl hP hS h
    rw [sX1_hasLiveProgram_L2] at h
    refine lv_iload_n C.hx C.hb dX1_hasLiveProgram_2 rfl (lv_at hl 2 rfl) ?_
    refine lv_aload_n C.hx C.hb dX1_hasLiveProgram_3 rfl (lv_at hl 0 rfl) ?_
    refine fd_X1_34_2 C hP dX1_hasLiveProgram_4 ?_
    refine lv_icmp_ge (tgt := 37) C.hx C.hb dX1_hasLiveProgram_7 (by decide) (fun c_1 => ?_) (fun c_1 => ?_)
    · have h := gpos c_1 h
      refine lv_iconst (v := (0 : Int32)) C.hx C.hb dX1_hasLiveProgram_37 (by decide) ?_
      cases h
      exact gRetZ C hr hlocks (by decide) hP hS dX1_hasLiveProgram_38
    · have h := gneg c_1 h
      refine lv_aload_n C.hx C.hb dX1_hasLiveProgram_10 rfl (lv_at hl 0 rfl) ?_
      refine fd_X1_9_2 C hP dX1_hasLiveProgram_11 ?_
      refine lv_iload_n C.hx C.hb dX1_hasLiveProgram_14 rfl (lv_at hl 2 rfl) ?_
      obtain ⟨g_2, h⟩ := gsplit h
      refine ldd_13 (i := x2) C hP g_2 dX1_hasLiveProgram_15 ?_
      refine lv_iload_n C.hx C.hb dX1_hasLiveProgram_16 rfl (lv_at hl 1 rfl) ?_
      refine lv_icmp_ne (tgt := 31) C.hx C.hb dX1_hasLiveProgram_17 (by decide) (fun c_3 => ?_) (fun c_3 => ?_)
      · have h := gneg c_3 h
        refine lv_iinc (v := (x2 + (1 : Int32))) (lv' := [(2, .int (x2 + (1 : Int32))), (0, .ref (a 2)), (1, .int x1)]) C.hx C.hb dX1_hasLiveProgram_31 hl (k := 2) rfl rfl (by decide) rfl (fun ls hl => ?_)
        refine lv_goto (tgt := 2) C.hx C.hb dX1_hasLiveProgram_34 (by decide) ?_
        exact ih σ x1 (x2 + (1 : Int32)) _ _ ls (lv_sub hl [1, 2, 0] rfl) hP hS h
      · have h := gpos c_3 h
        refine lv_aload_n C.hx C.hb dX1_hasLiveProgram_20 rfl (lv_at hl 0 rfl) ?_
        refine fd_X1_19_2 C hP dX1_hasLiveProgram_21 ?_
        refine lv_iload_n C.hx C.hb dX1_hasLiveProgram_24 rfl (lv_at hl 2 rfl) ?_
        refine ldd_15 (i := x2) C hP g_2 dX1_hasLiveProgram_25 ?_
        refine lv_if_ne (tgt := 31) C.hx C.hb dX1_hasLiveProgram_26 (by decide) (fun c_4 => ?_) (fun c_4 => ?_)
        · have h := gneg c_4 h
          refine lv_iinc (v := (x2 + (1 : Int32))) (lv' := [(2, .int (x2 + (1 : Int32))), (0, .ref (a 2)), (1, .int x1)]) C.hx C.hb dX1_hasLiveProgram_31 hl (k := 2) rfl rfl (by decide) rfl (fun ls hl => ?_)
          refine lv_goto (tgt := 2) C.hx C.hb dX1_hasLiveProgram_34 (by decide) ?_
          exact ih σ x1 (x2 + (1 : Int32)) _ _ ls (lv_sub hl [1, 2, 0] rfl) hP hS h
        · have h := gpos c_4 h
          refine lv_iconst (v := (1 : Int32)) C.hx C.hb dX1_hasLiveProgram_29 (by decide) ?_
          cases h
          exact gRetZ C hr hlocks (by decide) hP hS dX1_hasLiveProgram_30
set_option maxHeartbeats 4000000 in
set_option maxRecDepth 100000 in
theorem mX1_hasLiveProgram {l : Launch} {D : va_G} {cI cZ : ClassId} {a : Nat → Nat} (hD : ∀ σ, va_D (dAd a) (dW cI cZ a σ)) {fu : Nat} {σ : MS} {p1 : Int32} {r : Int32} (h : sX1_hasLiveProgram fu σ p1 = some r) : gMet (dW cI cZ a) (dAd a) l D cI cZ yX1_hasLiveProgram cX1_hasLiveProgram 3 (some .boolean) (0) (0) [.ref (a 2), .int p1] σ r σ := by
  refine gEnt (by decide) (Nat.le_of_ble_eq_true rfl) (fun p e s m below meth c ls C hml hr hlocks hP hl => ?_)
  have hl : lv_has ls 3 [(0, .ref (a 2)), (1, .int p1)] := hl
  have hS : va_S (dAd a) s.heap s.heap [] := va_S.rf
  rw [sX1_hasLiveProgram] at h
  refine lv_iconst (v := (0 : Int32)) C.hx C.hb dX1_hasLiveProgram_0 (by decide) ?_
  refine lv_istore_n (lv' := [(2, .int (0 : Int32)), (0, .ref (a 2)), (1, .int p1)]) C.hx C.hb dX1_hasLiveProgram_1 rfl hl (by decide) rfl (fun ls hl => ?_)
  exact wX1_hasLiveProgram_L2 C hml hr hlocks hD fu σ p1 (0 : Int32) _ _ ls (lv_sub hl [1, 2, 0] rfl) hP hS h
set_option maxHeartbeats 4000000 in
set_option maxRecDepth 100000 in
theorem mX5_letGo {l : Launch} {D : va_G} {cI cZ : ClassId} {a : Nat → Nat} (hD : ∀ σ, va_D (dAd a) (dW cI cZ a σ)) {fu : Nat} {σ : MS} {p1 : Int32} {r : Int32} {σ' : MS} (h : sX5_letGo fu σ p1 = some (r, σ')) : gMet (dW cI cZ a) (dAd a) l D cI cZ yX5_letGo cX5_letGo 2 (some .int) (1) (22) [.ref (a 0), .int p1] σ r σ' := by
  refine gEnt (by decide) (Nat.le_of_ble_eq_true rfl) (fun p e s m below meth c ls C hml hr hlocks hP hl => ?_)
  have hl : lv_has ls 2 [(0, .ref (a 0)), (1, .int p1)] := hl
  have hS : va_S (dAd a) s.heap s.heap [] := va_S.rf
  rw [sX5_letGo] at h
  refine lv_aload_n C.hx C.hb dX5_letGo_0 rfl (lv_at hl 0 rfl) ?_
  refine fd_X5_19_0 C hP dX5_letGo_1 ?_
  refine lv_iload_n C.hx C.hb dX5_letGo_4 rfl (lv_at hl 1 rfl) ?_
  obtain ⟨r_1, e_1, h⟩ := gbind h
  refine gCallV (wd := dW cI cZ a) (As := [.int p1]) (rest := []) C hml hl.1 hS (mX1_has hD e_1) k_224 k_225 k_226 k_31 k_227 hdX1_has ⟨by show 0 + 1 ≤ 1; omega, by show 8 + (2 + 11) + (0) ≤ 22; omega⟩ hP 2 1 rfl rfl rfl rfl rfl (Nat.le_of_ble_eq_true rfl) dX5_letGo_5 ⟨Nat.zero_le _, Nat.zero_le _⟩ (fun H locs hP hS => ?_)
  refine lv_if_ne (tgt := 14) C.hx C.hb dX5_letGo_8 (by decide) (fun c_2 => ?_) (fun c_2 => ?_)
  · have h := gneg c_2 h
    refine lv_aload_n C.hx C.hb dX5_letGo_14 rfl (lv_at hl 0 rfl) ?_
    refine fd_X5_19_0 C hP dX5_letGo_15 ?_
    refine fd_X5_68_2 C hP dX5_letGo_18 ?_
    refine lv_iload_n C.hx C.hb dX5_letGo_21 rfl (lv_at hl 1 rfl) ?_
    obtain ⟨g_3, h⟩ := gsplit h
    refine ldd_15 (i := p1) C hP g_3 dX5_letGo_22 ?_
    refine lv_if_ne (tgt := 37) C.hx C.hb dX5_letGo_23 (by decide) (fun c_4 => ?_) (fun c_4 => ?_)
    · have h := gneg c_4 h
      refine lv_bipush (v := (-3 : Int32)) C.hx C.hb dX5_letGo_37 (by decide) ?_
      cases h
      exact gRetI C hr hlocks hP hS dX5_letGo_39
    · have h := gpos c_4 h
      refine lv_aload_n C.hx C.hb dX5_letGo_26 rfl (lv_at hl 0 rfl) ?_
      refine fd_X5_19_0 C hP dX5_letGo_27 ?_
      refine lv_iload_n C.hx C.hb dX5_letGo_30 rfl (lv_at hl 1 rfl) ?_
      obtain ⟨r_5, e_5, h⟩ := gbind h
      refine gCallV (wd := dW cI cZ a) (As := [.int p1]) (rest := []) C hml hl.1 hS (mX1_hasLiveProgram hD e_5) k_361 k_362 k_363 k_31 k_364 hdX1_hasLiveProgram ⟨by show 0 + 1 ≤ 1; omega, by show 8 + (3 + 11) + (0) ≤ 22; omega⟩ hP 2 1 rfl rfl rfl rfl rfl (Nat.le_of_ble_eq_true rfl) dX5_letGo_31 ⟨Nat.zero_le _, Nat.zero_le _⟩ (fun H locs hP hS => ?_)
      refine lv_if_eq (tgt := 40) C.hx C.hb dX5_letGo_34 (by decide) (fun c_6 => ?_) (fun c_6 => ?_)
      · have h := gpos c_6 h
        refine lv_aload_n C.hx C.hb dX5_letGo_40 rfl (lv_at hl 0 rfl) ?_
        refine fd_X5_19_0 C hP dX5_letGo_41 ?_
        refine fd_X5_68_2 C hP dX5_letGo_44 ?_
        refine lv_iload_n C.hx C.hb dX5_letGo_47 rfl (lv_at hl 1 rfl) ?_
        refine lv_iconst (v := (1 : Int32)) C.hx C.hb dX5_letGo_48 (by decide) ?_
        refine std_15 (i := p1) (x := (1 : Int32)) C hD hP hS g_3 dX5_letGo_49 (fun H locs hP hS => ?_)
        have hP : va_P D vwCl (dW cI cZ a (sA σ 15 (p1.toNatClampNeg) (1 : Int32))) H := hP
        refine lv_iconst (v := (1 : Int32)) C.hx C.hb dX5_letGo_50 (by decide) ?_
        cases h
        exact gRetI C hr hlocks hP hS dX5_letGo_51
      · have h := gneg c_6 h
        refine lv_bipush (v := (-3 : Int32)) C.hx C.hb dX5_letGo_37 (by decide) ?_
        cases h
        exact gRetI C hr hlocks hP hS dX5_letGo_39
  · have h := gpos c_2 h
    refine lv_bipush (v := (-2 : Int32)) C.hx C.hb dX5_letGo_11 (by decide) ?_
    cases h
    exact gRetI C hr hlocks hP hS dX5_letGo_13
set_option maxHeartbeats 4000000 in
set_option maxRecDepth 100000 in
theorem wX5_markHeldBy_L2 {l : Launch} {D : va_G} {cI cZ : ClassId} {a : Nat → Nat} {p : Program} {e : Env} {s : State} {m : MethodId} {args : Array Value} {below : List Frame} {meth : Method} {c : Code} {fu : Nat} {σ' : MS} (C : Cx RX5 cX5_markHeldBy D cI cZ p s m args c) (hml : c.maxLocals = 5) (hr : meth.sig.returnType = none) (hlocks : meth.locks = false) (hD : ∀ σ, va_D (dAd a) (dW cI cZ a σ)) : ∀ (n : Nat) (σ : MS) (x1 : Int32) (x2 : Int32) (H : Heap) (locs : List Loc) (ls : Array Slot), lv_has ls 5 [(0, .ref (a 0)), (1, .int x1), (2, .int x2)] → va_P D vwCl (dW cI cZ a σ) H → va_S (dAd a) s.heap H locs → sX5_markHeldBy_L2 fu n σ x1 x2 = some σ' → W p l e (gRm (1) (21)) s m args below meth c H locs 0 0 (MQ below (gQv (dW cI cZ a) (dAd a) D σ') args s 0 0 (dAd a)) (F0 m 2 ls []) := by
  intro n
  induction n with
  | zero => intro σ x1 x2 H locs ls hl hP hS h; cases h
  | succ n ih =>
    intro σ x1 x2 H locs ls hl hP hS h
    rw [sX5_markHeldBy_L2] at h
    refine lv_iload_n C.hx C.hb dX5_markHeldBy_2 rfl (lv_at hl 2 rfl) ?_
    refine lv_bipush (v := (31 : Int32)) C.hx C.hb dX5_markHeldBy_3 (by decide) ?_
    refine lv_icmp_ge (tgt := 69) C.hx C.hb dX5_markHeldBy_5 (by decide) (fun c_1 => ?_) (fun c_1 => ?_)
    · have h := gpos c_1 h
      cases h
      exact gRetV C hr hlocks hP hS dX5_markHeldBy_69
    · have h := gneg c_1 h
      refine lv_aload_n C.hx C.hb dX5_markHeldBy_8 rfl (lv_at hl 0 rfl) ?_
      refine fd_X5_19_0 C hP dX5_markHeldBy_9 ?_
      refine fd_X5_87_2 C hP dX5_markHeldBy_12 ?_
      refine lv_iload_n C.hx C.hb dX5_markHeldBy_15 rfl (lv_at hl 1 rfl) ?_
      refine lv_iload_n C.hx C.hb dX5_markHeldBy_16 rfl (lv_at hl 2 rfl) ?_
      obtain ⟨r_2, e_2, h⟩ := gbind h
      refine gCallS (wd := dW cI cZ a) (As := [.int x1, .int x2]) (rest := [.ref (a 17)]) C hml hl.1 hS (mX5_slot hD e_2) k_244 k_245 k_29 k_246 hdX5_slot ⟨by show 0 + 1 ≤ 1; omega, by show 8 + (2 + 11) + (0) ≤ 21; omega⟩ hP rfl rfl (Nat.le_of_ble_eq_true rfl) dX5_markHeldBy_17 ⟨Nat.zero_le _, Nat.zero_le _⟩ (fun H locs hP hS => ?_)
      obtain ⟨g_3, h⟩ := gsplit h
      refine ldd_17 (i := r_2) C hP g_3 dX5_markHeldBy_20 ?_
      refine lv_istore_n (lv' := [(3, .int (σ.1 17 (r_2.toNatClampNeg))), (0, .ref (a 0)), (1, .int x1), (2, .int x2)]) C.hx C.hb dX5_markHeldBy_21 rfl hl (by decide) rfl (fun ls hl => ?_)
      refine lv_iload_n C.hx C.hb dX5_markHeldBy_22 rfl (lv_at hl 0 rfl) ?_
      refine lv_iconst (v := (-1 : Int32)) C.hx C.hb dX5_markHeldBy_23 (by decide) ?_
      refine lv_icmp_eq (tgt := 34) C.hx C.hb dX5_markHeldBy_24 (by decide) (fun c_4 => ?_) (fun c_4 => ?_)
      · have h := gpos c_4 h
        refine lv_aload_n C.hx C.hb dX5_markHeldBy_34 rfl (lv_at hl 1 rfl) ?_
        refine fd_X5_19_0 C hP dX5_markHeldBy_35 ?_
        refine fd_X5_163_2 C hP dX5_markHeldBy_38 ?_
        refine lv_iload_n C.hx C.hb dX5_markHeldBy_41 rfl (lv_at hl 2 rfl) ?_
        refine lv_iload_n C.hx C.hb dX5_markHeldBy_42 rfl (lv_at hl 3 rfl) ?_
        obtain ⟨r_5, e_5, h⟩ := gbind h
        refine gCallS (wd := dW cI cZ a) (As := [.int x1, .int x2]) (rest := [.ref (a 18)]) C hml hl.1 hS (mX5_slot hD e_5) k_244 k_245 k_29 k_246 hdX5_slot ⟨by show 0 + 1 ≤ 1; omega, by show 8 + (2 + 11) + (0) ≤ 21; omega⟩ hP rfl rfl (Nat.le_of_ble_eq_true rfl) dX5_markHeldBy_43 ⟨Nat.zero_le _, Nat.zero_le _⟩ (fun H locs hP hS => ?_)
        obtain ⟨g_6, h⟩ := gsplit h
        refine ldd_18 (i := r_5) C hP g_6 dX5_markHeldBy_46 ?_
        refine lv_istore (lv' := [(4, .int (σ.1 18 (r_5.toNatClampNeg))), (3, .int (σ.1 17 (r_2.toNatClampNeg))), (0, .ref (a 0)), (1, .int x1), (2, .int x2)]) C.hx C.hb dX5_markHeldBy_47 hl (by decide) rfl (fun ls hl => ?_)
        refine lv_iload C.hx C.hb dX5_markHeldBy_49 (lv_at hl 0 rfl) ?_
        refine lv_iconst (v := (-1 : Int32)) C.hx C.hb dX5_markHeldBy_51 (by decide) ?_
        refine lv_icmp_eq (tgt := 63) C.hx C.hb dX5_markHeldBy_52 (by decide) (fun c_7 => ?_) (fun c_7 => ?_)
        · have h := gpos c_7 h
          refine lv_iinc (v := (x2 + (1 : Int32))) (lv' := [(2, .int (x2 + (1 : Int32))), (4, .int (σ.1 18 (r_5.toNatClampNeg))), (3, .int (σ.1 17 (r_2.toNatClampNeg))), (0, .ref (a 0)), (1, .int x1)]) C.hx C.hb dX5_markHeldBy_63 hl (k := 4) rfl rfl (by decide) rfl (fun ls hl => ?_)
          refine lv_goto (tgt := 2) C.hx C.hb dX5_markHeldBy_66 (by decide) ?_
          exact ih σ x1 (x2 + (1 : Int32)) _ _ ls (lv_sub hl [3, 4, 0] rfl) hP hS h
        · have h := gneg c_7 h
          refine lv_aload_n C.hx C.hb dX5_markHeldBy_55 rfl (lv_at hl 2 rfl) ?_
          refine fd_X5_47_0 C hP dX5_markHeldBy_56 ?_
          refine lv_iload C.hx C.hb dX5_markHeldBy_59 (lv_at hl 0 rfl) ?_
          refine lv_iconst (v := (1 : Int32)) C.hx C.hb dX5_markHeldBy_61 (by decide) ?_
          obtain ⟨g_8, h⟩ := gsplit h
          refine std_7 (i := (σ.1 18 (r_5.toNatClampNeg))) (x := (1 : Int32)) C hD hP hS g_8 dX5_markHeldBy_62 (fun H locs hP hS => ?_)
          have hP : va_P D vwCl (dW cI cZ a (sA σ 7 ((σ.1 18 (r_5.toNatClampNeg)).toNatClampNeg) (1 : Int32))) H := hP
          refine lv_iinc (v := (x2 + (1 : Int32))) (lv' := [(2, .int (x2 + (1 : Int32))), (4, .int (σ.1 18 (r_5.toNatClampNeg))), (3, .int (σ.1 17 (r_2.toNatClampNeg))), (0, .ref (a 0)), (1, .int x1)]) C.hx C.hb dX5_markHeldBy_63 hl (k := 4) rfl rfl (by decide) rfl (fun ls hl => ?_)
          refine lv_goto (tgt := 2) C.hx C.hb dX5_markHeldBy_66 (by decide) ?_
          exact ih (sA σ 7 ((σ.1 18 (r_5.toNatClampNeg)).toNatClampNeg) (1 : Int32)) x1 (x2 + (1 : Int32)) _ _ ls (lv_sub hl [3, 4, 0] rfl) hP hS h
      · have h := gneg c_4 h
        refine lv_aload_n C.hx C.hb dX5_markHeldBy_27 rfl (lv_at hl 1 rfl) ?_
        refine fd_X5_47_0 C hP dX5_markHeldBy_28 ?_
        refine lv_iload_n C.hx C.hb dX5_markHeldBy_31 rfl (lv_at hl 0 rfl) ?_
        refine lv_iconst (v := (1 : Int32)) C.hx C.hb dX5_markHeldBy_32 (by decide) ?_
        obtain ⟨g_9, h⟩ := gsplit h
        refine std_7 (i := (σ.1 17 (r_2.toNatClampNeg))) (x := (1 : Int32)) C hD hP hS g_9 dX5_markHeldBy_33 (fun H locs hP hS => ?_)
        have hP : va_P D vwCl (dW cI cZ a (sA σ 7 ((σ.1 17 (r_2.toNatClampNeg)).toNatClampNeg) (1 : Int32))) H := hP
        refine lv_aload_n C.hx C.hb dX5_markHeldBy_34 rfl (lv_at hl 1 rfl) ?_
        refine fd_X5_19_0 C hP dX5_markHeldBy_35 ?_
        refine fd_X5_163_2 C hP dX5_markHeldBy_38 ?_
        refine lv_iload_n C.hx C.hb dX5_markHeldBy_41 rfl (lv_at hl 2 rfl) ?_
        refine lv_iload_n C.hx C.hb dX5_markHeldBy_42 rfl (lv_at hl 3 rfl) ?_
        obtain ⟨r_10, e_10, h⟩ := gbind h
        refine gCallS (wd := dW cI cZ a) (As := [.int x1, .int x2]) (rest := [.ref (a 18)]) C hml hl.1 hS (mX5_slot hD e_10) k_244 k_245 k_29 k_246 hdX5_slot ⟨by show 0 + 1 ≤ 1; omega, by show 8 + (2 + 11) + (0) ≤ 21; omega⟩ hP rfl rfl (Nat.le_of_ble_eq_true rfl) dX5_markHeldBy_43 ⟨Nat.zero_le _, Nat.zero_le _⟩ (fun H locs hP hS => ?_)
        obtain ⟨g_11, h⟩ := gsplit h
        refine ldd_18 (i := r_10) C hP g_11 dX5_markHeldBy_46 ?_
        refine lv_istore (lv' := [(4, .int (σ.1 18 (r_10.toNatClampNeg))), (3, .int (σ.1 17 (r_2.toNatClampNeg))), (0, .ref (a 0)), (1, .int x1), (2, .int x2)]) C.hx C.hb dX5_markHeldBy_47 hl (by decide) rfl (fun ls hl => ?_)
        refine lv_iload C.hx C.hb dX5_markHeldBy_49 (lv_at hl 0 rfl) ?_
        refine lv_iconst (v := (-1 : Int32)) C.hx C.hb dX5_markHeldBy_51 (by decide) ?_
        refine lv_icmp_eq (tgt := 63) C.hx C.hb dX5_markHeldBy_52 (by decide) (fun c_12 => ?_) (fun c_12 => ?_)
        · have h := gpos c_12 h
          refine lv_iinc (v := (x2 + (1 : Int32))) (lv' := [(2, .int (x2 + (1 : Int32))), (4, .int (σ.1 18 (r_10.toNatClampNeg))), (3, .int (σ.1 17 (r_2.toNatClampNeg))), (0, .ref (a 0)), (1, .int x1)]) C.hx C.hb dX5_markHeldBy_63 hl (k := 4) rfl rfl (by decide) rfl (fun ls hl => ?_)
          refine lv_goto (tgt := 2) C.hx C.hb dX5_markHeldBy_66 (by decide) ?_
          exact ih (sA σ 7 ((σ.1 17 (r_2.toNatClampNeg)).toNatClampNeg) (1 : Int32)) x1 (x2 + (1 : Int32)) _ _ ls (lv_sub hl [3, 4, 0] rfl) hP hS h
        · have h := gneg c_12 h
          refine lv_aload_n C.hx C.hb dX5_markHeldBy_55 rfl (lv_at hl 2 rfl) ?_
          refine fd_X5_47_0 C hP dX5_markHeldBy_56 ?_
          refine lv_iload C.hx C.hb dX5_markHeldBy_59 (lv_at hl 0 rfl) ?_
          refine lv_iconst (v := (1 : Int32)) C.hx C.hb dX5_markHeldBy_61 (by decide) ?_
          obtain ⟨g_13, h⟩ := gsplit h
          refine std_7 (i := (σ.1 18 (r_10.toNatClampNeg))) (x := (1 : Int32)) C hD hP hS g_13 dX5_markHeldBy_62 (fun H locs hP hS => ?_)
          have hP : va_P D vwCl (dW cI cZ a (sA (sA σ 7 ((σ.1 17 (r_2.toNatClampNeg)).toNatClampNeg) (1 : Int32)) 7 ((σ.1 18 (r_10.toNatClampNeg)).toNatClampNeg) (1 : Int32))) H := hP
          refine lv_iinc (v := (x2 + (1 : Int32))) (lv' := [(2, .int (x2 + (1 : Int32))), (4, .int (σ.1 18 (r_10.toNatClampNeg))), (3, .int (σ.1 17 (r_2.toNatClampNeg))), (0, .ref (a 0)), (1, .int x1)]) C.hx C.hb dX5_markHeldBy_63 hl (k := 4) rfl rfl (by decide) rfl (fun ls hl => ?_)
          refine lv_goto (tgt := 2) C.hx C.hb dX5_markHeldBy_66 (by decide) ?_
          exact ih (sA (sA σ 7 ((σ.1 17 (r_2.toNatClampNeg)).toNatClampNeg) (1 : Int32)) 7 ((σ.1 18 (r_10.toNatClampNeg)).toNatClampNeg) (1 : Int32)) x1 (x2 + (1 : Int32)) _ _ ls (lv_sub hl [3, 4, 0] rfl) hP hS h
set_option maxHeartbeats 4000000 in
set_option maxRecDepth 100000 in
theorem mX5_markHeldBy {l : Launch} {D : va_G} {cI cZ : ClassId} {a : Nat → Nat} (hD : ∀ σ, va_D (dAd a) (dW cI cZ a σ)) {fu : Nat} {σ : MS} {p1 : Int32} {σ' : MS} (h : sX5_markHeldBy fu σ p1 = some σ') : gMetV (dW cI cZ a) (dAd a) l D cI cZ yX5_markHeldBy cX5_markHeldBy 5 (1) (21) [.ref (a 0), .int p1] σ σ' := by
  refine gEnt (by decide) (Nat.le_of_ble_eq_true rfl) (fun p e s m below meth c ls C hml hr hlocks hP hl => ?_)
  have hl : lv_has ls 5 [(0, .ref (a 0)), (1, .int p1)] := hl
  have hS : va_S (dAd a) s.heap s.heap [] := va_S.rf
  rw [sX5_markHeldBy] at h
  refine lv_iconst (v := (0 : Int32)) C.hx C.hb dX5_markHeldBy_0 (by decide) ?_
  refine lv_istore_n (lv' := [(2, .int (0 : Int32)), (0, .ref (a 0)), (1, .int p1)]) C.hx C.hb dX5_markHeldBy_1 rfl hl (by decide) rfl (fun ls hl => ?_)
  exact wX5_markHeldBy_L2 C hml hr hlocks hD fu σ p1 (0 : Int32) _ _ ls (lv_sub hl [1, 2, 0] rfl) hP hS h
set_option maxHeartbeats 4000000 in
set_option maxRecDepth 100000 in
theorem wX5_markHeld_L118 {l : Launch} {D : va_G} {cI cZ : ClassId} {a : Nat → Nat} {p : Program} {e : Env} {s : State} {m : MethodId} {args : Array Value} {below : List Frame} {meth : Method} {c : Code} {fu : Nat} {σ' : MS} (C : Cx RX5 cX5_markHeld D cI cZ p s m args c) (hml : c.maxLocals = 2) (hr : meth.sig.returnType = none) (hlocks : meth.locks = false) (hD : ∀ σ, va_D (dAd a) (dW cI cZ a σ)) : ∀ (n : Nat) (σ : MS) (x1 : Int32) (H : Heap) (locs : List Loc) (ls : Array Slot), lv_has ls 2 [(0, .ref (a 0)), (1, .int x1)] → va_P D vwCl (dW cI cZ a σ) H → va_S (dAd a) s.heap H locs → sX5_markHeld_L118 fu n σ x1 = some σ' → W p l e (gRm (2) (45)) s m args below meth c H locs 0 0 (MQ below (gQv (dW cI cZ a) (dAd a) D σ') args s 0 0 (dAd a)) (F0 m 118 ls []) := by
  intro n
  induction n with
  | zero => intro σ x1 H locs ls hl hP hS h; cases h
  | succ n ih =>
    intro σ x1 H locs ls hl hP hS h
    rw [sX5_markHeld_L118] at h
    refine lv_iload_n C.hx C.hb dX5_markHeld_118 rfl (lv_at hl 1 rfl) ?_
    refine lv_if_lt (tgt := 165) C.hx C.hb dX5_markHeld_119 (by decide) (fun c_1 => ?_) (fun c_1 => ?_)
    · have h := gpos c_1 h
      cases h
      exact gRetV C hr hlocks hP hS dX5_markHeld_165
    · have h := gneg c_1 h
      refine lv_aload_n C.hx C.hb dX5_markHeld_122 rfl (lv_at hl 0 rfl) ?_
      refine fd_X5_47_0 C hP dX5_markHeld_123 ?_
      refine lv_iload_n C.hx C.hb dX5_markHeld_126 rfl (lv_at hl 1 rfl) ?_
      obtain ⟨g_2, h⟩ := gsplit h
      refine ldd_7 (i := x1) C hP g_2 dX5_markHeld_127 ?_
      refine lv_if_eq (tgt := 159) C.hx C.hb dX5_markHeld_128 (by decide) (fun c_3 => ?_) (fun c_3 => ?_)
      · have h := gpos c_3 h
        refine lv_iinc (v := (x1 + (-1 : Int32))) (lv' := [(1, .int (x1 + (-1 : Int32))), (0, .ref (a 0))]) C.hx C.hb dX5_markHeld_159 hl (k := 1) rfl rfl (by decide) rfl (fun ls hl => ?_)
        refine lv_goto (tgt := 118) C.hx C.hb dX5_markHeld_162 (by decide) ?_
        exact ih σ (x1 + (-1 : Int32)) _ _ ls (lv_sub hl [1, 0] rfl) hP hS h
      · have h := gneg c_3 h
        refine lv_aload_n C.hx C.hb dX5_markHeld_131 rfl (lv_at hl 0 rfl) ?_
        refine fd_X5_26_0 C hP dX5_markHeld_132 ?_
        refine fd_X5_135_3 C hP dX5_markHeld_135 ?_
        refine lv_iload_n C.hx C.hb dX5_markHeld_138 rfl (lv_at hl 1 rfl) ?_
        refine ldd_23 (i := x1) C hP g_2 dX5_markHeld_139 ?_
        refine lv_iconst (v := (-1 : Int32)) C.hx C.hb dX5_markHeld_140 (by decide) ?_
        refine lv_icmp_eq (tgt := 159) C.hx C.hb dX5_markHeld_141 (by decide) (fun c_4 => ?_) (fun c_4 => ?_)
        · have h := gpos c_4 h
          refine lv_iinc (v := (x1 + (-1 : Int32))) (lv' := [(1, .int (x1 + (-1 : Int32))), (0, .ref (a 0))]) C.hx C.hb dX5_markHeld_159 hl (k := 1) rfl rfl (by decide) rfl (fun ls hl => ?_)
          refine lv_goto (tgt := 118) C.hx C.hb dX5_markHeld_162 (by decide) ?_
          exact ih σ (x1 + (-1 : Int32)) _ _ ls (lv_sub hl [1, 0] rfl) hP hS h
        · have h := gneg c_4 h
          refine lv_aload_n C.hx C.hb dX5_markHeld_144 rfl (lv_at hl 0 rfl) ?_
          refine fd_X5_47_0 C hP dX5_markHeld_145 ?_
          refine lv_aload_n C.hx C.hb dX5_markHeld_148 rfl (lv_at hl 0 rfl) ?_
          refine fd_X5_26_0 C hP dX5_markHeld_149 ?_
          refine fd_X5_135_3 C hP dX5_markHeld_152 ?_
          refine lv_iload_n C.hx C.hb dX5_markHeld_155 rfl (lv_at hl 1 rfl) ?_
          refine ldd_23 (i := x1) C hP g_2 dX5_markHeld_156 ?_
          refine lv_iconst (v := (1 : Int32)) C.hx C.hb dX5_markHeld_157 (by decide) ?_
          obtain ⟨g_5, h⟩ := gsplit h
          refine std_7 (i := (σ.1 23 (x1.toNatClampNeg))) (x := (1 : Int32)) C hD hP hS g_5 dX5_markHeld_158 (fun H locs hP hS => ?_)
          have hP : va_P D vwCl (dW cI cZ a (sA σ 7 ((σ.1 23 (x1.toNatClampNeg)).toNatClampNeg) (1 : Int32))) H := hP
          refine lv_iinc (v := (x1 + (-1 : Int32))) (lv' := [(1, .int (x1 + (-1 : Int32))), (0, .ref (a 0))]) C.hx C.hb dX5_markHeld_159 hl (k := 1) rfl rfl (by decide) rfl (fun ls hl => ?_)
          refine lv_goto (tgt := 118) C.hx C.hb dX5_markHeld_162 (by decide) ?_
          exact ih (sA σ 7 ((σ.1 23 (x1.toNatClampNeg)).toNatClampNeg) (1 : Int32)) (x1 + (-1 : Int32)) _ _ ls (lv_sub hl [1, 0] rfl) hP hS h
set_option maxHeartbeats 4000000 in
set_option maxRecDepth 100000 in
theorem wX5_markHeld_L74 {l : Launch} {D : va_G} {cI cZ : ClassId} {a : Nat → Nat} {p : Program} {e : Env} {s : State} {m : MethodId} {args : Array Value} {below : List Frame} {meth : Method} {c : Code} {fu : Nat} {σ' : MS} (C : Cx RX5 cX5_markHeld D cI cZ p s m args c) (hml : c.maxLocals = 2) (hr : meth.sig.returnType = none) (hlocks : meth.locks = false) (hD : ∀ σ, va_D (dAd a) (dW cI cZ a σ)) : ∀ (n : Nat) (σ : MS) (x1 : Int32) (H : Heap) (locs : List Loc) (ls : Array Slot), lv_has ls 2 [(0, .ref (a 0)), (1, .int x1)] → va_P D vwCl (dW cI cZ a σ) H → va_S (dAd a) s.heap H locs → sX5_markHeld_L74 fu n σ x1 = some σ' → W p l e (gRm (2) (45)) s m args below meth c H locs 0 0 (MQ below (gQv (dW cI cZ a) (dAd a) D σ') args s 0 0 (dAd a)) (F0 m 74 ls []) := by
  intro n
  induction n with
  | zero => intro σ x1 H locs ls hl hP hS h; cases h
  | succ n ih =>
    intro σ x1 H locs ls hl hP hS h
    rw [sX5_markHeld_L74] at h
    refine lv_iload_n C.hx C.hb dX5_markHeld_74 rfl (lv_at hl 1 rfl) ?_
    refine lv_aload_n C.hx C.hb dX5_markHeld_75 rfl (lv_at hl 0 rfl) ?_
    refine fd_X5_19_0 C hP dX5_markHeld_76 ?_
    refine fd_X5_152_2 C hP dX5_markHeld_79 ?_
    refine lv_icmp_ge (tgt := 108) C.hx C.hb dX5_markHeld_82 (by decide) (fun c_1 => ?_) (fun c_1 => ?_)
    · have h := gpos c_1 h
      refine lv_aload_n C.hx C.hb dX5_markHeld_108 rfl (lv_at hl 0 rfl) ?_
      refine fd_X5_26_0 C hP dX5_markHeld_109 ?_
      refine fd_X5_128_3 C hP dX5_markHeld_112 ?_
      refine lv_iconst (v := (1 : Int32)) C.hx C.hb dX5_markHeld_115 (by decide) ?_
      refine lv_isub C.hx C.hb dX5_markHeld_116 ?_
      refine lv_istore_n (lv' := [(1, .int ((σ.2 2) - (1 : Int32))), (0, .ref (a 0))]) C.hx C.hb dX5_markHeld_117 rfl hl (by decide) rfl (fun ls hl => ?_)
      exact wX5_markHeld_L118 C hml hr hlocks hD fu σ ((σ.2 2) - (1 : Int32)) _ _ ls (lv_sub hl [1, 0] rfl) hP hS h
    · have h := gneg c_1 h
      refine lv_aload_n C.hx C.hb dX5_markHeld_85 rfl (lv_at hl 0 rfl) ?_
      refine fd_X5_19_0 C hP dX5_markHeld_86 ?_
      refine fd_X5_68_2 C hP dX5_markHeld_89 ?_
      refine lv_iload_n C.hx C.hb dX5_markHeld_92 rfl (lv_at hl 1 rfl) ?_
      obtain ⟨g_2, h⟩ := gsplit h
      refine ldd_15 (i := x1) C hP g_2 dX5_markHeld_93 ?_
      refine lv_if_ne (tgt := 102) C.hx C.hb dX5_markHeld_94 (by decide) (fun c_3 => ?_) (fun c_3 => ?_)
      · have h := gneg c_3 h
        refine lv_iinc (v := (x1 + (1 : Int32))) (lv' := [(1, .int (x1 + (1 : Int32))), (0, .ref (a 0))]) C.hx C.hb dX5_markHeld_102 hl (k := 1) rfl rfl (by decide) rfl (fun ls hl => ?_)
        refine lv_goto (tgt := 74) C.hx C.hb dX5_markHeld_105 (by decide) ?_
        exact ih σ (x1 + (1 : Int32)) _ _ ls (lv_sub hl [1, 0] rfl) hP hS h
      · have h := gpos c_3 h
        refine lv_aload_n C.hx C.hb dX5_markHeld_97 rfl (lv_at hl 0 rfl) ?_
        refine lv_iload_n C.hx C.hb dX5_markHeld_98 rfl (lv_at hl 1 rfl) ?_
        obtain ⟨u_4, e_4, h⟩ := gbind h
        refine gCallVv (wd := dW cI cZ a) (As := [.int x1]) (rest := []) C hml hl.1 hS (mX5_markHeldBy hD e_4) k_373 k_375 k_11 k_29 k_376 hdX5_markHeldBy ⟨by show 1 + 1 ≤ 2; omega, by show 8 + (5 + 11) + (21) ≤ 45; omega⟩ hP 0 5 rfl rfl rfl rfl rfl (Nat.le_of_ble_eq_true rfl) dX5_markHeld_99 ⟨Nat.zero_le _, Nat.zero_le _⟩ (fun H locs hP hS => ?_)
        refine lv_iinc (v := (x1 + (1 : Int32))) (lv' := [(1, .int (x1 + (1 : Int32))), (0, .ref (a 0))]) C.hx C.hb dX5_markHeld_102 hl (k := 1) rfl rfl (by decide) rfl (fun ls hl => ?_)
        refine lv_goto (tgt := 74) C.hx C.hb dX5_markHeld_105 (by decide) ?_
        exact ih u_4 (x1 + (1 : Int32)) _ _ ls (lv_sub hl [1, 0] rfl) hP hS h
set_option maxHeartbeats 4000000 in
set_option maxRecDepth 100000 in
theorem wX5_markHeld_L28 {l : Launch} {D : va_G} {cI cZ : ClassId} {a : Nat → Nat} {p : Program} {e : Env} {s : State} {m : MethodId} {args : Array Value} {below : List Frame} {meth : Method} {c : Code} {fu : Nat} {σ' : MS} (C : Cx RX5 cX5_markHeld D cI cZ p s m args c) (hml : c.maxLocals = 2) (hr : meth.sig.returnType = none) (hlocks : meth.locks = false) (hD : ∀ σ, va_D (dAd a) (dW cI cZ a σ)) : ∀ (n : Nat) (σ : MS) (x1 : Int32) (H : Heap) (locs : List Loc) (ls : Array Slot), lv_has ls 2 [(0, .ref (a 0)), (1, .int x1)] → va_P D vwCl (dW cI cZ a σ) H → va_S (dAd a) s.heap H locs → sX5_markHeld_L28 fu n σ x1 = some σ' → W p l e (gRm (2) (45)) s m args below meth c H locs 0 0 (MQ below (gQv (dW cI cZ a) (dAd a) D σ') args s 0 0 (dAd a)) (F0 m 28 ls []) := by
  intro n
  induction n with
  | zero => intro σ x1 H locs ls hl hP hS h; cases h
  | succ n ih =>
    intro σ x1 H locs ls hl hP hS h
    rw [sX5_markHeld_L28] at h
    refine lv_iload_n C.hx C.hb dX5_markHeld_28 rfl (lv_at hl 1 rfl) ?_
    refine lv_aload_n C.hx C.hb dX5_markHeld_29 rfl (lv_at hl 0 rfl) ?_
    refine fd_X5_33_0 C hP dX5_markHeld_30 ?_
    refine fd_X5_153_4 C hP dX5_markHeld_33 ?_
    refine lv_icmp_ge (tgt := 72) C.hx C.hb dX5_markHeld_36 (by decide) (fun c_1 => ?_) (fun c_1 => ?_)
    · have h := gpos c_1 h
      refine lv_iconst (v := (0 : Int32)) C.hx C.hb dX5_markHeld_72 (by decide) ?_
      refine lv_istore_n (lv' := [(1, .int (0 : Int32)), (0, .ref (a 0))]) C.hx C.hb dX5_markHeld_73 rfl hl (by decide) rfl (fun ls hl => ?_)
      exact wX5_markHeld_L74 C hml hr hlocks hD fu σ (0 : Int32) _ _ ls (lv_sub hl [1, 0] rfl) hP hS h
    · have h := gneg c_1 h
      refine lv_aload_n C.hx C.hb dX5_markHeld_39 rfl (lv_at hl 0 rfl) ?_
      refine fd_X5_33_0 C hP dX5_markHeld_40 ?_
      refine fd_X5_112_4 C hP dX5_markHeld_43 ?_
      refine lv_iload_n C.hx C.hb dX5_markHeld_46 rfl (lv_at hl 1 rfl) ?_
      obtain ⟨g_2, h⟩ := gsplit h
      refine ldd_26 (i := x1) C hP g_2 dX5_markHeld_47 ?_
      refine lv_if_ne (tgt := 66) C.hx C.hb dX5_markHeld_48 (by decide) (fun c_3 => ?_) (fun c_3 => ?_)
      · have h := gneg c_3 h
        refine lv_iinc (v := (x1 + (1 : Int32))) (lv' := [(1, .int (x1 + (1 : Int32))), (0, .ref (a 0))]) C.hx C.hb dX5_markHeld_66 hl (k := 1) rfl rfl (by decide) rfl (fun ls hl => ?_)
        refine lv_goto (tgt := 28) C.hx C.hb dX5_markHeld_69 (by decide) ?_
        exact ih σ (x1 + (1 : Int32)) _ _ ls (lv_sub hl [1, 0] rfl) hP hS h
      · have h := gpos c_3 h
        refine lv_aload_n C.hx C.hb dX5_markHeld_51 rfl (lv_at hl 0 rfl) ?_
        refine fd_X5_47_0 C hP dX5_markHeld_52 ?_
        refine lv_aload_n C.hx C.hb dX5_markHeld_55 rfl (lv_at hl 0 rfl) ?_
        refine fd_X5_33_0 C hP dX5_markHeld_56 ?_
        refine fd_X5_115_4 C hP dX5_markHeld_59 ?_
        refine lv_iload_n C.hx C.hb dX5_markHeld_62 rfl (lv_at hl 1 rfl) ?_
        refine ldd_25 (i := x1) C hP g_2 dX5_markHeld_63 ?_
        refine lv_iconst (v := (1 : Int32)) C.hx C.hb dX5_markHeld_64 (by decide) ?_
        obtain ⟨g_4, h⟩ := gsplit h
        refine std_7 (i := (σ.1 25 (x1.toNatClampNeg))) (x := (1 : Int32)) C hD hP hS g_4 dX5_markHeld_65 (fun H locs hP hS => ?_)
        have hP : va_P D vwCl (dW cI cZ a (sA σ 7 ((σ.1 25 (x1.toNatClampNeg)).toNatClampNeg) (1 : Int32))) H := hP
        refine lv_iinc (v := (x1 + (1 : Int32))) (lv' := [(1, .int (x1 + (1 : Int32))), (0, .ref (a 0))]) C.hx C.hb dX5_markHeld_66 hl (k := 1) rfl rfl (by decide) rfl (fun ls hl => ?_)
        refine lv_goto (tgt := 28) C.hx C.hb dX5_markHeld_69 (by decide) ?_
        exact ih (sA σ 7 ((σ.1 25 (x1.toNatClampNeg)).toNatClampNeg) (1 : Int32)) (x1 + (1 : Int32)) _ _ ls (lv_sub hl [1, 0] rfl) hP hS h
set_option maxHeartbeats 4000000 in
set_option maxRecDepth 100000 in
theorem wX5_markHeld_L2 {l : Launch} {D : va_G} {cI cZ : ClassId} {a : Nat → Nat} {p : Program} {e : Env} {s : State} {m : MethodId} {args : Array Value} {below : List Frame} {meth : Method} {c : Code} {fu : Nat} {σ' : MS} (C : Cx RX5 cX5_markHeld D cI cZ p s m args c) (hml : c.maxLocals = 2) (hr : meth.sig.returnType = none) (hlocks : meth.locks = false) (hD : ∀ σ, va_D (dAd a) (dW cI cZ a σ)) : ∀ (n : Nat) (σ : MS) (x1 : Int32) (H : Heap) (locs : List Loc) (ls : Array Slot), lv_has ls 2 [(0, .ref (a 0)), (1, .int x1)] → va_P D vwCl (dW cI cZ a σ) H → va_S (dAd a) s.heap H locs → sX5_markHeld_L2 fu n σ x1 = some σ' → W p l e (gRm (2) (45)) s m args below meth c H locs 0 0 (MQ below (gQv (dW cI cZ a) (dAd a) D σ') args s 0 0 (dAd a)) (F0 m 2 ls []) := by
  intro n
  induction n with
  | zero => intro σ x1 H locs ls hl hP hS h; cases h
  | succ n ih =>
    intro σ x1 H locs ls hl hP hS h
    rw [sX5_markHeld_L2] at h
    refine lv_iload_n C.hx C.hb dX5_markHeld_2 rfl (lv_at hl 1 rfl) ?_
    refine lv_aload_n C.hx C.hb dX5_markHeld_3 rfl (lv_at hl 0 rfl) ?_
    refine fd_X5_26_0 C hP dX5_markHeld_4 ?_
    refine fd_X5_128_3 C hP dX5_markHeld_7 ?_
    refine lv_icmp_ge (tgt := 26) C.hx C.hb dX5_markHeld_10 (by decide) (fun c_1 => ?_) (fun c_1 => ?_)
    · have h := gpos c_1 h
      refine lv_iconst (v := (0 : Int32)) C.hx C.hb dX5_markHeld_26 (by decide) ?_
      refine lv_istore_n (lv' := [(1, .int (0 : Int32)), (0, .ref (a 0))]) C.hx C.hb dX5_markHeld_27 rfl hl (by decide) rfl (fun ls hl => ?_)
      exact wX5_markHeld_L28 C hml hr hlocks hD fu σ (0 : Int32) _ _ ls (lv_sub hl [1, 0] rfl) hP hS h
    · have h := gneg c_1 h
      refine lv_aload_n C.hx C.hb dX5_markHeld_13 rfl (lv_at hl 0 rfl) ?_
      refine fd_X5_47_0 C hP dX5_markHeld_14 ?_
      refine lv_iload_n C.hx C.hb dX5_markHeld_17 rfl (lv_at hl 1 rfl) ?_
      refine lv_iconst (v := (0 : Int32)) C.hx C.hb dX5_markHeld_18 (by decide) ?_
      obtain ⟨g_2, h⟩ := gsplit h
      refine std_7 (i := x1) (x := (0 : Int32)) C hD hP hS g_2 dX5_markHeld_19 (fun H locs hP hS => ?_)
      have hP : va_P D vwCl (dW cI cZ a (sA σ 7 (x1.toNatClampNeg) (0 : Int32))) H := hP
      refine lv_iinc (v := (x1 + (1 : Int32))) (lv' := [(1, .int (x1 + (1 : Int32))), (0, .ref (a 0))]) C.hx C.hb dX5_markHeld_20 hl (k := 1) rfl rfl (by decide) rfl (fun ls hl => ?_)
      refine lv_goto (tgt := 2) C.hx C.hb dX5_markHeld_23 (by decide) ?_
      exact ih (sA σ 7 (x1.toNatClampNeg) (0 : Int32)) (x1 + (1 : Int32)) _ _ ls (lv_sub hl [1, 0] rfl) hP hS h
set_option maxHeartbeats 4000000 in
set_option maxRecDepth 100000 in
theorem mX5_markHeld {l : Launch} {D : va_G} {cI cZ : ClassId} {a : Nat → Nat} (hD : ∀ σ, va_D (dAd a) (dW cI cZ a σ)) {fu : Nat} {σ : MS} {σ' : MS} (h : sX5_markHeld fu σ = some σ') : gMetV (dW cI cZ a) (dAd a) l D cI cZ yX5_markHeld cX5_markHeld 2 (2) (45) [.ref (a 0)] σ σ' := by
  refine gEnt (by decide) (Nat.le_of_ble_eq_true rfl) (fun p e s m below meth c ls C hml hr hlocks hP hl => ?_)
  have hl : lv_has ls 2 [(0, .ref (a 0))] := hl
  have hS : va_S (dAd a) s.heap s.heap [] := va_S.rf
  rw [sX5_markHeld] at h
  refine lv_iconst (v := (0 : Int32)) C.hx C.hb dX5_markHeld_0 (by decide) ?_
  refine lv_istore_n (lv' := [(1, .int (0 : Int32)), (0, .ref (a 0))]) C.hx C.hb dX5_markHeld_1 rfl hl (by decide) rfl (fun ls hl => ?_)
  exact wX5_markHeld_L2 C hml hr hlocks hD fu σ (0 : Int32) _ _ ls (lv_sub hl [1, 0] rfl) hP hS h
set_option maxHeartbeats 4000000 in
set_option maxRecDepth 100000 in
theorem wX5_held_L22 {l : Launch} {D : va_G} {cI cZ : ClassId} {a : Nat → Nat} {p : Program} {e : Env} {s : State} {m : MethodId} {args : Array Value} {below : List Frame} {meth : Method} {c : Code} {fu : Nat} {r : Int32} {σ' : MS} (C : Cx RX5 cX5_held D cI cZ p s m args c) (hml : c.maxLocals = 4) (hr : meth.sig.returnType = (some .int)) (hlocks : meth.locks = false) (hD : ∀ σ, va_D (dAd a) (dW cI cZ a σ)) : ∀ (n : Nat) (σ : MS) (x1 : Int32) (x2 : Int32) (x3 : Int32) (H : Heap) (locs : List Loc) (ls : Array Slot), lv_has ls 4 [(0, .ref (a 0)), (1, .int x1), (2, .int x2), (3, .int x3)] → va_P D vwCl (dW cI cZ a σ) H → va_S (dAd a) s.heap H locs → sX5_held_L22 fu n σ x1 x2 x3 = some (r, σ') → W p l e (gRm (3) (66)) s m args below meth c H locs 0 0 (MQ below (gQi (dW cI cZ a) (dAd a) D r σ') args s 0 0 (dAd a)) (F0 m 22 ls []) := by
  intro n
  induction n with
  | zero => intro σ x1 x2 x3 H locs ls hl hP hS h; cases h
  | succ n ih =>
    intro σ x1 x2 x3 H locs ls hl hP hS h
    rw [sX5_held_L22] at h
    refine lv_iload_n C.hx C.hb dX5_held_22 rfl (lv_at hl 3 rfl) ?_
    refine lv_aload_n C.hx C.hb dX5_held_23 rfl (lv_at hl 0 rfl) ?_
    refine fd_X5_26_0 C hP dX5_held_24 ?_
    refine fd_X5_128_3 C hP dX5_held_27 ?_
    refine lv_icmp_ge (tgt := 64) C.hx C.hb dX5_held_30 (by decide) (fun c_1 => ?_) (fun c_1 => ?_)
    · have h := gpos c_1 h
      refine lv_iload_n C.hx C.hb dX5_held_64 rfl (lv_at hl 2 rfl) ?_
      cases h
      exact gRetI C hr hlocks hP hS dX5_held_65
    · have h := gneg c_1 h
      refine lv_aload_n C.hx C.hb dX5_held_33 rfl (lv_at hl 0 rfl) ?_
      refine fd_X5_26_0 C hP dX5_held_34 ?_
      refine fd_X5_98_3 C hP dX5_held_37 ?_
      refine lv_iload_n C.hx C.hb dX5_held_40 rfl (lv_at hl 3 rfl) ?_
      obtain ⟨g_2, h⟩ := gsplit h
      refine ldd_20 (i := x3) C hP g_2 dX5_held_41 ?_
      refine lv_iload_n C.hx C.hb dX5_held_42 rfl (lv_at hl 1 rfl) ?_
      refine lv_icmp_ne (tgt := 58) C.hx C.hb dX5_held_43 (by decide) (fun c_3 => ?_) (fun c_3 => ?_)
      · have h := gneg c_3 h
        refine lv_iinc (v := (x3 + (1 : Int32))) (lv' := [(3, .int (x3 + (1 : Int32))), (0, .ref (a 0)), (1, .int x1), (2, .int x2)]) C.hx C.hb dX5_held_58 hl (k := 3) rfl rfl (by decide) rfl (fun ls hl => ?_)
        refine lv_goto (tgt := 22) C.hx C.hb dX5_held_61 (by decide) ?_
        exact ih σ x1 x2 (x3 + (1 : Int32)) _ _ ls (lv_sub hl [1, 2, 3, 0] rfl) hP hS h
      · have h := gpos c_3 h
        refine lv_aload_n C.hx C.hb dX5_held_46 rfl (lv_at hl 0 rfl) ?_
        refine fd_X5_47_0 C hP dX5_held_47 ?_
        refine lv_iload_n C.hx C.hb dX5_held_50 rfl (lv_at hl 3 rfl) ?_
        refine ldd_7 (i := x3) C hP g_2 dX5_held_51 ?_
        refine lv_if_eq (tgt := 58) C.hx C.hb dX5_held_52 (by decide) (fun c_4 => ?_) (fun c_4 => ?_)
        · have h := gpos c_4 h
          refine lv_iinc (v := (x3 + (1 : Int32))) (lv' := [(3, .int (x3 + (1 : Int32))), (0, .ref (a 0)), (1, .int x1), (2, .int x2)]) C.hx C.hb dX5_held_58 hl (k := 3) rfl rfl (by decide) rfl (fun ls hl => ?_)
          refine lv_goto (tgt := 22) C.hx C.hb dX5_held_61 (by decide) ?_
          exact ih σ x1 x2 (x3 + (1 : Int32)) _ _ ls (lv_sub hl [1, 2, 3, 0] rfl) hP hS h
        · have h := gneg c_4 h
          refine lv_iinc (v := (x2 + (1 : Int32))) (lv' := [(2, .int (x2 + (1 : Int32))), (0, .ref (a 0)), (1, .int x1), (3, .int x3)]) C.hx C.hb dX5_held_55 hl (k := 2) rfl rfl (by decide) rfl (fun ls hl => ?_)
          refine lv_iinc (v := (x3 + (1 : Int32))) (lv' := [(3, .int (x3 + (1 : Int32))), (2, .int (x2 + (1 : Int32))), (0, .ref (a 0)), (1, .int x1)]) C.hx C.hb dX5_held_58 hl (k := 3) rfl rfl (by decide) rfl (fun ls hl => ?_)
          refine lv_goto (tgt := 22) C.hx C.hb dX5_held_61 (by decide) ?_
          exact ih σ x1 (x2 + (1 : Int32)) (x3 + (1 : Int32)) _ _ ls (lv_sub hl [2, 3, 1, 0] rfl) hP hS h
set_option maxHeartbeats 4000000 in
set_option maxRecDepth 100000 in
theorem mX5_held {l : Launch} {D : va_G} {cI cZ : ClassId} {a : Nat → Nat} (hD : ∀ σ, va_D (dAd a) (dW cI cZ a σ)) {fu : Nat} {σ : MS} {p1 : Int32} {r : Int32} {σ' : MS} (h : sX5_held fu σ p1 = some (r, σ')) : gMet (dW cI cZ a) (dAd a) l D cI cZ yX5_held cX5_held 4 (some .int) (3) (66) [.ref (a 0), .int p1] σ r σ' := by
  refine gEnt (by decide) (Nat.le_of_ble_eq_true rfl) (fun p e s m below meth c ls C hml hr hlocks hP hl => ?_)
  have hl : lv_has ls 4 [(0, .ref (a 0)), (1, .int p1)] := hl
  have hS : va_S (dAd a) s.heap s.heap [] := va_S.rf
  rw [sX5_held] at h
  refine lv_aload_n C.hx C.hb dX5_held_0 rfl (lv_at hl 0 rfl) ?_
  refine fd_X5_19_0 C hP dX5_held_1 ?_
  refine lv_iload_n C.hx C.hb dX5_held_4 rfl (lv_at hl 1 rfl) ?_
  obtain ⟨r_1, e_1, h⟩ := gbind h
  refine gCallV (wd := dW cI cZ a) (As := [.int p1]) (rest := []) C hml hl.1 hS (mX1_has hD e_1) k_224 k_225 k_226 k_31 k_227 hdX1_has ⟨by show 0 + 1 ≤ 3; omega, by show 8 + (2 + 11) + (0) ≤ 66; omega⟩ hP 2 1 rfl rfl rfl rfl rfl (Nat.le_of_ble_eq_true rfl) dX5_held_5 ⟨Nat.zero_le _, Nat.zero_le _⟩ (fun H locs hP hS => ?_)
  refine lv_if_ne (tgt := 14) C.hx C.hb dX5_held_8 (by decide) (fun c_2 => ?_) (fun c_2 => ?_)
  · have h := gneg c_2 h
    refine lv_aload_n C.hx C.hb dX5_held_14 rfl (lv_at hl 0 rfl) ?_
    obtain ⟨u_3, e_3, h⟩ := gbind h
    refine gCallVv (wd := dW cI cZ a) (As := []) (rest := []) C hml hl.1 hS (mX5_markHeld hD e_3) k_369 k_371 k_10 k_29 k_372 hdX5_markHeld ⟨by show 2 + 1 ≤ 3; omega, by show 8 + (2 + 11) + (45) ≤ 66; omega⟩ hP 0 5 rfl rfl rfl rfl rfl (Nat.le_of_ble_eq_true rfl) dX5_held_15 ⟨Nat.zero_le _, Nat.zero_le _⟩ (fun H locs hP hS => ?_)
    refine lv_iconst (v := (0 : Int32)) C.hx C.hb dX5_held_18 (by decide) ?_
    refine lv_istore_n (lv' := [(2, .int (0 : Int32)), (0, .ref (a 0)), (1, .int p1)]) C.hx C.hb dX5_held_19 rfl hl (by decide) rfl (fun ls hl => ?_)
    refine lv_iconst (v := (0 : Int32)) C.hx C.hb dX5_held_20 (by decide) ?_
    refine lv_istore_n (lv' := [(3, .int (0 : Int32)), (2, .int (0 : Int32)), (0, .ref (a 0)), (1, .int p1)]) C.hx C.hb dX5_held_21 rfl hl (by decide) rfl (fun ls hl => ?_)
    exact wX5_held_L22 C hml hr hlocks hD fu u_3 p1 (0 : Int32) (0 : Int32) _ _ ls (lv_sub hl [2, 3, 1, 0] rfl) hP hS h
  · have h := gpos c_2 h
    refine lv_bipush (v := (-2 : Int32)) C.hx C.hb dX5_held_11 (by decide) ?_
    cases h
    exact gRetI C hr hlocks hP hS dX5_held_13
set_option maxHeartbeats 4000000 in
set_option maxRecDepth 100000 in
theorem mX5_isHeld {l : Launch} {D : va_G} {cI cZ : ClassId} {a : Nat → Nat} (hD : ∀ σ, va_D (dAd a) (dW cI cZ a σ)) {fu : Nat} {σ : MS} {p1 : Int32} {r : Int32} {σ' : MS} (h : sX5_isHeld fu σ p1 = some (r, σ')) : gMet (dW cI cZ a) (dAd a) l D cI cZ yX5_isHeld cX5_isHeld 2 (some .int) (3) (66) [.ref (a 0), .int p1] σ r σ' := by
  refine gEnt (by decide) (Nat.le_of_ble_eq_true rfl) (fun p e s m below meth c ls C hml hr hlocks hP hl => ?_)
  have hl : lv_has ls 2 [(0, .ref (a 0)), (1, .int p1)] := hl
  have hS : va_S (dAd a) s.heap s.heap [] := va_S.rf
  rw [sX5_isHeld] at h
  refine lv_aload_n C.hx C.hb dX5_isHeld_0 rfl (lv_at hl 0 rfl) ?_
  refine fd_X5_26_0 C hP dX5_isHeld_1 ?_
  refine lv_iload_n C.hx C.hb dX5_isHeld_4 rfl (lv_at hl 1 rfl) ?_
  obtain ⟨r_1, e_1, h⟩ := gbind h
  refine gCallV (wd := dW cI cZ a) (As := [.int p1]) (rest := []) C hml hl.1 hS (mX2_has hD e_1) k_300 k_301 k_302 k_33 k_303 hdX2_has ⟨by show 0 + 1 ≤ 3; omega, by show 8 + (2 + 11) + (0) ≤ 66; omega⟩ hP 3 2 rfl rfl rfl rfl rfl (Nat.le_of_ble_eq_true rfl) dX5_isHeld_5 ⟨Nat.zero_le _, Nat.zero_le _⟩ (fun H locs hP hS => ?_)
  refine lv_if_ne (tgt := 14) C.hx C.hb dX5_isHeld_8 (by decide) (fun c_2 => ?_) (fun c_2 => ?_)
  · have h := gneg c_2 h
    refine lv_aload_n C.hx C.hb dX5_isHeld_14 rfl (lv_at hl 0 rfl) ?_
    obtain ⟨u_3, e_3, h⟩ := gbind h
    refine gCallVv (wd := dW cI cZ a) (As := []) (rest := []) C hml hl.1 hS (mX5_markHeld hD e_3) k_369 k_371 k_10 k_29 k_372 hdX5_markHeld ⟨by show 2 + 1 ≤ 3; omega, by show 8 + (2 + 11) + (45) ≤ 66; omega⟩ hP 0 5 rfl rfl rfl rfl rfl (Nat.le_of_ble_eq_true rfl) dX5_isHeld_15 ⟨Nat.zero_le _, Nat.zero_le _⟩ (fun H locs hP hS => ?_)
    refine lv_aload_n C.hx C.hb dX5_isHeld_18 rfl (lv_at hl 0 rfl) ?_
    refine fd_X5_47_0 C hP dX5_isHeld_19 ?_
    refine lv_iload_n C.hx C.hb dX5_isHeld_22 rfl (lv_at hl 1 rfl) ?_
    obtain ⟨g_4, h⟩ := gsplit h
    refine ldd_7 (i := p1) C hP g_4 dX5_isHeld_23 ?_
    refine lv_if_eq (tgt := 31) C.hx C.hb dX5_isHeld_24 (by decide) (fun c_5 => ?_) (fun c_5 => ?_)
    · have h := gpos c_5 h
      refine lv_iconst (v := (0 : Int32)) C.hx C.hb dX5_isHeld_31 (by decide) ?_
      cases h
      exact gRetI C hr hlocks hP hS dX5_isHeld_32
    · have h := gneg c_5 h
      refine lv_iconst (v := (1 : Int32)) C.hx C.hb dX5_isHeld_27 (by decide) ?_
      refine lv_goto (tgt := 32) C.hx C.hb dX5_isHeld_28 (by decide) ?_
      cases h
      exact gRetI C hr hlocks hP hS dX5_isHeld_32
  · have h := gpos c_2 h
    refine lv_bipush (v := (-2 : Int32)) C.hx C.hb dX5_isHeld_11 (by decide) ?_
    cases h
    exact gRetI C hr hlocks hP hS dX5_isHeld_13
set_option maxHeartbeats 4000000 in
set_option maxRecDepth 100000 in
theorem mX5_about {l : Launch} {D : va_G} {cI cZ : ClassId} {a : Nat → Nat} (hD : ∀ σ, va_D (dAd a) (dW cI cZ a σ)) {σ : MS} {p1 p2 : Int32} {r : Int32} (h : sX5_about σ p1 p2 = some r) : gMet (dW cI cZ a) (dAd a) l D cI cZ yX5_about cX5_about 3 (some .int) (1) (21) [.ref (a 0), .int p1, .int p2] σ r σ := by
  refine gEnt (by decide) (Nat.le_of_ble_eq_true rfl) (fun p e s m below meth c ls C hml hr hlocks hP hl => ?_)
  have hl : lv_has ls 3 [(0, .ref (a 0)), (1, .int p1), (2, .int p2)] := hl
  have hS : va_S (dAd a) s.heap s.heap [] := va_S.rf
  rw [sX5_about] at h
  refine lv_aload_n C.hx C.hb dX5_about_0 rfl (lv_at hl 0 rfl) ?_
  refine fd_X5_26_0 C hP dX5_about_1 ?_
  refine lv_iload_n C.hx C.hb dX5_about_4 rfl (lv_at hl 1 rfl) ?_
  obtain ⟨r_1, e_1, h⟩ := gbind h
  refine gCallV (wd := dW cI cZ a) (As := [.int p1]) (rest := []) C hml hl.1 hS (mX2_has hD e_1) k_300 k_301 k_302 k_33 k_303 hdX2_has ⟨by show 0 + 1 ≤ 1; omega, by show 8 + (2 + 11) + (0) ≤ 21; omega⟩ hP 3 2 rfl rfl rfl rfl rfl (Nat.le_of_ble_eq_true rfl) dX5_about_5 ⟨Nat.zero_le _, Nat.zero_le _⟩ (fun H locs hP hS => ?_)
  refine lv_if_ne (tgt := 13) C.hx C.hb dX5_about_8 (by decide) (fun c_2 => ?_) (fun c_2 => ?_)
  · have h := gneg c_2 h
    refine lv_iload_n C.hx C.hb dX5_about_13 rfl (lv_at hl 2 rfl) ?_
    by_cases s_14_0 : p2 = (0 : Int32)
    · have h := gpos s_14_0 h
      refine lv_tableIn (tgt := 52) (off := 38) C.hx C.hb dX5_about_14 (by rw [s_14_0]; decide) (by rw [s_14_0]; decide) (by rw [s_14_0]; rfl) (by decide) ?_
      refine lv_aload_n C.hx C.hb dX5_about_52 rfl (lv_at hl 0 rfl) ?_
      refine fd_X5_26_0 C hP dX5_about_53 ?_
      refine fd_X5_98_3 C hP dX5_about_56 ?_
      refine lv_iload_n C.hx C.hb dX5_about_59 rfl (lv_at hl 1 rfl) ?_
      obtain ⟨g_3, h⟩ := gsplit h
      refine ldd_20 (i := p1) C hP g_3 dX5_about_60 ?_
      cases h
      exact gRetI C hr hlocks hP hS dX5_about_61
    · have h := gneg s_14_0 h
      by_cases s_14_1 : p2 = (1 : Int32)
      · have h := gpos s_14_1 h
        refine lv_tableIn (tgt := 62) (off := 48) C.hx C.hb dX5_about_14 (by rw [s_14_1]; decide) (by rw [s_14_1]; decide) (by rw [s_14_1]; rfl) (by decide) ?_
        refine lv_aload_n C.hx C.hb dX5_about_62 rfl (lv_at hl 0 rfl) ?_
        refine fd_X5_26_0 C hP dX5_about_63 ?_
        refine fd_X5_132_3 C hP dX5_about_66 ?_
        refine lv_iload_n C.hx C.hb dX5_about_69 rfl (lv_at hl 1 rfl) ?_
        obtain ⟨g_4, h⟩ := gsplit h
        refine ldd_21 (i := p1) C hP g_4 dX5_about_70 ?_
        cases h
        exact gRetI C hr hlocks hP hS dX5_about_71
      · have h := gneg s_14_1 h
        by_cases s_14_2 : p2 = (2 : Int32)
        · have h := gpos s_14_2 h
          refine lv_tableIn (tgt := 72) (off := 58) C.hx C.hb dX5_about_14 (by rw [s_14_2]; decide) (by rw [s_14_2]; decide) (by rw [s_14_2]; rfl) (by decide) ?_
          refine lv_aload_n C.hx C.hb dX5_about_72 rfl (lv_at hl 0 rfl) ?_
          refine fd_X5_26_0 C hP dX5_about_73 ?_
          refine fd_X5_135_3 C hP dX5_about_76 ?_
          refine lv_iload_n C.hx C.hb dX5_about_79 rfl (lv_at hl 1 rfl) ?_
          obtain ⟨g_5, h⟩ := gsplit h
          refine ldd_23 (i := p1) C hP g_5 dX5_about_80 ?_
          cases h
          exact gRetI C hr hlocks hP hS dX5_about_81
        · have h := gneg s_14_2 h
          by_cases s_14_3 : p2 = (3 : Int32)
          · have h := gpos s_14_3 h
            refine lv_tableIn (tgt := 82) (off := 68) C.hx C.hb dX5_about_14 (by rw [s_14_3]; decide) (by rw [s_14_3]; decide) (by rw [s_14_3]; rfl) (by decide) ?_
            refine lv_aload_n C.hx C.hb dX5_about_82 rfl (lv_at hl 0 rfl) ?_
            refine fd_X5_26_0 C hP dX5_about_83 ?_
            refine fd_X5_138_3 C hP dX5_about_86 ?_
            refine lv_iload_n C.hx C.hb dX5_about_89 rfl (lv_at hl 1 rfl) ?_
            obtain ⟨g_6, h⟩ := gsplit h
            refine ldd_24 (i := p1) C hP g_6 dX5_about_90 ?_
            cases h
            exact gRetI C hr hlocks hP hS dX5_about_91
          · have h := gneg s_14_3 h
            by_cases s_14_4 : p2 = (4 : Int32)
            · have h := gpos s_14_4 h
              refine lv_tableIn (tgt := 92) (off := 78) C.hx C.hb dX5_about_14 (by rw [s_14_4]; decide) (by rw [s_14_4]; decide) (by rw [s_14_4]; rfl) (by decide) ?_
              refine lv_aload_n C.hx C.hb dX5_about_92 rfl (lv_at hl 0 rfl) ?_
              refine fd_X5_12_0 C hP dX5_about_93 ?_
              refine fd_X5_141_1 C hP dX5_about_96 ?_
              refine lv_aload_n C.hx C.hb dX5_about_99 rfl (lv_at hl 0 rfl) ?_
              refine fd_X5_26_0 C hP dX5_about_100 ?_
              refine fd_X5_144_3 C hP dX5_about_103 ?_
              refine lv_iload_n C.hx C.hb dX5_about_106 rfl (lv_at hl 1 rfl) ?_
              obtain ⟨g_7, h⟩ := gsplit h
              refine ldd_22 (i := p1) C hP g_7 dX5_about_107 ?_
              obtain ⟨g_8, h⟩ := gsplit h
              refine ldd_9 (i := (σ.1 22 (p1.toNatClampNeg))) C hP g_8 dX5_about_108 ?_
              cases h
              exact gRetI C hr hlocks hP hS dX5_about_109
            · have h := gneg s_14_4 h
              by_cases s_14_5 : p2 = (5 : Int32)
              · have h := gpos s_14_5 h
                refine lv_tableIn (tgt := 110) (off := 96) C.hx C.hb dX5_about_14 (by rw [s_14_5]; decide) (by rw [s_14_5]; decide) (by rw [s_14_5]; rfl) (by decide) ?_
                refine lv_aload_n C.hx C.hb dX5_about_110 rfl (lv_at hl 0 rfl) ?_
                refine fd_X5_26_0 C hP dX5_about_111 ?_
                refine fd_X5_144_3 C hP dX5_about_114 ?_
                refine lv_iload_n C.hx C.hb dX5_about_117 rfl (lv_at hl 1 rfl) ?_
                obtain ⟨g_9, h⟩ := gsplit h
                refine ldd_22 (i := p1) C hP g_9 dX5_about_118 ?_
                cases h
                exact gRetI C hr hlocks hP hS dX5_about_119
              · have h := gneg s_14_5 h
                have t_0 : (p2).toInt ≠ 0 := sw_ne (by decide) s_14_0
                have t_1 : (p2).toInt ≠ 1 := sw_ne (by decide) s_14_1
                have t_2 : (p2).toInt ≠ 2 := sw_ne (by decide) s_14_2
                have t_3 : (p2).toInt ≠ 3 := sw_ne (by decide) s_14_3
                have t_4 : (p2).toInt ≠ 4 := sw_ne (by decide) s_14_4
                have t_5 : (p2).toInt ≠ 5 := sw_ne (by decide) s_14_5
                refine lv_tableOut (tgt := 120) C.hx C.hb dX5_about_14 (by omega) (by decide) ?_
                refine lv_iconst (v := (0 : Int32)) C.hx C.hb dX5_about_120 (by decide) ?_
                cases h
                exact gRetI C hr hlocks hP hS dX5_about_121
  · have h := gpos c_2 h
    refine lv_iconst (v := (0 : Int32)) C.hx C.hb dX5_about_11 (by decide) ?_
    cases h
    exact gRetI C hr hlocks hP hS dX5_about_12
set_option maxHeartbeats 4000000 in
set_option maxRecDepth 100000 in
theorem mX5_aboutThing {l : Launch} {D : va_G} {cI cZ : ClassId} {a : Nat → Nat} (hD : ∀ σ, va_D (dAd a) (dW cI cZ a σ)) {σ : MS} {p1 p2 : Int32} {r : Int32} (h : sX5_aboutThing σ p1 p2 = some r) : gMet (dW cI cZ a) (dAd a) l D cI cZ yX5_aboutThing cX5_aboutThing 3 (some .int) (1) (21) [.ref (a 0), .int p1, .int p2] σ r σ := by
  refine gEnt (by decide) (Nat.le_of_ble_eq_true rfl) (fun p e s m below meth c ls C hml hr hlocks hP hl => ?_)
  have hl : lv_has ls 3 [(0, .ref (a 0)), (1, .int p1), (2, .int p2)] := hl
  have hS : va_S (dAd a) s.heap s.heap [] := va_S.rf
  rw [sX5_aboutThing] at h
  refine lv_aload_n C.hx C.hb dX5_aboutThing_0 rfl (lv_at hl 0 rfl) ?_
  refine fd_X5_33_0 C hP dX5_aboutThing_1 ?_
  refine lv_iload_n C.hx C.hb dX5_aboutThing_4 rfl (lv_at hl 1 rfl) ?_
  obtain ⟨r_1, e_1, h⟩ := gbind h
  refine gCallV (wd := dW cI cZ a) (As := [.int p1]) (rest := []) C hml hl.1 hS (mX4_has hD e_1) k_345 k_346 k_347 k_34 k_348 hdX4_has ⟨by show 0 + 1 ≤ 1; omega, by show 8 + (2 + 11) + (0) ≤ 21; omega⟩ hP 4 4 rfl rfl rfl rfl rfl (Nat.le_of_ble_eq_true rfl) dX5_aboutThing_5 ⟨Nat.zero_le _, Nat.zero_le _⟩ (fun H locs hP hS => ?_)
  refine lv_if_ne (tgt := 14) C.hx C.hb dX5_aboutThing_8 (by decide) (fun c_2 => ?_) (fun c_2 => ?_)
  · have h := gneg c_2 h
    refine lv_iload_n C.hx C.hb dX5_aboutThing_14 rfl (lv_at hl 2 rfl) ?_
    by_cases s_15_0 : p2 = (0 : Int32)
    · have h := gpos s_15_0 h
      refine lv_lookup (tgt := 40) (off := 25) C.hx C.hb dX5_aboutThing_15 (by decide) (by rw [s_15_0]; rfl) (by decide) ?_
      refine lv_aload_n C.hx C.hb dX5_aboutThing_40 rfl (lv_at hl 0 rfl) ?_
      refine fd_X5_33_0 C hP dX5_aboutThing_41 ?_
      refine fd_X5_115_4 C hP dX5_aboutThing_44 ?_
      refine lv_iload_n C.hx C.hb dX5_aboutThing_47 rfl (lv_at hl 1 rfl) ?_
      obtain ⟨g_3, h⟩ := gsplit h
      refine ldd_25 (i := p1) C hP g_3 dX5_aboutThing_48 ?_
      cases h
      exact gRetI C hr hlocks hP hS dX5_aboutThing_49
    · have h := gneg s_15_0 h
      by_cases s_15_1 : p2 = (1 : Int32)
      · have h := gpos s_15_1 h
        refine lv_lookup (tgt := 50) (off := 35) C.hx C.hb dX5_aboutThing_15 (by decide) (by rw [s_15_1]; rfl) (by decide) ?_
        refine lv_aload_n C.hx C.hb dX5_aboutThing_50 rfl (lv_at hl 0 rfl) ?_
        refine fd_X5_33_0 C hP dX5_aboutThing_51 ?_
        refine fd_X5_112_4 C hP dX5_aboutThing_54 ?_
        refine lv_iload_n C.hx C.hb dX5_aboutThing_57 rfl (lv_at hl 1 rfl) ?_
        obtain ⟨g_4, h⟩ := gsplit h
        refine ldd_26 (i := p1) C hP g_4 dX5_aboutThing_58 ?_
        refine lv_if_eq (tgt := 66) C.hx C.hb dX5_aboutThing_59 (by decide) (fun c_5 => ?_) (fun c_5 => ?_)
        · have h := gpos c_5 h
          refine lv_iconst (v := (0 : Int32)) C.hx C.hb dX5_aboutThing_66 (by decide) ?_
          cases h
          exact gRetI C hr hlocks hP hS dX5_aboutThing_67
        · have h := gneg c_5 h
          refine lv_iconst (v := (1 : Int32)) C.hx C.hb dX5_aboutThing_62 (by decide) ?_
          refine lv_goto (tgt := 67) C.hx C.hb dX5_aboutThing_63 (by decide) ?_
          cases h
          exact gRetI C hr hlocks hP hS dX5_aboutThing_67
      · have h := gneg s_15_1 h
        have t_0 : (p2).toInt ≠ 0 := sw_ne (by decide) s_15_0
        have t_1 : (p2).toInt ≠ 1 := sw_ne (by decide) s_15_1
        refine lv_lookup (tgt := 68) (off := 53) C.hx C.hb dX5_aboutThing_15 (by decide) (sw_lk2 t_0 t_1) (by decide) ?_
        refine lv_bipush (v := (-2 : Int32)) C.hx C.hb dX5_aboutThing_68 (by decide) ?_
        cases h
        exact gRetI C hr hlocks hP hS dX5_aboutThing_70
  · have h := gpos c_2 h
    refine lv_bipush (v := (-2 : Int32)) C.hx C.hb dX5_aboutThing_11 (by decide) ?_
    cases h
    exact gRetI C hr hlocks hP hS dX5_aboutThing_13
set_option maxHeartbeats 4000000 in
set_option maxRecDepth 100000 in
theorem mX5_order {l : Launch} {D : va_G} {cI cZ : ClassId} {a : Nat → Nat} (hD : ∀ σ, va_D (dAd a) (dW cI cZ a σ)) {σ : MS} {p1 : Int32} {r : Int32} (h : sX5_order σ p1 = some r) : gMet (dW cI cZ a) (dAd a) l D cI cZ yX5_order cX5_order 2 (some .int) (0) (0) [.ref (a 0), .int p1] σ r σ := by
  refine gEnt (by decide) (Nat.le_of_ble_eq_true rfl) (fun p e s m below meth c ls C hml hr hlocks hP hl => ?_)
  have hl : lv_has ls 2 [(0, .ref (a 0)), (1, .int p1)] := hl
  have hS : va_S (dAd a) s.heap s.heap [] := va_S.rf
  rw [sX5_order] at h
  refine lv_iload_n C.hx C.hb dX5_order_0 rfl (lv_at hl 1 rfl) ?_
  refine lv_if_lt (tgt := 27) C.hx C.hb dX5_order_1 (by decide) (fun c_1 => ?_) (fun c_1 => ?_)
  · have h := gpos c_1 h
    refine lv_iconst (v := (0 : Int32)) C.hx C.hb dX5_order_27 (by decide) ?_
    cases h
    exact gRetI C hr hlocks hP hS dX5_order_28
  · have h := gneg c_1 h
    refine lv_iload_n C.hx C.hb dX5_order_4 rfl (lv_at hl 1 rfl) ?_
    refine lv_aload_n C.hx C.hb dX5_order_5 rfl (lv_at hl 0 rfl) ?_
    refine fd_X5_40_0 C hP dX5_order_6 ?_
    refine fd_X5_147_5 C hP dX5_order_9 ?_
    refine lv_icmp_ge (tgt := 27) C.hx C.hb dX5_order_12 (by decide) (fun c_2 => ?_) (fun c_2 => ?_)
    · have h := gpos c_2 h
      refine lv_iconst (v := (0 : Int32)) C.hx C.hb dX5_order_27 (by decide) ?_
      cases h
      exact gRetI C hr hlocks hP hS dX5_order_28
    · have h := gneg c_2 h
      refine lv_aload_n C.hx C.hb dX5_order_15 rfl (lv_at hl 0 rfl) ?_
      refine fd_X5_40_0 C hP dX5_order_16 ?_
      refine fd_X5_148_5 C hP dX5_order_19 ?_
      refine lv_iload_n C.hx C.hb dX5_order_22 rfl (lv_at hl 1 rfl) ?_
      obtain ⟨g_3, h⟩ := gsplit h
      refine ldd_27 (i := p1) C hP g_3 dX5_order_23 ?_
      refine lv_goto (tgt := 28) C.hx C.hb dX5_order_24 (by decide) ?_
      cases h
      exact gRetI C hr hlocks hP hS dX5_order_28
set_option maxHeartbeats 4000000 in
set_option maxRecDepth 100000 in
theorem mX5_count {l : Launch} {D : va_G} {cI cZ : ClassId} {a : Nat → Nat} (hD : ∀ σ, va_D (dAd a) (dW cI cZ a σ)) {σ : MS} {p1 : Int32} {r : Int32} (h : sX5_count σ p1 = some r) : gMet (dW cI cZ a) (dAd a) l D cI cZ yX5_count cX5_count 2 (some .int) (0) (0) [.ref (a 0), .int p1] σ r σ := by
  refine gEnt (by decide) (Nat.le_of_ble_eq_true rfl) (fun p e s m below meth c ls C hml hr hlocks hP hl => ?_)
  have hl : lv_has ls 2 [(0, .ref (a 0)), (1, .int p1)] := hl
  have hS : va_S (dAd a) s.heap s.heap [] := va_S.rf
  rw [sX5_count] at h
  refine lv_iload_n C.hx C.hb dX5_count_0 rfl (lv_at hl 1 rfl) ?_
  by_cases s_1_0 : p1 = (0 : Int32)
  · have h := gpos s_1_0 h
    refine lv_tableIn (tgt := 36) (off := 35) C.hx C.hb dX5_count_1 (by rw [s_1_0]; decide) (by rw [s_1_0]; decide) (by rw [s_1_0]; rfl) (by decide) ?_
    refine lv_aload_n C.hx C.hb dX5_count_36 rfl (lv_at hl 0 rfl) ?_
    refine fd_X5_12_0 C hP dX5_count_37 ?_
    refine fd_X5_151_1 C hP dX5_count_40 ?_
    cases h
    exact gRetI C hr hlocks hP hS dX5_count_43
  · have h := gneg s_1_0 h
    by_cases s_1_1 : p1 = (1 : Int32)
    · have h := gpos s_1_1 h
      refine lv_tableIn (tgt := 44) (off := 43) C.hx C.hb dX5_count_1 (by rw [s_1_1]; decide) (by rw [s_1_1]; decide) (by rw [s_1_1]; rfl) (by decide) ?_
      refine lv_aload_n C.hx C.hb dX5_count_44 rfl (lv_at hl 0 rfl) ?_
      refine fd_X5_19_0 C hP dX5_count_45 ?_
      refine fd_X5_152_2 C hP dX5_count_48 ?_
      cases h
      exact gRetI C hr hlocks hP hS dX5_count_51
    · have h := gneg s_1_1 h
      by_cases s_1_2 : p1 = (2 : Int32)
      · have h := gpos s_1_2 h
        refine lv_tableIn (tgt := 52) (off := 51) C.hx C.hb dX5_count_1 (by rw [s_1_2]; decide) (by rw [s_1_2]; decide) (by rw [s_1_2]; rfl) (by decide) ?_
        refine lv_aload_n C.hx C.hb dX5_count_52 rfl (lv_at hl 0 rfl) ?_
        refine fd_X5_26_0 C hP dX5_count_53 ?_
        refine fd_X5_128_3 C hP dX5_count_56 ?_
        cases h
        exact gRetI C hr hlocks hP hS dX5_count_59
      · have h := gneg s_1_2 h
        by_cases s_1_3 : p1 = (3 : Int32)
        · have h := gpos s_1_3 h
          refine lv_tableIn (tgt := 60) (off := 59) C.hx C.hb dX5_count_1 (by rw [s_1_3]; decide) (by rw [s_1_3]; decide) (by rw [s_1_3]; rfl) (by decide) ?_
          refine lv_aload_n C.hx C.hb dX5_count_60 rfl (lv_at hl 0 rfl) ?_
          refine fd_X5_33_0 C hP dX5_count_61 ?_
          refine fd_X5_153_4 C hP dX5_count_64 ?_
          cases h
          exact gRetI C hr hlocks hP hS dX5_count_67
        · have h := gneg s_1_3 h
          by_cases s_1_4 : p1 = (4 : Int32)
          · have h := gpos s_1_4 h
            refine lv_tableIn (tgt := 68) (off := 67) C.hx C.hb dX5_count_1 (by rw [s_1_4]; decide) (by rw [s_1_4]; decide) (by rw [s_1_4]; rfl) (by decide) ?_
            refine lv_aload_n C.hx C.hb dX5_count_68 rfl (lv_at hl 0 rfl) ?_
            refine fd_X5_40_0 C hP dX5_count_69 ?_
            refine fd_X5_147_5 C hP dX5_count_72 ?_
            cases h
            exact gRetI C hr hlocks hP hS dX5_count_75
          · have h := gneg s_1_4 h
            have t_0 : (p1).toInt ≠ 0 := sw_ne (by decide) s_1_0
            have t_1 : (p1).toInt ≠ 1 := sw_ne (by decide) s_1_1
            have t_2 : (p1).toInt ≠ 2 := sw_ne (by decide) s_1_2
            have t_3 : (p1).toInt ≠ 3 := sw_ne (by decide) s_1_3
            have t_4 : (p1).toInt ≠ 4 := sw_ne (by decide) s_1_4
            refine lv_tableOut (tgt := 76) C.hx C.hb dX5_count_1 (by omega) (by decide) ?_
            refine lv_bipush (v := (-2 : Int32)) C.hx C.hb dX5_count_76 (by decide) ?_
            cases h
            exact gRetI C hr hlocks hP hS dX5_count_78
