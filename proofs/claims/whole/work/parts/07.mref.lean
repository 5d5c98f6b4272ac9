set_option maxHeartbeats 4000000 in
set_option maxRecDepth 100000 in
theorem mX6_in {l : Launch} {D : va_G} {cI cZ : ClassId} {a : Nat → Nat} (hD : ∀ σ, va_D (rAd a) (rW cI cZ a σ)) {σ : MS} {p0 p1 p2 : Int32} {r : Int32} (h : sX6_in σ p0 p1 p2 = some r) : gMet (rW cI cZ a) (rAd a) l D cI cZ yX6_in cX6_in 3 (some .boolean) (0) (0) [.int p0, .int p1, .int p2] σ r σ := by
  refine gEnt (by decide) (Nat.le_of_ble_eq_true rfl) (fun p e s m below meth c ls C hml hr hlocks hP hl => ?_)
  have hl : lv_has ls 3 [(0, .int p0), (1, .int p1), (2, .int p2)] := hl
  have hS : va_S (rAd a) s.heap s.heap [] := va_S.rf
  rw [sX6_in] at h
  refine lv_iload_n C.hx C.hb dX6_in_0 rfl (lv_at hl 0 rfl) ?_
  refine lv_iload_n C.hx C.hb dX6_in_1 rfl (lv_at hl 1 rfl) ?_
  refine lv_icmp_lt (tgt := 14) C.hx C.hb dX6_in_2 (by decide) (fun c_1 => ?_) (fun c_1 => ?_)
  · have h := gpos c_1 h
    refine lv_iconst (v := (0 : Int32)) C.hx C.hb dX6_in_14 (by decide) ?_
    cases h
    exact gRetZ C hr hlocks (by decide) hP hS dX6_in_15
  · have h := gneg c_1 h
    refine lv_iload_n C.hx C.hb dX6_in_5 rfl (lv_at hl 0 rfl) ?_
    refine lv_iload_n C.hx C.hb dX6_in_6 rfl (lv_at hl 2 rfl) ?_
    refine lv_icmp_gt (tgt := 14) C.hx C.hb dX6_in_7 (by decide) (fun c_2 => ?_) (fun c_2 => ?_)
    · have h := gpos c_2 h
      refine lv_iconst (v := (0 : Int32)) C.hx C.hb dX6_in_14 (by decide) ?_
      cases h
      exact gRetZ C hr hlocks (by decide) hP hS dX6_in_15
    · have h := gneg c_2 h
      refine lv_iconst (v := (1 : Int32)) C.hx C.hb dX6_in_10 (by decide) ?_
      refine lv_goto (tgt := 15) C.hx C.hb dX6_in_11 (by decide) ?_
      cases h
      exact gRetZ C hr hlocks (by decide) hP hS dX6_in_15
set_option maxHeartbeats 4000000 in
set_option maxRecDepth 100000 in
theorem mX6_isName {l : Launch} {D : va_G} {cI cZ : ClassId} {a : Nat → Nat} (hD : ∀ σ, va_D (rAd a) (rW cI cZ a σ)) {σ : MS} {p0 : Int32} {r : Int32} (h : sX6_isName σ p0 = some r) : gMet (rW cI cZ a) (rAd a) l D cI cZ yX6_isName cX6_isName 1 (some .boolean) (1) (22) [.int p0] σ r σ := by
  refine gEnt (by decide) (Nat.le_of_ble_eq_true rfl) (fun p e s m below meth c ls C hml hr hlocks hP hl => ?_)
  have hl : lv_has ls 1 [(0, .int p0)] := hl
  have hS : va_S (rAd a) s.heap s.heap [] := va_S.rf
  rw [sX6_isName] at h
  refine lv_iload_n C.hx C.hb dX6_isName_0 rfl (lv_at hl 0 rfl) ?_
  refine lv_iconst (v := (0 : Int32)) C.hx C.hb dX6_isName_1 (by decide) ?_
  refine lv_bipush (v := (30 : Int32)) C.hx C.hb dX6_isName_2 (by decide) ?_
  obtain ⟨r_1, e_1, h⟩ := gbind h
  refine gCallS (wd := rW cI cZ a) (As := [.int p0, .int (0 : Int32), .int (30 : Int32)]) (rest := []) C hml hl.1 hS (mX6_in hD e_1) k_510 k_511 k_36 k_512 hdX6_in ⟨by show 0 + 1 ≤ 1; omega, by show 8 + (3 + 11) + (0) ≤ 22; omega⟩ hP rfl rfl (Nat.le_of_ble_eq_true rfl) dX6_isName_4 ⟨Nat.zero_le _, Nat.zero_le _⟩ (fun H locs hP hS => ?_)
  obtain ⟨g_2, h⟩ := gsplit h
  cases h
  exact gRetZ C hr hlocks g_2 hP hS dX6_isName_7
set_option maxHeartbeats 4000000 in
set_option maxRecDepth 100000 in
theorem mX6_file {l : Launch} {D : va_G} {cI cZ : ClassId} {a : Nat → Nat} (hD : ∀ σ, va_D (rAd a) (rW cI cZ a σ)) {σ : MS} {p1 p2 p3 p4 p5 : Int32} {r : Int32} {σ' : MS} (h : sX6_file σ p1 p2 p3 p4 p5 = some (r, σ')) : gMet (rW cI cZ a) (rAd a) l D cI cZ yX6_file cX6_file 6 (some .int) (2) (42) [.ref (a 0), .int p1, .int p2, .int p3, .int p4, .int p5] σ r σ' := by
  refine gEnt (by decide) (Nat.le_of_ble_eq_true rfl) (fun p e s m below meth c ls C hml hr hlocks hP hl => ?_)
  have hl : lv_has ls 6 [(0, .ref (a 0)), (1, .int p1), (2, .int p2), (3, .int p3), (4, .int p4), (5, .int p5)] := hl
  have hS : va_S (rAd a) s.heap s.heap [] := va_S.rf
  rw [sX6_file] at h
  refine lv_iload_n C.hx C.hb dX6_file_0 rfl (lv_at hl 1 rfl) ?_
  obtain ⟨r_1, e_1, h⟩ := gbind h
  refine gCallS (wd := rW cI cZ a) (As := [.int p1]) (rest := []) C hml hl.1 hS (mX6_isName hD e_1) k_507 k_508 k_36 k_509 hdX6_isName ⟨by show 1 + 1 ≤ 2; omega, by show 8 + (1 + 11) + (22) ≤ 42; omega⟩ hP rfl rfl (Nat.le_of_ble_eq_true rfl) dX6_file_1 ⟨Nat.zero_le _, Nat.zero_le _⟩ (fun H locs hP hS => ?_)
  refine lv_if_eq (tgt := 43) C.hx C.hb dX6_file_4 (by decide) (fun c_2 => ?_) (fun c_2 => ?_)
  · have h := gpos c_2 h
    refine lv_bipush (v := (-2 : Int32)) C.hx C.hb dX6_file_43 (by decide) ?_
    cases h
    exact gRetI C hr hlocks hP hS dX6_file_45
  · have h := gneg c_2 h
    refine lv_iload_n C.hx C.hb dX6_file_7 rfl (lv_at hl 3 rfl) ?_
    refine lv_iconst (v := (-1 : Int32)) C.hx C.hb dX6_file_8 (by decide) ?_
    refine lv_icmp_eq (tgt := 19) C.hx C.hb dX6_file_9 (by decide) (fun c_3 => ?_) (fun c_3 => ?_)
    · have h := gpos c_3 h
      refine lv_iload C.hx C.hb dX6_file_19 (lv_at hl 4 rfl) ?_
      refine lv_iconst (v := (-1 : Int32)) C.hx C.hb dX6_file_21 (by decide) ?_
      refine lv_icmp_eq (tgt := 33) C.hx C.hb dX6_file_22 (by decide) (fun c_4 => ?_) (fun c_4 => ?_)
      · have h := gpos c_4 h
        refine lv_iload C.hx C.hb dX6_file_33 (lv_at hl 5 rfl) ?_
        refine lv_iconst (v := (0 : Int32)) C.hx C.hb dX6_file_35 (by decide) ?_
        refine lv_iconst (v := (3 : Int32)) C.hx C.hb dX6_file_36 (by decide) ?_
        obtain ⟨r_5, e_5, h⟩ := gbind h
        refine gCallS (wd := rW cI cZ a) (As := [.int p5, .int (0 : Int32), .int (3 : Int32)]) (rest := []) C hml hl.1 hS (mX6_in hD e_5) k_510 k_511 k_36 k_512 hdX6_in ⟨by show 0 + 1 ≤ 2; omega, by show 8 + (3 + 11) + (0) ≤ 42; omega⟩ hP rfl rfl (Nat.le_of_ble_eq_true rfl) dX6_file_37 ⟨Nat.zero_le _, Nat.zero_le _⟩ (fun H locs hP hS => ?_)
        refine lv_if_ne (tgt := 46) C.hx C.hb dX6_file_40 (by decide) (fun c_6 => ?_) (fun c_6 => ?_)
        · have h := gneg c_6 h
          refine lv_aload_n C.hx C.hb dX6_file_46 rfl (lv_at hl 0 rfl) ?_
          refine fr_X6_97_0 C hP dX6_file_47 ?_
          refine lv_bipush (v := (40 : Int32)) C.hx C.hb dX6_file_50 (by decide) ?_
          refine lv_icmp_ne (tgt := 58) C.hx C.hb dX6_file_52 (by decide) (fun c_7 => ?_) (fun c_7 => ?_)
          · have h := gneg c_7 h
            refine lv_aload_n C.hx C.hb dX6_file_58 rfl (lv_at hl 0 rfl) ?_
            refine fr_X6_7_0 C hP dX6_file_59 ?_
            refine lv_aload_n C.hx C.hb dX6_file_62 rfl (lv_at hl 0 rfl) ?_
            refine fr_X6_97_0 C hP dX6_file_63 ?_
            refine lv_iload_n C.hx C.hb dX6_file_66 rfl (lv_at hl 1 rfl) ?_
            obtain ⟨g_8, h⟩ := gsplit h
            refine str_1 (i := (σ.2 0)) (x := p1) C hD hP hS g_8 dX6_file_67 (fun H locs hP hS => ?_)
            have hP : va_P D vwCl (rW cI cZ a (sA σ 1 ((σ.2 0).toNatClampNeg) p1)) H := hP
            refine lv_aload_n C.hx C.hb dX6_file_68 rfl (lv_at hl 0 rfl) ?_
            refine fr_X6_13_0 C hP dX6_file_69 ?_
            refine lv_aload_n C.hx C.hb dX6_file_72 rfl (lv_at hl 0 rfl) ?_
            refine fr_X6_97_0 C hP dX6_file_73 ?_
            refine lv_iload_n C.hx C.hb dX6_file_76 rfl (lv_at hl 2 rfl) ?_
            refine str_2 (i := (σ.2 0)) (x := p2) C hD hP hS g_8 dX6_file_77 (fun H locs hP hS => ?_)
            have hP : va_P D vwCl (rW cI cZ a (sA (sA σ 1 ((σ.2 0).toNatClampNeg) p1) 2 ((σ.2 0).toNatClampNeg) p2)) H := hP
            refine lv_aload_n C.hx C.hb dX6_file_78 rfl (lv_at hl 0 rfl) ?_
            refine fr_X6_16_0 C hP dX6_file_79 ?_
            refine lv_aload_n C.hx C.hb dX6_file_82 rfl (lv_at hl 0 rfl) ?_
            refine fr_X6_97_0 C hP dX6_file_83 ?_
            refine lv_iload_n C.hx C.hb dX6_file_86 rfl (lv_at hl 3 rfl) ?_
            refine str_3 (i := (σ.2 0)) (x := p3) C hD hP hS g_8 dX6_file_87 (fun H locs hP hS => ?_)
            have hP : va_P D vwCl (rW cI cZ a (sA (sA (sA σ 1 ((σ.2 0).toNatClampNeg) p1) 2 ((σ.2 0).toNatClampNeg) p2) 3 ((σ.2 0).toNatClampNeg) p3)) H := hP
            refine lv_aload_n C.hx C.hb dX6_file_88 rfl (lv_at hl 0 rfl) ?_
            refine fr_X6_19_0 C hP dX6_file_89 ?_
            refine lv_aload_n C.hx C.hb dX6_file_92 rfl (lv_at hl 0 rfl) ?_
            refine fr_X6_97_0 C hP dX6_file_93 ?_
            refine lv_iload C.hx C.hb dX6_file_96 (lv_at hl 4 rfl) ?_
            refine str_4 (i := (σ.2 0)) (x := p4) C hD hP hS g_8 dX6_file_98 (fun H locs hP hS => ?_)
            have hP : va_P D vwCl (rW cI cZ a (sA (sA (sA (sA σ 1 ((σ.2 0).toNatClampNeg) p1) 2 ((σ.2 0).toNatClampNeg) p2) 3 ((σ.2 0).toNatClampNeg) p3) 4 ((σ.2 0).toNatClampNeg) p4)) H := hP
            refine lv_aload_n C.hx C.hb dX6_file_99 rfl (lv_at hl 0 rfl) ?_
            refine fr_X6_22_0 C hP dX6_file_100 ?_
            refine lv_aload_n C.hx C.hb dX6_file_103 rfl (lv_at hl 0 rfl) ?_
            refine fr_X6_97_0 C hP dX6_file_104 ?_
            refine lv_iload C.hx C.hb dX6_file_107 (lv_at hl 5 rfl) ?_
            refine str_5 (i := (σ.2 0)) (x := p5) C hD hP hS g_8 dX6_file_109 (fun H locs hP hS => ?_)
            have hP : va_P D vwCl (rW cI cZ a (sA (sA (sA (sA (sA σ 1 ((σ.2 0).toNatClampNeg) p1) 2 ((σ.2 0).toNatClampNeg) p2) 3 ((σ.2 0).toNatClampNeg) p3) 4 ((σ.2 0).toNatClampNeg) p4) 5 ((σ.2 0).toNatClampNeg) p5)) H := hP
            refine lv_aload_n C.hx C.hb dX6_file_110 rfl (lv_at hl 0 rfl) ?_
            refine lv_dup C.hx C.hb dX6_file_111 rfl ?_
            refine fr_X6_97_0 C hP dX6_file_112 ?_
            refine lv_iconst (v := (1 : Int32)) C.hx C.hb dX6_file_115 (by decide) ?_
            refine lv_iadd C.hx C.hb dX6_file_116 ?_
            refine pr_X6_97_0 (x := ((σ.2 0) + (1 : Int32))) C hD hP hS dX6_file_117 (fun H locs hP hS => ?_)
            have hP : va_P D vwCl (rW cI cZ a (sZ (sA (sA (sA (sA (sA σ 1 ((σ.2 0).toNatClampNeg) p1) 2 ((σ.2 0).toNatClampNeg) p2) 3 ((σ.2 0).toNatClampNeg) p3) 4 ((σ.2 0).toNatClampNeg) p4) 5 ((σ.2 0).toNatClampNeg) p5) 0 ((σ.2 0) + (1 : Int32)))) H := hP
            refine lv_aload_n C.hx C.hb dX6_file_120 rfl (lv_at hl 0 rfl) ?_
            refine fr_X6_97_0 C hP dX6_file_121 ?_
            refine lv_iconst (v := (1 : Int32)) C.hx C.hb dX6_file_124 (by decide) ?_
            refine lv_isub C.hx C.hb dX6_file_125 ?_
            cases h
            exact gRetI C hr hlocks hP hS dX6_file_126
          · have h := gpos c_7 h
            refine lv_bipush (v := (-4 : Int32)) C.hx C.hb dX6_file_55 (by decide) ?_
            cases h
            exact gRetI C hr hlocks hP hS dX6_file_57
        · have h := gpos c_6 h
          refine lv_bipush (v := (-2 : Int32)) C.hx C.hb dX6_file_43 (by decide) ?_
          cases h
          exact gRetI C hr hlocks hP hS dX6_file_45
      · have h := gneg c_4 h
        refine lv_iload C.hx C.hb dX6_file_25 (lv_at hl 4 rfl) ?_
        obtain ⟨r_9, e_9, h⟩ := gbind h
        refine gCallS (wd := rW cI cZ a) (As := [.int p4]) (rest := []) C hml hl.1 hS (mX6_isName hD e_9) k_507 k_508 k_36 k_509 hdX6_isName ⟨by show 1 + 1 ≤ 2; omega, by show 8 + (1 + 11) + (22) ≤ 42; omega⟩ hP rfl rfl (Nat.le_of_ble_eq_true rfl) dX6_file_27 ⟨Nat.zero_le _, Nat.zero_le _⟩ (fun H locs hP hS => ?_)
        refine lv_if_eq (tgt := 43) C.hx C.hb dX6_file_30 (by decide) (fun c_10 => ?_) (fun c_10 => ?_)
        · have h := gpos c_10 h
          refine lv_bipush (v := (-2 : Int32)) C.hx C.hb dX6_file_43 (by decide) ?_
          cases h
          exact gRetI C hr hlocks hP hS dX6_file_45
        · have h := gneg c_10 h
          refine lv_iload C.hx C.hb dX6_file_33 (lv_at hl 5 rfl) ?_
          refine lv_iconst (v := (0 : Int32)) C.hx C.hb dX6_file_35 (by decide) ?_
          refine lv_iconst (v := (3 : Int32)) C.hx C.hb dX6_file_36 (by decide) ?_
          obtain ⟨r_11, e_11, h⟩ := gbind h
          refine gCallS (wd := rW cI cZ a) (As := [.int p5, .int (0 : Int32), .int (3 : Int32)]) (rest := []) C hml hl.1 hS (mX6_in hD e_11) k_510 k_511 k_36 k_512 hdX6_in ⟨by show 0 + 1 ≤ 2; omega, by show 8 + (3 + 11) + (0) ≤ 42; omega⟩ hP rfl rfl (Nat.le_of_ble_eq_true rfl) dX6_file_37 ⟨Nat.zero_le _, Nat.zero_le _⟩ (fun H locs hP hS => ?_)
          refine lv_if_ne (tgt := 46) C.hx C.hb dX6_file_40 (by decide) (fun c_12 => ?_) (fun c_12 => ?_)
          · have h := gneg c_12 h
            refine lv_aload_n C.hx C.hb dX6_file_46 rfl (lv_at hl 0 rfl) ?_
            refine fr_X6_97_0 C hP dX6_file_47 ?_
            refine lv_bipush (v := (40 : Int32)) C.hx C.hb dX6_file_50 (by decide) ?_
            refine lv_icmp_ne (tgt := 58) C.hx C.hb dX6_file_52 (by decide) (fun c_13 => ?_) (fun c_13 => ?_)
            · have h := gneg c_13 h
              refine lv_aload_n C.hx C.hb dX6_file_58 rfl (lv_at hl 0 rfl) ?_
              refine fr_X6_7_0 C hP dX6_file_59 ?_
              refine lv_aload_n C.hx C.hb dX6_file_62 rfl (lv_at hl 0 rfl) ?_
              refine fr_X6_97_0 C hP dX6_file_63 ?_
              refine lv_iload_n C.hx C.hb dX6_file_66 rfl (lv_at hl 1 rfl) ?_
              obtain ⟨g_14, h⟩ := gsplit h
              refine str_1 (i := (σ.2 0)) (x := p1) C hD hP hS g_14 dX6_file_67 (fun H locs hP hS => ?_)
              have hP : va_P D vwCl (rW cI cZ a (sA σ 1 ((σ.2 0).toNatClampNeg) p1)) H := hP
              refine lv_aload_n C.hx C.hb dX6_file_68 rfl (lv_at hl 0 rfl) ?_
              refine fr_X6_13_0 C hP dX6_file_69 ?_
              refine lv_aload_n C.hx C.hb dX6_file_72 rfl (lv_at hl 0 rfl) ?_
              refine fr_X6_97_0 C hP dX6_file_73 ?_
              refine lv_iload_n C.hx C.hb dX6_file_76 rfl (lv_at hl 2 rfl) ?_
              refine str_2 (i := (σ.2 0)) (x := p2) C hD hP hS g_14 dX6_file_77 (fun H locs hP hS => ?_)
              have hP : va_P D vwCl (rW cI cZ a (sA (sA σ 1 ((σ.2 0).toNatClampNeg) p1) 2 ((σ.2 0).toNatClampNeg) p2)) H := hP
              refine lv_aload_n C.hx C.hb dX6_file_78 rfl (lv_at hl 0 rfl) ?_
              refine fr_X6_16_0 C hP dX6_file_79 ?_
              refine lv_aload_n C.hx C.hb dX6_file_82 rfl (lv_at hl 0 rfl) ?_
              refine fr_X6_97_0 C hP dX6_file_83 ?_
              refine lv_iload_n C.hx C.hb dX6_file_86 rfl (lv_at hl 3 rfl) ?_
              refine str_3 (i := (σ.2 0)) (x := p3) C hD hP hS g_14 dX6_file_87 (fun H locs hP hS => ?_)
              have hP : va_P D vwCl (rW cI cZ a (sA (sA (sA σ 1 ((σ.2 0).toNatClampNeg) p1) 2 ((σ.2 0).toNatClampNeg) p2) 3 ((σ.2 0).toNatClampNeg) p3)) H := hP
              refine lv_aload_n C.hx C.hb dX6_file_88 rfl (lv_at hl 0 rfl) ?_
              refine fr_X6_19_0 C hP dX6_file_89 ?_
              refine lv_aload_n C.hx C.hb dX6_file_92 rfl (lv_at hl 0 rfl) ?_
              refine fr_X6_97_0 C hP dX6_file_93 ?_
              refine lv_iload C.hx C.hb dX6_file_96 (lv_at hl 4 rfl) ?_
              refine str_4 (i := (σ.2 0)) (x := p4) C hD hP hS g_14 dX6_file_98 (fun H locs hP hS => ?_)
              have hP : va_P D vwCl (rW cI cZ a (sA (sA (sA (sA σ 1 ((σ.2 0).toNatClampNeg) p1) 2 ((σ.2 0).toNatClampNeg) p2) 3 ((σ.2 0).toNatClampNeg) p3) 4 ((σ.2 0).toNatClampNeg) p4)) H := hP
              refine lv_aload_n C.hx C.hb dX6_file_99 rfl (lv_at hl 0 rfl) ?_
              refine fr_X6_22_0 C hP dX6_file_100 ?_
              refine lv_aload_n C.hx C.hb dX6_file_103 rfl (lv_at hl 0 rfl) ?_
              refine fr_X6_97_0 C hP dX6_file_104 ?_
              refine lv_iload C.hx C.hb dX6_file_107 (lv_at hl 5 rfl) ?_
              refine str_5 (i := (σ.2 0)) (x := p5) C hD hP hS g_14 dX6_file_109 (fun H locs hP hS => ?_)
              have hP : va_P D vwCl (rW cI cZ a (sA (sA (sA (sA (sA σ 1 ((σ.2 0).toNatClampNeg) p1) 2 ((σ.2 0).toNatClampNeg) p2) 3 ((σ.2 0).toNatClampNeg) p3) 4 ((σ.2 0).toNatClampNeg) p4) 5 ((σ.2 0).toNatClampNeg) p5)) H := hP
              refine lv_aload_n C.hx C.hb dX6_file_110 rfl (lv_at hl 0 rfl) ?_
              refine lv_dup C.hx C.hb dX6_file_111 rfl ?_
              refine fr_X6_97_0 C hP dX6_file_112 ?_
              refine lv_iconst (v := (1 : Int32)) C.hx C.hb dX6_file_115 (by decide) ?_
              refine lv_iadd C.hx C.hb dX6_file_116 ?_
              refine pr_X6_97_0 (x := ((σ.2 0) + (1 : Int32))) C hD hP hS dX6_file_117 (fun H locs hP hS => ?_)
              have hP : va_P D vwCl (rW cI cZ a (sZ (sA (sA (sA (sA (sA σ 1 ((σ.2 0).toNatClampNeg) p1) 2 ((σ.2 0).toNatClampNeg) p2) 3 ((σ.2 0).toNatClampNeg) p3) 4 ((σ.2 0).toNatClampNeg) p4) 5 ((σ.2 0).toNatClampNeg) p5) 0 ((σ.2 0) + (1 : Int32)))) H := hP
              refine lv_aload_n C.hx C.hb dX6_file_120 rfl (lv_at hl 0 rfl) ?_
              refine fr_X6_97_0 C hP dX6_file_121 ?_
              refine lv_iconst (v := (1 : Int32)) C.hx C.hb dX6_file_124 (by decide) ?_
              refine lv_isub C.hx C.hb dX6_file_125 ?_
              cases h
              exact gRetI C hr hlocks hP hS dX6_file_126
            · have h := gpos c_13 h
              refine lv_bipush (v := (-4 : Int32)) C.hx C.hb dX6_file_55 (by decide) ?_
              cases h
              exact gRetI C hr hlocks hP hS dX6_file_57
          · have h := gpos c_12 h
            refine lv_bipush (v := (-2 : Int32)) C.hx C.hb dX6_file_43 (by decide) ?_
            cases h
            exact gRetI C hr hlocks hP hS dX6_file_45
    · have h := gneg c_3 h
      refine lv_iload_n C.hx C.hb dX6_file_12 rfl (lv_at hl 3 rfl) ?_
      obtain ⟨r_15, e_15, h⟩ := gbind h
      refine gCallS (wd := rW cI cZ a) (As := [.int p3]) (rest := []) C hml hl.1 hS (mX6_isName hD e_15) k_507 k_508 k_36 k_509 hdX6_isName ⟨by show 1 + 1 ≤ 2; omega, by show 8 + (1 + 11) + (22) ≤ 42; omega⟩ hP rfl rfl (Nat.le_of_ble_eq_true rfl) dX6_file_13 ⟨Nat.zero_le _, Nat.zero_le _⟩ (fun H locs hP hS => ?_)
      refine lv_if_eq (tgt := 43) C.hx C.hb dX6_file_16 (by decide) (fun c_16 => ?_) (fun c_16 => ?_)
      · have h := gpos c_16 h
        refine lv_bipush (v := (-2 : Int32)) C.hx C.hb dX6_file_43 (by decide) ?_
        cases h
        exact gRetI C hr hlocks hP hS dX6_file_45
      · have h := gneg c_16 h
        refine lv_iload C.hx C.hb dX6_file_19 (lv_at hl 4 rfl) ?_
        refine lv_iconst (v := (-1 : Int32)) C.hx C.hb dX6_file_21 (by decide) ?_
        refine lv_icmp_eq (tgt := 33) C.hx C.hb dX6_file_22 (by decide) (fun c_17 => ?_) (fun c_17 => ?_)
        · have h := gpos c_17 h
          refine lv_iload C.hx C.hb dX6_file_33 (lv_at hl 5 rfl) ?_
          refine lv_iconst (v := (0 : Int32)) C.hx C.hb dX6_file_35 (by decide) ?_
          refine lv_iconst (v := (3 : Int32)) C.hx C.hb dX6_file_36 (by decide) ?_
          obtain ⟨r_18, e_18, h⟩ := gbind h
          refine gCallS (wd := rW cI cZ a) (As := [.int p5, .int (0 : Int32), .int (3 : Int32)]) (rest := []) C hml hl.1 hS (mX6_in hD e_18) k_510 k_511 k_36 k_512 hdX6_in ⟨by show 0 + 1 ≤ 2; omega, by show 8 + (3 + 11) + (0) ≤ 42; omega⟩ hP rfl rfl (Nat.le_of_ble_eq_true rfl) dX6_file_37 ⟨Nat.zero_le _, Nat.zero_le _⟩ (fun H locs hP hS => ?_)
          refine lv_if_ne (tgt := 46) C.hx C.hb dX6_file_40 (by decide) (fun c_19 => ?_) (fun c_19 => ?_)
          · have h := gneg c_19 h
            refine lv_aload_n C.hx C.hb dX6_file_46 rfl (lv_at hl 0 rfl) ?_
            refine fr_X6_97_0 C hP dX6_file_47 ?_
            refine lv_bipush (v := (40 : Int32)) C.hx C.hb dX6_file_50 (by decide) ?_
            refine lv_icmp_ne (tgt := 58) C.hx C.hb dX6_file_52 (by decide) (fun c_20 => ?_) (fun c_20 => ?_)
            · have h := gneg c_20 h
              refine lv_aload_n C.hx C.hb dX6_file_58 rfl (lv_at hl 0 rfl) ?_
              refine fr_X6_7_0 C hP dX6_file_59 ?_
              refine lv_aload_n C.hx C.hb dX6_file_62 rfl (lv_at hl 0 rfl) ?_
              refine fr_X6_97_0 C hP dX6_file_63 ?_
              refine lv_iload_n C.hx C.hb dX6_file_66 rfl (lv_at hl 1 rfl) ?_
              obtain ⟨g_21, h⟩ := gsplit h
              refine str_1 (i := (σ.2 0)) (x := p1) C hD hP hS g_21 dX6_file_67 (fun H locs hP hS => ?_)
              have hP : va_P D vwCl (rW cI cZ a (sA σ 1 ((σ.2 0).toNatClampNeg) p1)) H := hP
              refine lv_aload_n C.hx C.hb dX6_file_68 rfl (lv_at hl 0 rfl) ?_
              refine fr_X6_13_0 C hP dX6_file_69 ?_
              refine lv_aload_n C.hx C.hb dX6_file_72 rfl (lv_at hl 0 rfl) ?_
              refine fr_X6_97_0 C hP dX6_file_73 ?_
              refine lv_iload_n C.hx C.hb dX6_file_76 rfl (lv_at hl 2 rfl) ?_
              refine str_2 (i := (σ.2 0)) (x := p2) C hD hP hS g_21 dX6_file_77 (fun H locs hP hS => ?_)
              have hP : va_P D vwCl (rW cI cZ a (sA (sA σ 1 ((σ.2 0).toNatClampNeg) p1) 2 ((σ.2 0).toNatClampNeg) p2)) H := hP
              refine lv_aload_n C.hx C.hb dX6_file_78 rfl (lv_at hl 0 rfl) ?_
              refine fr_X6_16_0 C hP dX6_file_79 ?_
              refine lv_aload_n C.hx C.hb dX6_file_82 rfl (lv_at hl 0 rfl) ?_
              refine fr_X6_97_0 C hP dX6_file_83 ?_
              refine lv_iload_n C.hx C.hb dX6_file_86 rfl (lv_at hl 3 rfl) ?_
              refine str_3 (i := (σ.2 0)) (x := p3) C hD hP hS g_21 dX6_file_87 (fun H locs hP hS => ?_)
              have hP : va_P D vwCl (rW cI cZ a (sA (sA (sA σ 1 ((σ.2 0).toNatClampNeg) p1) 2 ((σ.2 0).toNatClampNeg) p2) 3 ((σ.2 0).toNatClampNeg) p3)) H := hP
              refine lv_aload_n C.hx C.hb dX6_file_88 rfl (lv_at hl 0 rfl) ?_
              refine fr_X6_19_0 C hP dX6_file_89 ?_
              refine lv_aload_n C.hx C.hb dX6_file_92 rfl (lv_at hl 0 rfl) ?_
              refine fr_X6_97_0 C hP dX6_file_93 ?_
              refine lv_iload C.hx C.hb dX6_file_96 (lv_at hl 4 rfl) ?_
              refine str_4 (i := (σ.2 0)) (x := p4) C hD hP hS g_21 dX6_file_98 (fun H locs hP hS => ?_)
              have hP : va_P D vwCl (rW cI cZ a (sA (sA (sA (sA σ 1 ((σ.2 0).toNatClampNeg) p1) 2 ((σ.2 0).toNatClampNeg) p2) 3 ((σ.2 0).toNatClampNeg) p3) 4 ((σ.2 0).toNatClampNeg) p4)) H := hP
              refine lv_aload_n C.hx C.hb dX6_file_99 rfl (lv_at hl 0 rfl) ?_
              refine fr_X6_22_0 C hP dX6_file_100 ?_
              refine lv_aload_n C.hx C.hb dX6_file_103 rfl (lv_at hl 0 rfl) ?_
              refine fr_X6_97_0 C hP dX6_file_104 ?_
              refine lv_iload C.hx C.hb dX6_file_107 (lv_at hl 5 rfl) ?_
              refine str_5 (i := (σ.2 0)) (x := p5) C hD hP hS g_21 dX6_file_109 (fun H locs hP hS => ?_)
              have hP : va_P D vwCl (rW cI cZ a (sA (sA (sA (sA (sA σ 1 ((σ.2 0).toNatClampNeg) p1) 2 ((σ.2 0).toNatClampNeg) p2) 3 ((σ.2 0).toNatClampNeg) p3) 4 ((σ.2 0).toNatClampNeg) p4) 5 ((σ.2 0).toNatClampNeg) p5)) H := hP
              refine lv_aload_n C.hx C.hb dX6_file_110 rfl (lv_at hl 0 rfl) ?_
              refine lv_dup C.hx C.hb dX6_file_111 rfl ?_
              refine fr_X6_97_0 C hP dX6_file_112 ?_
              refine lv_iconst (v := (1 : Int32)) C.hx C.hb dX6_file_115 (by decide) ?_
              refine lv_iadd C.hx C.hb dX6_file_116 ?_
              refine pr_X6_97_0 (x := ((σ.2 0) + (1 : Int32))) C hD hP hS dX6_file_117 (fun H locs hP hS => ?_)
              have hP : va_P D vwCl (rW cI cZ a (sZ (sA (sA (sA (sA (sA σ 1 ((σ.2 0).toNatClampNeg) p1) 2 ((σ.2 0).toNatClampNeg) p2) 3 ((σ.2 0).toNatClampNeg) p3) 4 ((σ.2 0).toNatClampNeg) p4) 5 ((σ.2 0).toNatClampNeg) p5) 0 ((σ.2 0) + (1 : Int32)))) H := hP
              refine lv_aload_n C.hx C.hb dX6_file_120 rfl (lv_at hl 0 rfl) ?_
              refine fr_X6_97_0 C hP dX6_file_121 ?_
              refine lv_iconst (v := (1 : Int32)) C.hx C.hb dX6_file_124 (by decide) ?_
              refine lv_isub C.hx C.hb dX6_file_125 ?_
              cases h
              exact gRetI C hr hlocks hP hS dX6_file_126
            · have h := gpos c_20 h
              refine lv_bipush (v := (-4 : Int32)) C.hx C.hb dX6_file_55 (by decide) ?_
              cases h
              exact gRetI C hr hlocks hP hS dX6_file_57
          · have h := gpos c_19 h
            refine lv_bipush (v := (-2 : Int32)) C.hx C.hb dX6_file_43 (by decide) ?_
            cases h
            exact gRetI C hr hlocks hP hS dX6_file_45
        · have h := gneg c_17 h
          refine lv_iload C.hx C.hb dX6_file_25 (lv_at hl 4 rfl) ?_
          obtain ⟨r_22, e_22, h⟩ := gbind h
          refine gCallS (wd := rW cI cZ a) (As := [.int p4]) (rest := []) C hml hl.1 hS (mX6_isName hD e_22) k_507 k_508 k_36 k_509 hdX6_isName ⟨by show 1 + 1 ≤ 2; omega, by show 8 + (1 + 11) + (22) ≤ 42; omega⟩ hP rfl rfl (Nat.le_of_ble_eq_true rfl) dX6_file_27 ⟨Nat.zero_le _, Nat.zero_le _⟩ (fun H locs hP hS => ?_)
          refine lv_if_eq (tgt := 43) C.hx C.hb dX6_file_30 (by decide) (fun c_23 => ?_) (fun c_23 => ?_)
          · have h := gpos c_23 h
            refine lv_bipush (v := (-2 : Int32)) C.hx C.hb dX6_file_43 (by decide) ?_
            cases h
            exact gRetI C hr hlocks hP hS dX6_file_45
          · have h := gneg c_23 h
            refine lv_iload C.hx C.hb dX6_file_33 (lv_at hl 5 rfl) ?_
            refine lv_iconst (v := (0 : Int32)) C.hx C.hb dX6_file_35 (by decide) ?_
            refine lv_iconst (v := (3 : Int32)) C.hx C.hb dX6_file_36 (by decide) ?_
            obtain ⟨r_24, e_24, h⟩ := gbind h
            refine gCallS (wd := rW cI cZ a) (As := [.int p5, .int (0 : Int32), .int (3 : Int32)]) (rest := []) C hml hl.1 hS (mX6_in hD e_24) k_510 k_511 k_36 k_512 hdX6_in ⟨by show 0 + 1 ≤ 2; omega, by show 8 + (3 + 11) + (0) ≤ 42; omega⟩ hP rfl rfl (Nat.le_of_ble_eq_true rfl) dX6_file_37 ⟨Nat.zero_le _, Nat.zero_le _⟩ (fun H locs hP hS => ?_)
            refine lv_if_ne (tgt := 46) C.hx C.hb dX6_file_40 (by decide) (fun c_25 => ?_) (fun c_25 => ?_)
            · have h := gneg c_25 h
              refine lv_aload_n C.hx C.hb dX6_file_46 rfl (lv_at hl 0 rfl) ?_
              refine fr_X6_97_0 C hP dX6_file_47 ?_
              refine lv_bipush (v := (40 : Int32)) C.hx C.hb dX6_file_50 (by decide) ?_
              refine lv_icmp_ne (tgt := 58) C.hx C.hb dX6_file_52 (by decide) (fun c_26 => ?_) (fun c_26 => ?_)
              · have h := gneg c_26 h
                refine lv_aload_n C.hx C.hb dX6_file_58 rfl (lv_at hl 0 rfl) ?_
                refine fr_X6_7_0 C hP dX6_file_59 ?_
                refine lv_aload_n C.hx C.hb dX6_file_62 rfl (lv_at hl 0 rfl) ?_
                refine fr_X6_97_0 C hP dX6_file_63 ?_
                refine lv_iload_n C.hx C.hb dX6_file_66 rfl (lv_at hl 1 rfl) ?_
                obtain ⟨g_27, h⟩ := gsplit h
                refine str_1 (i := (σ.2 0)) (x := p1) C hD hP hS g_27 dX6_file_67 (fun H locs hP hS => ?_)
                have hP : va_P D vwCl (rW cI cZ a (sA σ 1 ((σ.2 0).toNatClampNeg) p1)) H := hP
                refine lv_aload_n C.hx C.hb dX6_file_68 rfl (lv_at hl 0 rfl) ?_
                refine fr_X6_13_0 C hP dX6_file_69 ?_
                refine lv_aload_n C.hx C.hb dX6_file_72 rfl (lv_at hl 0 rfl) ?_
                refine fr_X6_97_0 C hP dX6_file_73 ?_
                refine lv_iload_n C.hx C.hb dX6_file_76 rfl (lv_at hl 2 rfl) ?_
                refine str_2 (i := (σ.2 0)) (x := p2) C hD hP hS g_27 dX6_file_77 (fun H locs hP hS => ?_)
                have hP : va_P D vwCl (rW cI cZ a (sA (sA σ 1 ((σ.2 0).toNatClampNeg) p1) 2 ((σ.2 0).toNatClampNeg) p2)) H := hP
                refine lv_aload_n C.hx C.hb dX6_file_78 rfl (lv_at hl 0 rfl) ?_
                refine fr_X6_16_0 C hP dX6_file_79 ?_
                refine lv_aload_n C.hx C.hb dX6_file_82 rfl (lv_at hl 0 rfl) ?_
                refine fr_X6_97_0 C hP dX6_file_83 ?_
                refine lv_iload_n C.hx C.hb dX6_file_86 rfl (lv_at hl 3 rfl) ?_
                refine str_3 (i := (σ.2 0)) (x := p3) C hD hP hS g_27 dX6_file_87 (fun H locs hP hS => ?_)
                have hP : va_P D vwCl (rW cI cZ a (sA (sA (sA σ 1 ((σ.2 0).toNatClampNeg) p1) 2 ((σ.2 0).toNatClampNeg) p2) 3 ((σ.2 0).toNatClampNeg) p3)) H := hP
                refine lv_aload_n C.hx C.hb dX6_file_88 rfl (lv_at hl 0 rfl) ?_
                refine fr_X6_19_0 C hP dX6_file_89 ?_
                refine lv_aload_n C.hx C.hb dX6_file_92 rfl (lv_at hl 0 rfl) ?_
                refine fr_X6_97_0 C hP dX6_file_93 ?_
                refine lv_iload C.hx C.hb dX6_file_96 (lv_at hl 4 rfl) ?_
                refine str_4 (i := (σ.2 0)) (x := p4) C hD hP hS g_27 dX6_file_98 (fun H locs hP hS => ?_)
                have hP : va_P D vwCl (rW cI cZ a (sA (sA (sA (sA σ 1 ((σ.2 0).toNatClampNeg) p1) 2 ((σ.2 0).toNatClampNeg) p2) 3 ((σ.2 0).toNatClampNeg) p3) 4 ((σ.2 0).toNatClampNeg) p4)) H := hP
                refine lv_aload_n C.hx C.hb dX6_file_99 rfl (lv_at hl 0 rfl) ?_
                refine fr_X6_22_0 C hP dX6_file_100 ?_
                refine lv_aload_n C.hx C.hb dX6_file_103 rfl (lv_at hl 0 rfl) ?_
                refine fr_X6_97_0 C hP dX6_file_104 ?_
                refine lv_iload C.hx C.hb dX6_file_107 (lv_at hl 5 rfl) ?_
                refine str_5 (i := (σ.2 0)) (x := p5) C hD hP hS g_27 dX6_file_109 (fun H locs hP hS => ?_)
                have hP : va_P D vwCl (rW cI cZ a (sA (sA (sA (sA (sA σ 1 ((σ.2 0).toNatClampNeg) p1) 2 ((σ.2 0).toNatClampNeg) p2) 3 ((σ.2 0).toNatClampNeg) p3) 4 ((σ.2 0).toNatClampNeg) p4) 5 ((σ.2 0).toNatClampNeg) p5)) H := hP
                refine lv_aload_n C.hx C.hb dX6_file_110 rfl (lv_at hl 0 rfl) ?_
                refine lv_dup C.hx C.hb dX6_file_111 rfl ?_
                refine fr_X6_97_0 C hP dX6_file_112 ?_
                refine lv_iconst (v := (1 : Int32)) C.hx C.hb dX6_file_115 (by decide) ?_
                refine lv_iadd C.hx C.hb dX6_file_116 ?_
                refine pr_X6_97_0 (x := ((σ.2 0) + (1 : Int32))) C hD hP hS dX6_file_117 (fun H locs hP hS => ?_)
                have hP : va_P D vwCl (rW cI cZ a (sZ (sA (sA (sA (sA (sA σ 1 ((σ.2 0).toNatClampNeg) p1) 2 ((σ.2 0).toNatClampNeg) p2) 3 ((σ.2 0).toNatClampNeg) p3) 4 ((σ.2 0).toNatClampNeg) p4) 5 ((σ.2 0).toNatClampNeg) p5) 0 ((σ.2 0) + (1 : Int32)))) H := hP
                refine lv_aload_n C.hx C.hb dX6_file_120 rfl (lv_at hl 0 rfl) ?_
                refine fr_X6_97_0 C hP dX6_file_121 ?_
                refine lv_iconst (v := (1 : Int32)) C.hx C.hb dX6_file_124 (by decide) ?_
                refine lv_isub C.hx C.hb dX6_file_125 ?_
                cases h
                exact gRetI C hr hlocks hP hS dX6_file_126
              · have h := gpos c_26 h
                refine lv_bipush (v := (-4 : Int32)) C.hx C.hb dX6_file_55 (by decide) ?_
                cases h
                exact gRetI C hr hlocks hP hS dX6_file_57
            · have h := gpos c_25 h
              refine lv_bipush (v := (-2 : Int32)) C.hx C.hb dX6_file_43 (by decide) ?_
              cases h
              exact gRetI C hr hlocks hP hS dX6_file_45
set_option maxHeartbeats 4000000 in
set_option maxRecDepth 100000 in
theorem mX6_isLoader {l : Launch} {D : va_G} {cI cZ : ClassId} {a : Nat → Nat} (hD : ∀ σ, va_D (rAd a) (rW cI cZ a σ)) {σ : MS} {p1 : Int32} {r : Int32} (h : sX6_isLoader σ p1 = some r) : gMet (rW cI cZ a) (rAd a) l D cI cZ yX6_isLoader cX6_isLoader 2 (some .boolean) (1) (22) [.ref (a 0), .int p1] σ r σ := by
  refine gEnt (by decide) (Nat.le_of_ble_eq_true rfl) (fun p e s m below meth c ls C hml hr hlocks hP hl => ?_)
  have hl : lv_has ls 2 [(0, .ref (a 0)), (1, .int p1)] := hl
  have hS : va_S (rAd a) s.heap s.heap [] := va_S.rf
  rw [sX6_isLoader] at h
  refine lv_iload_n C.hx C.hb dX6_isLoader_0 rfl (lv_at hl 1 rfl) ?_
  refine lv_iconst (v := (0 : Int32)) C.hx C.hb dX6_isLoader_1 (by decide) ?_
  refine lv_aload_n C.hx C.hb dX6_isLoader_2 rfl (lv_at hl 0 rfl) ?_
  refine fr_X6_93_0 C hP dX6_isLoader_3 ?_
  refine lv_iconst (v := (1 : Int32)) C.hx C.hb dX6_isLoader_6 (by decide) ?_
  refine lv_isub C.hx C.hb dX6_isLoader_7 ?_
  obtain ⟨r_1, e_1, h⟩ := gbind h
  refine gCallS (wd := rW cI cZ a) (As := [.int p1, .int (0 : Int32), .int ((σ.2 6) - (1 : Int32))]) (rest := []) C hml hl.1 hS (mX6_in hD e_1) k_510 k_511 k_36 k_512 hdX6_in ⟨by show 0 + 1 ≤ 1; omega, by show 8 + (3 + 11) + (0) ≤ 22; omega⟩ hP rfl rfl (Nat.le_of_ble_eq_true rfl) dX6_isLoader_8 ⟨Nat.zero_le _, Nat.zero_le _⟩ (fun H locs hP hS => ?_)
  obtain ⟨g_2, h⟩ := gsplit h
  cases h
  exact gRetZ C hr hlocks g_2 hP hS dX6_isLoader_11
set_option maxHeartbeats 4000000 in
set_option maxRecDepth 100000 in
theorem wX6_loader_L77 {l : Launch} {D : va_G} {cI cZ : ClassId} {a : Nat → Nat} {p : Program} {e : Env} {s : State} {m : MethodId} {args : Array Value} {below : List Frame} {meth : Method} {c : Code} {fu : Nat} {r : Int32} {σ' : MS} (C : Cx RX6 cX6_loader D cI cZ p s m args c) (hml : c.maxLocals = 4) (hr : meth.sig.returnType = (some .int)) (hlocks : meth.locks = false) (hD : ∀ σ, va_D (rAd a) (rW cI cZ a σ)) : ∀ (n : Nat) (σ : MS) (x1 : Int32) (x2 : Int32) (x3 : Int32) (H : Heap) (locs : List Loc) (ls : Array Slot), lv_has ls 4 [(0, .ref (a 0)), (1, .int x1), (2, .int x2), (3, .int x3)] → va_P D vwCl (rW cI cZ a σ) H → va_S (rAd a) s.heap H locs → sX6_loader_L77 fu n σ x1 x2 x3 = some (r, σ') → W p l e (gRm (2) (43)) s m args below meth c H locs 0 0 (MQ below (gQi (rW cI cZ a) (rAd a) D r σ') args s 0 0 (rAd a)) (F0 m 77 ls []) := by
  intro n
  induction n with
  | zero => intro σ x1 x2 x3 H locs ls hl hP hS h; cases h
  | succ n ih =>
    intro σ x1 x2 x3 H locs ls hl hP hS h
    rw [sX6_loader_L77] at h
    refine lv_iload_n C.hx C.hb dX6_loader_77 rfl (lv_at hl 3 rfl) ?_
    refine lv_bipush (v := (31 : Int32)) C.hx C.hb dX6_loader_78 (by decide) ?_
    refine lv_icmp_ge (tgt := 134) C.hx C.hb dX6_loader_80 (by decide) (fun c_1 => ?_) (fun c_1 => ?_)
    · have h := gpos c_1 h
      refine lv_aload_n C.hx C.hb dX6_loader_134 rfl (lv_at hl 0 rfl) ?_
      refine lv_dup C.hx C.hb dX6_loader_135 rfl ?_
      refine fr_X6_93_0 C hP dX6_loader_136 ?_
      refine lv_iconst (v := (1 : Int32)) C.hx C.hb dX6_loader_139 (by decide) ?_
      refine lv_iadd C.hx C.hb dX6_loader_140 ?_
      refine pr_X6_93_0 (x := ((σ.2 6) + (1 : Int32))) C hD hP hS dX6_loader_141 (fun H locs hP hS => ?_)
      have hP : va_P D vwCl (rW cI cZ a (sZ σ 6 ((σ.2 6) + (1 : Int32)))) H := hP
      refine lv_aload_n C.hx C.hb dX6_loader_144 rfl (lv_at hl 0 rfl) ?_
      refine fr_X6_93_0 C hP dX6_loader_145 ?_
      refine lv_iconst (v := (1 : Int32)) C.hx C.hb dX6_loader_148 (by decide) ?_
      refine lv_isub C.hx C.hb dX6_loader_149 ?_
      cases h
      exact gRetI C hr hlocks hP hS dX6_loader_150
    · have h := gneg c_1 h
      refine lv_aload_n C.hx C.hb dX6_loader_83 rfl (lv_at hl 0 rfl) ?_
      refine fr_X6_35_0 C hP dX6_loader_84 ?_
      refine lv_bipush (v := (31 : Int32)) C.hx C.hb dX6_loader_87 (by decide) ?_
      refine lv_aload_n C.hx C.hb dX6_loader_89 rfl (lv_at hl 0 rfl) ?_
      refine fr_X6_93_0 C hP dX6_loader_90 ?_
      refine lv_imul C.hx C.hb dX6_loader_93 ?_
      refine lv_iload_n C.hx C.hb dX6_loader_94 rfl (lv_at hl 3 rfl) ?_
      refine lv_iadd C.hx C.hb dX6_loader_95 ?_
      refine lv_iconst (v := (-1 : Int32)) C.hx C.hb dX6_loader_96 (by decide) ?_
      obtain ⟨g_2, h⟩ := gsplit h
      refine str_10 (i := (((31 : Int32) * (σ.2 6)) + x3)) (x := (-1 : Int32)) C hD hP hS g_2 dX6_loader_97 (fun H locs hP hS => ?_)
      have hP : va_P D vwCl (rW cI cZ a (sA σ 10 ((((31 : Int32) * (σ.2 6)) + x3).toNatClampNeg) (-1 : Int32))) H := hP
      refine lv_aload_n C.hx C.hb dX6_loader_98 rfl (lv_at hl 0 rfl) ?_
      refine fr_X6_38_0 C hP dX6_loader_99 ?_
      refine lv_bipush (v := (31 : Int32)) C.hx C.hb dX6_loader_102 (by decide) ?_
      refine lv_aload_n C.hx C.hb dX6_loader_104 rfl (lv_at hl 0 rfl) ?_
      refine fr_X6_93_0 C hP dX6_loader_105 ?_
      refine lv_imul C.hx C.hb dX6_loader_108 ?_
      refine lv_iload_n C.hx C.hb dX6_loader_109 rfl (lv_at hl 3 rfl) ?_
      refine lv_iadd C.hx C.hb dX6_loader_110 ?_
      refine lv_iconst (v := (-1 : Int32)) C.hx C.hb dX6_loader_111 (by decide) ?_
      refine str_11 (i := (((31 : Int32) * (σ.2 6)) + x3)) (x := (-1 : Int32)) C hD hP hS g_2 dX6_loader_112 (fun H locs hP hS => ?_)
      have hP : va_P D vwCl (rW cI cZ a (sA (sA σ 10 ((((31 : Int32) * (σ.2 6)) + x3).toNatClampNeg) (-1 : Int32)) 11 ((((31 : Int32) * (σ.2 6)) + x3).toNatClampNeg) (-1 : Int32))) H := hP
      refine lv_aload_n C.hx C.hb dX6_loader_113 rfl (lv_at hl 0 rfl) ?_
      refine fr_X6_41_0 C hP dX6_loader_114 ?_
      refine lv_bipush (v := (31 : Int32)) C.hx C.hb dX6_loader_117 (by decide) ?_
      refine lv_aload_n C.hx C.hb dX6_loader_119 rfl (lv_at hl 0 rfl) ?_
      refine fr_X6_93_0 C hP dX6_loader_120 ?_
      refine lv_imul C.hx C.hb dX6_loader_123 ?_
      refine lv_iload_n C.hx C.hb dX6_loader_124 rfl (lv_at hl 3 rfl) ?_
      refine lv_iadd C.hx C.hb dX6_loader_125 ?_
      refine lv_iconst (v := (-1 : Int32)) C.hx C.hb dX6_loader_126 (by decide) ?_
      refine str_12 (i := (((31 : Int32) * (σ.2 6)) + x3)) (x := (-1 : Int32)) C hD hP hS g_2 dX6_loader_127 (fun H locs hP hS => ?_)
      have hP : va_P D vwCl (rW cI cZ a (sA (sA (sA σ 10 ((((31 : Int32) * (σ.2 6)) + x3).toNatClampNeg) (-1 : Int32)) 11 ((((31 : Int32) * (σ.2 6)) + x3).toNatClampNeg) (-1 : Int32)) 12 ((((31 : Int32) * (σ.2 6)) + x3).toNatClampNeg) (-1 : Int32))) H := hP
      refine lv_iinc (v := (x3 + (1 : Int32))) (lv' := [(3, .int (x3 + (1 : Int32))), (0, .ref (a 0)), (1, .int x1), (2, .int x2)]) C.hx C.hb dX6_loader_128 hl (k := 3) rfl rfl (by decide) rfl (fun ls hl => ?_)
      refine lv_goto (tgt := 77) C.hx C.hb dX6_loader_131 (by decide) ?_
      exact ih (sA (sA (sA σ 10 ((((31 : Int32) * (σ.2 6)) + x3).toNatClampNeg) (-1 : Int32)) 11 ((((31 : Int32) * (σ.2 6)) + x3).toNatClampNeg) (-1 : Int32)) 12 ((((31 : Int32) * (σ.2 6)) + x3).toNatClampNeg) (-1 : Int32)) x1 x2 (x3 + (1 : Int32)) _ _ ls (lv_sub hl [1, 2, 3, 0] rfl) hP hS h
set_option maxHeartbeats 4000000 in
set_option maxRecDepth 100000 in
theorem mX6_loader {l : Launch} {D : va_G} {cI cZ : ClassId} {a : Nat → Nat} (hD : ∀ σ, va_D (rAd a) (rW cI cZ a σ)) {fu : Nat} {σ : MS} {p1 p2 : Int32} {r : Int32} {σ' : MS} (h : sX6_loader fu σ p1 p2 = some (r, σ')) : gMet (rW cI cZ a) (rAd a) l D cI cZ yX6_loader cX6_loader 4 (some .int) (2) (43) [.ref (a 0), .int p1, .int p2] σ r σ' := by
  refine gEnt (by decide) (Nat.le_of_ble_eq_true rfl) (fun p e s m below meth c ls C hml hr hlocks hP hl => ?_)
  have hl : lv_has ls 4 [(0, .ref (a 0)), (1, .int p1), (2, .int p2)] := hl
  have hS : va_S (rAd a) s.heap s.heap [] := va_S.rf
  rw [sX6_loader] at h
  refine lv_iload_n C.hx C.hb dX6_loader_0 rfl (lv_at hl 1 rfl) ?_
  refine lv_iconst (v := (-1 : Int32)) C.hx C.hb dX6_loader_1 (by decide) ?_
  refine lv_icmp_eq (tgt := 26) C.hx C.hb dX6_loader_2 (by decide) (fun c_1 => ?_) (fun c_1 => ?_)
  · have h := gpos c_1 h
    refine lv_iload_n C.hx C.hb dX6_loader_26 rfl (lv_at hl 1 rfl) ?_
    refine lv_iconst (v := (-1 : Int32)) C.hx C.hb dX6_loader_27 (by decide) ?_
    refine lv_icmp_eq (tgt := 43) C.hx C.hb dX6_loader_28 (by decide) (fun _ => ?_) (fun c_ => absurd c_1 c_)
    refine lv_aload_n C.hx C.hb dX6_loader_43 rfl (lv_at hl 0 rfl) ?_
    refine fr_X6_93_0 C hP dX6_loader_44 ?_
    refine lv_bipush (v := (10 : Int32)) C.hx C.hb dX6_loader_47 (by decide) ?_
    refine lv_icmp_ne (tgt := 55) C.hx C.hb dX6_loader_49 (by decide) (fun c_2 => ?_) (fun c_2 => ?_)
    · have h := gneg c_2 h
      refine lv_aload_n C.hx C.hb dX6_loader_55 rfl (lv_at hl 0 rfl) ?_
      refine fr_X6_25_0 C hP dX6_loader_56 ?_
      refine lv_aload_n C.hx C.hb dX6_loader_59 rfl (lv_at hl 0 rfl) ?_
      refine fr_X6_93_0 C hP dX6_loader_60 ?_
      refine lv_iload_n C.hx C.hb dX6_loader_63 rfl (lv_at hl 1 rfl) ?_
      obtain ⟨g_3, h⟩ := gsplit h
      refine str_7 (i := (σ.2 6)) (x := p1) C hD hP hS g_3 dX6_loader_64 (fun H locs hP hS => ?_)
      have hP : va_P D vwCl (rW cI cZ a (sA σ 7 ((σ.2 6).toNatClampNeg) p1)) H := hP
      refine lv_aload_n C.hx C.hb dX6_loader_65 rfl (lv_at hl 0 rfl) ?_
      refine fr_X6_28_0 C hP dX6_loader_66 ?_
      refine lv_aload_n C.hx C.hb dX6_loader_69 rfl (lv_at hl 0 rfl) ?_
      refine fr_X6_93_0 C hP dX6_loader_70 ?_
      refine lv_iload_n C.hx C.hb dX6_loader_73 rfl (lv_at hl 2 rfl) ?_
      refine str_8 (i := (σ.2 6)) (x := p2) C hD hP hS g_3 dX6_loader_74 (fun H locs hP hS => ?_)
      have hP : va_P D vwCl (rW cI cZ a (sA (sA σ 7 ((σ.2 6).toNatClampNeg) p1) 8 ((σ.2 6).toNatClampNeg) (vp_nar .boolean p2))) H := hP
      refine lv_iconst (v := (0 : Int32)) C.hx C.hb dX6_loader_75 (by decide) ?_
      refine lv_istore_n (lv' := [(3, .int (0 : Int32)), (0, .ref (a 0)), (1, .int p1), (2, .int p2)]) C.hx C.hb dX6_loader_76 rfl hl (by decide) rfl (fun ls hl => ?_)
      exact wX6_loader_L77 C hml hr hlocks hD fu (sA (sA σ 7 ((σ.2 6).toNatClampNeg) p1) 8 ((σ.2 6).toNatClampNeg) (vp_nar .boolean p2)) p1 p2 (0 : Int32) _ _ ls (lv_sub hl [1, 2, 3, 0] rfl) hP hS h
    · have h := gpos c_2 h
      refine lv_bipush (v := (-4 : Int32)) C.hx C.hb dX6_loader_52 (by decide) ?_
      cases h
      exact gRetI C hr hlocks hP hS dX6_loader_54
  · have h := gneg c_1 h
    refine lv_aload_n C.hx C.hb dX6_loader_5 rfl (lv_at hl 0 rfl) ?_
    refine lv_iload_n C.hx C.hb dX6_loader_6 rfl (lv_at hl 1 rfl) ?_
    obtain ⟨r_4, e_4, h⟩ := gbind h
    refine gCallV (wd := rW cI cZ a) (As := [.int p1]) (rest := []) C hml hl.1 hS (mX6_isLoader hD e_4) k_517 k_519 k_12 k_36 k_520 hdX6_isLoader ⟨by show 1 + 1 ≤ 2; omega, by show 8 + (2 + 11) + (22) ≤ 43; omega⟩ hP 0 6 rfl rfl rfl rfl rfl (Nat.le_of_ble_eq_true rfl) dX6_loader_7 ⟨Nat.zero_le _, Nat.zero_le _⟩ (fun H locs hP hS => ?_)
    refine lv_if_eq (tgt := 23) C.hx C.hb dX6_loader_10 (by decide) (fun c_5 => ?_) (fun c_5 => ?_)
    · have h := gpos c_5 h
      refine lv_bipush (v := (-2 : Int32)) C.hx C.hb dX6_loader_23 (by decide) ?_
      cases h
      exact gRetI C hr hlocks hP hS dX6_loader_25
    · have h := gneg c_5 h
      refine lv_aload_n C.hx C.hb dX6_loader_13 rfl (lv_at hl 0 rfl) ?_
      refine fr_X6_25_0 C hP dX6_loader_14 ?_
      refine lv_iload_n C.hx C.hb dX6_loader_17 rfl (lv_at hl 1 rfl) ?_
      obtain ⟨g_6, h⟩ := gsplit h
      refine ldr_7 (i := p1) C hP g_6 dX6_loader_18 ?_
      refine lv_iconst (v := (-1 : Int32)) C.hx C.hb dX6_loader_19 (by decide) ?_
      refine lv_icmp_eq (tgt := 26) C.hx C.hb dX6_loader_20 (by decide) (fun c_7 => ?_) (fun c_7 => ?_)
      · have h := gpos c_7 h
        refine lv_iload_n C.hx C.hb dX6_loader_26 rfl (lv_at hl 1 rfl) ?_
        refine lv_iconst (v := (-1 : Int32)) C.hx C.hb dX6_loader_27 (by decide) ?_
        refine lv_icmp_eq (tgt := 43) C.hx C.hb dX6_loader_28 (by decide) (fun c_ => absurd c_ c_1) (fun _ => ?_)
        refine lv_aload_n C.hx C.hb dX6_loader_31 rfl (lv_at hl 0 rfl) ?_
        refine fr_X6_32_0 C hP dX6_loader_32 ?_
        refine lv_iload_n C.hx C.hb dX6_loader_35 rfl (lv_at hl 1 rfl) ?_
        refine ldr_9 (i := p1) C hP g_6 dX6_loader_36 ?_
        refine lv_if_eq (tgt := 43) C.hx C.hb dX6_loader_37 (by decide) (fun c_8 => ?_) (fun c_8 => ?_)
        · have h := gpos c_8 h
          refine lv_aload_n C.hx C.hb dX6_loader_43 rfl (lv_at hl 0 rfl) ?_
          refine fr_X6_93_0 C hP dX6_loader_44 ?_
          refine lv_bipush (v := (10 : Int32)) C.hx C.hb dX6_loader_47 (by decide) ?_
          refine lv_icmp_ne (tgt := 55) C.hx C.hb dX6_loader_49 (by decide) (fun c_9 => ?_) (fun c_9 => ?_)
          · have h := gneg c_9 h
            refine lv_aload_n C.hx C.hb dX6_loader_55 rfl (lv_at hl 0 rfl) ?_
            refine fr_X6_25_0 C hP dX6_loader_56 ?_
            refine lv_aload_n C.hx C.hb dX6_loader_59 rfl (lv_at hl 0 rfl) ?_
            refine fr_X6_93_0 C hP dX6_loader_60 ?_
            refine lv_iload_n C.hx C.hb dX6_loader_63 rfl (lv_at hl 1 rfl) ?_
            obtain ⟨g_10, h⟩ := gsplit h
            refine str_7 (i := (σ.2 6)) (x := p1) C hD hP hS g_10 dX6_loader_64 (fun H locs hP hS => ?_)
            have hP : va_P D vwCl (rW cI cZ a (sA σ 7 ((σ.2 6).toNatClampNeg) p1)) H := hP
            refine lv_aload_n C.hx C.hb dX6_loader_65 rfl (lv_at hl 0 rfl) ?_
            refine fr_X6_28_0 C hP dX6_loader_66 ?_
            refine lv_aload_n C.hx C.hb dX6_loader_69 rfl (lv_at hl 0 rfl) ?_
            refine fr_X6_93_0 C hP dX6_loader_70 ?_
            refine lv_iload_n C.hx C.hb dX6_loader_73 rfl (lv_at hl 2 rfl) ?_
            refine str_8 (i := (σ.2 6)) (x := p2) C hD hP hS g_10 dX6_loader_74 (fun H locs hP hS => ?_)
            have hP : va_P D vwCl (rW cI cZ a (sA (sA σ 7 ((σ.2 6).toNatClampNeg) p1) 8 ((σ.2 6).toNatClampNeg) (vp_nar .boolean p2))) H := hP
            refine lv_iconst (v := (0 : Int32)) C.hx C.hb dX6_loader_75 (by decide) ?_
            refine lv_istore_n (lv' := [(3, .int (0 : Int32)), (0, .ref (a 0)), (1, .int p1), (2, .int p2)]) C.hx C.hb dX6_loader_76 rfl hl (by decide) rfl (fun ls hl => ?_)
            exact wX6_loader_L77 C hml hr hlocks hD fu (sA (sA σ 7 ((σ.2 6).toNatClampNeg) p1) 8 ((σ.2 6).toNatClampNeg) (vp_nar .boolean p2)) p1 p2 (0 : Int32) _ _ ls (lv_sub hl [1, 2, 3, 0] rfl) hP hS h
          · have h := gpos c_9 h
            refine lv_bipush (v := (-4 : Int32)) C.hx C.hb dX6_loader_52 (by decide) ?_
            cases h
            exact gRetI C hr hlocks hP hS dX6_loader_54
        · have h := gneg c_8 h
          refine lv_bipush (v := (-3 : Int32)) C.hx C.hb dX6_loader_40 (by decide) ?_
          cases h
          exact gRetI C hr hlocks hP hS dX6_loader_42
      · have h := gneg c_7 h
        refine lv_bipush (v := (-2 : Int32)) C.hx C.hb dX6_loader_23 (by decide) ?_
        cases h
        exact gRetI C hr hlocks hP hS dX6_loader_25
set_option maxHeartbeats 4000000 in
set_option maxRecDepth 100000 in
theorem mX6_isFile {l : Launch} {D : va_G} {cI cZ : ClassId} {a : Nat → Nat} (hD : ∀ σ, va_D (rAd a) (rW cI cZ a σ)) {σ : MS} {p1 : Int32} {r : Int32} (h : sX6_isFile σ p1 = some r) : gMet (rW cI cZ a) (rAd a) l D cI cZ yX6_isFile cX6_isFile 2 (some .boolean) (1) (22) [.ref (a 0), .int p1] σ r σ := by
  refine gEnt (by decide) (Nat.le_of_ble_eq_true rfl) (fun p e s m below meth c ls C hml hr hlocks hP hl => ?_)
  have hl : lv_has ls 2 [(0, .ref (a 0)), (1, .int p1)] := hl
  have hS : va_S (rAd a) s.heap s.heap [] := va_S.rf
  rw [sX6_isFile] at h
  refine lv_iload_n C.hx C.hb dX6_isFile_0 rfl (lv_at hl 1 rfl) ?_
  refine lv_iconst (v := (0 : Int32)) C.hx C.hb dX6_isFile_1 (by decide) ?_
  refine lv_aload_n C.hx C.hb dX6_isFile_2 rfl (lv_at hl 0 rfl) ?_
  refine fr_X6_97_0 C hP dX6_isFile_3 ?_
  refine lv_iconst (v := (1 : Int32)) C.hx C.hb dX6_isFile_6 (by decide) ?_
  refine lv_isub C.hx C.hb dX6_isFile_7 ?_
  obtain ⟨r_1, e_1, h⟩ := gbind h
  refine gCallS (wd := rW cI cZ a) (As := [.int p1, .int (0 : Int32), .int ((σ.2 0) - (1 : Int32))]) (rest := []) C hml hl.1 hS (mX6_in hD e_1) k_510 k_511 k_36 k_512 hdX6_in ⟨by show 0 + 1 ≤ 1; omega, by show 8 + (3 + 11) + (0) ≤ 22; omega⟩ hP rfl rfl (Nat.le_of_ble_eq_true rfl) dX6_isFile_8 ⟨Nat.zero_le _, Nat.zero_le _⟩ (fun H locs hP hS => ?_)
  obtain ⟨g_2, h⟩ := gsplit h
  cases h
  exact gRetZ C hr hlocks g_2 hP hS dX6_isFile_11
set_option maxHeartbeats 4000000 in
set_option maxRecDepth 100000 in
theorem mX6_put {l : Launch} {D : va_G} {cI cZ : ClassId} {a : Nat → Nat} (hD : ∀ σ, va_D (rAd a) (rW cI cZ a σ)) {σ : MS} {p1 p2 p3 : Int32} {r : Int32} {σ' : MS} (h : sX6_put σ p1 p2 p3 = some (r, σ')) : gMet (rW cI cZ a) (rAd a) l D cI cZ yX6_put cX6_put 4 (some .int) (2) (43) [.ref (a 0), .int p1, .int p2, .int p3] σ r σ' := by
  refine gEnt (by decide) (Nat.le_of_ble_eq_true rfl) (fun p e s m below meth c ls C hml hr hlocks hP hl => ?_)
  have hl : lv_has ls 4 [(0, .ref (a 0)), (1, .int p1), (2, .int p2), (3, .int p3)] := hl
  have hS : va_S (rAd a) s.heap s.heap [] := va_S.rf
  rw [sX6_put] at h
  refine lv_aload_n C.hx C.hb dX6_put_0 rfl (lv_at hl 0 rfl) ?_
  refine lv_iload_n C.hx C.hb dX6_put_1 rfl (lv_at hl 1 rfl) ?_
  obtain ⟨r_1, e_1, h⟩ := gbind h
  refine gCallV (wd := rW cI cZ a) (As := [.int p1]) (rest := []) C hml hl.1 hS (mX6_isLoader hD e_1) k_517 k_519 k_12 k_36 k_520 hdX6_isLoader ⟨by show 1 + 1 ≤ 2; omega, by show 8 + (2 + 11) + (22) ≤ 43; omega⟩ hP 0 6 rfl rfl rfl rfl rfl (Nat.le_of_ble_eq_true rfl) dX6_put_2 ⟨Nat.zero_le _, Nat.zero_le _⟩ (fun H locs hP hS => ?_)
  refine lv_if_eq (tgt := 23) C.hx C.hb dX6_put_5 (by decide) (fun c_2 => ?_) (fun c_2 => ?_)
  · have h := gpos c_2 h
    refine lv_bipush (v := (-2 : Int32)) C.hx C.hb dX6_put_23 (by decide) ?_
    cases h
    exact gRetI C hr hlocks hP hS dX6_put_25
  · have h := gneg c_2 h
    refine lv_iload_n C.hx C.hb dX6_put_8 rfl (lv_at hl 2 rfl) ?_
    obtain ⟨r_3, e_3, h⟩ := gbind h
    refine gCallS (wd := rW cI cZ a) (As := [.int p2]) (rest := []) C hml hl.1 hS (mX6_isName hD e_3) k_507 k_508 k_36 k_509 hdX6_isName ⟨by show 1 + 1 ≤ 2; omega, by show 8 + (1 + 11) + (22) ≤ 43; omega⟩ hP rfl rfl (Nat.le_of_ble_eq_true rfl) dX6_put_9 ⟨Nat.zero_le _, Nat.zero_le _⟩ (fun H locs hP hS => ?_)
    refine lv_if_eq (tgt := 23) C.hx C.hb dX6_put_12 (by decide) (fun c_4 => ?_) (fun c_4 => ?_)
    · have h := gpos c_4 h
      refine lv_bipush (v := (-2 : Int32)) C.hx C.hb dX6_put_23 (by decide) ?_
      cases h
      exact gRetI C hr hlocks hP hS dX6_put_25
    · have h := gneg c_4 h
      refine lv_aload_n C.hx C.hb dX6_put_15 rfl (lv_at hl 0 rfl) ?_
      refine lv_iload_n C.hx C.hb dX6_put_16 rfl (lv_at hl 3 rfl) ?_
      obtain ⟨r_5, e_5, h⟩ := gbind h
      refine gCallV (wd := rW cI cZ a) (As := [.int p3]) (rest := []) C hml hl.1 hS (mX6_isFile hD e_5) k_525 k_527 k_13 k_36 k_528 hdX6_isFile ⟨by show 1 + 1 ≤ 2; omega, by show 8 + (2 + 11) + (22) ≤ 43; omega⟩ hP 0 6 rfl rfl rfl rfl rfl (Nat.le_of_ble_eq_true rfl) dX6_put_17 ⟨Nat.zero_le _, Nat.zero_le _⟩ (fun H locs hP hS => ?_)
      refine lv_if_ne (tgt := 26) C.hx C.hb dX6_put_20 (by decide) (fun c_6 => ?_) (fun c_6 => ?_)
      · have h := gneg c_6 h
        refine lv_aload_n C.hx C.hb dX6_put_26 rfl (lv_at hl 0 rfl) ?_
        refine fr_X6_32_0 C hP dX6_put_27 ?_
        refine lv_iload_n C.hx C.hb dX6_put_30 rfl (lv_at hl 1 rfl) ?_
        obtain ⟨g_7, h⟩ := gsplit h
        refine ldr_9 (i := p1) C hP g_7 dX6_put_31 ?_
        refine lv_if_eq (tgt := 38) C.hx C.hb dX6_put_32 (by decide) (fun c_8 => ?_) (fun c_8 => ?_)
        · have h := gpos c_8 h
          refine lv_aload_n C.hx C.hb dX6_put_38 rfl (lv_at hl 0 rfl) ?_
          refine fr_X6_35_0 C hP dX6_put_39 ?_
          refine lv_bipush (v := (31 : Int32)) C.hx C.hb dX6_put_42 (by decide) ?_
          refine lv_iload_n C.hx C.hb dX6_put_44 rfl (lv_at hl 1 rfl) ?_
          refine lv_imul C.hx C.hb dX6_put_45 ?_
          refine lv_iload_n C.hx C.hb dX6_put_46 rfl (lv_at hl 2 rfl) ?_
          refine lv_iadd C.hx C.hb dX6_put_47 ?_
          refine lv_iload_n C.hx C.hb dX6_put_48 rfl (lv_at hl 3 rfl) ?_
          obtain ⟨g_9, h⟩ := gsplit h
          refine str_10 (i := (((31 : Int32) * p1) + p2)) (x := p3) C hD hP hS g_9 dX6_put_49 (fun H locs hP hS => ?_)
          have hP : va_P D vwCl (rW cI cZ a (sA σ 10 ((((31 : Int32) * p1) + p2).toNatClampNeg) p3)) H := hP
          refine lv_iconst (v := (1 : Int32)) C.hx C.hb dX6_put_50 (by decide) ?_
          cases h
          exact gRetI C hr hlocks hP hS dX6_put_51
        · have h := gneg c_8 h
          refine lv_bipush (v := (-3 : Int32)) C.hx C.hb dX6_put_35 (by decide) ?_
          cases h
          exact gRetI C hr hlocks hP hS dX6_put_37
      · have h := gpos c_6 h
        refine lv_bipush (v := (-2 : Int32)) C.hx C.hb dX6_put_23 (by decide) ?_
        cases h
        exact gRetI C hr hlocks hP hS dX6_put_25
set_option maxHeartbeats 4000000 in
set_option maxRecDepth 100000 in
theorem mX6_push {l : Launch} {D : va_G} {cI cZ : ClassId} {a : Nat → Nat} (hD : ∀ σ, va_D (rAd a) (rW cI cZ a σ)) {σ : MS} {p1 p2 p3 p4 : Int32} {σ' : MS} (h : sX6_push σ p1 p2 p3 p4 = some σ') : gMetV (rW cI cZ a) (rAd a) l D cI cZ yX6_push cX6_push 5 (0) (0) [.ref (a 0), .int p1, .int p2, .int p3, .int p4] σ σ' := by
  refine gEnt (by decide) (Nat.le_of_ble_eq_true rfl) (fun p e s m below meth c ls C hml hr hlocks hP hl => ?_)
  have hl : lv_has ls 5 [(0, .ref (a 0)), (1, .int p1), (2, .int p2), (3, .int p3), (4, .int p4)] := hl
  have hS : va_S (rAd a) s.heap s.heap [] := va_S.rf
  rw [sX6_push] at h
  refine lv_aload_n C.hx C.hb dX6_push_0 rfl (lv_at hl 0 rfl) ?_
  refine fr_X6_71_0 C hP dX6_push_1 ?_
  refine lv_aload_n C.hx C.hb dX6_push_4 rfl (lv_at hl 0 rfl) ?_
  refine fr_X6_116_0 C hP dX6_push_5 ?_
  refine lv_iload_n C.hx C.hb dX6_push_8 rfl (lv_at hl 1 rfl) ?_
  obtain ⟨g_1, h⟩ := gsplit h
  refine str_26 (i := (σ.2 25)) (x := p1) C hD hP hS g_1 dX6_push_9 (fun H locs hP hS => ?_)
  have hP : va_P D vwCl (rW cI cZ a (sA σ 26 ((σ.2 25).toNatClampNeg) p1)) H := hP
  refine lv_aload_n C.hx C.hb dX6_push_10 rfl (lv_at hl 0 rfl) ?_
  refine fr_X6_74_0 C hP dX6_push_11 ?_
  refine lv_aload_n C.hx C.hb dX6_push_14 rfl (lv_at hl 0 rfl) ?_
  refine fr_X6_116_0 C hP dX6_push_15 ?_
  refine lv_iconst (v := (0 : Int32)) C.hx C.hb dX6_push_18 (by decide) ?_
  refine str_27 (i := (σ.2 25)) (x := (0 : Int32)) C hD hP hS g_1 dX6_push_19 (fun H locs hP hS => ?_)
  have hP : va_P D vwCl (rW cI cZ a (sA (sA σ 26 ((σ.2 25).toNatClampNeg) p1) 27 ((σ.2 25).toNatClampNeg) (0 : Int32))) H := hP
  refine lv_aload_n C.hx C.hb dX6_push_20 rfl (lv_at hl 0 rfl) ?_
  refine fr_X6_77_0 C hP dX6_push_21 ?_
  refine lv_aload_n C.hx C.hb dX6_push_24 rfl (lv_at hl 0 rfl) ?_
  refine fr_X6_116_0 C hP dX6_push_25 ?_
  refine lv_iload_n C.hx C.hb dX6_push_28 rfl (lv_at hl 2 rfl) ?_
  refine str_28 (i := (σ.2 25)) (x := p2) C hD hP hS g_1 dX6_push_29 (fun H locs hP hS => ?_)
  have hP : va_P D vwCl (rW cI cZ a (sA (sA (sA σ 26 ((σ.2 25).toNatClampNeg) p1) 27 ((σ.2 25).toNatClampNeg) (0 : Int32)) 28 ((σ.2 25).toNatClampNeg) p2)) H := hP
  refine lv_aload_n C.hx C.hb dX6_push_30 rfl (lv_at hl 0 rfl) ?_
  refine fr_X6_80_0 C hP dX6_push_31 ?_
  refine lv_aload_n C.hx C.hb dX6_push_34 rfl (lv_at hl 0 rfl) ?_
  refine fr_X6_116_0 C hP dX6_push_35 ?_
  refine lv_iload_n C.hx C.hb dX6_push_38 rfl (lv_at hl 3 rfl) ?_
  refine str_29 (i := (σ.2 25)) (x := p3) C hD hP hS g_1 dX6_push_39 (fun H locs hP hS => ?_)
  have hP : va_P D vwCl (rW cI cZ a (sA (sA (sA (sA σ 26 ((σ.2 25).toNatClampNeg) p1) 27 ((σ.2 25).toNatClampNeg) (0 : Int32)) 28 ((σ.2 25).toNatClampNeg) p2) 29 ((σ.2 25).toNatClampNeg) p3)) H := hP
  refine lv_aload_n C.hx C.hb dX6_push_40 rfl (lv_at hl 0 rfl) ?_
  refine fr_X6_83_0 C hP dX6_push_41 ?_
  refine lv_aload_n C.hx C.hb dX6_push_44 rfl (lv_at hl 0 rfl) ?_
  refine fr_X6_116_0 C hP dX6_push_45 ?_
  refine lv_iload C.hx C.hb dX6_push_48 (lv_at hl 4 rfl) ?_
  refine str_30 (i := (σ.2 25)) (x := p4) C hD hP hS g_1 dX6_push_50 (fun H locs hP hS => ?_)
  have hP : va_P D vwCl (rW cI cZ a (sA (sA (sA (sA (sA σ 26 ((σ.2 25).toNatClampNeg) p1) 27 ((σ.2 25).toNatClampNeg) (0 : Int32)) 28 ((σ.2 25).toNatClampNeg) p2) 29 ((σ.2 25).toNatClampNeg) p3) 30 ((σ.2 25).toNatClampNeg) (vp_nar .boolean p4))) H := hP
  refine lv_aload_n C.hx C.hb dX6_push_51 rfl (lv_at hl 0 rfl) ?_
  refine lv_dup C.hx C.hb dX6_push_52 rfl ?_
  refine fr_X6_116_0 C hP dX6_push_53 ?_
  refine lv_iconst (v := (1 : Int32)) C.hx C.hb dX6_push_56 (by decide) ?_
  refine lv_iadd C.hx C.hb dX6_push_57 ?_
  refine pr_X6_116_0 (x := ((σ.2 25) + (1 : Int32))) C hD hP hS dX6_push_58 (fun H locs hP hS => ?_)
  have hP : va_P D vwCl (rW cI cZ a (sZ (sA (sA (sA (sA (sA σ 26 ((σ.2 25).toNatClampNeg) p1) 27 ((σ.2 25).toNatClampNeg) (0 : Int32)) 28 ((σ.2 25).toNatClampNeg) p2) 29 ((σ.2 25).toNatClampNeg) p3) 30 ((σ.2 25).toNatClampNeg) (vp_nar .boolean p4)) 25 ((σ.2 25) + (1 : Int32)))) H := hP
  cases h
  exact gRetV C hr hlocks hP hS dX6_push_61
set_option maxHeartbeats 4000000 in
set_option maxRecDepth 100000 in
theorem mX6_gives {l : Launch} {D : va_G} {cI cZ : ClassId} {a : Nat → Nat} (hD : ∀ σ, va_D (rAd a) (rW cI cZ a σ)) {σ : MS} {p1 : Int32} {σ' : MS} (h : sX6_gives σ p1 = some σ') : gMetV (rW cI cZ a) (rAd a) l D cI cZ yX6_gives cX6_gives 2 (0) (0) [.ref (a 0), .int p1] σ σ' := by
  refine gEnt (by decide) (Nat.le_of_ble_eq_true rfl) (fun p e s m below meth c ls C hml hr hlocks hP hl => ?_)
  have hl : lv_has ls 2 [(0, .ref (a 0)), (1, .int p1)] := hl
  have hS : va_S (rAd a) s.heap s.heap [] := va_S.rf
  rw [sX6_gives] at h
  refine lv_aload_n C.hx C.hb dX6_gives_0 rfl (lv_at hl 0 rfl) ?_
  refine lv_iload_n C.hx C.hb dX6_gives_1 rfl (lv_at hl 1 rfl) ?_
  refine pr_X6_119_0 (x := p1) C hD hP hS dX6_gives_2 (fun H locs hP hS => ?_)
  have hP : va_P D vwCl (rW cI cZ a (sZ σ 31 p1)) H := hP
  refine lv_aload_n C.hx C.hb dX6_gives_5 rfl (lv_at hl 0 rfl) ?_
  refine lv_dup C.hx C.hb dX6_gives_6 rfl ?_
  refine fr_X6_116_0 C hP dX6_gives_7 ?_
  refine lv_iconst (v := (1 : Int32)) C.hx C.hb dX6_gives_10 (by decide) ?_
  refine lv_isub C.hx C.hb dX6_gives_11 ?_
  refine pr_X6_116_0 (x := ((σ.2 25) - (1 : Int32))) C hD hP hS dX6_gives_12 (fun H locs hP hS => ?_)
  have hP : va_P D vwCl (rW cI cZ a (sZ (sZ σ 31 p1) 25 ((σ.2 25) - (1 : Int32)))) H := hP
  cases h
  exact gRetV C hr hlocks hP hS dX6_gives_15
set_option maxHeartbeats 4000000 in
set_option maxRecDepth 100000 in
theorem mX6_keeps {l : Launch} {D : va_G} {cI cZ : ClassId} {a : Nat → Nat} (hD : ∀ σ, va_D (rAd a) (rW cI cZ a σ)) {σ : MS} {p1 : Int32} {σ' : MS} (h : sX6_keeps σ p1 = some σ') : gMetV (rW cI cZ a) (rAd a) l D cI cZ yX6_keeps cX6_keeps 2 (1) (21) [.ref (a 0), .int p1] σ σ' := by
  refine gEnt (by decide) (Nat.le_of_ble_eq_true rfl) (fun p e s m below meth c ls C hml hr hlocks hP hl => ?_)
  have hl : lv_has ls 2 [(0, .ref (a 0)), (1, .int p1)] := hl
  have hS : va_S (rAd a) s.heap s.heap [] := va_S.rf
  rw [sX6_keeps] at h
  refine lv_aload_n C.hx C.hb dX6_keeps_0 rfl (lv_at hl 0 rfl) ?_
  refine fr_X6_41_0 C hP dX6_keeps_1 ?_
  refine lv_iload_n C.hx C.hb dX6_keeps_4 rfl (lv_at hl 1 rfl) ?_
  refine lv_aload_n C.hx C.hb dX6_keeps_5 rfl (lv_at hl 0 rfl) ?_
  refine fr_X6_119_0 C hP dX6_keeps_6 ?_
  refine lv_if_lt (tgt := 19) C.hx C.hb dX6_keeps_9 (by decide) (fun c_1 => ?_) (fun c_1 => ?_)
  · have h := gpos c_1 h
    refine lv_aload_n C.hx C.hb dX6_keeps_19 rfl (lv_at hl 0 rfl) ?_
    refine fr_X6_41_0 C hP dX6_keeps_20 ?_
    refine lv_iload_n C.hx C.hb dX6_keeps_23 rfl (lv_at hl 1 rfl) ?_
    obtain ⟨g_2, h⟩ := gsplit h
    refine ldr_12 (i := p1) C hP g_2 dX6_keeps_24 ?_
    refine str_12 (i := p1) (x := (σ.1 12 (p1.toNatClampNeg))) C hD hP hS g_2 dX6_keeps_25 (fun H locs hP hS => ?_)
    have hP : va_P D vwCl (rW cI cZ a (sA σ 12 (p1.toNatClampNeg) (σ.1 12 (p1.toNatClampNeg)))) H := hP
    refine lv_aload_n C.hx C.hb dX6_keeps_26 rfl (lv_at hl 0 rfl) ?_
    refine lv_aload_n C.hx C.hb dX6_keeps_27 rfl (lv_at hl 0 rfl) ?_
    refine fr_X6_119_0 C hP dX6_keeps_28 ?_
    obtain ⟨u_3, e_3, h⟩ := gbind h
    refine gCallVv (wd := rW cI cZ a) (As := [.int (σ.2 31)]) (rest := []) C hml hl.1 hS (mX6_gives hD e_3) k_549 k_551 k_18 k_36 k_552 hdX6_gives ⟨by show 0 + 1 ≤ 1; omega, by show 8 + (2 + 11) + (0) ≤ 21; omega⟩ hP 0 6 rfl rfl rfl rfl rfl (Nat.le_of_ble_eq_true rfl) dX6_keeps_31 ⟨Nat.zero_le _, Nat.zero_le _⟩ (fun H locs hP hS => ?_)
    cases h
    exact gRetV C hr hlocks hP hS dX6_keeps_34
  · have h := gneg c_1 h
    refine lv_aload_n C.hx C.hb dX6_keeps_12 rfl (lv_at hl 0 rfl) ?_
    refine fr_X6_119_0 C hP dX6_keeps_13 ?_
    refine lv_goto (tgt := 25) C.hx C.hb dX6_keeps_16 (by decide) ?_
    obtain ⟨g_4, h⟩ := gsplit h
    refine str_12 (i := p1) (x := (σ.2 31)) C hD hP hS g_4 dX6_keeps_25 (fun H locs hP hS => ?_)
    have hP : va_P D vwCl (rW cI cZ a (sA σ 12 (p1.toNatClampNeg) (σ.2 31))) H := hP
    refine lv_aload_n C.hx C.hb dX6_keeps_26 rfl (lv_at hl 0 rfl) ?_
    refine lv_aload_n C.hx C.hb dX6_keeps_27 rfl (lv_at hl 0 rfl) ?_
    refine fr_X6_119_0 C hP dX6_keeps_28 ?_
    obtain ⟨u_5, e_5, h⟩ := gbind h
    refine gCallVv (wd := rW cI cZ a) (As := [.int (σ.2 31)]) (rest := []) C hml hl.1 hS (mX6_gives hD e_5) k_549 k_551 k_18 k_36 k_552 hdX6_gives ⟨by show 0 + 1 ≤ 1; omega, by show 8 + (2 + 11) + (0) ≤ 21; omega⟩ hP 0 6 rfl rfl rfl rfl rfl (Nat.le_of_ble_eq_true rfl) dX6_keeps_31 ⟨Nat.zero_le _, Nat.zero_le _⟩ (fun H locs hP hS => ?_)
    cases h
    exact gRetV C hr hlocks hP hS dX6_keeps_34
set_option maxHeartbeats 4000000 in
set_option maxRecDepth 100000 in
theorem mX6_asksAbove {l : Launch} {D : va_G} {cI cZ : ClassId} {a : Nat → Nat} (hD : ∀ σ, va_D (rAd a) (rW cI cZ a σ)) {σ : MS} {p1 p2 p3 : Int32} {σ' : MS} (h : sX6_asksAbove σ p1 p2 p3 = some σ') : gMetV (rW cI cZ a) (rAd a) l D cI cZ yX6_asksAbove cX6_asksAbove 4 (1) (24) [.ref (a 0), .int p1, .int p2, .int p3] σ σ' := by
  refine gEnt (by decide) (Nat.le_of_ble_eq_true rfl) (fun p e s m below meth c ls C hml hr hlocks hP hl => ?_)
  have hl : lv_has ls 4 [(0, .ref (a 0)), (1, .int p1), (2, .int p2), (3, .int p3)] := hl
  have hS : va_S (rAd a) s.heap s.heap [] := va_S.rf
  rw [sX6_asksAbove] at h
  refine lv_aload_n C.hx C.hb dX6_asksAbove_0 rfl (lv_at hl 0 rfl) ?_
  refine fr_X6_74_0 C hP dX6_asksAbove_1 ?_
  refine lv_iload_n C.hx C.hb dX6_asksAbove_4 rfl (lv_at hl 1 rfl) ?_
  refine lv_iload_n C.hx C.hb dX6_asksAbove_5 rfl (lv_at hl 3 rfl) ?_
  obtain ⟨g_1, h⟩ := gsplit h
  refine str_27 (i := p1) (x := p3) C hD hP hS g_1 dX6_asksAbove_6 (fun H locs hP hS => ?_)
  have hP : va_P D vwCl (rW cI cZ a (sA σ 27 (p1.toNatClampNeg) p3)) H := hP
  refine lv_aload_n C.hx C.hb dX6_asksAbove_7 rfl (lv_at hl 0 rfl) ?_
  refine lv_iconst (v := (0 : Int32)) C.hx C.hb dX6_asksAbove_8 (by decide) ?_
  refine lv_bipush (v := (31 : Int32)) C.hx C.hb dX6_asksAbove_9 (by decide) ?_
  refine lv_aload_n C.hx C.hb dX6_asksAbove_11 rfl (lv_at hl 0 rfl) ?_
  refine fr_X6_25_0 C hP dX6_asksAbove_12 ?_
  refine lv_iload_n C.hx C.hb dX6_asksAbove_15 rfl (lv_at hl 2 rfl) ?_
  refine lv_bipush (v := (31 : Int32)) C.hx C.hb dX6_asksAbove_16 (by decide) ?_
  refine lv_idiv C.hx C.hb dX6_asksAbove_18 (by decide) ?_
  obtain ⟨g_2, h⟩ := gsplit h
  refine ldr_7 (i := (p2 / (31 : Int32))) C hP g_2 dX6_asksAbove_19 ?_
  refine lv_imul C.hx C.hb dX6_asksAbove_20 ?_
  refine lv_iload_n C.hx C.hb dX6_asksAbove_21 rfl (lv_at hl 2 rfl) ?_
  refine lv_bipush (v := (31 : Int32)) C.hx C.hb dX6_asksAbove_22 (by decide) ?_
  refine lv_irem C.hx C.hb dX6_asksAbove_24 (by decide) ?_
  refine lv_iadd C.hx C.hb dX6_asksAbove_25 ?_
  refine lv_iconst (v := (-1 : Int32)) C.hx C.hb dX6_asksAbove_26 (by decide) ?_
  refine lv_iconst (v := (0 : Int32)) C.hx C.hb dX6_asksAbove_27 (by decide) ?_
  obtain ⟨u_3, e_3, h⟩ := gbind h
  refine gCallVv (wd := rW cI cZ a) (As := [.int (0 : Int32), .int (((31 : Int32) * (σ.1 7 ((p2 / (31 : Int32)).toNatClampNeg))) + (p2 - p2 / (31 : Int32) * (31 : Int32))), .int (-1 : Int32), .int (0 : Int32)]) (rest := []) C hml hl.1 hS (mX6_push hD e_3) k_537 k_539 k_15 k_36 k_540 hdX6_push ⟨by show 0 + 1 ≤ 1; omega, by show 8 + (5 + 11) + (0) ≤ 24; omega⟩ hP 0 6 rfl rfl rfl rfl rfl (Nat.le_of_ble_eq_true rfl) dX6_asksAbove_28 ⟨Nat.zero_le _, Nat.zero_le _⟩ (fun H locs hP hS => ?_)
  cases h
  exact gRetV C hr hlocks hP hS dX6_asksAbove_31
set_option maxHeartbeats 4000000 in
set_option maxRecDepth 100000 in
theorem mX6_asks {l : Launch} {D : va_G} {cI cZ : ClassId} {a : Nat → Nat} (hD : ∀ σ, va_D (rAd a) (rW cI cZ a σ)) {σ : MS} {p1 p2 : Int32} {σ' : MS} (h : sX6_asks σ p1 p2 = some σ') : gMetV (rW cI cZ a) (rAd a) l D cI cZ yX6_asks cX6_asks 5 (2) (47) [.ref (a 0), .int p1, .int p2] σ σ' := by
  refine gEnt (by decide) (Nat.le_of_ble_eq_true rfl) (fun p e s m below meth c ls C hml hr hlocks hP hl => ?_)
  have hl : lv_has ls 5 [(0, .ref (a 0)), (1, .int p1), (2, .int p2)] := hl
  have hS : va_S (rAd a) s.heap s.heap [] := va_S.rf
  rw [sX6_asks] at h
  refine lv_iload_n C.hx C.hb dX6_asks_0 rfl (lv_at hl 2 rfl) ?_
  refine lv_bipush (v := (31 : Int32)) C.hx C.hb dX6_asks_1 (by decide) ?_
  refine lv_idiv C.hx C.hb dX6_asks_3 (by decide) ?_
  refine lv_istore_n (lv' := [(3, .int (p2 / (31 : Int32))), (0, .ref (a 0)), (1, .int p1), (2, .int p2)]) C.hx C.hb dX6_asks_4 rfl hl (by decide) rfl (fun ls hl => ?_)
  refine lv_aload_n C.hx C.hb dX6_asks_5 rfl (lv_at hl 1 rfl) ?_
  refine fr_X6_25_0 C hP dX6_asks_6 ?_
  refine lv_iload_n C.hx C.hb dX6_asks_9 rfl (lv_at hl 0 rfl) ?_
  obtain ⟨g_1, h⟩ := gsplit h
  refine ldr_7 (i := (p2 / (31 : Int32))) C hP g_1 dX6_asks_10 ?_
  refine lv_iconst (v := (-1 : Int32)) C.hx C.hb dX6_asks_11 (by decide) ?_
  refine lv_icmp_eq (tgt := 19) C.hx C.hb dX6_asks_12 (by decide) (fun c_2 => ?_) (fun c_2 => ?_)
  · have h := gpos c_2 h
    refine lv_iconst (v := (0 : Int32)) C.hx C.hb dX6_asks_19 (by decide) ?_
    refine lv_istore (lv' := [(4, .int (0 : Int32)), (3, .int (p2 / (31 : Int32))), (0, .ref (a 0)), (1, .int p1), (2, .int p2)]) C.hx C.hb dX6_asks_20 hl (by decide) rfl (fun ls hl => ?_)
    refine lv_aload_n C.hx C.hb dX6_asks_22 rfl (lv_at hl 2 rfl) ?_
    refine fr_X6_74_0 C hP dX6_asks_23 ?_
    refine lv_iload_n C.hx C.hb dX6_asks_26 rfl (lv_at hl 3 rfl) ?_
    obtain ⟨g_3, h⟩ := gsplit h
    refine ldr_27 (i := p1) C hP g_3 dX6_asks_27 ?_
    by_cases s_28_0 : (σ.1 27 (p1.toNatClampNeg)) = (0 : Int32)
    · have h := gpos s_28_0 h
      refine lv_tableIn (tgt := 60) (off := 32) C.hx C.hb dX6_asks_28 (by rw [s_28_0]; decide) (by rw [s_28_0]; decide) (by rw [s_28_0]; rfl) (by decide) ?_
      refine lv_aload_n C.hx C.hb dX6_asks_60 rfl (lv_at hl 2 rfl) ?_
      refine fr_X6_38_0 C hP dX6_asks_61 ?_
      refine lv_iload_n C.hx C.hb dX6_asks_64 rfl (lv_at hl 4 rfl) ?_
      obtain ⟨g_4, h⟩ := gsplit h
      refine ldr_11 (i := p2) C hP g_4 dX6_asks_65 ?_
      refine lv_iconst (v := (-1 : Int32)) C.hx C.hb dX6_asks_66 (by decide) ?_
      refine lv_icmp_eq (tgt := 83) C.hx C.hb dX6_asks_67 (by decide) (fun c_5 => ?_) (fun c_5 => ?_)
      · have h := gpos c_5 h
        refine lv_aload_n C.hx C.hb dX6_asks_83 rfl (lv_at hl 2 rfl) ?_
        refine fr_X6_41_0 C hP dX6_asks_84 ?_
        refine lv_iload_n C.hx C.hb dX6_asks_87 rfl (lv_at hl 4 rfl) ?_
        refine ldr_12 (i := p2) C hP g_4 dX6_asks_88 ?_
        refine lv_iconst (v := (-1 : Int32)) C.hx C.hb dX6_asks_89 (by decide) ?_
        refine lv_icmp_eq (tgt := 106) C.hx C.hb dX6_asks_90 (by decide) (fun c_6 => ?_) (fun c_6 => ?_)
        · have h := gpos c_6 h
          refine lv_iload C.hx C.hb dX6_asks_106 (lv_at hl 0 rfl) ?_
          refine lv_if_eq (tgt := 130) C.hx C.hb dX6_asks_108 (by decide) (fun _ => ?_) (fun c_ => absurd c_ (by decide))
          refine lv_aload_n C.hx C.hb dX6_asks_130 rfl (lv_at hl 2 rfl) ?_
          refine fr_X6_74_0 C hP dX6_asks_131 ?_
          refine lv_iload_n C.hx C.hb dX6_asks_134 rfl (lv_at hl 3 rfl) ?_
          refine lv_iconst (v := (2 : Int32)) C.hx C.hb dX6_asks_135 (by decide) ?_
          refine str_27 (i := p1) (x := (2 : Int32)) C hD hP hS g_3 dX6_asks_136 (fun H locs hP hS => ?_)
          have hP : va_P D vwCl (rW cI cZ a (sA σ 27 (p1.toNatClampNeg) (2 : Int32))) H := hP
          refine lv_goto (tgt := 247) C.hx C.hb dX6_asks_137 (by decide) ?_
          cases h
          exact gRetV C hr hlocks hP hS dX6_asks_247
        · have h := gneg c_6 h
          refine lv_aload_n C.hx C.hb dX6_asks_93 rfl (lv_at hl 2 rfl) ?_
          refine lv_aload_n C.hx C.hb dX6_asks_94 rfl (lv_at hl 2 rfl) ?_
          refine fr_X6_41_0 C hP dX6_asks_95 ?_
          refine lv_iload_n C.hx C.hb dX6_asks_98 rfl (lv_at hl 4 rfl) ?_
          refine ldr_12 (i := p2) C hP g_4 dX6_asks_99 ?_
          obtain ⟨u_7, e_7, h⟩ := gbind h
          refine gCallVv (wd := rW cI cZ a) (As := [.int (σ.1 12 (p2.toNatClampNeg))]) (rest := []) C hml hl.1 hS (mX6_gives hD e_7) k_549 k_551 k_18 k_36 k_552 hdX6_gives ⟨by show 0 + 1 ≤ 2; omega, by show 8 + (2 + 11) + (0) ≤ 47; omega⟩ hP 0 6 rfl rfl rfl rfl rfl (Nat.le_of_ble_eq_true rfl) dX6_asks_100 ⟨Nat.zero_le _, Nat.zero_le _⟩ (fun H locs hP hS => ?_)
          refine lv_goto (tgt := 247) C.hx C.hb dX6_asks_103 (by decide) ?_
          cases h
          exact gRetV C hr hlocks hP hS dX6_asks_247
      · have h := gneg c_5 h
        refine lv_aload_n C.hx C.hb dX6_asks_70 rfl (lv_at hl 2 rfl) ?_
        refine lv_aload_n C.hx C.hb dX6_asks_71 rfl (lv_at hl 2 rfl) ?_
        refine fr_X6_38_0 C hP dX6_asks_72 ?_
        refine lv_iload_n C.hx C.hb dX6_asks_75 rfl (lv_at hl 4 rfl) ?_
        refine ldr_11 (i := p2) C hP g_4 dX6_asks_76 ?_
        obtain ⟨u_8, e_8, h⟩ := gbind h
        refine gCallVv (wd := rW cI cZ a) (As := [.int (σ.1 11 (p2.toNatClampNeg))]) (rest := []) C hml hl.1 hS (mX6_gives hD e_8) k_549 k_551 k_18 k_36 k_552 hdX6_gives ⟨by show 0 + 1 ≤ 2; omega, by show 8 + (2 + 11) + (0) ≤ 47; omega⟩ hP 0 6 rfl rfl rfl rfl rfl (Nat.le_of_ble_eq_true rfl) dX6_asks_77 ⟨Nat.zero_le _, Nat.zero_le _⟩ (fun H locs hP hS => ?_)
        refine lv_goto (tgt := 247) C.hx C.hb dX6_asks_80 (by decide) ?_
        cases h
        exact gRetV C hr hlocks hP hS dX6_asks_247
    · have h := gneg s_28_0 h
      by_cases s_28_1 : (σ.1 27 (p1.toNatClampNeg)) = (1 : Int32)
      · have h := gpos s_28_1 h
        refine lv_tableIn (tgt := 140) (off := 112) C.hx C.hb dX6_asks_28 (by rw [s_28_1]; decide) (by rw [s_28_1]; decide) (by rw [s_28_1]; rfl) (by decide) ?_
        refine lv_aload_n C.hx C.hb dX6_asks_140 rfl (lv_at hl 2 rfl) ?_
        refine fr_X6_119_0 C hP dX6_asks_141 ?_
        refine lv_iconst (v := (-1 : Int32)) C.hx C.hb dX6_asks_144 (by decide) ?_
        refine lv_icmp_ne (tgt := 158) C.hx C.hb dX6_asks_145 (by decide) (fun c_9 => ?_) (fun c_9 => ?_)
        · have h := gneg c_9 h
          refine lv_aload_n C.hx C.hb dX6_asks_158 rfl (lv_at hl 2 rfl) ?_
          refine lv_iload_n C.hx C.hb dX6_asks_159 rfl (lv_at hl 4 rfl) ?_
          obtain ⟨u_10, e_10, h⟩ := gbind h
          refine gCallVv (wd := rW cI cZ a) (As := [.int p2]) (rest := []) C hml hl.1 hS (mX6_keeps hD e_10) k_557 k_559 k_20 k_36 k_560 hdX6_keeps ⟨by show 1 + 1 ≤ 2; omega, by show 8 + (2 + 11) + (21) ≤ 47; omega⟩ hP 0 6 rfl rfl rfl rfl rfl (Nat.le_of_ble_eq_true rfl) dX6_asks_160 ⟨Nat.zero_le _, Nat.zero_le _⟩ (fun H locs hP hS => ?_)
          refine lv_goto (tgt := 247) C.hx C.hb dX6_asks_163 (by decide) ?_
          cases h
          exact gRetV C hr hlocks hP hS dX6_asks_247
        · have h := gpos c_9 h
          refine lv_aload_n C.hx C.hb dX6_asks_148 rfl (lv_at hl 2 rfl) ?_
          refine fr_X6_74_0 C hP dX6_asks_149 ?_
          refine lv_iload_n C.hx C.hb dX6_asks_152 rfl (lv_at hl 3 rfl) ?_
          refine lv_iconst (v := (2 : Int32)) C.hx C.hb dX6_asks_153 (by decide) ?_
          refine str_27 (i := p1) (x := (2 : Int32)) C hD hP hS g_3 dX6_asks_154 (fun H locs hP hS => ?_)
          have hP : va_P D vwCl (rW cI cZ a (sA σ 27 (p1.toNatClampNeg) (2 : Int32))) H := hP
          refine lv_goto (tgt := 247) C.hx C.hb dX6_asks_155 (by decide) ?_
          cases h
          exact gRetV C hr hlocks hP hS dX6_asks_247
      · have h := gneg s_28_1 h
        by_cases s_28_2 : (σ.1 27 (p1.toNatClampNeg)) = (2 : Int32)
        · have h := gpos s_28_2 h
          refine lv_tableIn (tgt := 166) (off := 138) C.hx C.hb dX6_asks_28 (by rw [s_28_2]; decide) (by rw [s_28_2]; decide) (by rw [s_28_2]; rfl) (by decide) ?_
          refine lv_aload_n C.hx C.hb dX6_asks_166 rfl (lv_at hl 2 rfl) ?_
          refine fr_X6_35_0 C hP dX6_asks_167 ?_
          refine lv_iload_n C.hx C.hb dX6_asks_170 rfl (lv_at hl 4 rfl) ?_
          obtain ⟨g_11, h⟩ := gsplit h
          refine ldr_10 (i := p2) C hP g_11 dX6_asks_171 ?_
          refine lv_iconst (v := (-1 : Int32)) C.hx C.hb dX6_asks_172 (by decide) ?_
          refine lv_icmp_eq (tgt := 199) C.hx C.hb dX6_asks_173 (by decide) (fun c_12 => ?_) (fun c_12 => ?_)
          · have h := gpos c_12 h
            refine lv_iload C.hx C.hb dX6_asks_199 (lv_at hl 0 rfl) ?_
            refine lv_if_eq (tgt := 223) C.hx C.hb dX6_asks_201 (by decide) (fun _ => ?_) (fun c_ => absurd c_ (by decide))
            refine lv_aload_n C.hx C.hb dX6_asks_223 rfl (lv_at hl 2 rfl) ?_
            refine lv_iconst (v := (-1 : Int32)) C.hx C.hb dX6_asks_224 (by decide) ?_
            obtain ⟨u_13, e_13, h⟩ := gbind h
            refine gCallVv (wd := rW cI cZ a) (As := [.int (-1 : Int32)]) (rest := []) C hml hl.1 hS (mX6_gives hD e_13) k_549 k_551 k_18 k_36 k_552 hdX6_gives ⟨by show 0 + 1 ≤ 2; omega, by show 8 + (2 + 11) + (0) ≤ 47; omega⟩ hP 0 6 rfl rfl rfl rfl rfl (Nat.le_of_ble_eq_true rfl) dX6_asks_225 ⟨Nat.zero_le _, Nat.zero_le _⟩ (fun H locs hP hS => ?_)
            refine lv_goto (tgt := 247) C.hx C.hb dX6_asks_228 (by decide) ?_
            cases h
            exact gRetV C hr hlocks hP hS dX6_asks_247
          · have h := gneg c_12 h
            refine lv_aload_n C.hx C.hb dX6_asks_176 rfl (lv_at hl 2 rfl) ?_
            refine fr_X6_74_0 C hP dX6_asks_177 ?_
            refine lv_iload_n C.hx C.hb dX6_asks_180 rfl (lv_at hl 3 rfl) ?_
            refine lv_iconst (v := (3 : Int32)) C.hx C.hb dX6_asks_181 (by decide) ?_
            refine str_27 (i := p1) (x := (3 : Int32)) C hD hP hS g_3 dX6_asks_182 (fun H locs hP hS => ?_)
            have hP : va_P D vwCl (rW cI cZ a (sA σ 27 (p1.toNatClampNeg) (3 : Int32))) H := hP
            refine lv_aload_n C.hx C.hb dX6_asks_183 rfl (lv_at hl 2 rfl) ?_
            refine lv_iconst (v := (1 : Int32)) C.hx C.hb dX6_asks_184 (by decide) ?_
            refine lv_iload_n C.hx C.hb dX6_asks_185 rfl (lv_at hl 4 rfl) ?_
            refine lv_aload_n C.hx C.hb dX6_asks_186 rfl (lv_at hl 2 rfl) ?_
            refine fr_X6_35_0 C hP dX6_asks_187 ?_
            refine lv_iload_n C.hx C.hb dX6_asks_190 rfl (lv_at hl 4 rfl) ?_
            refine ldr_10 (i := p2) C hP g_11 dX6_asks_191 ?_
            refine lv_iconst (v := (0 : Int32)) C.hx C.hb dX6_asks_192 (by decide) ?_
            obtain ⟨u_14, e_14, h⟩ := gbind h
            refine gCallVv (wd := rW cI cZ a) (As := [.int (1 : Int32), .int p2, .int (σ.1 10 (p2.toNatClampNeg)), .int (0 : Int32)]) (rest := []) C hml hl.1 hS (mX6_push hD e_14) k_537 k_539 k_15 k_36 k_540 hdX6_push ⟨by show 0 + 1 ≤ 2; omega, by show 8 + (5 + 11) + (0) ≤ 47; omega⟩ hP 0 6 rfl rfl rfl rfl rfl (Nat.le_of_ble_eq_true rfl) dX6_asks_193 ⟨Nat.zero_le _, Nat.zero_le _⟩ (fun H locs hP hS => ?_)
            refine lv_goto (tgt := 247) C.hx C.hb dX6_asks_196 (by decide) ?_
            cases h
            exact gRetV C hr hlocks hP hS dX6_asks_247
        · have h := gneg s_28_2 h
          by_cases s_28_3 : (σ.1 27 (p1.toNatClampNeg)) = (3 : Int32)
          · have h := gpos s_28_3 h
            refine lv_tableIn (tgt := 231) (off := 203) C.hx C.hb dX6_asks_28 (by rw [s_28_3]; decide) (by rw [s_28_3]; decide) (by rw [s_28_3]; rfl) (by decide) ?_
            refine lv_aload_n C.hx C.hb dX6_asks_231 rfl (lv_at hl 2 rfl) ?_
            refine lv_aload_n C.hx C.hb dX6_asks_232 rfl (lv_at hl 2 rfl) ?_
            refine fr_X6_119_0 C hP dX6_asks_233 ?_
            obtain ⟨u_15, e_15, h⟩ := gbind h
            refine gCallVv (wd := rW cI cZ a) (As := [.int (σ.2 31)]) (rest := []) C hml hl.1 hS (mX6_gives hD e_15) k_549 k_551 k_18 k_36 k_552 hdX6_gives ⟨by show 0 + 1 ≤ 2; omega, by show 8 + (2 + 11) + (0) ≤ 47; omega⟩ hP 0 6 rfl rfl rfl rfl rfl (Nat.le_of_ble_eq_true rfl) dX6_asks_236 ⟨Nat.zero_le _, Nat.zero_le _⟩ (fun H locs hP hS => ?_)
            refine lv_goto (tgt := 247) C.hx C.hb dX6_asks_239 (by decide) ?_
            cases h
            exact gRetV C hr hlocks hP hS dX6_asks_247
          · have h := gneg s_28_3 h
            have t_0 : ((σ.1 27 (p1.toNatClampNeg))).toInt ≠ 0 := sw_ne (by decide) s_28_0
            have t_1 : ((σ.1 27 (p1.toNatClampNeg))).toInt ≠ 1 := sw_ne (by decide) s_28_1
            have t_2 : ((σ.1 27 (p1.toNatClampNeg))).toInt ≠ 2 := sw_ne (by decide) s_28_2
            have t_3 : ((σ.1 27 (p1.toNatClampNeg))).toInt ≠ 3 := sw_ne (by decide) s_28_3
            refine lv_tableOut (tgt := 242) C.hx C.hb dX6_asks_28 (by omega) (by decide) ?_
            refine lv_aload_n C.hx C.hb dX6_asks_242 rfl (lv_at hl 2 rfl) ?_
            refine lv_iload_n C.hx C.hb dX6_asks_243 rfl (lv_at hl 4 rfl) ?_
            obtain ⟨u_16, e_16, h⟩ := gbind h
            refine gCallVv (wd := rW cI cZ a) (As := [.int p2]) (rest := []) C hml hl.1 hS (mX6_keeps hD e_16) k_557 k_559 k_20 k_36 k_560 hdX6_keeps ⟨by show 1 + 1 ≤ 2; omega, by show 8 + (2 + 11) + (21) ≤ 47; omega⟩ hP 0 6 rfl rfl rfl rfl rfl (Nat.le_of_ble_eq_true rfl) dX6_asks_244 ⟨Nat.zero_le _, Nat.zero_le _⟩ (fun H locs hP hS => ?_)
            cases h
            exact gRetV C hr hlocks hP hS dX6_asks_247
  · have h := gneg c_2 h
    refine lv_iconst (v := (1 : Int32)) C.hx C.hb dX6_asks_15 (by decide) ?_
    refine lv_goto (tgt := 20) C.hx C.hb dX6_asks_16 (by decide) ?_
    refine lv_istore (lv' := [(4, .int (1 : Int32)), (3, .int (p2 / (31 : Int32))), (0, .ref (a 0)), (1, .int p1), (2, .int p2)]) C.hx C.hb dX6_asks_20 hl (by decide) rfl (fun ls hl => ?_)
    refine lv_aload_n C.hx C.hb dX6_asks_22 rfl (lv_at hl 2 rfl) ?_
    refine fr_X6_74_0 C hP dX6_asks_23 ?_
    refine lv_iload_n C.hx C.hb dX6_asks_26 rfl (lv_at hl 3 rfl) ?_
    obtain ⟨g_17, h⟩ := gsplit h
    refine ldr_27 (i := p1) C hP g_17 dX6_asks_27 ?_
    by_cases s_28_0 : (σ.1 27 (p1.toNatClampNeg)) = (0 : Int32)
    · have h := gpos s_28_0 h
      refine lv_tableIn (tgt := 60) (off := 32) C.hx C.hb dX6_asks_28 (by rw [s_28_0]; decide) (by rw [s_28_0]; decide) (by rw [s_28_0]; rfl) (by decide) ?_
      refine lv_aload_n C.hx C.hb dX6_asks_60 rfl (lv_at hl 2 rfl) ?_
      refine fr_X6_38_0 C hP dX6_asks_61 ?_
      refine lv_iload_n C.hx C.hb dX6_asks_64 rfl (lv_at hl 4 rfl) ?_
      obtain ⟨g_18, h⟩ := gsplit h
      refine ldr_11 (i := p2) C hP g_18 dX6_asks_65 ?_
      refine lv_iconst (v := (-1 : Int32)) C.hx C.hb dX6_asks_66 (by decide) ?_
      refine lv_icmp_eq (tgt := 83) C.hx C.hb dX6_asks_67 (by decide) (fun c_19 => ?_) (fun c_19 => ?_)
      · have h := gpos c_19 h
        refine lv_aload_n C.hx C.hb dX6_asks_83 rfl (lv_at hl 2 rfl) ?_
        refine fr_X6_41_0 C hP dX6_asks_84 ?_
        refine lv_iload_n C.hx C.hb dX6_asks_87 rfl (lv_at hl 4 rfl) ?_
        refine ldr_12 (i := p2) C hP g_18 dX6_asks_88 ?_
        refine lv_iconst (v := (-1 : Int32)) C.hx C.hb dX6_asks_89 (by decide) ?_
        refine lv_icmp_eq (tgt := 106) C.hx C.hb dX6_asks_90 (by decide) (fun c_20 => ?_) (fun c_20 => ?_)
        · have h := gpos c_20 h
          refine lv_iload C.hx C.hb dX6_asks_106 (lv_at hl 0 rfl) ?_
          refine lv_if_eq (tgt := 130) C.hx C.hb dX6_asks_108 (by decide) (fun c_ => absurd c_ (by decide)) (fun _ => ?_)
          refine lv_aload_n C.hx C.hb dX6_asks_111 rfl (lv_at hl 2 rfl) ?_
          refine fr_X6_28_0 C hP dX6_asks_112 ?_
          refine lv_iload_n C.hx C.hb dX6_asks_115 rfl (lv_at hl 1 rfl) ?_
          refine ldr_8 (i := (p2 / (31 : Int32))) C hP g_1 dX6_asks_116 ?_
          refine lv_if_ne (tgt := 130) C.hx C.hb dX6_asks_117 (by decide) (fun c_21 => ?_) (fun c_21 => ?_)
          · have h := gneg c_21 h
            refine lv_aload_n C.hx C.hb dX6_asks_130 rfl (lv_at hl 2 rfl) ?_
            refine fr_X6_74_0 C hP dX6_asks_131 ?_
            refine lv_iload_n C.hx C.hb dX6_asks_134 rfl (lv_at hl 3 rfl) ?_
            refine lv_iconst (v := (2 : Int32)) C.hx C.hb dX6_asks_135 (by decide) ?_
            refine str_27 (i := p1) (x := (2 : Int32)) C hD hP hS g_17 dX6_asks_136 (fun H locs hP hS => ?_)
            have hP : va_P D vwCl (rW cI cZ a (sA σ 27 (p1.toNatClampNeg) (2 : Int32))) H := hP
            refine lv_goto (tgt := 247) C.hx C.hb dX6_asks_137 (by decide) ?_
            cases h
            exact gRetV C hr hlocks hP hS dX6_asks_247
          · have h := gpos c_21 h
            refine lv_aload_n C.hx C.hb dX6_asks_120 rfl (lv_at hl 2 rfl) ?_
            refine lv_iload_n C.hx C.hb dX6_asks_121 rfl (lv_at hl 3 rfl) ?_
            refine lv_iload_n C.hx C.hb dX6_asks_122 rfl (lv_at hl 4 rfl) ?_
            refine lv_iconst (v := (1 : Int32)) C.hx C.hb dX6_asks_123 (by decide) ?_
            obtain ⟨u_22, e_22, h⟩ := gbind h
            refine gCallVv (wd := rW cI cZ a) (As := [.int p1, .int p2, .int (1 : Int32)]) (rest := []) C hml hl.1 hS (mX6_asksAbove hD e_22) k_553 k_555 k_19 k_36 k_556 hdX6_asksAbove ⟨by show 1 + 1 ≤ 2; omega, by show 8 + (4 + 11) + (24) ≤ 47; omega⟩ hP 0 6 rfl rfl rfl rfl rfl (Nat.le_of_ble_eq_true rfl) dX6_asks_124 ⟨Nat.zero_le _, Nat.zero_le _⟩ (fun H locs hP hS => ?_)
            refine lv_goto (tgt := 247) C.hx C.hb dX6_asks_127 (by decide) ?_
            cases h
            exact gRetV C hr hlocks hP hS dX6_asks_247
        · have h := gneg c_20 h
          refine lv_aload_n C.hx C.hb dX6_asks_93 rfl (lv_at hl 2 rfl) ?_
          refine lv_aload_n C.hx C.hb dX6_asks_94 rfl (lv_at hl 2 rfl) ?_
          refine fr_X6_41_0 C hP dX6_asks_95 ?_
          refine lv_iload_n C.hx C.hb dX6_asks_98 rfl (lv_at hl 4 rfl) ?_
          refine ldr_12 (i := p2) C hP g_18 dX6_asks_99 ?_
          obtain ⟨u_23, e_23, h⟩ := gbind h
          refine gCallVv (wd := rW cI cZ a) (As := [.int (σ.1 12 (p2.toNatClampNeg))]) (rest := []) C hml hl.1 hS (mX6_gives hD e_23) k_549 k_551 k_18 k_36 k_552 hdX6_gives ⟨by show 0 + 1 ≤ 2; omega, by show 8 + (2 + 11) + (0) ≤ 47; omega⟩ hP 0 6 rfl rfl rfl rfl rfl (Nat.le_of_ble_eq_true rfl) dX6_asks_100 ⟨Nat.zero_le _, Nat.zero_le _⟩ (fun H locs hP hS => ?_)
          refine lv_goto (tgt := 247) C.hx C.hb dX6_asks_103 (by decide) ?_
          cases h
          exact gRetV C hr hlocks hP hS dX6_asks_247
      · have h := gneg c_19 h
        refine lv_aload_n C.hx C.hb dX6_asks_70 rfl (lv_at hl 2 rfl) ?_
        refine lv_aload_n C.hx C.hb dX6_asks_71 rfl (lv_at hl 2 rfl) ?_
        refine fr_X6_38_0 C hP dX6_asks_72 ?_
        refine lv_iload_n C.hx C.hb dX6_asks_75 rfl (lv_at hl 4 rfl) ?_
        refine ldr_11 (i := p2) C hP g_18 dX6_asks_76 ?_
        obtain ⟨u_24, e_24, h⟩ := gbind h
        refine gCallVv (wd := rW cI cZ a) (As := [.int (σ.1 11 (p2.toNatClampNeg))]) (rest := []) C hml hl.1 hS (mX6_gives hD e_24) k_549 k_551 k_18 k_36 k_552 hdX6_gives ⟨by show 0 + 1 ≤ 2; omega, by show 8 + (2 + 11) + (0) ≤ 47; omega⟩ hP 0 6 rfl rfl rfl rfl rfl (Nat.le_of_ble_eq_true rfl) dX6_asks_77 ⟨Nat.zero_le _, Nat.zero_le _⟩ (fun H locs hP hS => ?_)
        refine lv_goto (tgt := 247) C.hx C.hb dX6_asks_80 (by decide) ?_
        cases h
        exact gRetV C hr hlocks hP hS dX6_asks_247
    · have h := gneg s_28_0 h
      by_cases s_28_1 : (σ.1 27 (p1.toNatClampNeg)) = (1 : Int32)
      · have h := gpos s_28_1 h
        refine lv_tableIn (tgt := 140) (off := 112) C.hx C.hb dX6_asks_28 (by rw [s_28_1]; decide) (by rw [s_28_1]; decide) (by rw [s_28_1]; rfl) (by decide) ?_
        refine lv_aload_n C.hx C.hb dX6_asks_140 rfl (lv_at hl 2 rfl) ?_
        refine fr_X6_119_0 C hP dX6_asks_141 ?_
        refine lv_iconst (v := (-1 : Int32)) C.hx C.hb dX6_asks_144 (by decide) ?_
        refine lv_icmp_ne (tgt := 158) C.hx C.hb dX6_asks_145 (by decide) (fun c_25 => ?_) (fun c_25 => ?_)
        · have h := gneg c_25 h
          refine lv_aload_n C.hx C.hb dX6_asks_158 rfl (lv_at hl 2 rfl) ?_
          refine lv_iload_n C.hx C.hb dX6_asks_159 rfl (lv_at hl 4 rfl) ?_
          obtain ⟨u_26, e_26, h⟩ := gbind h
          refine gCallVv (wd := rW cI cZ a) (As := [.int p2]) (rest := []) C hml hl.1 hS (mX6_keeps hD e_26) k_557 k_559 k_20 k_36 k_560 hdX6_keeps ⟨by show 1 + 1 ≤ 2; omega, by show 8 + (2 + 11) + (21) ≤ 47; omega⟩ hP 0 6 rfl rfl rfl rfl rfl (Nat.le_of_ble_eq_true rfl) dX6_asks_160 ⟨Nat.zero_le _, Nat.zero_le _⟩ (fun H locs hP hS => ?_)
          refine lv_goto (tgt := 247) C.hx C.hb dX6_asks_163 (by decide) ?_
          cases h
          exact gRetV C hr hlocks hP hS dX6_asks_247
        · have h := gpos c_25 h
          refine lv_aload_n C.hx C.hb dX6_asks_148 rfl (lv_at hl 2 rfl) ?_
          refine fr_X6_74_0 C hP dX6_asks_149 ?_
          refine lv_iload_n C.hx C.hb dX6_asks_152 rfl (lv_at hl 3 rfl) ?_
          refine lv_iconst (v := (2 : Int32)) C.hx C.hb dX6_asks_153 (by decide) ?_
          refine str_27 (i := p1) (x := (2 : Int32)) C hD hP hS g_17 dX6_asks_154 (fun H locs hP hS => ?_)
          have hP : va_P D vwCl (rW cI cZ a (sA σ 27 (p1.toNatClampNeg) (2 : Int32))) H := hP
          refine lv_goto (tgt := 247) C.hx C.hb dX6_asks_155 (by decide) ?_
          cases h
          exact gRetV C hr hlocks hP hS dX6_asks_247
      · have h := gneg s_28_1 h
        by_cases s_28_2 : (σ.1 27 (p1.toNatClampNeg)) = (2 : Int32)
        · have h := gpos s_28_2 h
          refine lv_tableIn (tgt := 166) (off := 138) C.hx C.hb dX6_asks_28 (by rw [s_28_2]; decide) (by rw [s_28_2]; decide) (by rw [s_28_2]; rfl) (by decide) ?_
          refine lv_aload_n C.hx C.hb dX6_asks_166 rfl (lv_at hl 2 rfl) ?_
          refine fr_X6_35_0 C hP dX6_asks_167 ?_
          refine lv_iload_n C.hx C.hb dX6_asks_170 rfl (lv_at hl 4 rfl) ?_
          obtain ⟨g_27, h⟩ := gsplit h
          refine ldr_10 (i := p2) C hP g_27 dX6_asks_171 ?_
          refine lv_iconst (v := (-1 : Int32)) C.hx C.hb dX6_asks_172 (by decide) ?_
          refine lv_icmp_eq (tgt := 199) C.hx C.hb dX6_asks_173 (by decide) (fun c_28 => ?_) (fun c_28 => ?_)
          · have h := gpos c_28 h
            refine lv_iload C.hx C.hb dX6_asks_199 (lv_at hl 0 rfl) ?_
            refine lv_if_eq (tgt := 223) C.hx C.hb dX6_asks_201 (by decide) (fun c_ => absurd c_ (by decide)) (fun _ => ?_)
            refine lv_aload_n C.hx C.hb dX6_asks_204 rfl (lv_at hl 2 rfl) ?_
            refine fr_X6_28_0 C hP dX6_asks_205 ?_
            refine lv_iload_n C.hx C.hb dX6_asks_208 rfl (lv_at hl 1 rfl) ?_
            refine ldr_8 (i := (p2 / (31 : Int32))) C hP g_1 dX6_asks_209 ?_
            refine lv_if_eq (tgt := 223) C.hx C.hb dX6_asks_210 (by decide) (fun c_29 => ?_) (fun c_29 => ?_)
            · have h := gpos c_29 h
              refine lv_aload_n C.hx C.hb dX6_asks_223 rfl (lv_at hl 2 rfl) ?_
              refine lv_iconst (v := (-1 : Int32)) C.hx C.hb dX6_asks_224 (by decide) ?_
              obtain ⟨u_30, e_30, h⟩ := gbind h
              refine gCallVv (wd := rW cI cZ a) (As := [.int (-1 : Int32)]) (rest := []) C hml hl.1 hS (mX6_gives hD e_30) k_549 k_551 k_18 k_36 k_552 hdX6_gives ⟨by show 0 + 1 ≤ 2; omega, by show 8 + (2 + 11) + (0) ≤ 47; omega⟩ hP 0 6 rfl rfl rfl rfl rfl (Nat.le_of_ble_eq_true rfl) dX6_asks_225 ⟨Nat.zero_le _, Nat.zero_le _⟩ (fun H locs hP hS => ?_)
              refine lv_goto (tgt := 247) C.hx C.hb dX6_asks_228 (by decide) ?_
              cases h
              exact gRetV C hr hlocks hP hS dX6_asks_247
            · have h := gneg c_29 h
              refine lv_aload_n C.hx C.hb dX6_asks_213 rfl (lv_at hl 2 rfl) ?_
              refine lv_iload_n C.hx C.hb dX6_asks_214 rfl (lv_at hl 3 rfl) ?_
              refine lv_iload_n C.hx C.hb dX6_asks_215 rfl (lv_at hl 4 rfl) ?_
              refine lv_iconst (v := (4 : Int32)) C.hx C.hb dX6_asks_216 (by decide) ?_
              obtain ⟨u_31, e_31, h⟩ := gbind h
              refine gCallVv (wd := rW cI cZ a) (As := [.int p1, .int p2, .int (4 : Int32)]) (rest := []) C hml hl.1 hS (mX6_asksAbove hD e_31) k_553 k_555 k_19 k_36 k_556 hdX6_asksAbove ⟨by show 1 + 1 ≤ 2; omega, by show 8 + (4 + 11) + (24) ≤ 47; omega⟩ hP 0 6 rfl rfl rfl rfl rfl (Nat.le_of_ble_eq_true rfl) dX6_asks_217 ⟨Nat.zero_le _, Nat.zero_le _⟩ (fun H locs hP hS => ?_)
              refine lv_goto (tgt := 247) C.hx C.hb dX6_asks_220 (by decide) ?_
              cases h
              exact gRetV C hr hlocks hP hS dX6_asks_247
          · have h := gneg c_28 h
            refine lv_aload_n C.hx C.hb dX6_asks_176 rfl (lv_at hl 2 rfl) ?_
            refine fr_X6_74_0 C hP dX6_asks_177 ?_
            refine lv_iload_n C.hx C.hb dX6_asks_180 rfl (lv_at hl 3 rfl) ?_
            refine lv_iconst (v := (3 : Int32)) C.hx C.hb dX6_asks_181 (by decide) ?_
            refine str_27 (i := p1) (x := (3 : Int32)) C hD hP hS g_17 dX6_asks_182 (fun H locs hP hS => ?_)
            have hP : va_P D vwCl (rW cI cZ a (sA σ 27 (p1.toNatClampNeg) (3 : Int32))) H := hP
            refine lv_aload_n C.hx C.hb dX6_asks_183 rfl (lv_at hl 2 rfl) ?_
            refine lv_iconst (v := (1 : Int32)) C.hx C.hb dX6_asks_184 (by decide) ?_
            refine lv_iload_n C.hx C.hb dX6_asks_185 rfl (lv_at hl 4 rfl) ?_
            refine lv_aload_n C.hx C.hb dX6_asks_186 rfl (lv_at hl 2 rfl) ?_
            refine fr_X6_35_0 C hP dX6_asks_187 ?_
            refine lv_iload_n C.hx C.hb dX6_asks_190 rfl (lv_at hl 4 rfl) ?_
            refine ldr_10 (i := p2) C hP g_27 dX6_asks_191 ?_
            refine lv_iconst (v := (0 : Int32)) C.hx C.hb dX6_asks_192 (by decide) ?_
            obtain ⟨u_32, e_32, h⟩ := gbind h
            refine gCallVv (wd := rW cI cZ a) (As := [.int (1 : Int32), .int p2, .int (σ.1 10 (p2.toNatClampNeg)), .int (0 : Int32)]) (rest := []) C hml hl.1 hS (mX6_push hD e_32) k_537 k_539 k_15 k_36 k_540 hdX6_push ⟨by show 0 + 1 ≤ 2; omega, by show 8 + (5 + 11) + (0) ≤ 47; omega⟩ hP 0 6 rfl rfl rfl rfl rfl (Nat.le_of_ble_eq_true rfl) dX6_asks_193 ⟨Nat.zero_le _, Nat.zero_le _⟩ (fun H locs hP hS => ?_)
            refine lv_goto (tgt := 247) C.hx C.hb dX6_asks_196 (by decide) ?_
            cases h
            exact gRetV C hr hlocks hP hS dX6_asks_247
        · have h := gneg s_28_2 h
          by_cases s_28_3 : (σ.1 27 (p1.toNatClampNeg)) = (3 : Int32)
          · have h := gpos s_28_3 h
            refine lv_tableIn (tgt := 231) (off := 203) C.hx C.hb dX6_asks_28 (by rw [s_28_3]; decide) (by rw [s_28_3]; decide) (by rw [s_28_3]; rfl) (by decide) ?_
            refine lv_aload_n C.hx C.hb dX6_asks_231 rfl (lv_at hl 2 rfl) ?_
            refine lv_aload_n C.hx C.hb dX6_asks_232 rfl (lv_at hl 2 rfl) ?_
            refine fr_X6_119_0 C hP dX6_asks_233 ?_
            obtain ⟨u_33, e_33, h⟩ := gbind h
            refine gCallVv (wd := rW cI cZ a) (As := [.int (σ.2 31)]) (rest := []) C hml hl.1 hS (mX6_gives hD e_33) k_549 k_551 k_18 k_36 k_552 hdX6_gives ⟨by show 0 + 1 ≤ 2; omega, by show 8 + (2 + 11) + (0) ≤ 47; omega⟩ hP 0 6 rfl rfl rfl rfl rfl (Nat.le_of_ble_eq_true rfl) dX6_asks_236 ⟨Nat.zero_le _, Nat.zero_le _⟩ (fun H locs hP hS => ?_)
            refine lv_goto (tgt := 247) C.hx C.hb dX6_asks_239 (by decide) ?_
            cases h
            exact gRetV C hr hlocks hP hS dX6_asks_247
          · have h := gneg s_28_3 h
            have t_0 : ((σ.1 27 (p1.toNatClampNeg))).toInt ≠ 0 := sw_ne (by decide) s_28_0
            have t_1 : ((σ.1 27 (p1.toNatClampNeg))).toInt ≠ 1 := sw_ne (by decide) s_28_1
            have t_2 : ((σ.1 27 (p1.toNatClampNeg))).toInt ≠ 2 := sw_ne (by decide) s_28_2
            have t_3 : ((σ.1 27 (p1.toNatClampNeg))).toInt ≠ 3 := sw_ne (by decide) s_28_3
            refine lv_tableOut (tgt := 242) C.hx C.hb dX6_asks_28 (by omega) (by decide) ?_
            refine lv_aload_n C.hx C.hb dX6_asks_242 rfl (lv_at hl 2 rfl) ?_
            refine lv_iload_n C.hx C.hb dX6_asks_243 rfl (lv_at hl 4 rfl) ?_
            obtain ⟨u_34, e_34, h⟩ := gbind h
            refine gCallVv (wd := rW cI cZ a) (As := [.int p2]) (rest := []) C hml hl.1 hS (mX6_keeps hD e_34) k_557 k_559 k_20 k_36 k_560 hdX6_keeps ⟨by show 1 + 1 ≤ 2; omega, by show 8 + (2 + 11) + (21) ≤ 47; omega⟩ hP 0 6 rfl rfl rfl rfl rfl (Nat.le_of_ble_eq_true rfl) dX6_asks_244 ⟨Nat.zero_le _, Nat.zero_le _⟩ (fun H locs hP hS => ?_)
            cases h
            exact gRetV C hr hlocks hP hS dX6_asks_247
set_option maxHeartbeats 4000000 in
set_option maxRecDepth 100000 in
theorem mX6_stands {l : Launch} {D : va_G} {cI cZ : ClassId} {a : Nat → Nat} (hD : ∀ σ, va_D (rAd a) (rW cI cZ a σ)) {σ : MS} {p1 p2 p3 : Int32} {σ' : MS} (h : sX6_stands σ p1 p2 p3 = some σ') : gMetV (rW cI cZ a) (rAd a) l D cI cZ yX6_stands cX6_stands 4 (1) (21) [.ref (a 0), .int p1, .int p2, .int p3] σ σ' := by
  refine gEnt (by decide) (Nat.le_of_ble_eq_true rfl) (fun p e s m below meth c ls C hml hr hlocks hP hl => ?_)
  have hl : lv_has ls 4 [(0, .ref (a 0)), (1, .int p1), (2, .int p2), (3, .int p3)] := hl
  have hS : va_S (rAd a) s.heap s.heap [] := va_S.rf
  rw [sX6_stands] at h
  refine lv_aload_n C.hx C.hb dX6_stands_0 rfl (lv_at hl 0 rfl) ?_
  refine fr_X6_47_0 C hP dX6_stands_1 ?_
  refine lv_aload_n C.hx C.hb dX6_stands_4 rfl (lv_at hl 0 rfl) ?_
  refine fr_X6_100_0 C hP dX6_stands_5 ?_
  refine lv_iload_n C.hx C.hb dX6_stands_8 rfl (lv_at hl 1 rfl) ?_
  refine lv_bipush (v := (31 : Int32)) C.hx C.hb dX6_stands_9 (by decide) ?_
  refine lv_idiv C.hx C.hb dX6_stands_11 (by decide) ?_
  obtain ⟨g_1, h⟩ := gsplit h
  refine str_15 (i := (σ.2 14)) (x := (p1 / (31 : Int32))) C hD hP hS g_1 dX6_stands_12 (fun H locs hP hS => ?_)
  have hP : va_P D vwCl (rW cI cZ a (sA σ 15 ((σ.2 14).toNatClampNeg) (p1 / (31 : Int32)))) H := hP
  refine lv_aload_n C.hx C.hb dX6_stands_13 rfl (lv_at hl 0 rfl) ?_
  refine fr_X6_50_0 C hP dX6_stands_14 ?_
  refine lv_aload_n C.hx C.hb dX6_stands_17 rfl (lv_at hl 0 rfl) ?_
  refine fr_X6_100_0 C hP dX6_stands_18 ?_
  refine lv_iload_n C.hx C.hb dX6_stands_21 rfl (lv_at hl 1 rfl) ?_
  refine lv_bipush (v := (31 : Int32)) C.hx C.hb dX6_stands_22 (by decide) ?_
  refine lv_irem C.hx C.hb dX6_stands_24 (by decide) ?_
  refine str_16 (i := (σ.2 14)) (x := (p1 - p1 / (31 : Int32) * (31 : Int32))) C hD hP hS g_1 dX6_stands_25 (fun H locs hP hS => ?_)
  have hP : va_P D vwCl (rW cI cZ a (sA (sA σ 15 ((σ.2 14).toNatClampNeg) (p1 / (31 : Int32))) 16 ((σ.2 14).toNatClampNeg) (p1 - p1 / (31 : Int32) * (31 : Int32)))) H := hP
  refine lv_aload_n C.hx C.hb dX6_stands_26 rfl (lv_at hl 0 rfl) ?_
  refine fr_X6_53_0 C hP dX6_stands_27 ?_
  refine lv_aload_n C.hx C.hb dX6_stands_30 rfl (lv_at hl 0 rfl) ?_
  refine fr_X6_100_0 C hP dX6_stands_31 ?_
  refine lv_iload_n C.hx C.hb dX6_stands_34 rfl (lv_at hl 3 rfl) ?_
  refine str_17 (i := (σ.2 14)) (x := p3) C hD hP hS g_1 dX6_stands_35 (fun H locs hP hS => ?_)
  have hP : va_P D vwCl (rW cI cZ a (sA (sA (sA σ 15 ((σ.2 14).toNatClampNeg) (p1 / (31 : Int32))) 16 ((σ.2 14).toNatClampNeg) (p1 - p1 / (31 : Int32) * (31 : Int32))) 17 ((σ.2 14).toNatClampNeg) p3)) H := hP
  refine lv_aload_n C.hx C.hb dX6_stands_36 rfl (lv_at hl 0 rfl) ?_
  refine fr_X6_56_0 C hP dX6_stands_37 ?_
  refine lv_aload_n C.hx C.hb dX6_stands_40 rfl (lv_at hl 0 rfl) ?_
  refine fr_X6_100_0 C hP dX6_stands_41 ?_
  refine lv_iload_n C.hx C.hb dX6_stands_44 rfl (lv_at hl 2 rfl) ?_
  refine str_18 (i := (σ.2 14)) (x := p2) C hD hP hS g_1 dX6_stands_45 (fun H locs hP hS => ?_)
  have hP : va_P D vwCl (rW cI cZ a (sA (sA (sA (sA σ 15 ((σ.2 14).toNatClampNeg) (p1 / (31 : Int32))) 16 ((σ.2 14).toNatClampNeg) (p1 - p1 / (31 : Int32) * (31 : Int32))) 17 ((σ.2 14).toNatClampNeg) p3) 18 ((σ.2 14).toNatClampNeg) p2)) H := hP
  refine lv_aload_n C.hx C.hb dX6_stands_46 rfl (lv_at hl 0 rfl) ?_
  refine fr_X6_59_0 C hP dX6_stands_47 ?_
  refine lv_aload_n C.hx C.hb dX6_stands_50 rfl (lv_at hl 0 rfl) ?_
  refine fr_X6_100_0 C hP dX6_stands_51 ?_
  refine lv_iconst (v := (0 : Int32)) C.hx C.hb dX6_stands_54 (by decide) ?_
  refine str_19 (i := (σ.2 14)) (x := (0 : Int32)) C hD hP hS g_1 dX6_stands_55 (fun H locs hP hS => ?_)
  have hP : va_P D vwCl (rW cI cZ a (sA (sA (sA (sA (sA σ 15 ((σ.2 14).toNatClampNeg) (p1 / (31 : Int32))) 16 ((σ.2 14).toNatClampNeg) (p1 - p1 / (31 : Int32) * (31 : Int32))) 17 ((σ.2 14).toNatClampNeg) p3) 18 ((σ.2 14).toNatClampNeg) p2) 19 ((σ.2 14).toNatClampNeg) (0 : Int32))) H := hP
  refine lv_aload_n C.hx C.hb dX6_stands_56 rfl (lv_at hl 0 rfl) ?_
  refine fr_X6_38_0 C hP dX6_stands_57 ?_
  refine lv_iload_n C.hx C.hb dX6_stands_60 rfl (lv_at hl 1 rfl) ?_
  refine lv_aload_n C.hx C.hb dX6_stands_61 rfl (lv_at hl 0 rfl) ?_
  refine fr_X6_100_0 C hP dX6_stands_62 ?_
  obtain ⟨g_2, h⟩ := gsplit h
  refine str_11 (i := p1) (x := (σ.2 14)) C hD hP hS g_2 dX6_stands_65 (fun H locs hP hS => ?_)
  have hP : va_P D vwCl (rW cI cZ a (sA (sA (sA (sA (sA (sA σ 15 ((σ.2 14).toNatClampNeg) (p1 / (31 : Int32))) 16 ((σ.2 14).toNatClampNeg) (p1 - p1 / (31 : Int32) * (31 : Int32))) 17 ((σ.2 14).toNatClampNeg) p3) 18 ((σ.2 14).toNatClampNeg) p2) 19 ((σ.2 14).toNatClampNeg) (0 : Int32)) 11 (p1.toNatClampNeg) (σ.2 14))) H := hP
  refine lv_aload_n C.hx C.hb dX6_stands_66 rfl (lv_at hl 0 rfl) ?_
  refine lv_dup C.hx C.hb dX6_stands_67 rfl ?_
  refine fr_X6_100_0 C hP dX6_stands_68 ?_
  refine lv_iconst (v := (1 : Int32)) C.hx C.hb dX6_stands_71 (by decide) ?_
  refine lv_iadd C.hx C.hb dX6_stands_72 ?_
  refine pr_X6_100_0 (x := ((σ.2 14) + (1 : Int32))) C hD hP hS dX6_stands_73 (fun H locs hP hS => ?_)
  have hP : va_P D vwCl (rW cI cZ a (sZ (sA (sA (sA (sA (sA (sA σ 15 ((σ.2 14).toNatClampNeg) (p1 / (31 : Int32))) 16 ((σ.2 14).toNatClampNeg) (p1 - p1 / (31 : Int32) * (31 : Int32))) 17 ((σ.2 14).toNatClampNeg) p3) 18 ((σ.2 14).toNatClampNeg) p2) 19 ((σ.2 14).toNatClampNeg) (0 : Int32)) 11 (p1.toNatClampNeg) (σ.2 14)) 14 ((σ.2 14) + (1 : Int32)))) H := hP
  refine lv_aload_n C.hx C.hb dX6_stands_76 rfl (lv_at hl 0 rfl) ?_
  refine lv_aload_n C.hx C.hb dX6_stands_77 rfl (lv_at hl 0 rfl) ?_
  refine fr_X6_100_0 C hP dX6_stands_78 ?_
  refine lv_iconst (v := (1 : Int32)) C.hx C.hb dX6_stands_81 (by decide) ?_
  refine lv_isub C.hx C.hb dX6_stands_82 ?_
  obtain ⟨u_3, e_3, h⟩ := gbind h
  refine gCallVv (wd := rW cI cZ a) (As := [.int (((σ.2 14) + (1 : Int32)) - (1 : Int32))]) (rest := []) C hml hl.1 hS (mX6_gives hD e_3) k_549 k_551 k_18 k_36 k_552 hdX6_gives ⟨by show 0 + 1 ≤ 1; omega, by show 8 + (2 + 11) + (0) ≤ 21; omega⟩ hP 0 6 rfl rfl rfl rfl rfl (Nat.le_of_ble_eq_true rfl) dX6_stands_83 ⟨Nat.zero_le _, Nat.zero_le _⟩ (fun H locs hP hS => ?_)
  cases h
  exact gRetV C hr hlocks hP hS dX6_stands_86
set_option maxHeartbeats 4000000 in
set_option maxRecDepth 100000 in
theorem mX6_against {l : Launch} {D : va_G} {cI cZ : ClassId} {a : Nat → Nat} (hD : ∀ σ, va_D (rAd a) (rW cI cZ a σ)) {σ : MS} {p1 p2 p3 : Int32} {r : Int32} (h : sX6_against σ p1 p2 p3 = some r) : gMet (rW cI cZ a) (rAd a) l D cI cZ yX6_against cX6_against 6 (some .int) (0) (0) [.ref (a 0), .int p1, .int p2, .int p3] σ r σ := by
  refine gEnt (by decide) (Nat.le_of_ble_eq_true rfl) (fun p e s m below meth c ls C hml hr hlocks hP hl => ?_)
  have hl : lv_has ls 6 [(0, .ref (a 0)), (1, .int p1), (2, .int p2), (3, .int p3)] := hl
  have hS : va_S (rAd a) s.heap s.heap [] := va_S.rf
  rw [sX6_against] at h
  refine lv_iload_n C.hx C.hb dX6_against_0 rfl (lv_at hl 2 rfl) ?_
  refine lv_bipush (v := (31 : Int32)) C.hx C.hb dX6_against_1 (by decide) ?_
  refine lv_irem C.hx C.hb dX6_against_3 (by decide) ?_
  refine lv_istore (lv' := [(4, .int (p2 - p2 / (31 : Int32) * (31 : Int32))), (0, .ref (a 0)), (1, .int p1), (2, .int p2), (3, .int p3)]) C.hx C.hb dX6_against_4 hl (by decide) rfl (fun ls hl => ?_)
  refine lv_aload_n C.hx C.hb dX6_against_6 rfl (lv_at hl 1 rfl) ?_
  refine fr_X6_83_0 C hP dX6_against_7 ?_
  refine lv_iload_n C.hx C.hb dX6_against_10 rfl (lv_at hl 2 rfl) ?_
  obtain ⟨g_1, h⟩ := gsplit h
  refine ldr_30 (i := p1) C hP g_1 dX6_against_11 ?_
  refine lv_if_ne (tgt := 27) C.hx C.hb dX6_against_12 (by decide) (fun c_2 => ?_) (fun c_2 => ?_)
  · have h := gneg c_2 h
    refine lv_aload_n C.hx C.hb dX6_against_27 rfl (lv_at hl 1 rfl) ?_
    refine fr_X6_7_0 C hP dX6_against_28 ?_
    refine lv_iload_n C.hx C.hb dX6_against_31 rfl (lv_at hl 4 rfl) ?_
    obtain ⟨g_3, h⟩ := gsplit h
    refine ldr_1 (i := p3) C hP g_3 dX6_against_32 ?_
    refine lv_iload C.hx C.hb dX6_against_33 (lv_at hl 0 rfl) ?_
    refine lv_icmp_eq (tgt := 40) C.hx C.hb dX6_against_35 (by decide) (fun c_4 => ?_) (fun c_4 => ?_)
    · have h := gpos c_4 h
      refine lv_iload C.hx C.hb dX6_against_40 (lv_at hl 0 rfl) ?_
      refine lv_iconst (v := (4 : Int32)) C.hx C.hb dX6_against_42 (by decide) ?_
      refine lv_icmp_ge (tgt := 61) C.hx C.hb dX6_against_43 (by decide) (fun c_5 => ?_) (fun c_5 => ?_)
      · have h := gpos c_5 h
        refine lv_aload_n C.hx C.hb dX6_against_61 rfl (lv_at hl 1 rfl) ?_
        refine fr_X6_22_0 C hP dX6_against_62 ?_
        refine lv_iload_n C.hx C.hb dX6_against_65 rfl (lv_at hl 4 rfl) ?_
        refine ldr_5 (i := p3) C hP g_3 dX6_against_66 ?_
        refine lv_iconst (v := (1 : Int32)) C.hx C.hb dX6_against_67 (by decide) ?_
        refine lv_iand C.hx C.hb dX6_against_68 ?_
        refine lv_iconst (v := (1 : Int32)) C.hx C.hb dX6_against_69 (by decide) ?_
        refine lv_icmp_ne (tgt := 76) C.hx C.hb dX6_against_70 (by decide) (fun c_6 => ?_) (fun c_6 => ?_)
        · have h := gneg c_6 h
          refine lv_aload_n C.hx C.hb dX6_against_76 rfl (lv_at hl 1 rfl) ?_
          refine fr_X6_16_0 C hP dX6_against_77 ?_
          refine lv_iload_n C.hx C.hb dX6_against_80 rfl (lv_at hl 4 rfl) ?_
          refine ldr_3 (i := p3) C hP g_3 dX6_against_81 ?_
          refine lv_istore (lv' := [(5, .int (σ.1 3 (p3.toNatClampNeg))), (4, .int (p2 - p2 / (31 : Int32) * (31 : Int32))), (0, .ref (a 0)), (1, .int p1), (2, .int p2), (3, .int p3)]) C.hx C.hb dX6_against_82 hl (by decide) rfl (fun ls hl => ?_)
          refine lv_iload C.hx C.hb dX6_against_84 (lv_at hl 0 rfl) ?_
          refine lv_iconst (v := (-1 : Int32)) C.hx C.hb dX6_against_86 (by decide) ?_
          refine lv_icmp_eq (tgt := 116) C.hx C.hb dX6_against_87 (by decide) (fun c_7 => ?_) (fun c_7 => ?_)
          · have h := gpos c_7 h
            refine lv_iconst (v := (0 : Int32)) C.hx C.hb dX6_against_116 (by decide) ?_
            cases h
            exact gRetI C hr hlocks hP hS dX6_against_117
          · have h := gneg c_7 h
            refine lv_iload C.hx C.hb dX6_against_90 (lv_at hl 0 rfl) ?_
            refine lv_iload C.hx C.hb dX6_against_92 (lv_at hl 1 rfl) ?_
            refine lv_icmp_eq (tgt := 112) C.hx C.hb dX6_against_94 (by decide) (fun c_8 => ?_) (fun c_8 => ?_)
            · have h := gpos c_8 h
              refine lv_iconst (v := (5 : Int32)) C.hx C.hb dX6_against_112 (by decide) ?_
              refine lv_goto (tgt := 117) C.hx C.hb dX6_against_113 (by decide) ?_
              cases h
              exact gRetI C hr hlocks hP hS dX6_against_117
            · have h := gneg c_8 h
              refine lv_aload_n C.hx C.hb dX6_against_97 rfl (lv_at hl 2 rfl) ?_
              refine fr_X6_44_0 C hP dX6_against_98 ?_
              refine lv_iload_n C.hx C.hb dX6_against_101 rfl (lv_at hl 4 rfl) ?_
              refine lv_iload C.hx C.hb dX6_against_102 (lv_at hl 1 rfl) ?_
              refine lv_isub C.hx C.hb dX6_against_104 ?_
              refine lv_iload C.hx C.hb dX6_against_105 (lv_at hl 0 rfl) ?_
              refine lv_iadd C.hx C.hb dX6_against_107 ?_
              obtain ⟨g_9, h⟩ := gsplit h
              refine ldr_13 (i := ((p2 - (p2 - p2 / (31 : Int32) * (31 : Int32))) + (σ.1 3 (p3.toNatClampNeg)))) C hP g_9 dX6_against_108 ?_
              refine lv_if_eq (tgt := 116) C.hx C.hb dX6_against_109 (by decide) (fun c_10 => ?_) (fun c_10 => ?_)
              · have h := gpos c_10 h
                refine lv_iconst (v := (0 : Int32)) C.hx C.hb dX6_against_116 (by decide) ?_
                cases h
                exact gRetI C hr hlocks hP hS dX6_against_117
              · have h := gneg c_10 h
                refine lv_iconst (v := (5 : Int32)) C.hx C.hb dX6_against_112 (by decide) ?_
                refine lv_goto (tgt := 117) C.hx C.hb dX6_against_113 (by decide) ?_
                cases h
                exact gRetI C hr hlocks hP hS dX6_against_117
        · have h := gpos c_6 h
          refine lv_bipush (v := (6 : Int32)) C.hx C.hb dX6_against_73 (by decide) ?_
          cases h
          exact gRetI C hr hlocks hP hS dX6_against_75
      · have h := gneg c_5 h
        refine lv_aload_n C.hx C.hb dX6_against_46 rfl (lv_at hl 1 rfl) ?_
        refine fr_X6_25_0 C hP dX6_against_47 ?_
        refine lv_iload_n C.hx C.hb dX6_against_50 rfl (lv_at hl 3 rfl) ?_
        refine lv_bipush (v := (31 : Int32)) C.hx C.hb dX6_against_51 (by decide) ?_
        refine lv_idiv C.hx C.hb dX6_against_53 (by decide) ?_
        obtain ⟨g_11, h⟩ := gsplit h
        refine ldr_7 (i := (p2 / (31 : Int32))) C hP g_11 dX6_against_54 ?_
        refine lv_iconst (v := (-1 : Int32)) C.hx C.hb dX6_against_55 (by decide) ?_
        refine lv_icmp_eq (tgt := 61) C.hx C.hb dX6_against_56 (by decide) (fun c_12 => ?_) (fun c_12 => ?_)
        · have h := gpos c_12 h
          refine lv_aload_n C.hx C.hb dX6_against_61 rfl (lv_at hl 1 rfl) ?_
          refine fr_X6_22_0 C hP dX6_against_62 ?_
          refine lv_iload_n C.hx C.hb dX6_against_65 rfl (lv_at hl 4 rfl) ?_
          refine ldr_5 (i := p3) C hP g_3 dX6_against_66 ?_
          refine lv_iconst (v := (1 : Int32)) C.hx C.hb dX6_against_67 (by decide) ?_
          refine lv_iand C.hx C.hb dX6_against_68 ?_
          refine lv_iconst (v := (1 : Int32)) C.hx C.hb dX6_against_69 (by decide) ?_
          refine lv_icmp_ne (tgt := 76) C.hx C.hb dX6_against_70 (by decide) (fun c_13 => ?_) (fun c_13 => ?_)
          · have h := gneg c_13 h
            refine lv_aload_n C.hx C.hb dX6_against_76 rfl (lv_at hl 1 rfl) ?_
            refine fr_X6_16_0 C hP dX6_against_77 ?_
            refine lv_iload_n C.hx C.hb dX6_against_80 rfl (lv_at hl 4 rfl) ?_
            refine ldr_3 (i := p3) C hP g_3 dX6_against_81 ?_
            refine lv_istore (lv' := [(5, .int (σ.1 3 (p3.toNatClampNeg))), (4, .int (p2 - p2 / (31 : Int32) * (31 : Int32))), (0, .ref (a 0)), (1, .int p1), (2, .int p2), (3, .int p3)]) C.hx C.hb dX6_against_82 hl (by decide) rfl (fun ls hl => ?_)
            refine lv_iload C.hx C.hb dX6_against_84 (lv_at hl 0 rfl) ?_
            refine lv_iconst (v := (-1 : Int32)) C.hx C.hb dX6_against_86 (by decide) ?_
            refine lv_icmp_eq (tgt := 116) C.hx C.hb dX6_against_87 (by decide) (fun c_14 => ?_) (fun c_14 => ?_)
            · have h := gpos c_14 h
              refine lv_iconst (v := (0 : Int32)) C.hx C.hb dX6_against_116 (by decide) ?_
              cases h
              exact gRetI C hr hlocks hP hS dX6_against_117
            · have h := gneg c_14 h
              refine lv_iload C.hx C.hb dX6_against_90 (lv_at hl 0 rfl) ?_
              refine lv_iload C.hx C.hb dX6_against_92 (lv_at hl 1 rfl) ?_
              refine lv_icmp_eq (tgt := 112) C.hx C.hb dX6_against_94 (by decide) (fun c_15 => ?_) (fun c_15 => ?_)
              · have h := gpos c_15 h
                refine lv_iconst (v := (5 : Int32)) C.hx C.hb dX6_against_112 (by decide) ?_
                refine lv_goto (tgt := 117) C.hx C.hb dX6_against_113 (by decide) ?_
                cases h
                exact gRetI C hr hlocks hP hS dX6_against_117
              · have h := gneg c_15 h
                refine lv_aload_n C.hx C.hb dX6_against_97 rfl (lv_at hl 2 rfl) ?_
                refine fr_X6_44_0 C hP dX6_against_98 ?_
                refine lv_iload_n C.hx C.hb dX6_against_101 rfl (lv_at hl 4 rfl) ?_
                refine lv_iload C.hx C.hb dX6_against_102 (lv_at hl 1 rfl) ?_
                refine lv_isub C.hx C.hb dX6_against_104 ?_
                refine lv_iload C.hx C.hb dX6_against_105 (lv_at hl 0 rfl) ?_
                refine lv_iadd C.hx C.hb dX6_against_107 ?_
                obtain ⟨g_16, h⟩ := gsplit h
                refine ldr_13 (i := ((p2 - (p2 - p2 / (31 : Int32) * (31 : Int32))) + (σ.1 3 (p3.toNatClampNeg)))) C hP g_16 dX6_against_108 ?_
                refine lv_if_eq (tgt := 116) C.hx C.hb dX6_against_109 (by decide) (fun c_17 => ?_) (fun c_17 => ?_)
                · have h := gpos c_17 h
                  refine lv_iconst (v := (0 : Int32)) C.hx C.hb dX6_against_116 (by decide) ?_
                  cases h
                  exact gRetI C hr hlocks hP hS dX6_against_117
                · have h := gneg c_17 h
                  refine lv_iconst (v := (5 : Int32)) C.hx C.hb dX6_against_112 (by decide) ?_
                  refine lv_goto (tgt := 117) C.hx C.hb dX6_against_113 (by decide) ?_
                  cases h
                  exact gRetI C hr hlocks hP hS dX6_against_117
          · have h := gpos c_13 h
            refine lv_bipush (v := (6 : Int32)) C.hx C.hb dX6_against_73 (by decide) ?_
            cases h
            exact gRetI C hr hlocks hP hS dX6_against_75
        · have h := gneg c_12 h
          refine lv_iconst (v := (4 : Int32)) C.hx C.hb dX6_against_59 (by decide) ?_
          cases h
          exact gRetI C hr hlocks hP hS dX6_against_60
    · have h := gneg c_4 h
      refine lv_iconst (v := (3 : Int32)) C.hx C.hb dX6_against_38 (by decide) ?_
      cases h
      exact gRetI C hr hlocks hP hS dX6_against_39
  · have h := gpos c_2 h
    refine lv_aload_n C.hx C.hb dX6_against_15 rfl (lv_at hl 1 rfl) ?_
    refine fr_X6_38_0 C hP dX6_against_16 ?_
    refine lv_iload_n C.hx C.hb dX6_against_19 rfl (lv_at hl 3 rfl) ?_
    obtain ⟨g_18, h⟩ := gsplit h
    refine ldr_11 (i := p2) C hP g_18 dX6_against_20 ?_
    refine lv_iconst (v := (-1 : Int32)) C.hx C.hb dX6_against_21 (by decide) ?_
    refine lv_icmp_eq (tgt := 27) C.hx C.hb dX6_against_22 (by decide) (fun c_19 => ?_) (fun c_19 => ?_)
    · have h := gpos c_19 h
      refine lv_aload_n C.hx C.hb dX6_against_27 rfl (lv_at hl 1 rfl) ?_
      refine fr_X6_7_0 C hP dX6_against_28 ?_
      refine lv_iload_n C.hx C.hb dX6_against_31 rfl (lv_at hl 4 rfl) ?_
      obtain ⟨g_20, h⟩ := gsplit h
      refine ldr_1 (i := p3) C hP g_20 dX6_against_32 ?_
      refine lv_iload C.hx C.hb dX6_against_33 (lv_at hl 0 rfl) ?_
      refine lv_icmp_eq (tgt := 40) C.hx C.hb dX6_against_35 (by decide) (fun c_21 => ?_) (fun c_21 => ?_)
      · have h := gpos c_21 h
        refine lv_iload C.hx C.hb dX6_against_40 (lv_at hl 0 rfl) ?_
        refine lv_iconst (v := (4 : Int32)) C.hx C.hb dX6_against_42 (by decide) ?_
        refine lv_icmp_ge (tgt := 61) C.hx C.hb dX6_against_43 (by decide) (fun c_22 => ?_) (fun c_22 => ?_)
        · have h := gpos c_22 h
          refine lv_aload_n C.hx C.hb dX6_against_61 rfl (lv_at hl 1 rfl) ?_
          refine fr_X6_22_0 C hP dX6_against_62 ?_
          refine lv_iload_n C.hx C.hb dX6_against_65 rfl (lv_at hl 4 rfl) ?_
          refine ldr_5 (i := p3) C hP g_20 dX6_against_66 ?_
          refine lv_iconst (v := (1 : Int32)) C.hx C.hb dX6_against_67 (by decide) ?_
          refine lv_iand C.hx C.hb dX6_against_68 ?_
          refine lv_iconst (v := (1 : Int32)) C.hx C.hb dX6_against_69 (by decide) ?_
          refine lv_icmp_ne (tgt := 76) C.hx C.hb dX6_against_70 (by decide) (fun c_23 => ?_) (fun c_23 => ?_)
          · have h := gneg c_23 h
            refine lv_aload_n C.hx C.hb dX6_against_76 rfl (lv_at hl 1 rfl) ?_
            refine fr_X6_16_0 C hP dX6_against_77 ?_
            refine lv_iload_n C.hx C.hb dX6_against_80 rfl (lv_at hl 4 rfl) ?_
            refine ldr_3 (i := p3) C hP g_20 dX6_against_81 ?_
            refine lv_istore (lv' := [(5, .int (σ.1 3 (p3.toNatClampNeg))), (4, .int (p2 - p2 / (31 : Int32) * (31 : Int32))), (0, .ref (a 0)), (1, .int p1), (2, .int p2), (3, .int p3)]) C.hx C.hb dX6_against_82 hl (by decide) rfl (fun ls hl => ?_)
            refine lv_iload C.hx C.hb dX6_against_84 (lv_at hl 0 rfl) ?_
            refine lv_iconst (v := (-1 : Int32)) C.hx C.hb dX6_against_86 (by decide) ?_
            refine lv_icmp_eq (tgt := 116) C.hx C.hb dX6_against_87 (by decide) (fun c_24 => ?_) (fun c_24 => ?_)
            · have h := gpos c_24 h
              refine lv_iconst (v := (0 : Int32)) C.hx C.hb dX6_against_116 (by decide) ?_
              cases h
              exact gRetI C hr hlocks hP hS dX6_against_117
            · have h := gneg c_24 h
              refine lv_iload C.hx C.hb dX6_against_90 (lv_at hl 0 rfl) ?_
              refine lv_iload C.hx C.hb dX6_against_92 (lv_at hl 1 rfl) ?_
              refine lv_icmp_eq (tgt := 112) C.hx C.hb dX6_against_94 (by decide) (fun c_25 => ?_) (fun c_25 => ?_)
              · have h := gpos c_25 h
                refine lv_iconst (v := (5 : Int32)) C.hx C.hb dX6_against_112 (by decide) ?_
                refine lv_goto (tgt := 117) C.hx C.hb dX6_against_113 (by decide) ?_
                cases h
                exact gRetI C hr hlocks hP hS dX6_against_117
              · have h := gneg c_25 h
                refine lv_aload_n C.hx C.hb dX6_against_97 rfl (lv_at hl 2 rfl) ?_
                refine fr_X6_44_0 C hP dX6_against_98 ?_
                refine lv_iload_n C.hx C.hb dX6_against_101 rfl (lv_at hl 4 rfl) ?_
                refine lv_iload C.hx C.hb dX6_against_102 (lv_at hl 1 rfl) ?_
                refine lv_isub C.hx C.hb dX6_against_104 ?_
                refine lv_iload C.hx C.hb dX6_against_105 (lv_at hl 0 rfl) ?_
                refine lv_iadd C.hx C.hb dX6_against_107 ?_
                obtain ⟨g_26, h⟩ := gsplit h
                refine ldr_13 (i := ((p2 - (p2 - p2 / (31 : Int32) * (31 : Int32))) + (σ.1 3 (p3.toNatClampNeg)))) C hP g_26 dX6_against_108 ?_
                refine lv_if_eq (tgt := 116) C.hx C.hb dX6_against_109 (by decide) (fun c_27 => ?_) (fun c_27 => ?_)
                · have h := gpos c_27 h
                  refine lv_iconst (v := (0 : Int32)) C.hx C.hb dX6_against_116 (by decide) ?_
                  cases h
                  exact gRetI C hr hlocks hP hS dX6_against_117
                · have h := gneg c_27 h
                  refine lv_iconst (v := (5 : Int32)) C.hx C.hb dX6_against_112 (by decide) ?_
                  refine lv_goto (tgt := 117) C.hx C.hb dX6_against_113 (by decide) ?_
                  cases h
                  exact gRetI C hr hlocks hP hS dX6_against_117
          · have h := gpos c_23 h
            refine lv_bipush (v := (6 : Int32)) C.hx C.hb dX6_against_73 (by decide) ?_
            cases h
            exact gRetI C hr hlocks hP hS dX6_against_75
        · have h := gneg c_22 h
          refine lv_aload_n C.hx C.hb dX6_against_46 rfl (lv_at hl 1 rfl) ?_
          refine fr_X6_25_0 C hP dX6_against_47 ?_
          refine lv_iload_n C.hx C.hb dX6_against_50 rfl (lv_at hl 3 rfl) ?_
          refine lv_bipush (v := (31 : Int32)) C.hx C.hb dX6_against_51 (by decide) ?_
          refine lv_idiv C.hx C.hb dX6_against_53 (by decide) ?_
          obtain ⟨g_28, h⟩ := gsplit h
          refine ldr_7 (i := (p2 / (31 : Int32))) C hP g_28 dX6_against_54 ?_
          refine lv_iconst (v := (-1 : Int32)) C.hx C.hb dX6_against_55 (by decide) ?_
          refine lv_icmp_eq (tgt := 61) C.hx C.hb dX6_against_56 (by decide) (fun c_29 => ?_) (fun c_29 => ?_)
          · have h := gpos c_29 h
            refine lv_aload_n C.hx C.hb dX6_against_61 rfl (lv_at hl 1 rfl) ?_
            refine fr_X6_22_0 C hP dX6_against_62 ?_
            refine lv_iload_n C.hx C.hb dX6_against_65 rfl (lv_at hl 4 rfl) ?_
            refine ldr_5 (i := p3) C hP g_20 dX6_against_66 ?_
            refine lv_iconst (v := (1 : Int32)) C.hx C.hb dX6_against_67 (by decide) ?_
            refine lv_iand C.hx C.hb dX6_against_68 ?_
            refine lv_iconst (v := (1 : Int32)) C.hx C.hb dX6_against_69 (by decide) ?_
            refine lv_icmp_ne (tgt := 76) C.hx C.hb dX6_against_70 (by decide) (fun c_30 => ?_) (fun c_30 => ?_)
            · have h := gneg c_30 h
              refine lv_aload_n C.hx C.hb dX6_against_76 rfl (lv_at hl 1 rfl) ?_
              refine fr_X6_16_0 C hP dX6_against_77 ?_
              refine lv_iload_n C.hx C.hb dX6_against_80 rfl (lv_at hl 4 rfl) ?_
              refine ldr_3 (i := p3) C hP g_20 dX6_against_81 ?_
              refine lv_istore (lv' := [(5, .int (σ.1 3 (p3.toNatClampNeg))), (4, .int (p2 - p2 / (31 : Int32) * (31 : Int32))), (0, .ref (a 0)), (1, .int p1), (2, .int p2), (3, .int p3)]) C.hx C.hb dX6_against_82 hl (by decide) rfl (fun ls hl => ?_)
              refine lv_iload C.hx C.hb dX6_against_84 (lv_at hl 0 rfl) ?_
              refine lv_iconst (v := (-1 : Int32)) C.hx C.hb dX6_against_86 (by decide) ?_
              refine lv_icmp_eq (tgt := 116) C.hx C.hb dX6_against_87 (by decide) (fun c_31 => ?_) (fun c_31 => ?_)
              · have h := gpos c_31 h
                refine lv_iconst (v := (0 : Int32)) C.hx C.hb dX6_against_116 (by decide) ?_
                cases h
                exact gRetI C hr hlocks hP hS dX6_against_117
              · have h := gneg c_31 h
                refine lv_iload C.hx C.hb dX6_against_90 (lv_at hl 0 rfl) ?_
                refine lv_iload C.hx C.hb dX6_against_92 (lv_at hl 1 rfl) ?_
                refine lv_icmp_eq (tgt := 112) C.hx C.hb dX6_against_94 (by decide) (fun c_32 => ?_) (fun c_32 => ?_)
                · have h := gpos c_32 h
                  refine lv_iconst (v := (5 : Int32)) C.hx C.hb dX6_against_112 (by decide) ?_
                  refine lv_goto (tgt := 117) C.hx C.hb dX6_against_113 (by decide) ?_
                  cases h
                  exact gRetI C hr hlocks hP hS dX6_against_117
                · have h := gneg c_32 h
                  refine lv_aload_n C.hx C.hb dX6_against_97 rfl (lv_at hl 2 rfl) ?_
                  refine fr_X6_44_0 C hP dX6_against_98 ?_
                  refine lv_iload_n C.hx C.hb dX6_against_101 rfl (lv_at hl 4 rfl) ?_
                  refine lv_iload C.hx C.hb dX6_against_102 (lv_at hl 1 rfl) ?_
                  refine lv_isub C.hx C.hb dX6_against_104 ?_
                  refine lv_iload C.hx C.hb dX6_against_105 (lv_at hl 0 rfl) ?_
                  refine lv_iadd C.hx C.hb dX6_against_107 ?_
                  obtain ⟨g_33, h⟩ := gsplit h
                  refine ldr_13 (i := ((p2 - (p2 - p2 / (31 : Int32) * (31 : Int32))) + (σ.1 3 (p3.toNatClampNeg)))) C hP g_33 dX6_against_108 ?_
                  refine lv_if_eq (tgt := 116) C.hx C.hb dX6_against_109 (by decide) (fun c_34 => ?_) (fun c_34 => ?_)
                  · have h := gpos c_34 h
                    refine lv_iconst (v := (0 : Int32)) C.hx C.hb dX6_against_116 (by decide) ?_
                    cases h
                    exact gRetI C hr hlocks hP hS dX6_against_117
                  · have h := gneg c_34 h
                    refine lv_iconst (v := (5 : Int32)) C.hx C.hb dX6_against_112 (by decide) ?_
                    refine lv_goto (tgt := 117) C.hx C.hb dX6_against_113 (by decide) ?_
                    cases h
                    exact gRetI C hr hlocks hP hS dX6_against_117
            · have h := gpos c_30 h
              refine lv_bipush (v := (6 : Int32)) C.hx C.hb dX6_against_73 (by decide) ?_
              cases h
              exact gRetI C hr hlocks hP hS dX6_against_75
          · have h := gneg c_29 h
            refine lv_iconst (v := (4 : Int32)) C.hx C.hb dX6_against_59 (by decide) ?_
            cases h
            exact gRetI C hr hlocks hP hS dX6_against_60
      · have h := gneg c_21 h
        refine lv_iconst (v := (3 : Int32)) C.hx C.hb dX6_against_38 (by decide) ?_
        cases h
        exact gRetI C hr hlocks hP hS dX6_against_39
    · have h := gneg c_19 h
      refine lv_iconst (v := (2 : Int32)) C.hx C.hb dX6_against_25 (by decide) ?_
      cases h
      exact gRetI C hr hlocks hP hS dX6_against_26
set_option maxHeartbeats 4000000 in
set_option maxRecDepth 100000 in
theorem mX6_makes {l : Launch} {D : va_G} {cI cZ : ClassId} {a : Nat → Nat} (hD : ∀ σ, va_D (rAd a) (rW cI cZ a σ)) {σ : MS} {p1 p2 p3 : Int32} {σ' : MS} (h : sX6_makes σ p1 p2 p3 = some σ') : gMetV (rW cI cZ a) (rAd a) l D cI cZ yX6_makes cX6_makes 5 (2) (44) [.ref (a 0), .int p1, .int p2, .int p3] σ σ' := by
  refine gEnt (by decide) (Nat.le_of_ble_eq_true rfl) (fun p e s m below meth c ls C hml hr hlocks hP hl => ?_)
  have hl : lv_has ls 5 [(0, .ref (a 0)), (1, .int p1), (2, .int p2), (3, .int p3)] := hl
  have hS : va_S (rAd a) s.heap s.heap [] := va_S.rf
  rw [sX6_makes] at h
  refine lv_aload_n C.hx C.hb dX6_makes_0 rfl (lv_at hl 0 rfl) ?_
  refine fr_X6_74_0 C hP dX6_makes_1 ?_
  refine lv_iload_n C.hx C.hb dX6_makes_4 rfl (lv_at hl 1 rfl) ?_
  obtain ⟨g_1, h⟩ := gsplit h
  refine ldr_27 (i := p1) C hP g_1 dX6_makes_5 ?_
  refine lv_if_ne (tgt := 88) C.hx C.hb dX6_makes_6 (by decide) (fun c_2 => ?_) (fun c_2 => ?_)
  · have h := gneg c_2 h
    refine lv_aload_n C.hx C.hb dX6_makes_88 rfl (lv_at hl 0 rfl) ?_
    refine fr_X6_44_0 C hP dX6_makes_89 ?_
    refine lv_iload_n C.hx C.hb dX6_makes_92 rfl (lv_at hl 2 rfl) ?_
    refine lv_iconst (v := (0 : Int32)) C.hx C.hb dX6_makes_93 (by decide) ?_
    obtain ⟨g_3, h⟩ := gsplit h
    refine str_13 (i := p2) (x := (0 : Int32)) C hD hP hS g_3 dX6_makes_94 (fun H locs hP hS => ?_)
    have hP : va_P D vwCl (rW cI cZ a (sA σ 13 (p2.toNatClampNeg) (0 : Int32))) H := hP
    refine lv_aload_n C.hx C.hb dX6_makes_95 rfl (lv_at hl 0 rfl) ?_
    refine fr_X6_119_0 C hP dX6_makes_96 ?_
    refine lv_if_ge (tgt := 113) C.hx C.hb dX6_makes_99 (by decide) (fun c_4 => ?_) (fun c_4 => ?_)
    · have h := gpos c_4 h
      refine lv_aload_n C.hx C.hb dX6_makes_113 rfl (lv_at hl 0 rfl) ?_
      refine lv_iload_n C.hx C.hb dX6_makes_114 rfl (lv_at hl 2 rfl) ?_
      refine lv_iload_n C.hx C.hb dX6_makes_115 rfl (lv_at hl 3 rfl) ?_
      refine lv_aload_n C.hx C.hb dX6_makes_116 rfl (lv_at hl 0 rfl) ?_
      refine fr_X6_119_0 C hP dX6_makes_117 ?_
      obtain ⟨u_5, e_5, h⟩ := gbind h
      refine gCallVv (wd := rW cI cZ a) (As := [.int p2, .int p3, .int (σ.2 31)]) (rest := []) C hml hl.1 hS (mX6_stands hD e_5) k_569 k_571 k_23 k_36 k_572 hdX6_stands ⟨by show 1 + 1 ≤ 2; omega, by show 8 + (4 + 11) + (21) ≤ 44; omega⟩ hP 0 6 rfl rfl rfl rfl rfl (Nat.le_of_ble_eq_true rfl) dX6_makes_120 ⟨Nat.zero_le _, Nat.zero_le _⟩ (fun H locs hP hS => ?_)
      cases h
      exact gRetV C hr hlocks hP hS dX6_makes_123
    · have h := gneg c_4 h
      refine lv_aload_n C.hx C.hb dX6_makes_102 rfl (lv_at hl 0 rfl) ?_
      refine lv_aload_n C.hx C.hb dX6_makes_103 rfl (lv_at hl 0 rfl) ?_
      refine fr_X6_119_0 C hP dX6_makes_104 ?_
      obtain ⟨u_6, e_6, h⟩ := gbind h
      refine gCallVv (wd := rW cI cZ a) (As := [.int (σ.2 31)]) (rest := []) C hml hl.1 hS (mX6_gives hD e_6) k_549 k_551 k_18 k_36 k_552 hdX6_gives ⟨by show 0 + 1 ≤ 2; omega, by show 8 + (2 + 11) + (0) ≤ 44; omega⟩ hP 0 6 rfl rfl rfl rfl rfl (Nat.le_of_ble_eq_true rfl) dX6_makes_107 ⟨Nat.zero_le _, Nat.zero_le _⟩ (fun H locs hP hS => ?_)
      refine lv_goto (tgt := 123) C.hx C.hb dX6_makes_110 (by decide) ?_
      cases h
      exact gRetV C hr hlocks hP hS dX6_makes_123
  · have h := gpos c_2 h
    refine lv_aload_n C.hx C.hb dX6_makes_9 rfl (lv_at hl 0 rfl) ?_
    refine lv_iload_n C.hx C.hb dX6_makes_10 rfl (lv_at hl 1 rfl) ?_
    refine lv_iload_n C.hx C.hb dX6_makes_11 rfl (lv_at hl 2 rfl) ?_
    refine lv_iload_n C.hx C.hb dX6_makes_12 rfl (lv_at hl 3 rfl) ?_
    obtain ⟨r_7, e_7, h⟩ := gbind h
    refine gCallV (wd := rW cI cZ a) (As := [.int p1, .int p2, .int p3]) (rest := []) C hml hl.1 hS (mX6_against hD e_7) k_565 k_567 k_22 k_36 k_568 hdX6_against ⟨by show 0 + 1 ≤ 2; omega, by show 8 + (6 + 11) + (0) ≤ 44; omega⟩ hP 0 6 rfl rfl rfl rfl rfl (Nat.le_of_ble_eq_true rfl) dX6_makes_13 ⟨Nat.zero_le _, Nat.zero_le _⟩ (fun H locs hP hS => ?_)
    refine lv_istore (lv' := [(4, .int r_7), (0, .ref (a 0)), (1, .int p1), (2, .int p2), (3, .int p3)]) C.hx C.hb dX6_makes_16 hl (by decide) rfl (fun ls hl => ?_)
    refine lv_iload C.hx C.hb dX6_makes_18 (lv_at hl 0 rfl) ?_
    refine lv_if_le (tgt := 33) C.hx C.hb dX6_makes_20 (by decide) (fun c_8 => ?_) (fun c_8 => ?_)
    · have h := gpos c_8 h
      refine lv_aload_n C.hx C.hb dX6_makes_33 rfl (lv_at hl 1 rfl) ?_
      refine fr_X6_16_0 C hP dX6_makes_34 ?_
      refine lv_iload_n C.hx C.hb dX6_makes_37 rfl (lv_at hl 4 rfl) ?_
      obtain ⟨g_9, h⟩ := gsplit h
      refine ldr_3 (i := p3) C hP g_9 dX6_makes_38 ?_
      refine lv_iconst (v := (-1 : Int32)) C.hx C.hb dX6_makes_39 (by decide) ?_
      refine lv_icmp_ne (tgt := 53) C.hx C.hb dX6_makes_40 (by decide) (fun c_10 => ?_) (fun c_10 => ?_)
      · have h := gneg c_10 h
        refine lv_aload_n C.hx C.hb dX6_makes_53 rfl (lv_at hl 1 rfl) ?_
        refine fr_X6_44_0 C hP dX6_makes_54 ?_
        refine lv_iload_n C.hx C.hb dX6_makes_57 rfl (lv_at hl 3 rfl) ?_
        refine lv_iconst (v := (1 : Int32)) C.hx C.hb dX6_makes_58 (by decide) ?_
        obtain ⟨g_11, h⟩ := gsplit h
        refine str_13 (i := p2) (x := (1 : Int32)) C hD hP hS g_11 dX6_makes_59 (fun H locs hP hS => ?_)
        have hP : va_P D vwCl (rW cI cZ a (sA σ 13 (p2.toNatClampNeg) (1 : Int32))) H := hP
        refine lv_aload_n C.hx C.hb dX6_makes_60 rfl (lv_at hl 1 rfl) ?_
        refine fr_X6_74_0 C hP dX6_makes_61 ?_
        refine lv_iload_n C.hx C.hb dX6_makes_64 rfl (lv_at hl 2 rfl) ?_
        refine lv_iconst (v := (1 : Int32)) C.hx C.hb dX6_makes_65 (by decide) ?_
        refine str_27 (i := p1) (x := (1 : Int32)) C hD hP hS g_1 dX6_makes_66 (fun H locs hP hS => ?_)
        have hP : va_P D vwCl (rW cI cZ a (sA (sA σ 13 (p2.toNatClampNeg) (1 : Int32)) 27 (p1.toNatClampNeg) (1 : Int32))) H := hP
        refine lv_aload_n C.hx C.hb dX6_makes_67 rfl (lv_at hl 1 rfl) ?_
        refine lv_iconst (v := (0 : Int32)) C.hx C.hb dX6_makes_68 (by decide) ?_
        refine lv_iload_n C.hx C.hb dX6_makes_69 rfl (lv_at hl 3 rfl) ?_
        refine lv_iload_n C.hx C.hb dX6_makes_70 rfl (lv_at hl 3 rfl) ?_
        refine lv_bipush (v := (31 : Int32)) C.hx C.hb dX6_makes_71 (by decide) ?_
        refine lv_irem C.hx C.hb dX6_makes_73 (by decide) ?_
        refine lv_isub C.hx C.hb dX6_makes_74 ?_
        refine lv_aload_n C.hx C.hb dX6_makes_75 rfl (lv_at hl 1 rfl) ?_
        refine fr_X6_16_0 C hP dX6_makes_76 ?_
        refine lv_iload_n C.hx C.hb dX6_makes_79 rfl (lv_at hl 4 rfl) ?_
        refine ldr_3 (i := p3) C hP g_9 dX6_makes_80 ?_
        refine lv_iadd C.hx C.hb dX6_makes_81 ?_
        refine lv_iconst (v := (-1 : Int32)) C.hx C.hb dX6_makes_82 (by decide) ?_
        refine lv_iconst (v := (0 : Int32)) C.hx C.hb dX6_makes_83 (by decide) ?_
        obtain ⟨u_12, e_12, h⟩ := gbind h
        refine gCallVv (wd := rW cI cZ a) (As := [.int (0 : Int32), .int ((p2 - (p2 - p2 / (31 : Int32) * (31 : Int32))) + (σ.1 3 (p3.toNatClampNeg))), .int (-1 : Int32), .int (0 : Int32)]) (rest := []) C hml hl.1 hS (mX6_push hD e_12) k_537 k_539 k_15 k_36 k_540 hdX6_push ⟨by show 0 + 1 ≤ 2; omega, by show 8 + (5 + 11) + (0) ≤ 44; omega⟩ hP 0 6 rfl rfl rfl rfl rfl (Nat.le_of_ble_eq_true rfl) dX6_makes_84 ⟨Nat.zero_le _, Nat.zero_le _⟩ (fun H locs hP hS => ?_)
        cases h
        exact gRetV C hr hlocks hP hS dX6_makes_87
      · have h := gpos c_10 h
        refine lv_aload_n C.hx C.hb dX6_makes_43 rfl (lv_at hl 1 rfl) ?_
        refine lv_iload_n C.hx C.hb dX6_makes_44 rfl (lv_at hl 3 rfl) ?_
        refine lv_iload_n C.hx C.hb dX6_makes_45 rfl (lv_at hl 4 rfl) ?_
        refine lv_iconst (v := (-1 : Int32)) C.hx C.hb dX6_makes_46 (by decide) ?_
        obtain ⟨u_13, e_13, h⟩ := gbind h
        refine gCallVv (wd := rW cI cZ a) (As := [.int p2, .int p3, .int (-1 : Int32)]) (rest := []) C hml hl.1 hS (mX6_stands hD e_13) k_569 k_571 k_23 k_36 k_572 hdX6_stands ⟨by show 1 + 1 ≤ 2; omega, by show 8 + (4 + 11) + (21) ≤ 44; omega⟩ hP 0 6 rfl rfl rfl rfl rfl (Nat.le_of_ble_eq_true rfl) dX6_makes_47 ⟨Nat.zero_le _, Nat.zero_le _⟩ (fun H locs hP hS => ?_)
        refine lv_goto (tgt := 87) C.hx C.hb dX6_makes_50 (by decide) ?_
        cases h
        exact gRetV C hr hlocks hP hS dX6_makes_87
    · have h := gneg c_8 h
      refine lv_aload_n C.hx C.hb dX6_makes_23 rfl (lv_at hl 1 rfl) ?_
      refine lv_iload C.hx C.hb dX6_makes_24 (lv_at hl 0 rfl) ?_
      refine lv_ineg C.hx C.hb dX6_makes_26 ?_
      obtain ⟨u_14, e_14, h⟩ := gbind h
      refine gCallVv (wd := rW cI cZ a) (As := [.int (-r_7)]) (rest := []) C hml hl.1 hS (mX6_gives hD e_14) k_549 k_551 k_18 k_36 k_552 hdX6_gives ⟨by show 0 + 1 ≤ 2; omega, by show 8 + (2 + 11) + (0) ≤ 44; omega⟩ hP 0 6 rfl rfl rfl rfl rfl (Nat.le_of_ble_eq_true rfl) dX6_makes_27 ⟨Nat.zero_le _, Nat.zero_le _⟩ (fun H locs hP hS => ?_)
      refine lv_goto (tgt := 87) C.hx C.hb dX6_makes_30 (by decide) ?_
      cases h
      exact gRetV C hr hlocks hP hS dX6_makes_87
set_option maxHeartbeats 4000000 in
set_option maxRecDepth 100000 in
theorem mX6_begins {l : Launch} {D : va_G} {cI cZ : ClassId} {a : Nat → Nat} (hD : ∀ σ, va_D (rAd a) (rW cI cZ a σ)) {σ : MS} {p1 p2 : Int32} {σ' : MS} (h : sX6_begins σ p1 p2 = some σ') : gMetV (rW cI cZ a) (rAd a) l D cI cZ yX6_begins cX6_begins 4 (1) (24) [.ref (a 0), .int p1, .int p2] σ σ' := by
  refine gEnt (by decide) (Nat.le_of_ble_eq_true rfl) (fun p e s m below meth c ls C hml hr hlocks hP hl => ?_)
  have hl : lv_has ls 4 [(0, .ref (a 0)), (1, .int p1), (2, .int p2)] := hl
  have hS : va_S (rAd a) s.heap s.heap [] := va_S.rf
  rw [sX6_begins] at h
  refine lv_aload_n C.hx C.hb dX6_begins_0 rfl (lv_at hl 0 rfl) ?_
  refine fr_X6_74_0 C hP dX6_begins_1 ?_
  refine lv_iload_n C.hx C.hb dX6_begins_4 rfl (lv_at hl 1 rfl) ?_
  obtain ⟨g_1, h⟩ := gsplit h
  refine ldr_27 (i := p1) C hP g_1 dX6_begins_5 ?_
  refine lv_if_ne (tgt := 82) C.hx C.hb dX6_begins_6 (by decide) (fun c_2 => ?_) (fun c_2 => ?_)
  · have h := gneg c_2 h
    refine lv_aload_n C.hx C.hb dX6_begins_82 rfl (lv_at hl 0 rfl) ?_
    refine fr_X6_119_0 C hP dX6_begins_83 ?_
    refine lv_if_ge (tgt := 105) C.hx C.hb dX6_begins_86 (by decide) (fun c_3 => ?_) (fun c_3 => ?_)
    · have h := gpos c_3 h
      refine lv_aload_n C.hx C.hb dX6_begins_105 rfl (lv_at hl 0 rfl) ?_
      refine fr_X6_19_0 C hP dX6_begins_106 ?_
      refine lv_aload_n C.hx C.hb dX6_begins_109 rfl (lv_at hl 0 rfl) ?_
      refine fr_X6_56_0 C hP dX6_begins_110 ?_
      refine lv_iload_n C.hx C.hb dX6_begins_113 rfl (lv_at hl 2 rfl) ?_
      obtain ⟨g_4, h⟩ := gsplit h
      refine ldr_18 (i := p2) C hP g_4 dX6_begins_114 ?_
      obtain ⟨g_5, h⟩ := gsplit h
      refine ldr_4 (i := (σ.1 18 (p2.toNatClampNeg))) C hP g_5 dX6_begins_115 ?_
      refine lv_istore_n (lv' := [(3, .int (σ.1 4 ((σ.1 18 (p2.toNatClampNeg)).toNatClampNeg))), (0, .ref (a 0)), (1, .int p1), (2, .int p2)]) C.hx C.hb dX6_begins_116 rfl hl (by decide) rfl (fun ls hl => ?_)
      refine lv_aload_n C.hx C.hb dX6_begins_117 rfl (lv_at hl 1 rfl) ?_
      refine fr_X6_74_0 C hP dX6_begins_118 ?_
      refine lv_iload_n C.hx C.hb dX6_begins_121 rfl (lv_at hl 2 rfl) ?_
      refine ldr_27 (i := p1) C hP g_1 dX6_begins_122 ?_
      refine lv_iconst (v := (1 : Int32)) C.hx C.hb dX6_begins_123 (by decide) ?_
      refine lv_icmp_ne (tgt := 160) C.hx C.hb dX6_begins_124 (by decide) (fun c_6 => ?_) (fun c_6 => ?_)
      · have h := gneg c_6 h
        refine lv_aload_n C.hx C.hb dX6_begins_160 rfl (lv_at hl 1 rfl) ?_
        refine fr_X6_74_0 C hP dX6_begins_161 ?_
        refine lv_iload_n C.hx C.hb dX6_begins_164 rfl (lv_at hl 2 rfl) ?_
        refine ldr_27 (i := p1) C hP g_1 dX6_begins_165 ?_
        refine lv_iconst (v := (2 : Int32)) C.hx C.hb dX6_begins_166 (by decide) ?_
        refine lv_icmp_ne (tgt := 191) C.hx C.hb dX6_begins_167 (by decide) (fun c_7 => ?_) (fun c_7 => ?_)
        · have h := gneg c_7 h
          refine lv_aload_n C.hx C.hb dX6_begins_191 rfl (lv_at hl 1 rfl) ?_
          refine fr_X6_22_0 C hP dX6_begins_192 ?_
          refine lv_aload_n C.hx C.hb dX6_begins_195 rfl (lv_at hl 1 rfl) ?_
          refine fr_X6_56_0 C hP dX6_begins_196 ?_
          refine lv_iload_n C.hx C.hb dX6_begins_199 rfl (lv_at hl 3 rfl) ?_
          refine ldr_18 (i := p2) C hP g_4 dX6_begins_200 ?_
          refine ldr_5 (i := (σ.1 18 (p2.toNatClampNeg))) C hP g_5 dX6_begins_201 ?_
          refine lv_iconst (v := (2 : Int32)) C.hx C.hb dX6_begins_202 (by decide) ?_
          refine lv_iand C.hx C.hb dX6_begins_203 ?_
          refine lv_iconst (v := (2 : Int32)) C.hx C.hb dX6_begins_204 (by decide) ?_
          refine lv_icmp_ne (tgt := 224) C.hx C.hb dX6_begins_205 (by decide) (fun c_8 => ?_) (fun c_8 => ?_)
          · have h := gneg c_8 h
            refine lv_aload_n C.hx C.hb dX6_begins_224 rfl (lv_at hl 1 rfl) ?_
            refine fr_X6_59_0 C hP dX6_begins_225 ?_
            refine lv_iload_n C.hx C.hb dX6_begins_228 rfl (lv_at hl 3 rfl) ?_
            refine lv_iconst (v := (1 : Int32)) C.hx C.hb dX6_begins_229 (by decide) ?_
            refine str_19 (i := p2) (x := (1 : Int32)) C hD hP hS g_4 dX6_begins_230 (fun H locs hP hS => ?_)
            have hP : va_P D vwCl (rW cI cZ a (sA σ 19 (p2.toNatClampNeg) (1 : Int32))) H := hP
            refine lv_aload_n C.hx C.hb dX6_begins_231 rfl (lv_at hl 1 rfl) ?_
            refine fr_X6_68_0 C hP dX6_begins_232 ?_
            refine lv_aload_n C.hx C.hb dX6_begins_235 rfl (lv_at hl 1 rfl) ?_
            refine fr_X6_154_0 C hP dX6_begins_236 ?_
            refine lv_aload_n C.hx C.hb dX6_begins_239 rfl (lv_at hl 1 rfl) ?_
            refine fr_X6_13_0 C hP dX6_begins_240 ?_
            refine lv_aload_n C.hx C.hb dX6_begins_243 rfl (lv_at hl 1 rfl) ?_
            refine fr_X6_56_0 C hP dX6_begins_244 ?_
            refine lv_iload_n C.hx C.hb dX6_begins_247 rfl (lv_at hl 3 rfl) ?_
            refine ldr_18 (i := p2) C hP g_4 dX6_begins_248 ?_
            refine ldr_2 (i := (σ.1 18 (p2.toNatClampNeg))) C hP g_5 dX6_begins_249 ?_
            obtain ⟨g_9, h⟩ := gsplit h
            refine str_24 (i := (σ.2 23)) (x := (σ.1 2 ((σ.1 18 (p2.toNatClampNeg)).toNatClampNeg))) C hD hP hS g_9 dX6_begins_250 (fun H locs hP hS => ?_)
            have hP : va_P D vwCl (rW cI cZ a (sA (sA σ 19 (p2.toNatClampNeg) (1 : Int32)) 24 ((σ.2 23).toNatClampNeg) (σ.1 2 ((σ.1 18 (p2.toNatClampNeg)).toNatClampNeg)))) H := hP
            refine lv_aload_n C.hx C.hb dX6_begins_251 rfl (lv_at hl 1 rfl) ?_
            refine lv_dup C.hx C.hb dX6_begins_252 rfl ?_
            refine fr_X6_154_0 C hP dX6_begins_253 ?_
            refine lv_iconst (v := (1 : Int32)) C.hx C.hb dX6_begins_256 (by decide) ?_
            refine lv_iadd C.hx C.hb dX6_begins_257 ?_
            refine pr_X6_154_0 (x := ((σ.2 23) + (1 : Int32))) C hD hP hS dX6_begins_258 (fun H locs hP hS => ?_)
            have hP : va_P D vwCl (rW cI cZ a (sZ (sA (sA σ 19 (p2.toNatClampNeg) (1 : Int32)) 24 ((σ.2 23).toNatClampNeg) (σ.1 2 ((σ.1 18 (p2.toNatClampNeg)).toNatClampNeg))) 23 ((σ.2 23) + (1 : Int32)))) H := hP
            refine lv_aload_n C.hx C.hb dX6_begins_261 rfl (lv_at hl 1 rfl) ?_
            refine lv_iconst (v := (0 : Int32)) C.hx C.hb dX6_begins_262 (by decide) ?_
            obtain ⟨u_10, e_10, h⟩ := gbind h
            refine gCallVv (wd := rW cI cZ a) (As := [.int (0 : Int32)]) (rest := []) C hml hl.1 hS (mX6_gives hD e_10) k_549 k_551 k_18 k_36 k_552 hdX6_gives ⟨by show 0 + 1 ≤ 1; omega, by show 8 + (2 + 11) + (0) ≤ 24; omega⟩ hP 0 6 rfl rfl rfl rfl rfl (Nat.le_of_ble_eq_true rfl) dX6_begins_263 ⟨Nat.zero_le _, Nat.zero_le _⟩ (fun H locs hP hS => ?_)
            cases h
            exact gRetV C hr hlocks hP hS dX6_begins_266
          · have h := gpos c_8 h
            refine lv_aload_n C.hx C.hb dX6_begins_208 rfl (lv_at hl 1 rfl) ?_
            refine fr_X6_59_0 C hP dX6_begins_209 ?_
            refine lv_iload_n C.hx C.hb dX6_begins_212 rfl (lv_at hl 3 rfl) ?_
            refine lv_iconst (v := (2 : Int32)) C.hx C.hb dX6_begins_213 (by decide) ?_
            refine str_19 (i := p2) (x := (2 : Int32)) C hD hP hS g_4 dX6_begins_214 (fun H locs hP hS => ?_)
            have hP : va_P D vwCl (rW cI cZ a (sA σ 19 (p2.toNatClampNeg) (2 : Int32))) H := hP
            refine lv_aload_n C.hx C.hb dX6_begins_215 rfl (lv_at hl 1 rfl) ?_
            refine lv_bipush (v := (-7 : Int32)) C.hx C.hb dX6_begins_216 (by decide) ?_
            obtain ⟨u_11, e_11, h⟩ := gbind h
            refine gCallVv (wd := rW cI cZ a) (As := [.int (-7 : Int32)]) (rest := []) C hml hl.1 hS (mX6_gives hD e_11) k_549 k_551 k_18 k_36 k_552 hdX6_gives ⟨by show 0 + 1 ≤ 1; omega, by show 8 + (2 + 11) + (0) ≤ 24; omega⟩ hP 0 6 rfl rfl rfl rfl rfl (Nat.le_of_ble_eq_true rfl) dX6_begins_218 ⟨Nat.zero_le _, Nat.zero_le _⟩ (fun H locs hP hS => ?_)
            refine lv_goto (tgt := 266) C.hx C.hb dX6_begins_221 (by decide) ?_
            cases h
            exact gRetV C hr hlocks hP hS dX6_begins_266
        · have h := gpos c_7 h
          refine lv_aload_n C.hx C.hb dX6_begins_170 rfl (lv_at hl 1 rfl) ?_
          refine fr_X6_74_0 C hP dX6_begins_171 ?_
          refine lv_iload_n C.hx C.hb dX6_begins_174 rfl (lv_at hl 2 rfl) ?_
          refine lv_iconst (v := (3 : Int32)) C.hx C.hb dX6_begins_175 (by decide) ?_
          refine str_27 (i := p1) (x := (3 : Int32)) C hD hP hS g_1 dX6_begins_176 (fun H locs hP hS => ?_)
          have hP : va_P D vwCl (rW cI cZ a (sA σ 27 (p1.toNatClampNeg) (3 : Int32))) H := hP
          refine lv_aload_n C.hx C.hb dX6_begins_177 rfl (lv_at hl 1 rfl) ?_
          refine lv_iconst (v := (2 : Int32)) C.hx C.hb dX6_begins_178 (by decide) ?_
          refine lv_aload_n C.hx C.hb dX6_begins_179 rfl (lv_at hl 1 rfl) ?_
          refine fr_X6_119_0 C hP dX6_begins_180 ?_
          refine lv_iconst (v := (-1 : Int32)) C.hx C.hb dX6_begins_183 (by decide) ?_
          refine lv_iconst (v := (0 : Int32)) C.hx C.hb dX6_begins_184 (by decide) ?_
          obtain ⟨u_12, e_12, h⟩ := gbind h
          refine gCallVv (wd := rW cI cZ a) (As := [.int (2 : Int32), .int (σ.2 31), .int (-1 : Int32), .int (0 : Int32)]) (rest := []) C hml hl.1 hS (mX6_push hD e_12) k_537 k_539 k_15 k_36 k_540 hdX6_push ⟨by show 0 + 1 ≤ 1; omega, by show 8 + (5 + 11) + (0) ≤ 24; omega⟩ hP 0 6 rfl rfl rfl rfl rfl (Nat.le_of_ble_eq_true rfl) dX6_begins_185 ⟨Nat.zero_le _, Nat.zero_le _⟩ (fun H locs hP hS => ?_)
          refine lv_goto (tgt := 266) C.hx C.hb dX6_begins_188 (by decide) ?_
          cases h
          exact gRetV C hr hlocks hP hS dX6_begins_266
      · have h := gpos c_6 h
        refine lv_iload_n C.hx C.hb dX6_begins_127 rfl (lv_at hl 0 rfl) ?_
        refine lv_iconst (v := (-1 : Int32)) C.hx C.hb dX6_begins_128 (by decide) ?_
        refine lv_icmp_eq (tgt := 160) C.hx C.hb dX6_begins_129 (by decide) (fun c_13 => ?_) (fun c_13 => ?_)
        · have h := gpos c_13 h
          refine lv_aload_n C.hx C.hb dX6_begins_160 rfl (lv_at hl 1 rfl) ?_
          refine fr_X6_74_0 C hP dX6_begins_161 ?_
          refine lv_iload_n C.hx C.hb dX6_begins_164 rfl (lv_at hl 2 rfl) ?_
          refine ldr_27 (i := p1) C hP g_1 dX6_begins_165 ?_
          refine lv_iconst (v := (2 : Int32)) C.hx C.hb dX6_begins_166 (by decide) ?_
          refine lv_icmp_ne (tgt := 191) C.hx C.hb dX6_begins_167 (by decide) (fun c_14 => ?_) (fun c_14 => ?_)
          · have h := gneg c_14 h
            refine lv_aload_n C.hx C.hb dX6_begins_191 rfl (lv_at hl 1 rfl) ?_
            refine fr_X6_22_0 C hP dX6_begins_192 ?_
            refine lv_aload_n C.hx C.hb dX6_begins_195 rfl (lv_at hl 1 rfl) ?_
            refine fr_X6_56_0 C hP dX6_begins_196 ?_
            refine lv_iload_n C.hx C.hb dX6_begins_199 rfl (lv_at hl 3 rfl) ?_
            refine ldr_18 (i := p2) C hP g_4 dX6_begins_200 ?_
            refine ldr_5 (i := (σ.1 18 (p2.toNatClampNeg))) C hP g_5 dX6_begins_201 ?_
            refine lv_iconst (v := (2 : Int32)) C.hx C.hb dX6_begins_202 (by decide) ?_
            refine lv_iand C.hx C.hb dX6_begins_203 ?_
            refine lv_iconst (v := (2 : Int32)) C.hx C.hb dX6_begins_204 (by decide) ?_
            refine lv_icmp_ne (tgt := 224) C.hx C.hb dX6_begins_205 (by decide) (fun c_15 => ?_) (fun c_15 => ?_)
            · have h := gneg c_15 h
              refine lv_aload_n C.hx C.hb dX6_begins_224 rfl (lv_at hl 1 rfl) ?_
              refine fr_X6_59_0 C hP dX6_begins_225 ?_
              refine lv_iload_n C.hx C.hb dX6_begins_228 rfl (lv_at hl 3 rfl) ?_
              refine lv_iconst (v := (1 : Int32)) C.hx C.hb dX6_begins_229 (by decide) ?_
              refine str_19 (i := p2) (x := (1 : Int32)) C hD hP hS g_4 dX6_begins_230 (fun H locs hP hS => ?_)
              have hP : va_P D vwCl (rW cI cZ a (sA σ 19 (p2.toNatClampNeg) (1 : Int32))) H := hP
              refine lv_aload_n C.hx C.hb dX6_begins_231 rfl (lv_at hl 1 rfl) ?_
              refine fr_X6_68_0 C hP dX6_begins_232 ?_
              refine lv_aload_n C.hx C.hb dX6_begins_235 rfl (lv_at hl 1 rfl) ?_
              refine fr_X6_154_0 C hP dX6_begins_236 ?_
              refine lv_aload_n C.hx C.hb dX6_begins_239 rfl (lv_at hl 1 rfl) ?_
              refine fr_X6_13_0 C hP dX6_begins_240 ?_
              refine lv_aload_n C.hx C.hb dX6_begins_243 rfl (lv_at hl 1 rfl) ?_
              refine fr_X6_56_0 C hP dX6_begins_244 ?_
              refine lv_iload_n C.hx C.hb dX6_begins_247 rfl (lv_at hl 3 rfl) ?_
              refine ldr_18 (i := p2) C hP g_4 dX6_begins_248 ?_
              refine ldr_2 (i := (σ.1 18 (p2.toNatClampNeg))) C hP g_5 dX6_begins_249 ?_
              obtain ⟨g_16, h⟩ := gsplit h
              refine str_24 (i := (σ.2 23)) (x := (σ.1 2 ((σ.1 18 (p2.toNatClampNeg)).toNatClampNeg))) C hD hP hS g_16 dX6_begins_250 (fun H locs hP hS => ?_)
              have hP : va_P D vwCl (rW cI cZ a (sA (sA σ 19 (p2.toNatClampNeg) (1 : Int32)) 24 ((σ.2 23).toNatClampNeg) (σ.1 2 ((σ.1 18 (p2.toNatClampNeg)).toNatClampNeg)))) H := hP
              refine lv_aload_n C.hx C.hb dX6_begins_251 rfl (lv_at hl 1 rfl) ?_
              refine lv_dup C.hx C.hb dX6_begins_252 rfl ?_
              refine fr_X6_154_0 C hP dX6_begins_253 ?_
              refine lv_iconst (v := (1 : Int32)) C.hx C.hb dX6_begins_256 (by decide) ?_
              refine lv_iadd C.hx C.hb dX6_begins_257 ?_
              refine pr_X6_154_0 (x := ((σ.2 23) + (1 : Int32))) C hD hP hS dX6_begins_258 (fun H locs hP hS => ?_)
              have hP : va_P D vwCl (rW cI cZ a (sZ (sA (sA σ 19 (p2.toNatClampNeg) (1 : Int32)) 24 ((σ.2 23).toNatClampNeg) (σ.1 2 ((σ.1 18 (p2.toNatClampNeg)).toNatClampNeg))) 23 ((σ.2 23) + (1 : Int32)))) H := hP
              refine lv_aload_n C.hx C.hb dX6_begins_261 rfl (lv_at hl 1 rfl) ?_
              refine lv_iconst (v := (0 : Int32)) C.hx C.hb dX6_begins_262 (by decide) ?_
              obtain ⟨u_17, e_17, h⟩ := gbind h
              refine gCallVv (wd := rW cI cZ a) (As := [.int (0 : Int32)]) (rest := []) C hml hl.1 hS (mX6_gives hD e_17) k_549 k_551 k_18 k_36 k_552 hdX6_gives ⟨by show 0 + 1 ≤ 1; omega, by show 8 + (2 + 11) + (0) ≤ 24; omega⟩ hP 0 6 rfl rfl rfl rfl rfl (Nat.le_of_ble_eq_true rfl) dX6_begins_263 ⟨Nat.zero_le _, Nat.zero_le _⟩ (fun H locs hP hS => ?_)
              cases h
              exact gRetV C hr hlocks hP hS dX6_begins_266
            · have h := gpos c_15 h
              refine lv_aload_n C.hx C.hb dX6_begins_208 rfl (lv_at hl 1 rfl) ?_
              refine fr_X6_59_0 C hP dX6_begins_209 ?_
              refine lv_iload_n C.hx C.hb dX6_begins_212 rfl (lv_at hl 3 rfl) ?_
              refine lv_iconst (v := (2 : Int32)) C.hx C.hb dX6_begins_213 (by decide) ?_
              refine str_19 (i := p2) (x := (2 : Int32)) C hD hP hS g_4 dX6_begins_214 (fun H locs hP hS => ?_)
              have hP : va_P D vwCl (rW cI cZ a (sA σ 19 (p2.toNatClampNeg) (2 : Int32))) H := hP
              refine lv_aload_n C.hx C.hb dX6_begins_215 rfl (lv_at hl 1 rfl) ?_
              refine lv_bipush (v := (-7 : Int32)) C.hx C.hb dX6_begins_216 (by decide) ?_
              obtain ⟨u_18, e_18, h⟩ := gbind h
              refine gCallVv (wd := rW cI cZ a) (As := [.int (-7 : Int32)]) (rest := []) C hml hl.1 hS (mX6_gives hD e_18) k_549 k_551 k_18 k_36 k_552 hdX6_gives ⟨by show 0 + 1 ≤ 1; omega, by show 8 + (2 + 11) + (0) ≤ 24; omega⟩ hP 0 6 rfl rfl rfl rfl rfl (Nat.le_of_ble_eq_true rfl) dX6_begins_218 ⟨Nat.zero_le _, Nat.zero_le _⟩ (fun H locs hP hS => ?_)
              refine lv_goto (tgt := 266) C.hx C.hb dX6_begins_221 (by decide) ?_
              cases h
              exact gRetV C hr hlocks hP hS dX6_begins_266
          · have h := gpos c_14 h
            refine lv_aload_n C.hx C.hb dX6_begins_170 rfl (lv_at hl 1 rfl) ?_
            refine fr_X6_74_0 C hP dX6_begins_171 ?_
            refine lv_iload_n C.hx C.hb dX6_begins_174 rfl (lv_at hl 2 rfl) ?_
            refine lv_iconst (v := (3 : Int32)) C.hx C.hb dX6_begins_175 (by decide) ?_
            refine str_27 (i := p1) (x := (3 : Int32)) C hD hP hS g_1 dX6_begins_176 (fun H locs hP hS => ?_)
            have hP : va_P D vwCl (rW cI cZ a (sA σ 27 (p1.toNatClampNeg) (3 : Int32))) H := hP
            refine lv_aload_n C.hx C.hb dX6_begins_177 rfl (lv_at hl 1 rfl) ?_
            refine lv_iconst (v := (2 : Int32)) C.hx C.hb dX6_begins_178 (by decide) ?_
            refine lv_aload_n C.hx C.hb dX6_begins_179 rfl (lv_at hl 1 rfl) ?_
            refine fr_X6_119_0 C hP dX6_begins_180 ?_
            refine lv_iconst (v := (-1 : Int32)) C.hx C.hb dX6_begins_183 (by decide) ?_
            refine lv_iconst (v := (0 : Int32)) C.hx C.hb dX6_begins_184 (by decide) ?_
            obtain ⟨u_19, e_19, h⟩ := gbind h
            refine gCallVv (wd := rW cI cZ a) (As := [.int (2 : Int32), .int (σ.2 31), .int (-1 : Int32), .int (0 : Int32)]) (rest := []) C hml hl.1 hS (mX6_push hD e_19) k_537 k_539 k_15 k_36 k_540 hdX6_push ⟨by show 0 + 1 ≤ 1; omega, by show 8 + (5 + 11) + (0) ≤ 24; omega⟩ hP 0 6 rfl rfl rfl rfl rfl (Nat.le_of_ble_eq_true rfl) dX6_begins_185 ⟨Nat.zero_le _, Nat.zero_le _⟩ (fun H locs hP hS => ?_)
            refine lv_goto (tgt := 266) C.hx C.hb dX6_begins_188 (by decide) ?_
            cases h
            exact gRetV C hr hlocks hP hS dX6_begins_266
        · have h := gneg c_13 h
          refine lv_aload_n C.hx C.hb dX6_begins_132 rfl (lv_at hl 1 rfl) ?_
          refine fr_X6_74_0 C hP dX6_begins_133 ?_
          refine lv_iload_n C.hx C.hb dX6_begins_136 rfl (lv_at hl 2 rfl) ?_
          refine lv_iconst (v := (2 : Int32)) C.hx C.hb dX6_begins_137 (by decide) ?_
          refine str_27 (i := p1) (x := (2 : Int32)) C hD hP hS g_1 dX6_begins_138 (fun H locs hP hS => ?_)
          have hP : va_P D vwCl (rW cI cZ a (sA σ 27 (p1.toNatClampNeg) (2 : Int32))) H := hP
          refine lv_aload_n C.hx C.hb dX6_begins_139 rfl (lv_at hl 1 rfl) ?_
          refine lv_iconst (v := (0 : Int32)) C.hx C.hb dX6_begins_140 (by decide) ?_
          refine lv_bipush (v := (31 : Int32)) C.hx C.hb dX6_begins_141 (by decide) ?_
          refine lv_aload_n C.hx C.hb dX6_begins_143 rfl (lv_at hl 1 rfl) ?_
          refine fr_X6_47_0 C hP dX6_begins_144 ?_
          refine lv_iload_n C.hx C.hb dX6_begins_147 rfl (lv_at hl 3 rfl) ?_
          refine ldr_15 (i := p2) C hP g_4 dX6_begins_148 ?_
          refine lv_imul C.hx C.hb dX6_begins_149 ?_
          refine lv_iload_n C.hx C.hb dX6_begins_150 rfl (lv_at hl 0 rfl) ?_
          refine lv_iadd C.hx C.hb dX6_begins_151 ?_
          refine lv_iconst (v := (-1 : Int32)) C.hx C.hb dX6_begins_152 (by decide) ?_
          refine lv_iconst (v := (0 : Int32)) C.hx C.hb dX6_begins_153 (by decide) ?_
          obtain ⟨u_20, e_20, h⟩ := gbind h
          refine gCallVv (wd := rW cI cZ a) (As := [.int (0 : Int32), .int (((31 : Int32) * (σ.1 15 (p2.toNatClampNeg))) + (σ.1 4 ((σ.1 18 (p2.toNatClampNeg)).toNatClampNeg))), .int (-1 : Int32), .int (0 : Int32)]) (rest := []) C hml hl.1 hS (mX6_push hD e_20) k_537 k_539 k_15 k_36 k_540 hdX6_push ⟨by show 0 + 1 ≤ 1; omega, by show 8 + (5 + 11) + (0) ≤ 24; omega⟩ hP 0 6 rfl rfl rfl rfl rfl (Nat.le_of_ble_eq_true rfl) dX6_begins_154 ⟨Nat.zero_le _, Nat.zero_le _⟩ (fun H locs hP hS => ?_)
          refine lv_goto (tgt := 266) C.hx C.hb dX6_begins_157 (by decide) ?_
          cases h
          exact gRetV C hr hlocks hP hS dX6_begins_266
    · have h := gneg c_3 h
      refine lv_aload_n C.hx C.hb dX6_begins_89 rfl (lv_at hl 0 rfl) ?_
      refine fr_X6_59_0 C hP dX6_begins_90 ?_
      refine lv_iload_n C.hx C.hb dX6_begins_93 rfl (lv_at hl 2 rfl) ?_
      refine lv_iconst (v := (2 : Int32)) C.hx C.hb dX6_begins_94 (by decide) ?_
      obtain ⟨g_21, h⟩ := gsplit h
      refine str_19 (i := p2) (x := (2 : Int32)) C hD hP hS g_21 dX6_begins_95 (fun H locs hP hS => ?_)
      have hP : va_P D vwCl (rW cI cZ a (sA σ 19 (p2.toNatClampNeg) (2 : Int32))) H := hP
      refine lv_aload_n C.hx C.hb dX6_begins_96 rfl (lv_at hl 0 rfl) ?_
      refine lv_aload_n C.hx C.hb dX6_begins_97 rfl (lv_at hl 0 rfl) ?_
      refine fr_X6_119_0 C hP dX6_begins_98 ?_
      obtain ⟨u_22, e_22, h⟩ := gbind h
      refine gCallVv (wd := rW cI cZ a) (As := [.int (σ.2 31)]) (rest := []) C hml hl.1 hS (mX6_gives hD e_22) k_549 k_551 k_18 k_36 k_552 hdX6_gives ⟨by show 0 + 1 ≤ 1; omega, by show 8 + (2 + 11) + (0) ≤ 24; omega⟩ hP 0 6 rfl rfl rfl rfl rfl (Nat.le_of_ble_eq_true rfl) dX6_begins_101 ⟨Nat.zero_le _, Nat.zero_le _⟩ (fun H locs hP hS => ?_)
      cases h
      exact gRetV C hr hlocks hP hS dX6_begins_104
  · have h := gpos c_2 h
    refine lv_aload_n C.hx C.hb dX6_begins_9 rfl (lv_at hl 0 rfl) ?_
    refine fr_X6_59_0 C hP dX6_begins_10 ?_
    refine lv_iload_n C.hx C.hb dX6_begins_13 rfl (lv_at hl 2 rfl) ?_
    obtain ⟨g_23, h⟩ := gsplit h
    refine ldr_19 (i := p2) C hP g_23 dX6_begins_14 ?_
    refine lv_if_le (tgt := 39) C.hx C.hb dX6_begins_15 (by decide) (fun c_24 => ?_) (fun c_24 => ?_)
    · have h := gpos c_24 h
      refine lv_aload_n C.hx C.hb dX6_begins_39 rfl (lv_at hl 0 rfl) ?_
      refine fr_X6_59_0 C hP dX6_begins_40 ?_
      refine lv_iload_n C.hx C.hb dX6_begins_43 rfl (lv_at hl 2 rfl) ?_
      refine lv_iconst (v := (3 : Int32)) C.hx C.hb dX6_begins_44 (by decide) ?_
      refine str_19 (i := p2) (x := (3 : Int32)) C hD hP hS g_23 dX6_begins_45 (fun H locs hP hS => ?_)
      have hP : va_P D vwCl (rW cI cZ a (sA σ 19 (p2.toNatClampNeg) (3 : Int32))) H := hP
      refine lv_aload_n C.hx C.hb dX6_begins_46 rfl (lv_at hl 0 rfl) ?_
      refine fr_X6_74_0 C hP dX6_begins_47 ?_
      refine lv_iload_n C.hx C.hb dX6_begins_50 rfl (lv_at hl 1 rfl) ?_
      refine lv_iconst (v := (1 : Int32)) C.hx C.hb dX6_begins_51 (by decide) ?_
      refine str_27 (i := p1) (x := (1 : Int32)) C hD hP hS g_1 dX6_begins_52 (fun H locs hP hS => ?_)
      have hP : va_P D vwCl (rW cI cZ a (sA (sA σ 19 (p2.toNatClampNeg) (3 : Int32)) 27 (p1.toNatClampNeg) (1 : Int32))) H := hP
      refine lv_aload_n C.hx C.hb dX6_begins_53 rfl (lv_at hl 0 rfl) ?_
      refine lv_iconst (v := (0 : Int32)) C.hx C.hb dX6_begins_54 (by decide) ?_
      refine pr_X6_119_0 (x := (0 : Int32)) C hD hP hS dX6_begins_55 (fun H locs hP hS => ?_)
      have hP : va_P D vwCl (rW cI cZ a (sZ (sA (sA σ 19 (p2.toNatClampNeg) (3 : Int32)) 27 (p1.toNatClampNeg) (1 : Int32)) 31 (0 : Int32))) H := hP
      refine lv_aload_n C.hx C.hb dX6_begins_58 rfl (lv_at hl 0 rfl) ?_
      refine fr_X6_53_0 C hP dX6_begins_59 ?_
      refine lv_iload_n C.hx C.hb dX6_begins_62 rfl (lv_at hl 2 rfl) ?_
      refine ldr_17 (i := p2) C hP g_23 dX6_begins_63 ?_
      refine lv_iconst (v := (-1 : Int32)) C.hx C.hb dX6_begins_64 (by decide) ?_
      refine lv_icmp_eq (tgt := 81) C.hx C.hb dX6_begins_65 (by decide) (fun c_25 => ?_) (fun c_25 => ?_)
      · have h := gpos c_25 h
        cases h
        exact gRetV C hr hlocks hP hS dX6_begins_81
      · have h := gneg c_25 h
        refine lv_aload_n C.hx C.hb dX6_begins_68 rfl (lv_at hl 0 rfl) ?_
        refine lv_iconst (v := (2 : Int32)) C.hx C.hb dX6_begins_69 (by decide) ?_
        refine lv_aload_n C.hx C.hb dX6_begins_70 rfl (lv_at hl 0 rfl) ?_
        refine fr_X6_53_0 C hP dX6_begins_71 ?_
        refine lv_iload_n C.hx C.hb dX6_begins_74 rfl (lv_at hl 2 rfl) ?_
        refine ldr_17 (i := p2) C hP g_23 dX6_begins_75 ?_
        refine lv_iconst (v := (-1 : Int32)) C.hx C.hb dX6_begins_76 (by decide) ?_
        refine lv_iconst (v := (0 : Int32)) C.hx C.hb dX6_begins_77 (by decide) ?_
        obtain ⟨u_26, e_26, h⟩ := gbind h
        refine gCallVv (wd := rW cI cZ a) (As := [.int (2 : Int32), .int (σ.1 17 (p2.toNatClampNeg)), .int (-1 : Int32), .int (0 : Int32)]) (rest := []) C hml hl.1 hS (mX6_push hD e_26) k_537 k_539 k_15 k_36 k_540 hdX6_push ⟨by show 0 + 1 ≤ 1; omega, by show 8 + (5 + 11) + (0) ≤ 24; omega⟩ hP 0 6 rfl rfl rfl rfl rfl (Nat.le_of_ble_eq_true rfl) dX6_begins_78 ⟨Nat.zero_le _, Nat.zero_le _⟩ (fun H locs hP hS => ?_)
        cases h
        exact gRetV C hr hlocks hP hS dX6_begins_81
    · have h := gneg c_24 h
      refine lv_aload_n C.hx C.hb dX6_begins_18 rfl (lv_at hl 0 rfl) ?_
      refine lv_aload_n C.hx C.hb dX6_begins_19 rfl (lv_at hl 0 rfl) ?_
      refine fr_X6_59_0 C hP dX6_begins_20 ?_
      refine lv_iload_n C.hx C.hb dX6_begins_23 rfl (lv_at hl 2 rfl) ?_
      refine ldr_19 (i := p2) C hP g_23 dX6_begins_24 ?_
      refine lv_iconst (v := (2 : Int32)) C.hx C.hb dX6_begins_25 (by decide) ?_
      refine lv_icmp_ne (tgt := 34) C.hx C.hb dX6_begins_26 (by decide) (fun c_27 => ?_) (fun c_27 => ?_)
      · have h := gneg c_27 h
        refine lv_iconst (v := (0 : Int32)) C.hx C.hb dX6_begins_34 (by decide) ?_
        obtain ⟨u_28, e_28, h⟩ := gbind h
        refine gCallVv (wd := rW cI cZ a) (As := [.int (0 : Int32)]) (rest := []) C hml hl.1 hS (mX6_gives hD e_28) k_549 k_551 k_18 k_36 k_552 hdX6_gives ⟨by show 0 + 1 ≤ 1; omega, by show 8 + (2 + 11) + (0) ≤ 24; omega⟩ hP 0 6 rfl rfl rfl rfl rfl (Nat.le_of_ble_eq_true rfl) dX6_begins_35 ⟨Nat.zero_le _, Nat.zero_le _⟩ (fun H locs hP hS => ?_)
        cases h
        exact gRetV C hr hlocks hP hS dX6_begins_38
      · have h := gpos c_27 h
        refine lv_bipush (v := (-8 : Int32)) C.hx C.hb dX6_begins_29 (by decide) ?_
        refine lv_goto (tgt := 35) C.hx C.hb dX6_begins_31 (by decide) ?_
        obtain ⟨u_29, e_29, h⟩ := gbind h
        refine gCallVv (wd := rW cI cZ a) (As := [.int (-8 : Int32)]) (rest := []) C hml hl.1 hS (mX6_gives hD e_29) k_549 k_551 k_18 k_36 k_552 hdX6_gives ⟨by show 0 + 1 ≤ 1; omega, by show 8 + (2 + 11) + (0) ≤ 24; omega⟩ hP 0 6 rfl rfl rfl rfl rfl (Nat.le_of_ble_eq_true rfl) dX6_begins_35 ⟨Nat.zero_le _, Nat.zero_le _⟩ (fun H locs hP hS => ?_)
        cases h
        exact gRetV C hr hlocks hP hS dX6_begins_38
set_option maxHeartbeats 4000000 in
set_option maxRecDepth 100000 in
theorem wX6_runs_L0 {l : Launch} {D : va_G} {cI cZ : ClassId} {a : Nat → Nat} {p : Program} {e : Env} {s : State} {m : MethodId} {args : Array Value} {below : List Frame} {meth : Method} {c : Code} {fu : Nat} {r : Int32} {σ' : MS} (C : Cx RX6 cX6_runs D cI cZ p s m args c) (hml : c.maxLocals = 2) (hr : meth.sig.returnType = (some .int)) (hlocks : meth.locks = false) (hD : ∀ σ, va_D (rAd a) (rW cI cZ a σ)) : ∀ (n : Nat) (σ : MS) (H : Heap) (locs : List Loc) (ls : Array Slot), lv_has ls 2 [(0, .ref (a 0))] → va_P D vwCl (rW cI cZ a σ) H → va_S (rAd a) s.heap H locs → sX6_runs_L0 fu n σ = some (r, σ') → W p l e (gRm (3) (71)) s m args below meth c H locs 0 0 (MQ below (gQi (rW cI cZ a) (rAd a) D r σ') args s 0 0 (rAd a)) (F0 m 0 ls []) := by
  intro n
  induction n with
  | zero => intro σ H locs ls hl hP hS h; cases h
  | succ n ih =>
    intro σ H locs ls hl hP hS h
    rw [sX6_runs_L0] at h
    refine lv_aload_n C.hx C.hb dX6_runs_0 rfl (lv_at hl 0 rfl) ?_
    refine fr_X6_116_0 C hP dX6_runs_1 ?_
    refine lv_if_le (tgt := 96) C.hx C.hb dX6_runs_4 (by decide) (fun c_1 => ?_) (fun c_1 => ?_)
    · have h := gpos c_1 h
      refine lv_aload_n C.hx C.hb dX6_runs_96 rfl (lv_at hl 0 rfl) ?_
      refine fr_X6_119_0 C hP dX6_runs_97 ?_
      cases h
      exact gRetI C hr hlocks hP hS dX6_runs_100
    · have h := gneg c_1 h
      refine lv_aload_n C.hx C.hb dX6_runs_7 rfl (lv_at hl 0 rfl) ?_
      refine fr_X6_116_0 C hP dX6_runs_8 ?_
      refine lv_iconst (v := (1 : Int32)) C.hx C.hb dX6_runs_11 (by decide) ?_
      refine lv_isub C.hx C.hb dX6_runs_12 ?_
      refine lv_istore_n (lv' := [(1, .int ((σ.2 25) - (1 : Int32))), (0, .ref (a 0))]) C.hx C.hb dX6_runs_13 rfl hl (by decide) rfl (fun ls hl => ?_)
      refine lv_aload_n C.hx C.hb dX6_runs_14 rfl (lv_at hl 1 rfl) ?_
      refine fr_X6_71_0 C hP dX6_runs_15 ?_
      refine lv_iload_n C.hx C.hb dX6_runs_18 rfl (lv_at hl 0 rfl) ?_
      obtain ⟨g_2, h⟩ := gsplit h
      refine ldr_26 (i := ((σ.2 25) - (1 : Int32))) C hP g_2 dX6_runs_19 ?_
      by_cases s_20_0 : (σ.1 26 (((σ.2 25) - (1 : Int32)).toNatClampNeg)) = (0 : Int32)
      · have h := gpos s_20_0 h
        refine lv_lookup (tgt := 48) (off := 28) C.hx C.hb dX6_runs_20 (by decide) (by rw [s_20_0]; rfl) (by decide) ?_
        refine lv_aload_n C.hx C.hb dX6_runs_48 rfl (lv_at hl 1 rfl) ?_
        refine lv_iload_n C.hx C.hb dX6_runs_49 rfl (lv_at hl 0 rfl) ?_
        refine lv_aload_n C.hx C.hb dX6_runs_50 rfl (lv_at hl 1 rfl) ?_
        refine fr_X6_77_0 C hP dX6_runs_51 ?_
        refine lv_iload_n C.hx C.hb dX6_runs_54 rfl (lv_at hl 0 rfl) ?_
        refine ldr_28 (i := ((σ.2 25) - (1 : Int32))) C hP g_2 dX6_runs_55 ?_
        obtain ⟨u_3, e_3, h⟩ := gbind h
        refine gCallVv (wd := rW cI cZ a) (As := [.int ((σ.2 25) - (1 : Int32)), .int (σ.1 28 (((σ.2 25) - (1 : Int32)).toNatClampNeg))]) (rest := []) C hml hl.1 hS (mX6_asks hD e_3) k_545 k_547 k_17 k_36 k_548 hdX6_asks ⟨by show 2 + 1 ≤ 3; omega, by show 8 + (5 + 11) + (47) ≤ 71; omega⟩ hP 0 6 rfl rfl rfl rfl rfl (Nat.le_of_ble_eq_true rfl) dX6_runs_56 ⟨Nat.zero_le _, Nat.zero_le _⟩ (fun H locs hP hS => ?_)
        refine lv_goto (tgt := 93) C.hx C.hb dX6_runs_59 (by decide) ?_
        refine lv_goto (tgt := 0) C.hx C.hb dX6_runs_93 (by decide) ?_
        exact ih u_3 _ _ ls (lv_sub hl [1] rfl) hP hS h
      · have h := gneg s_20_0 h
        by_cases s_20_1 : (σ.1 26 (((σ.2 25) - (1 : Int32)).toNatClampNeg)) = (1 : Int32)
        · have h := gpos s_20_1 h
          refine lv_lookup (tgt := 62) (off := 42) C.hx C.hb dX6_runs_20 (by decide) (by rw [s_20_1]; rfl) (by decide) ?_
          refine lv_aload_n C.hx C.hb dX6_runs_62 rfl (lv_at hl 1 rfl) ?_
          refine lv_iload_n C.hx C.hb dX6_runs_63 rfl (lv_at hl 0 rfl) ?_
          refine lv_aload_n C.hx C.hb dX6_runs_64 rfl (lv_at hl 1 rfl) ?_
          refine fr_X6_77_0 C hP dX6_runs_65 ?_
          refine lv_iload_n C.hx C.hb dX6_runs_68 rfl (lv_at hl 0 rfl) ?_
          refine ldr_28 (i := ((σ.2 25) - (1 : Int32))) C hP g_2 dX6_runs_69 ?_
          refine lv_aload_n C.hx C.hb dX6_runs_70 rfl (lv_at hl 1 rfl) ?_
          refine fr_X6_80_0 C hP dX6_runs_71 ?_
          refine lv_iload_n C.hx C.hb dX6_runs_74 rfl (lv_at hl 0 rfl) ?_
          refine ldr_29 (i := ((σ.2 25) - (1 : Int32))) C hP g_2 dX6_runs_75 ?_
          obtain ⟨u_4, e_4, h⟩ := gbind h
          refine gCallVv (wd := rW cI cZ a) (As := [.int ((σ.2 25) - (1 : Int32)), .int (σ.1 28 (((σ.2 25) - (1 : Int32)).toNatClampNeg)), .int (σ.1 29 (((σ.2 25) - (1 : Int32)).toNatClampNeg))]) (rest := []) C hml hl.1 hS (mX6_makes hD e_4) k_561 k_563 k_21 k_36 k_564 hdX6_makes ⟨by show 2 + 1 ≤ 3; omega, by show 8 + (5 + 11) + (44) ≤ 71; omega⟩ hP 0 6 rfl rfl rfl rfl rfl (Nat.le_of_ble_eq_true rfl) dX6_runs_76 ⟨Nat.zero_le _, Nat.zero_le _⟩ (fun H locs hP hS => ?_)
          refine lv_goto (tgt := 93) C.hx C.hb dX6_runs_79 (by decide) ?_
          refine lv_goto (tgt := 0) C.hx C.hb dX6_runs_93 (by decide) ?_
          exact ih u_4 _ _ ls (lv_sub hl [1] rfl) hP hS h
        · have h := gneg s_20_1 h
          have t_0 : ((σ.1 26 (((σ.2 25) - (1 : Int32)).toNatClampNeg))).toInt ≠ 0 := sw_ne (by decide) s_20_0
          have t_1 : ((σ.1 26 (((σ.2 25) - (1 : Int32)).toNatClampNeg))).toInt ≠ 1 := sw_ne (by decide) s_20_1
          refine lv_lookup (tgt := 82) (off := 62) C.hx C.hb dX6_runs_20 (by decide) (sw_lk2 t_0 t_1) (by decide) ?_
          refine lv_aload_n C.hx C.hb dX6_runs_82 rfl (lv_at hl 1 rfl) ?_
          refine lv_iload_n C.hx C.hb dX6_runs_83 rfl (lv_at hl 0 rfl) ?_
          refine lv_aload_n C.hx C.hb dX6_runs_84 rfl (lv_at hl 1 rfl) ?_
          refine fr_X6_77_0 C hP dX6_runs_85 ?_
          refine lv_iload_n C.hx C.hb dX6_runs_88 rfl (lv_at hl 0 rfl) ?_
          refine ldr_28 (i := ((σ.2 25) - (1 : Int32))) C hP g_2 dX6_runs_89 ?_
          obtain ⟨u_5, e_5, h⟩ := gbind h
          refine gCallVv (wd := rW cI cZ a) (As := [.int ((σ.2 25) - (1 : Int32)), .int (σ.1 28 (((σ.2 25) - (1 : Int32)).toNatClampNeg))]) (rest := []) C hml hl.1 hS (mX6_begins hD e_5) k_573 k_575 k_24 k_36 k_576 hdX6_begins ⟨by show 1 + 1 ≤ 3; omega, by show 8 + (4 + 11) + (24) ≤ 71; omega⟩ hP 0 6 rfl rfl rfl rfl rfl (Nat.le_of_ble_eq_true rfl) dX6_runs_90 ⟨Nat.zero_le _, Nat.zero_le _⟩ (fun H locs hP hS => ?_)
          refine lv_goto (tgt := 0) C.hx C.hb dX6_runs_93 (by decide) ?_
          exact ih u_5 _ _ ls (lv_sub hl [1] rfl) hP hS h
set_option maxHeartbeats 4000000 in
set_option maxRecDepth 100000 in
theorem mX6_runs {l : Launch} {D : va_G} {cI cZ : ClassId} {a : Nat → Nat} (hD : ∀ σ, va_D (rAd a) (rW cI cZ a σ)) {fu : Nat} {σ : MS} {r : Int32} {σ' : MS} (h : sX6_runs fu σ = some (r, σ')) : gMet (rW cI cZ a) (rAd a) l D cI cZ yX6_runs cX6_runs 2 (some .int) (3) (71) [.ref (a 0)] σ r σ' := by
  refine gEnt (by decide) (Nat.le_of_ble_eq_true rfl) (fun p e s m below meth c ls C hml hr hlocks hP hl => ?_)
  have hl : lv_has ls 2 [(0, .ref (a 0))] := hl
  have hS : va_S (rAd a) s.heap s.heap [] := va_S.rf
  rw [sX6_runs] at h
  exact wX6_runs_L0 C hml hr hlocks hD fu σ _ _ ls (lv_sub hl [0] rfl) hP hS h
set_option maxHeartbeats 4000000 in
set_option maxRecDepth 100000 in
theorem mX6_does {l : Launch} {D : va_G} {cI cZ : ClassId} {a : Nat → Nat} (hD : ∀ σ, va_D (rAd a) (rW cI cZ a σ)) {fu : Nat} {σ : MS} {p1 p2 p3 p4 : Int32} {r : Int32} {σ' : MS} (h : sX6_does fu σ p1 p2 p3 p4 = some (r, σ')) : gMet (rW cI cZ a) (rAd a) l D cI cZ yX6_does cX6_does 6 (some .int) (4) (92) [.ref (a 0), .int p1, .int p2, .int p3, .int p4] σ r σ' := by
  refine gEnt (by decide) (Nat.le_of_ble_eq_true rfl) (fun p e s m below meth c ls C hml hr hlocks hP hl => ?_)
  have hl : lv_has ls 6 [(0, .ref (a 0)), (1, .int p1), (2, .int p2), (3, .int p3), (4, .int p4)] := hl
  have hS : va_S (rAd a) s.heap s.heap [] := va_S.rf
  rw [sX6_does] at h
  refine lv_aload_n C.hx C.hb dX6_does_0 rfl (lv_at hl 0 rfl) ?_
  refine lv_iconst (v := (0 : Int32)) C.hx C.hb dX6_does_1 (by decide) ?_
  refine pr_X6_116_0 (x := (0 : Int32)) C hD hP hS dX6_does_2 (fun H locs hP hS => ?_)
  have hP : va_P D vwCl (rW cI cZ a (sZ σ 25 (0 : Int32))) H := hP
  refine lv_aload_n C.hx C.hb dX6_does_5 rfl (lv_at hl 0 rfl) ?_
  refine lv_iload_n C.hx C.hb dX6_does_6 rfl (lv_at hl 1 rfl) ?_
  refine lv_iload_n C.hx C.hb dX6_does_7 rfl (lv_at hl 2 rfl) ?_
  refine lv_iload_n C.hx C.hb dX6_does_8 rfl (lv_at hl 3 rfl) ?_
  refine lv_iload C.hx C.hb dX6_does_9 (lv_at hl 4 rfl) ?_
  obtain ⟨u_1, e_1, h⟩ := gbind h
  refine gCallVv (wd := rW cI cZ a) (As := [.int p1, .int p2, .int p3, .int p4]) (rest := []) C hml hl.1 hS (mX6_push hD e_1) k_537 k_539 k_15 k_36 k_540 hdX6_push ⟨by show 0 + 1 ≤ 4; omega, by show 8 + (5 + 11) + (0) ≤ 92; omega⟩ hP 0 6 rfl rfl rfl rfl rfl (Nat.le_of_ble_eq_true rfl) dX6_does_11 ⟨Nat.zero_le _, Nat.zero_le _⟩ (fun H locs hP hS => ?_)
  refine lv_aload_n C.hx C.hb dX6_does_14 rfl (lv_at hl 0 rfl) ?_
  obtain ⟨⟨r_2, u_2⟩, e_2, h⟩ := gbind h
  refine gCallV (wd := rW cI cZ a) (As := []) (rest := []) C hml hl.1 hS (mX6_runs hD e_2) k_541 k_543 k_16 k_36 k_544 hdX6_runs ⟨by show 3 + 1 ≤ 4; omega, by show 8 + (2 + 11) + (71) ≤ 92; omega⟩ hP 0 6 rfl rfl rfl rfl rfl (Nat.le_of_ble_eq_true rfl) dX6_does_15 ⟨Nat.zero_le _, Nat.zero_le _⟩ (fun H locs hP hS => ?_)
  refine lv_istore (lv' := [(5, .int r_2), (0, .ref (a 0)), (1, .int p1), (2, .int p2), (3, .int p3), (4, .int p4)]) C.hx C.hb dX6_does_18 hl (by decide) rfl (fun ls hl => ?_)
  refine lv_iload C.hx C.hb dX6_does_20 (lv_at hl 0 rfl) ?_
  refine lv_if_ge (tgt := 33) C.hx C.hb dX6_does_22 (by decide) (fun c_3 => ?_) (fun c_3 => ?_)
  · have h := gpos c_3 h
    refine lv_iload C.hx C.hb dX6_does_33 (lv_at hl 0 rfl) ?_
    cases h
    exact gRetI C hr hlocks hP hS dX6_does_35
  · have h := gneg c_3 h
    refine lv_bipush (v := (-10 : Int32)) C.hx C.hb dX6_does_25 (by decide) ?_
    refine lv_iload C.hx C.hb dX6_does_27 (lv_at hl 0 rfl) ?_
    refine lv_iadd C.hx C.hb dX6_does_29 ?_
    refine lv_goto (tgt := 35) C.hx C.hb dX6_does_30 (by decide) ?_
    cases h
    exact gRetI C hr hlocks hP hS dX6_does_35
set_option maxHeartbeats 4000000 in
set_option maxRecDepth 100000 in
theorem mX6_load {l : Launch} {D : va_G} {cI cZ : ClassId} {a : Nat → Nat} (hD : ∀ σ, va_D (rAd a) (rW cI cZ a σ)) {fu : Nat} {σ : MS} {p1 p2 : Int32} {r : Int32} {σ' : MS} (h : sX6_load fu σ p1 p2 = some (r, σ')) : gMet (rW cI cZ a) (rAd a) l D cI cZ yX6_load cX6_load 3 (some .int) (5) (117) [.ref (a 0), .int p1, .int p2] σ r σ' := by
  refine gEnt (by decide) (Nat.le_of_ble_eq_true rfl) (fun p e s m below meth c ls C hml hr hlocks hP hl => ?_)
  have hl : lv_has ls 3 [(0, .ref (a 0)), (1, .int p1), (2, .int p2)] := hl
  have hS : va_S (rAd a) s.heap s.heap [] := va_S.rf
  rw [sX6_load] at h
  refine lv_aload_n C.hx C.hb dX6_load_0 rfl (lv_at hl 0 rfl) ?_
  refine lv_iload_n C.hx C.hb dX6_load_1 rfl (lv_at hl 1 rfl) ?_
  obtain ⟨r_1, e_1, h⟩ := gbind h
  refine gCallV (wd := rW cI cZ a) (As := [.int p1]) (rest := []) C hml hl.1 hS (mX6_isLoader hD e_1) k_517 k_519 k_12 k_36 k_520 hdX6_isLoader ⟨by show 1 + 1 ≤ 5; omega, by show 8 + (2 + 11) + (22) ≤ 117; omega⟩ hP 0 6 rfl rfl rfl rfl rfl (Nat.le_of_ble_eq_true rfl) dX6_load_2 ⟨Nat.zero_le _, Nat.zero_le _⟩ (fun H locs hP hS => ?_)
  refine lv_if_eq (tgt := 15) C.hx C.hb dX6_load_5 (by decide) (fun c_2 => ?_) (fun c_2 => ?_)
  · have h := gpos c_2 h
    refine lv_bipush (v := (-2 : Int32)) C.hx C.hb dX6_load_15 (by decide) ?_
    cases h
    exact gRetI C hr hlocks hP hS dX6_load_17
  · have h := gneg c_2 h
    refine lv_iload_n C.hx C.hb dX6_load_8 rfl (lv_at hl 2 rfl) ?_
    obtain ⟨r_3, e_3, h⟩ := gbind h
    refine gCallS (wd := rW cI cZ a) (As := [.int p2]) (rest := []) C hml hl.1 hS (mX6_isName hD e_3) k_507 k_508 k_36 k_509 hdX6_isName ⟨by show 1 + 1 ≤ 5; omega, by show 8 + (1 + 11) + (22) ≤ 117; omega⟩ hP rfl rfl (Nat.le_of_ble_eq_true rfl) dX6_load_9 ⟨Nat.zero_le _, Nat.zero_le _⟩ (fun H locs hP hS => ?_)
    refine lv_if_ne (tgt := 18) C.hx C.hb dX6_load_12 (by decide) (fun c_4 => ?_) (fun c_4 => ?_)
    · have h := gneg c_4 h
      refine lv_aload_n C.hx C.hb dX6_load_18 rfl (lv_at hl 0 rfl) ?_
      refine fr_X6_32_0 C hP dX6_load_19 ?_
      refine lv_iload_n C.hx C.hb dX6_load_22 rfl (lv_at hl 1 rfl) ?_
      obtain ⟨g_5, h⟩ := gsplit h
      refine ldr_9 (i := p1) C hP g_5 dX6_load_23 ?_
      refine lv_if_eq (tgt := 32) C.hx C.hb dX6_load_24 (by decide) (fun c_6 => ?_) (fun c_6 => ?_)
      · have h := gpos c_6 h
        refine lv_aload_n C.hx C.hb dX6_load_32 rfl (lv_at hl 0 rfl) ?_
        refine lv_iconst (v := (0 : Int32)) C.hx C.hb dX6_load_33 (by decide) ?_
        refine lv_bipush (v := (31 : Int32)) C.hx C.hb dX6_load_34 (by decide) ?_
        refine lv_iload_n C.hx C.hb dX6_load_36 rfl (lv_at hl 1 rfl) ?_
        refine lv_imul C.hx C.hb dX6_load_37 ?_
        refine lv_iload_n C.hx C.hb dX6_load_38 rfl (lv_at hl 2 rfl) ?_
        refine lv_iadd C.hx C.hb dX6_load_39 ?_
        refine lv_iconst (v := (-1 : Int32)) C.hx C.hb dX6_load_40 (by decide) ?_
        refine lv_iconst (v := (0 : Int32)) C.hx C.hb dX6_load_41 (by decide) ?_
        obtain ⟨⟨r_7, u_7⟩, e_7, h⟩ := gbind h
        refine gCallV (wd := rW cI cZ a) (As := [.int (0 : Int32), .int (((31 : Int32) * p1) + p2), .int (-1 : Int32), .int (0 : Int32)]) (rest := []) C hml hl.1 hS (mX6_does hD e_7) k_533 k_535 k_14 k_36 k_536 hdX6_does ⟨by show 4 + 1 ≤ 5; omega, by show 8 + (6 + 11) + (92) ≤ 117; omega⟩ hP 0 6 rfl rfl rfl rfl rfl (Nat.le_of_ble_eq_true rfl) dX6_load_42 ⟨Nat.zero_le _, Nat.zero_le _⟩ (fun H locs hP hS => ?_)
        cases h
        exact gRetI C hr hlocks hP hS dX6_load_45
      · have h := gneg c_6 h
        refine lv_bipush (v := (-3 : Int32)) C.hx C.hb dX6_load_27 (by decide) ?_
        refine lv_goto (tgt := 45) C.hx C.hb dX6_load_29 (by decide) ?_
        cases h
        exact gRetI C hr hlocks hP hS dX6_load_45
    · have h := gpos c_4 h
      refine lv_bipush (v := (-2 : Int32)) C.hx C.hb dX6_load_15 (by decide) ?_
      cases h
      exact gRetI C hr hlocks hP hS dX6_load_17
set_option maxHeartbeats 4000000 in
set_option maxRecDepth 100000 in
theorem mX6_define {l : Launch} {D : va_G} {cI cZ : ClassId} {a : Nat → Nat} (hD : ∀ σ, va_D (rAd a) (rW cI cZ a σ)) {fu : Nat} {σ : MS} {p1 p2 p3 : Int32} {r : Int32} {σ' : MS} (h : sX6_define fu σ p1 p2 p3 = some (r, σ')) : gMet (rW cI cZ a) (rAd a) l D cI cZ yX6_define cX6_define 4 (some .int) (5) (117) [.ref (a 0), .int p1, .int p2, .int p3] σ r σ' := by
  refine gEnt (by decide) (Nat.le_of_ble_eq_true rfl) (fun p e s m below meth c ls C hml hr hlocks hP hl => ?_)
  have hl : lv_has ls 4 [(0, .ref (a 0)), (1, .int p1), (2, .int p2), (3, .int p3)] := hl
  have hS : va_S (rAd a) s.heap s.heap [] := va_S.rf
  rw [sX6_define] at h
  refine lv_aload_n C.hx C.hb dX6_define_0 rfl (lv_at hl 0 rfl) ?_
  refine lv_iload_n C.hx C.hb dX6_define_1 rfl (lv_at hl 1 rfl) ?_
  obtain ⟨r_1, e_1, h⟩ := gbind h
  refine gCallV (wd := rW cI cZ a) (As := [.int p1]) (rest := []) C hml hl.1 hS (mX6_isLoader hD e_1) k_517 k_519 k_12 k_36 k_520 hdX6_isLoader ⟨by show 1 + 1 ≤ 5; omega, by show 8 + (2 + 11) + (22) ≤ 117; omega⟩ hP 0 6 rfl rfl rfl rfl rfl (Nat.le_of_ble_eq_true rfl) dX6_define_2 ⟨Nat.zero_le _, Nat.zero_le _⟩ (fun H locs hP hS => ?_)
  refine lv_if_eq (tgt := 23) C.hx C.hb dX6_define_5 (by decide) (fun c_2 => ?_) (fun c_2 => ?_)
  · have h := gpos c_2 h
    refine lv_bipush (v := (-2 : Int32)) C.hx C.hb dX6_define_23 (by decide) ?_
    cases h
    exact gRetI C hr hlocks hP hS dX6_define_25
  · have h := gneg c_2 h
    refine lv_iload_n C.hx C.hb dX6_define_8 rfl (lv_at hl 2 rfl) ?_
    obtain ⟨r_3, e_3, h⟩ := gbind h
    refine gCallS (wd := rW cI cZ a) (As := [.int p2]) (rest := []) C hml hl.1 hS (mX6_isName hD e_3) k_507 k_508 k_36 k_509 hdX6_isName ⟨by show 1 + 1 ≤ 5; omega, by show 8 + (1 + 11) + (22) ≤ 117; omega⟩ hP rfl rfl (Nat.le_of_ble_eq_true rfl) dX6_define_9 ⟨Nat.zero_le _, Nat.zero_le _⟩ (fun H locs hP hS => ?_)
    refine lv_if_eq (tgt := 23) C.hx C.hb dX6_define_12 (by decide) (fun c_4 => ?_) (fun c_4 => ?_)
    · have h := gpos c_4 h
      refine lv_bipush (v := (-2 : Int32)) C.hx C.hb dX6_define_23 (by decide) ?_
      cases h
      exact gRetI C hr hlocks hP hS dX6_define_25
    · have h := gneg c_4 h
      refine lv_aload_n C.hx C.hb dX6_define_15 rfl (lv_at hl 0 rfl) ?_
      refine lv_iload_n C.hx C.hb dX6_define_16 rfl (lv_at hl 3 rfl) ?_
      obtain ⟨r_5, e_5, h⟩ := gbind h
      refine gCallV (wd := rW cI cZ a) (As := [.int p3]) (rest := []) C hml hl.1 hS (mX6_isFile hD e_5) k_525 k_527 k_13 k_36 k_528 hdX6_isFile ⟨by show 1 + 1 ≤ 5; omega, by show 8 + (2 + 11) + (22) ≤ 117; omega⟩ hP 0 6 rfl rfl rfl rfl rfl (Nat.le_of_ble_eq_true rfl) dX6_define_17 ⟨Nat.zero_le _, Nat.zero_le _⟩ (fun H locs hP hS => ?_)
      refine lv_if_ne (tgt := 26) C.hx C.hb dX6_define_20 (by decide) (fun c_6 => ?_) (fun c_6 => ?_)
      · have h := gneg c_6 h
        refine lv_aload_n C.hx C.hb dX6_define_26 rfl (lv_at hl 0 rfl) ?_
        refine fr_X6_32_0 C hP dX6_define_27 ?_
        refine lv_iload_n C.hx C.hb dX6_define_30 rfl (lv_at hl 1 rfl) ?_
        obtain ⟨g_7, h⟩ := gsplit h
        refine ldr_9 (i := p1) C hP g_7 dX6_define_31 ?_
        refine lv_if_eq (tgt := 40) C.hx C.hb dX6_define_32 (by decide) (fun c_8 => ?_) (fun c_8 => ?_)
        · have h := gpos c_8 h
          refine lv_aload_n C.hx C.hb dX6_define_40 rfl (lv_at hl 0 rfl) ?_
          refine lv_iconst (v := (1 : Int32)) C.hx C.hb dX6_define_41 (by decide) ?_
          refine lv_bipush (v := (31 : Int32)) C.hx C.hb dX6_define_42 (by decide) ?_
          refine lv_iload_n C.hx C.hb dX6_define_44 rfl (lv_at hl 1 rfl) ?_
          refine lv_imul C.hx C.hb dX6_define_45 ?_
          refine lv_iload_n C.hx C.hb dX6_define_46 rfl (lv_at hl 2 rfl) ?_
          refine lv_iadd C.hx C.hb dX6_define_47 ?_
          refine lv_iload_n C.hx C.hb dX6_define_48 rfl (lv_at hl 3 rfl) ?_
          refine lv_iconst (v := (0 : Int32)) C.hx C.hb dX6_define_49 (by decide) ?_
          obtain ⟨⟨r_9, u_9⟩, e_9, h⟩ := gbind h
          refine gCallV (wd := rW cI cZ a) (As := [.int (1 : Int32), .int (((31 : Int32) * p1) + p2), .int p3, .int (0 : Int32)]) (rest := []) C hml hl.1 hS (mX6_does hD e_9) k_533 k_535 k_14 k_36 k_536 hdX6_does ⟨by show 4 + 1 ≤ 5; omega, by show 8 + (6 + 11) + (92) ≤ 117; omega⟩ hP 0 6 rfl rfl rfl rfl rfl (Nat.le_of_ble_eq_true rfl) dX6_define_50 ⟨Nat.zero_le _, Nat.zero_le _⟩ (fun H locs hP hS => ?_)
          cases h
          exact gRetI C hr hlocks hP hS dX6_define_53
        · have h := gneg c_8 h
          refine lv_bipush (v := (-3 : Int32)) C.hx C.hb dX6_define_35 (by decide) ?_
          refine lv_goto (tgt := 53) C.hx C.hb dX6_define_37 (by decide) ?_
          cases h
          exact gRetI C hr hlocks hP hS dX6_define_53
      · have h := gpos c_6 h
        refine lv_bipush (v := (-2 : Int32)) C.hx C.hb dX6_define_23 (by decide) ?_
        cases h
        exact gRetI C hr hlocks hP hS dX6_define_25
set_option maxHeartbeats 4000000 in
set_option maxRecDepth 100000 in
theorem mX6_anew {l : Launch} {D : va_G} {cI cZ : ClassId} {a : Nat → Nat} (hD : ∀ σ, va_D (rAd a) (rW cI cZ a σ)) {fu : Nat} {σ : MS} {p1 p2 p3 : Int32} {r : Int32} {σ' : MS} (h : sX6_anew fu σ p1 p2 p3 = some (r, σ')) : gMet (rW cI cZ a) (rAd a) l D cI cZ yX6_anew cX6_anew 5 (some .int) (5) (117) [.ref (a 0), .int p1, .int p2, .int p3] σ r σ' := by
  refine gEnt (by decide) (Nat.le_of_ble_eq_true rfl) (fun p e s m below meth c ls C hml hr hlocks hP hl => ?_)
  have hl : lv_has ls 5 [(0, .ref (a 0)), (1, .int p1), (2, .int p2), (3, .int p3)] := hl
  have hS : va_S (rAd a) s.heap s.heap [] := va_S.rf
  rw [sX6_anew] at h
  refine lv_aload_n C.hx C.hb dX6_anew_0 rfl (lv_at hl 0 rfl) ?_
  refine lv_iload_n C.hx C.hb dX6_anew_1 rfl (lv_at hl 1 rfl) ?_
  obtain ⟨r_1, e_1, h⟩ := gbind h
  refine gCallV (wd := rW cI cZ a) (As := [.int p1]) (rest := []) C hml hl.1 hS (mX6_isLoader hD e_1) k_517 k_519 k_12 k_36 k_520 hdX6_isLoader ⟨by show 1 + 1 ≤ 5; omega, by show 8 + (2 + 11) + (22) ≤ 117; omega⟩ hP 0 6 rfl rfl rfl rfl rfl (Nat.le_of_ble_eq_true rfl) dX6_anew_2 ⟨Nat.zero_le _, Nat.zero_le _⟩ (fun H locs hP hS => ?_)
  refine lv_if_eq (tgt := 23) C.hx C.hb dX6_anew_5 (by decide) (fun c_2 => ?_) (fun c_2 => ?_)
  · have h := gpos c_2 h
    refine lv_bipush (v := (-2 : Int32)) C.hx C.hb dX6_anew_23 (by decide) ?_
    cases h
    exact gRetI C hr hlocks hP hS dX6_anew_25
  · have h := gneg c_2 h
    refine lv_iload_n C.hx C.hb dX6_anew_8 rfl (lv_at hl 2 rfl) ?_
    obtain ⟨r_3, e_3, h⟩ := gbind h
    refine gCallS (wd := rW cI cZ a) (As := [.int p2]) (rest := []) C hml hl.1 hS (mX6_isName hD e_3) k_507 k_508 k_36 k_509 hdX6_isName ⟨by show 1 + 1 ≤ 5; omega, by show 8 + (1 + 11) + (22) ≤ 117; omega⟩ hP rfl rfl (Nat.le_of_ble_eq_true rfl) dX6_anew_9 ⟨Nat.zero_le _, Nat.zero_le _⟩ (fun H locs hP hS => ?_)
    refine lv_if_eq (tgt := 23) C.hx C.hb dX6_anew_12 (by decide) (fun c_4 => ?_) (fun c_4 => ?_)
    · have h := gpos c_4 h
      refine lv_bipush (v := (-2 : Int32)) C.hx C.hb dX6_anew_23 (by decide) ?_
      cases h
      exact gRetI C hr hlocks hP hS dX6_anew_25
    · have h := gneg c_4 h
      refine lv_aload_n C.hx C.hb dX6_anew_15 rfl (lv_at hl 0 rfl) ?_
      refine lv_iload_n C.hx C.hb dX6_anew_16 rfl (lv_at hl 3 rfl) ?_
      obtain ⟨r_5, e_5, h⟩ := gbind h
      refine gCallV (wd := rW cI cZ a) (As := [.int p3]) (rest := []) C hml hl.1 hS (mX6_isFile hD e_5) k_525 k_527 k_13 k_36 k_528 hdX6_isFile ⟨by show 1 + 1 ≤ 5; omega, by show 8 + (2 + 11) + (22) ≤ 117; omega⟩ hP 0 6 rfl rfl rfl rfl rfl (Nat.le_of_ble_eq_true rfl) dX6_anew_17 ⟨Nat.zero_le _, Nat.zero_le _⟩ (fun H locs hP hS => ?_)
      refine lv_if_ne (tgt := 26) C.hx C.hb dX6_anew_20 (by decide) (fun c_6 => ?_) (fun c_6 => ?_)
      · have h := gneg c_6 h
        refine lv_bipush (v := (31 : Int32)) C.hx C.hb dX6_anew_26 (by decide) ?_
        refine lv_iload_n C.hx C.hb dX6_anew_28 rfl (lv_at hl 1 rfl) ?_
        refine lv_imul C.hx C.hb dX6_anew_29 ?_
        refine lv_iload_n C.hx C.hb dX6_anew_30 rfl (lv_at hl 2 rfl) ?_
        refine lv_iadd C.hx C.hb dX6_anew_31 ?_
        refine lv_istore (lv' := [(4, .int (((31 : Int32) * p1) + p2)), (0, .ref (a 0)), (1, .int p1), (2, .int p2), (3, .int p3)]) C.hx C.hb dX6_anew_32 hl (by decide) rfl (fun ls hl => ?_)
        refine lv_aload_n C.hx C.hb dX6_anew_34 rfl (lv_at hl 1 rfl) ?_
        refine fr_X6_32_0 C hP dX6_anew_35 ?_
        refine lv_iload_n C.hx C.hb dX6_anew_38 rfl (lv_at hl 2 rfl) ?_
        obtain ⟨g_7, h⟩ := gsplit h
        refine ldr_9 (i := p1) C hP g_7 dX6_anew_39 ?_
        refine lv_if_ne (tgt := 54) C.hx C.hb dX6_anew_40 (by decide) (fun c_8 => ?_) (fun c_8 => ?_)
        · have h := gneg c_8 h
          refine lv_bipush (v := (-3 : Int32)) C.hx C.hb dX6_anew_54 (by decide) ?_
          refine lv_goto (tgt := 68) C.hx C.hb dX6_anew_56 (by decide) ?_
          cases h
          exact gRetI C hr hlocks hP hS dX6_anew_68
        · have h := gpos c_8 h
          refine lv_aload_n C.hx C.hb dX6_anew_43 rfl (lv_at hl 1 rfl) ?_
          refine fr_X6_38_0 C hP dX6_anew_44 ?_
          refine lv_iload C.hx C.hb dX6_anew_47 (lv_at hl 0 rfl) ?_
          obtain ⟨g_9, h⟩ := gsplit h
          refine ldr_11 (i := (((31 : Int32) * p1) + p2)) C hP g_9 dX6_anew_49 ?_
          refine lv_iconst (v := (-1 : Int32)) C.hx C.hb dX6_anew_50 (by decide) ?_
          refine lv_icmp_ne (tgt := 59) C.hx C.hb dX6_anew_51 (by decide) (fun c_10 => ?_) (fun c_10 => ?_)
          · have h := gneg c_10 h
            refine lv_aload_n C.hx C.hb dX6_anew_59 rfl (lv_at hl 1 rfl) ?_
            refine lv_iconst (v := (1 : Int32)) C.hx C.hb dX6_anew_60 (by decide) ?_
            refine lv_iload C.hx C.hb dX6_anew_61 (lv_at hl 0 rfl) ?_
            refine lv_iload_n C.hx C.hb dX6_anew_63 rfl (lv_at hl 4 rfl) ?_
            refine lv_iconst (v := (1 : Int32)) C.hx C.hb dX6_anew_64 (by decide) ?_
            obtain ⟨⟨r_11, u_11⟩, e_11, h⟩ := gbind h
            refine gCallV (wd := rW cI cZ a) (As := [.int (1 : Int32), .int (((31 : Int32) * p1) + p2), .int p3, .int (1 : Int32)]) (rest := []) C hml hl.1 hS (mX6_does hD e_11) k_533 k_535 k_14 k_36 k_536 hdX6_does ⟨by show 4 + 1 ≤ 5; omega, by show 8 + (6 + 11) + (92) ≤ 117; omega⟩ hP 0 6 rfl rfl rfl rfl rfl (Nat.le_of_ble_eq_true rfl) dX6_anew_65 ⟨Nat.zero_le _, Nat.zero_le _⟩ (fun H locs hP hS => ?_)
            cases h
            exact gRetI C hr hlocks hP hS dX6_anew_68
          · have h := gpos c_10 h
            refine lv_bipush (v := (-3 : Int32)) C.hx C.hb dX6_anew_54 (by decide) ?_
            refine lv_goto (tgt := 68) C.hx C.hb dX6_anew_56 (by decide) ?_
            cases h
            exact gRetI C hr hlocks hP hS dX6_anew_68
      · have h := gpos c_6 h
        refine lv_bipush (v := (-2 : Int32)) C.hx C.hb dX6_anew_23 (by decide) ?_
        cases h
        exact gRetI C hr hlocks hP hS dX6_anew_25
set_option maxHeartbeats 4000000 in
set_option maxRecDepth 100000 in
theorem mX6_known {l : Launch} {D : va_G} {cI cZ : ClassId} {a : Nat → Nat} (hD : ∀ σ, va_D (rAd a) (rW cI cZ a σ)) {σ : MS} {p1 p2 : Int32} {r : Int32} (h : sX6_known σ p1 p2 = some r) : gMet (rW cI cZ a) (rAd a) l D cI cZ yX6_known cX6_known 4 (some .int) (2) (43) [.ref (a 0), .int p1, .int p2] σ r σ := by
  refine gEnt (by decide) (Nat.le_of_ble_eq_true rfl) (fun p e s m below meth c ls C hml hr hlocks hP hl => ?_)
  have hl : lv_has ls 4 [(0, .ref (a 0)), (1, .int p1), (2, .int p2)] := hl
  have hS : va_S (rAd a) s.heap s.heap [] := va_S.rf
  rw [sX6_known] at h
  refine lv_aload_n C.hx C.hb dX6_known_0 rfl (lv_at hl 0 rfl) ?_
  refine lv_iload_n C.hx C.hb dX6_known_1 rfl (lv_at hl 1 rfl) ?_
  obtain ⟨r_1, e_1, h⟩ := gbind h
  refine gCallV (wd := rW cI cZ a) (As := [.int p1]) (rest := []) C hml hl.1 hS (mX6_isLoader hD e_1) k_517 k_519 k_12 k_36 k_520 hdX6_isLoader ⟨by show 1 + 1 ≤ 2; omega, by show 8 + (2 + 11) + (22) ≤ 43; omega⟩ hP 0 6 rfl rfl rfl rfl rfl (Nat.le_of_ble_eq_true rfl) dX6_known_2 ⟨Nat.zero_le _, Nat.zero_le _⟩ (fun H locs hP hS => ?_)
  refine lv_if_eq (tgt := 15) C.hx C.hb dX6_known_5 (by decide) (fun c_2 => ?_) (fun c_2 => ?_)
  · have h := gpos c_2 h
    refine lv_bipush (v := (-2 : Int32)) C.hx C.hb dX6_known_15 (by decide) ?_
    cases h
    exact gRetI C hr hlocks hP hS dX6_known_17
  · have h := gneg c_2 h
    refine lv_iload_n C.hx C.hb dX6_known_8 rfl (lv_at hl 2 rfl) ?_
    obtain ⟨r_3, e_3, h⟩ := gbind h
    refine gCallS (wd := rW cI cZ a) (As := [.int p2]) (rest := []) C hml hl.1 hS (mX6_isName hD e_3) k_507 k_508 k_36 k_509 hdX6_isName ⟨by show 1 + 1 ≤ 2; omega, by show 8 + (1 + 11) + (22) ≤ 43; omega⟩ hP rfl rfl (Nat.le_of_ble_eq_true rfl) dX6_known_9 ⟨Nat.zero_le _, Nat.zero_le _⟩ (fun H locs hP hS => ?_)
    refine lv_if_ne (tgt := 18) C.hx C.hb dX6_known_12 (by decide) (fun c_4 => ?_) (fun c_4 => ?_)
    · have h := gneg c_4 h
      refine lv_bipush (v := (31 : Int32)) C.hx C.hb dX6_known_18 (by decide) ?_
      refine lv_iload_n C.hx C.hb dX6_known_20 rfl (lv_at hl 1 rfl) ?_
      refine lv_imul C.hx C.hb dX6_known_21 ?_
      refine lv_iload_n C.hx C.hb dX6_known_22 rfl (lv_at hl 2 rfl) ?_
      refine lv_iadd C.hx C.hb dX6_known_23 ?_
      refine lv_istore_n (lv' := [(3, .int (((31 : Int32) * p1) + p2)), (0, .ref (a 0)), (1, .int p1), (2, .int p2)]) C.hx C.hb dX6_known_24 rfl hl (by decide) rfl (fun ls hl => ?_)
      refine lv_aload_n C.hx C.hb dX6_known_25 rfl (lv_at hl 1 rfl) ?_
      refine fr_X6_38_0 C hP dX6_known_26 ?_
      refine lv_iload_n C.hx C.hb dX6_known_29 rfl (lv_at hl 0 rfl) ?_
      obtain ⟨g_5, h⟩ := gsplit h
      refine ldr_11 (i := (((31 : Int32) * p1) + p2)) C hP g_5 dX6_known_30 ?_
      refine lv_iconst (v := (-1 : Int32)) C.hx C.hb dX6_known_31 (by decide) ?_
      refine lv_icmp_eq (tgt := 44) C.hx C.hb dX6_known_32 (by decide) (fun c_6 => ?_) (fun c_6 => ?_)
      · have h := gpos c_6 h
        refine lv_aload_n C.hx C.hb dX6_known_44 rfl (lv_at hl 1 rfl) ?_
        refine fr_X6_41_0 C hP dX6_known_45 ?_
        refine lv_iload_n C.hx C.hb dX6_known_48 rfl (lv_at hl 0 rfl) ?_
        refine ldr_12 (i := (((31 : Int32) * p1) + p2)) C hP g_5 dX6_known_49 ?_
        cases h
        exact gRetI C hr hlocks hP hS dX6_known_50
      · have h := gneg c_6 h
        refine lv_aload_n C.hx C.hb dX6_known_35 rfl (lv_at hl 1 rfl) ?_
        refine fr_X6_38_0 C hP dX6_known_36 ?_
        refine lv_iload_n C.hx C.hb dX6_known_39 rfl (lv_at hl 0 rfl) ?_
        refine ldr_11 (i := (((31 : Int32) * p1) + p2)) C hP g_5 dX6_known_40 ?_
        refine lv_goto (tgt := 50) C.hx C.hb dX6_known_41 (by decide) ?_
        cases h
        exact gRetI C hr hlocks hP hS dX6_known_50
    · have h := gpos c_4 h
      refine lv_bipush (v := (-2 : Int32)) C.hx C.hb dX6_known_15 (by decide) ?_
      cases h
      exact gRetI C hr hlocks hP hS dX6_known_17
set_option maxHeartbeats 4000000 in
set_option maxRecDepth 100000 in
theorem mX6_isModule {l : Launch} {D : va_G} {cI cZ : ClassId} {a : Nat → Nat} (hD : ∀ σ, va_D (rAd a) (rW cI cZ a σ)) {σ : MS} {p1 : Int32} {r : Int32} (h : sX6_isModule σ p1 = some r) : gMet (rW cI cZ a) (rAd a) l D cI cZ yX6_isModule cX6_isModule 2 (some .boolean) (1) (22) [.ref (a 0), .int p1] σ r σ := by
  refine gEnt (by decide) (Nat.le_of_ble_eq_true rfl) (fun p e s m below meth c ls C hml hr hlocks hP hl => ?_)
  have hl : lv_has ls 2 [(0, .ref (a 0)), (1, .int p1)] := hl
  have hS : va_S (rAd a) s.heap s.heap [] := va_S.rf
  rw [sX6_isModule] at h
  refine lv_iload_n C.hx C.hb dX6_isModule_0 rfl (lv_at hl 1 rfl) ?_
  refine lv_iconst (v := (0 : Int32)) C.hx C.hb dX6_isModule_1 (by decide) ?_
  refine lv_aload_n C.hx C.hb dX6_isModule_2 rfl (lv_at hl 0 rfl) ?_
  refine fr_X6_100_0 C hP dX6_isModule_3 ?_
  refine lv_iconst (v := (1 : Int32)) C.hx C.hb dX6_isModule_6 (by decide) ?_
  refine lv_isub C.hx C.hb dX6_isModule_7 ?_
  obtain ⟨r_1, e_1, h⟩ := gbind h
  refine gCallS (wd := rW cI cZ a) (As := [.int p1, .int (0 : Int32), .int ((σ.2 14) - (1 : Int32))]) (rest := []) C hml hl.1 hS (mX6_in hD e_1) k_510 k_511 k_36 k_512 hdX6_in ⟨by show 0 + 1 ≤ 1; omega, by show 8 + (3 + 11) + (0) ≤ 22; omega⟩ hP rfl rfl (Nat.le_of_ble_eq_true rfl) dX6_isModule_8 ⟨Nat.zero_le _, Nat.zero_le _⟩ (fun H locs hP hS => ?_)
  obtain ⟨g_2, h⟩ := gsplit h
  cases h
  exact gRetZ C hr hlocks g_2 hP hS dX6_isModule_11
set_option maxHeartbeats 4000000 in
set_option maxRecDepth 100000 in
theorem mX6_begin {l : Launch} {D : va_G} {cI cZ : ClassId} {a : Nat → Nat} (hD : ∀ σ, va_D (rAd a) (rW cI cZ a σ)) {fu : Nat} {σ : MS} {p1 : Int32} {r : Int32} {σ' : MS} (h : sX6_begin fu σ p1 = some (r, σ')) : gMet (rW cI cZ a) (rAd a) l D cI cZ yX6_begin cX6_begin 3 (some .int) (5) (117) [.ref (a 0), .int p1] σ r σ' := by
  refine gEnt (by decide) (Nat.le_of_ble_eq_true rfl) (fun p e s m below meth c ls C hml hr hlocks hP hl => ?_)
  have hl : lv_has ls 3 [(0, .ref (a 0)), (1, .int p1)] := hl
  have hS : va_S (rAd a) s.heap s.heap [] := va_S.rf
  rw [sX6_begin] at h
  refine lv_aload_n C.hx C.hb dX6_begin_0 rfl (lv_at hl 0 rfl) ?_
  refine lv_iload_n C.hx C.hb dX6_begin_1 rfl (lv_at hl 1 rfl) ?_
  obtain ⟨r_1, e_1, h⟩ := gbind h
  refine gCallV (wd := rW cI cZ a) (As := [.int p1]) (rest := []) C hml hl.1 hS (mX6_isModule hD e_1) k_593 k_595 k_25 k_36 k_596 hdX6_isModule ⟨by show 1 + 1 ≤ 5; omega, by show 8 + (2 + 11) + (22) ≤ 117; omega⟩ hP 0 6 rfl rfl rfl rfl rfl (Nat.le_of_ble_eq_true rfl) dX6_begin_2 ⟨Nat.zero_le _, Nat.zero_le _⟩ (fun H locs hP hS => ?_)
  refine lv_if_ne (tgt := 11) C.hx C.hb dX6_begin_5 (by decide) (fun c_2 => ?_) (fun c_2 => ?_)
  · have h := gneg c_2 h
    refine lv_aload_n C.hx C.hb dX6_begin_11 rfl (lv_at hl 0 rfl) ?_
    refine fr_X6_32_0 C hP dX6_begin_12 ?_
    refine lv_aload_n C.hx C.hb dX6_begin_15 rfl (lv_at hl 0 rfl) ?_
    refine fr_X6_47_0 C hP dX6_begin_16 ?_
    refine lv_iload_n C.hx C.hb dX6_begin_19 rfl (lv_at hl 1 rfl) ?_
    obtain ⟨g_3, h⟩ := gsplit h
    refine ldr_15 (i := p1) C hP g_3 dX6_begin_20 ?_
    obtain ⟨g_4, h⟩ := gsplit h
    refine ldr_9 (i := (σ.1 15 (p1.toNatClampNeg))) C hP g_4 dX6_begin_21 ?_
    refine lv_if_eq (tgt := 28) C.hx C.hb dX6_begin_22 (by decide) (fun c_5 => ?_) (fun c_5 => ?_)
    · have h := gpos c_5 h
      refine lv_aload_n C.hx C.hb dX6_begin_28 rfl (lv_at hl 0 rfl) ?_
      refine lv_iconst (v := (2 : Int32)) C.hx C.hb dX6_begin_29 (by decide) ?_
      refine lv_iload_n C.hx C.hb dX6_begin_30 rfl (lv_at hl 1 rfl) ?_
      refine lv_iconst (v := (-1 : Int32)) C.hx C.hb dX6_begin_31 (by decide) ?_
      refine lv_iconst (v := (0 : Int32)) C.hx C.hb dX6_begin_32 (by decide) ?_
      obtain ⟨⟨r_6, u_6⟩, e_6, h⟩ := gbind h
      refine gCallV (wd := rW cI cZ a) (As := [.int (2 : Int32), .int p1, .int (-1 : Int32), .int (0 : Int32)]) (rest := []) C hml hl.1 hS (mX6_does hD e_6) k_533 k_535 k_14 k_36 k_536 hdX6_does ⟨by show 4 + 1 ≤ 5; omega, by show 8 + (6 + 11) + (92) ≤ 117; omega⟩ hP 0 6 rfl rfl rfl rfl rfl (Nat.le_of_ble_eq_true rfl) dX6_begin_33 ⟨Nat.zero_le _, Nat.zero_le _⟩ (fun H locs hP hS => ?_)
      refine lv_istore_n (lv' := [(2, .int r_6), (0, .ref (a 0)), (1, .int p1)]) C.hx C.hb dX6_begin_36 rfl hl (by decide) rfl (fun ls hl => ?_)
      refine lv_iload_n C.hx C.hb dX6_begin_37 rfl (lv_at hl 0 rfl) ?_
      refine lv_if_ge (tgt := 45) C.hx C.hb dX6_begin_38 (by decide) (fun c_7 => ?_) (fun c_7 => ?_)
      · have h := gpos c_7 h
        refine lv_iconst (v := (1 : Int32)) C.hx C.hb dX6_begin_45 (by decide) ?_
        cases h
        exact gRetI C hr hlocks hP hS dX6_begin_46
      · have h := gneg c_7 h
        refine lv_iload_n C.hx C.hb dX6_begin_41 rfl (lv_at hl 0 rfl) ?_
        refine lv_goto (tgt := 46) C.hx C.hb dX6_begin_42 (by decide) ?_
        cases h
        exact gRetI C hr hlocks hP hS dX6_begin_46
    · have h := gneg c_5 h
      refine lv_bipush (v := (-3 : Int32)) C.hx C.hb dX6_begin_25 (by decide) ?_
      cases h
      exact gRetI C hr hlocks hP hS dX6_begin_27
  · have h := gpos c_2 h
    refine lv_bipush (v := (-2 : Int32)) C.hx C.hb dX6_begin_8 (by decide) ?_
    cases h
    exact gRetI C hr hlocks hP hS dX6_begin_10
set_option maxHeartbeats 4000000 in
set_option maxRecDepth 100000 in
theorem mX6_thing {l : Launch} {D : va_G} {cI cZ : ClassId} {a : Nat → Nat} (hD : ∀ σ, va_D (rAd a) (rW cI cZ a σ)) {fu : Nat} {σ : MS} {p1 : Int32} {r : Int32} {σ' : MS} (h : sX6_thing fu σ p1 = some (r, σ')) : gMet (rW cI cZ a) (rAd a) l D cI cZ yX6_thing cX6_thing 3 (some .int) (5) (117) [.ref (a 0), .int p1] σ r σ' := by
  refine gEnt (by decide) (Nat.le_of_ble_eq_true rfl) (fun p e s m below meth c ls C hml hr hlocks hP hl => ?_)
  have hl : lv_has ls 3 [(0, .ref (a 0)), (1, .int p1)] := hl
  have hS : va_S (rAd a) s.heap s.heap [] := va_S.rf
  rw [sX6_thing] at h
  refine lv_aload_n C.hx C.hb dX6_thing_0 rfl (lv_at hl 0 rfl) ?_
  refine lv_iload_n C.hx C.hb dX6_thing_1 rfl (lv_at hl 1 rfl) ?_
  obtain ⟨r_1, e_1, h⟩ := gbind h
  refine gCallV (wd := rW cI cZ a) (As := [.int p1]) (rest := []) C hml hl.1 hS (mX6_isModule hD e_1) k_593 k_595 k_25 k_36 k_596 hdX6_isModule ⟨by show 1 + 1 ≤ 5; omega, by show 8 + (2 + 11) + (22) ≤ 117; omega⟩ hP 0 6 rfl rfl rfl rfl rfl (Nat.le_of_ble_eq_true rfl) dX6_thing_2 ⟨Nat.zero_le _, Nat.zero_le _⟩ (fun H locs hP hS => ?_)
  refine lv_if_ne (tgt := 11) C.hx C.hb dX6_thing_5 (by decide) (fun c_2 => ?_) (fun c_2 => ?_)
  · have h := gneg c_2 h
    refine lv_aload_n C.hx C.hb dX6_thing_11 rfl (lv_at hl 0 rfl) ?_
    refine fr_X6_32_0 C hP dX6_thing_12 ?_
    refine lv_aload_n C.hx C.hb dX6_thing_15 rfl (lv_at hl 0 rfl) ?_
    refine fr_X6_47_0 C hP dX6_thing_16 ?_
    refine lv_iload_n C.hx C.hb dX6_thing_19 rfl (lv_at hl 1 rfl) ?_
    obtain ⟨g_3, h⟩ := gsplit h
    refine ldr_15 (i := p1) C hP g_3 dX6_thing_20 ?_
    obtain ⟨g_4, h⟩ := gsplit h
    refine ldr_9 (i := (σ.1 15 (p1.toNatClampNeg))) C hP g_4 dX6_thing_21 ?_
    refine lv_if_eq (tgt := 28) C.hx C.hb dX6_thing_22 (by decide) (fun c_5 => ?_) (fun c_5 => ?_)
    · have h := gpos c_5 h
      refine lv_aload_n C.hx C.hb dX6_thing_28 rfl (lv_at hl 0 rfl) ?_
      refine fr_X6_103_0 C hP dX6_thing_29 ?_
      refine lv_bipush (v := (60 : Int32)) C.hx C.hb dX6_thing_32 (by decide) ?_
      refine lv_icmp_ne (tgt := 40) C.hx C.hb dX6_thing_34 (by decide) (fun c_6 => ?_) (fun c_6 => ?_)
      · have h := gneg c_6 h
        refine lv_aload_n C.hx C.hb dX6_thing_40 rfl (lv_at hl 0 rfl) ?_
        refine lv_iconst (v := (2 : Int32)) C.hx C.hb dX6_thing_41 (by decide) ?_
        refine lv_iload_n C.hx C.hb dX6_thing_42 rfl (lv_at hl 1 rfl) ?_
        refine lv_iconst (v := (-1 : Int32)) C.hx C.hb dX6_thing_43 (by decide) ?_
        refine lv_iconst (v := (0 : Int32)) C.hx C.hb dX6_thing_44 (by decide) ?_
        obtain ⟨⟨r_7, u_7⟩, e_7, h⟩ := gbind h
        refine gCallV (wd := rW cI cZ a) (As := [.int (2 : Int32), .int p1, .int (-1 : Int32), .int (0 : Int32)]) (rest := []) C hml hl.1 hS (mX6_does hD e_7) k_533 k_535 k_14 k_36 k_536 hdX6_does ⟨by show 4 + 1 ≤ 5; omega, by show 8 + (6 + 11) + (92) ≤ 117; omega⟩ hP 0 6 rfl rfl rfl rfl rfl (Nat.le_of_ble_eq_true rfl) dX6_thing_45 ⟨Nat.zero_le _, Nat.zero_le _⟩ (fun H locs hP hS => ?_)
        refine lv_istore_n (lv' := [(2, .int r_7), (0, .ref (a 0)), (1, .int p1)]) C.hx C.hb dX6_thing_48 rfl hl (by decide) rfl (fun ls hl => ?_)
        refine lv_iload_n C.hx C.hb dX6_thing_49 rfl (lv_at hl 0 rfl) ?_
        refine lv_if_ge (tgt := 55) C.hx C.hb dX6_thing_50 (by decide) (fun c_8 => ?_) (fun c_8 => ?_)
        · have h := gpos c_8 h
          refine lv_aload_n C.hx C.hb dX6_thing_55 rfl (lv_at hl 1 rfl) ?_
          refine fr_X6_62_0 C hP dX6_thing_56 ?_
          refine lv_aload_n C.hx C.hb dX6_thing_59 rfl (lv_at hl 1 rfl) ?_
          refine fr_X6_103_0 C hP dX6_thing_60 ?_
          refine lv_iload_n C.hx C.hb dX6_thing_63 rfl (lv_at hl 2 rfl) ?_
          obtain ⟨g_9, h⟩ := gsplit h
          refine str_21 (i := (u_7.2 20)) (x := p1) C hD hP hS g_9 dX6_thing_64 (fun H locs hP hS => ?_)
          have hP : va_P D vwCl (rW cI cZ a (sA u_7 21 ((u_7.2 20).toNatClampNeg) p1)) H := hP
          refine lv_aload_n C.hx C.hb dX6_thing_65 rfl (lv_at hl 1 rfl) ?_
          refine fr_X6_65_0 C hP dX6_thing_66 ?_
          refine lv_aload_n C.hx C.hb dX6_thing_69 rfl (lv_at hl 1 rfl) ?_
          refine fr_X6_103_0 C hP dX6_thing_70 ?_
          refine lv_iconst (v := (0 : Int32)) C.hx C.hb dX6_thing_73 (by decide) ?_
          refine str_22 (i := (u_7.2 20)) (x := (0 : Int32)) C hD hP hS g_9 dX6_thing_74 (fun H locs hP hS => ?_)
          have hP : va_P D vwCl (rW cI cZ a (sA (sA u_7 21 ((u_7.2 20).toNatClampNeg) p1) 22 ((u_7.2 20).toNatClampNeg) (0 : Int32))) H := hP
          refine lv_aload_n C.hx C.hb dX6_thing_75 rfl (lv_at hl 1 rfl) ?_
          refine lv_dup C.hx C.hb dX6_thing_76 rfl ?_
          refine fr_X6_103_0 C hP dX6_thing_77 ?_
          refine lv_iconst (v := (1 : Int32)) C.hx C.hb dX6_thing_80 (by decide) ?_
          refine lv_iadd C.hx C.hb dX6_thing_81 ?_
          refine pr_X6_103_0 (x := ((u_7.2 20) + (1 : Int32))) C hD hP hS dX6_thing_82 (fun H locs hP hS => ?_)
          have hP : va_P D vwCl (rW cI cZ a (sZ (sA (sA u_7 21 ((u_7.2 20).toNatClampNeg) p1) 22 ((u_7.2 20).toNatClampNeg) (0 : Int32)) 20 ((u_7.2 20) + (1 : Int32)))) H := hP
          refine lv_aload_n C.hx C.hb dX6_thing_85 rfl (lv_at hl 1 rfl) ?_
          refine fr_X6_103_0 C hP dX6_thing_86 ?_
          refine lv_iconst (v := (1 : Int32)) C.hx C.hb dX6_thing_89 (by decide) ?_
          refine lv_isub C.hx C.hb dX6_thing_90 ?_
          cases h
          exact gRetI C hr hlocks hP hS dX6_thing_91
        · have h := gneg c_8 h
          refine lv_iload_n C.hx C.hb dX6_thing_53 rfl (lv_at hl 0 rfl) ?_
          cases h
          exact gRetI C hr hlocks hP hS dX6_thing_54
      · have h := gpos c_6 h
        refine lv_bipush (v := (-4 : Int32)) C.hx C.hb dX6_thing_37 (by decide) ?_
        cases h
        exact gRetI C hr hlocks hP hS dX6_thing_39
    · have h := gneg c_5 h
      refine lv_bipush (v := (-3 : Int32)) C.hx C.hb dX6_thing_25 (by decide) ?_
      cases h
      exact gRetI C hr hlocks hP hS dX6_thing_27
  · have h := gpos c_2 h
    refine lv_bipush (v := (-2 : Int32)) C.hx C.hb dX6_thing_8 (by decide) ?_
    cases h
    exact gRetI C hr hlocks hP hS dX6_thing_10
set_option maxHeartbeats 4000000 in
set_option maxRecDepth 100000 in
theorem mX6_isThing {l : Launch} {D : va_G} {cI cZ : ClassId} {a : Nat → Nat} (hD : ∀ σ, va_D (rAd a) (rW cI cZ a σ)) {σ : MS} {p1 : Int32} {r : Int32} (h : sX6_isThing σ p1 = some r) : gMet (rW cI cZ a) (rAd a) l D cI cZ yX6_isThing cX6_isThing 2 (some .boolean) (1) (22) [.ref (a 0), .int p1] σ r σ := by
  refine gEnt (by decide) (Nat.le_of_ble_eq_true rfl) (fun p e s m below meth c ls C hml hr hlocks hP hl => ?_)
  have hl : lv_has ls 2 [(0, .ref (a 0)), (1, .int p1)] := hl
  have hS : va_S (rAd a) s.heap s.heap [] := va_S.rf
  rw [sX6_isThing] at h
  refine lv_iload_n C.hx C.hb dX6_isThing_0 rfl (lv_at hl 1 rfl) ?_
  refine lv_iconst (v := (0 : Int32)) C.hx C.hb dX6_isThing_1 (by decide) ?_
  refine lv_aload_n C.hx C.hb dX6_isThing_2 rfl (lv_at hl 0 rfl) ?_
  refine fr_X6_103_0 C hP dX6_isThing_3 ?_
  refine lv_iconst (v := (1 : Int32)) C.hx C.hb dX6_isThing_6 (by decide) ?_
  refine lv_isub C.hx C.hb dX6_isThing_7 ?_
  obtain ⟨r_1, e_1, h⟩ := gbind h
  refine gCallS (wd := rW cI cZ a) (As := [.int p1, .int (0 : Int32), .int ((σ.2 20) - (1 : Int32))]) (rest := []) C hml hl.1 hS (mX6_in hD e_1) k_510 k_511 k_36 k_512 hdX6_in ⟨by show 0 + 1 ≤ 1; omega, by show 8 + (3 + 11) + (0) ≤ 22; omega⟩ hP rfl rfl (Nat.le_of_ble_eq_true rfl) dX6_isThing_8 ⟨Nat.zero_le _, Nat.zero_le _⟩ (fun H locs hP hS => ?_)
  obtain ⟨g_2, h⟩ := gsplit h
  cases h
  exact gRetZ C hr hlocks g_2 hP hS dX6_isThing_11
set_option maxHeartbeats 4000000 in
set_option maxRecDepth 100000 in
theorem wX6_cast_L38 {l : Launch} {D : va_G} {cI cZ : ClassId} {a : Nat → Nat} {p : Program} {e : Env} {s : State} {m : MethodId} {args : Array Value} {below : List Frame} {meth : Method} {c : Code} {fu : Nat} {r : Int32} (C : Cx RX6 cX6_cast D cI cZ p s m args c) (hml : c.maxLocals = 4) (hr : meth.sig.returnType = (some .int)) (hlocks : meth.locks = false) (hD : ∀ σ, va_D (rAd a) (rW cI cZ a σ)) : ∀ (n : Nat) (σ : MS) (x1 : Int32) (x2 : Int32) (x3 : Int32) (H : Heap) (locs : List Loc) (ls : Array Slot), lv_has ls 4 [(0, .ref (a 0)), (1, .int x1), (2, .int x2), (3, .int x3)] → va_P D vwCl (rW cI cZ a σ) H → va_S (rAd a) s.heap H locs → sX6_cast_L38 fu n σ x1 x2 x3 = some r → W p l e (gRm (2) (43)) s m args below meth c H locs 0 0 (MQ below (gQi (rW cI cZ a) (rAd a) D r σ) args s 0 0 (rAd a)) (F0 m 38 ls []) := by
  intro n
  induction n with
  | zero => intro σ x1 x2 x3 H locs ls hl hP hS h; cases h
  | succ n ih =>
    intro σ x1 x2 x3 H locs ls hl hP hS h
    rw [sX6_cast_L38] at h
    refine lv_iload_n C.hx C.hb dX6_cast_38 rfl (lv_at hl 3 rfl) ?_
    refine lv_iconst (v := (-1 : Int32)) C.hx C.hb dX6_cast_39 (by decide) ?_
    refine lv_icmp_eq (tgt := 58) C.hx C.hb dX6_cast_40 (by decide) (fun c_1 => ?_) (fun c_1 => ?_)
    · have h := gpos c_1 h
      refine lv_iload_n C.hx C.hb dX6_cast_58 rfl (lv_at hl 3 rfl) ?_
      refine lv_iload_n C.hx C.hb dX6_cast_59 rfl (lv_at hl 2 rfl) ?_
      refine lv_icmp_ne (tgt := 67) C.hx C.hb dX6_cast_60 (by decide) (fun c_2 => ?_) (fun c_2 => ?_)
      · have h := gneg c_2 h
        refine lv_bipush (v := (-19 : Int32)) C.hx C.hb dX6_cast_67 (by decide) ?_
        cases h
        exact gRetI C hr hlocks hP hS dX6_cast_69
      · have h := gpos c_2 h
        refine lv_iconst (v := (1 : Int32)) C.hx C.hb dX6_cast_63 (by decide) ?_
        refine lv_goto (tgt := 69) C.hx C.hb dX6_cast_64 (by decide) ?_
        cases h
        exact gRetI C hr hlocks hP hS dX6_cast_69
    · have h := gneg c_1 h
      refine lv_iload_n C.hx C.hb dX6_cast_43 rfl (lv_at hl 3 rfl) ?_
      refine lv_iload_n C.hx C.hb dX6_cast_44 rfl (lv_at hl 2 rfl) ?_
      refine lv_icmp_eq (tgt := 58) C.hx C.hb dX6_cast_45 (by decide) (fun c_3 => ?_) (fun c_3 => ?_)
      · have h := gpos c_3 h
        refine lv_iload_n C.hx C.hb dX6_cast_58 rfl (lv_at hl 3 rfl) ?_
        refine lv_iload_n C.hx C.hb dX6_cast_59 rfl (lv_at hl 2 rfl) ?_
        refine lv_icmp_ne (tgt := 67) C.hx C.hb dX6_cast_60 (by decide) (fun c_ => absurd c_3 c_) (fun _ => ?_)
        refine lv_iconst (v := (1 : Int32)) C.hx C.hb dX6_cast_63 (by decide) ?_
        refine lv_goto (tgt := 69) C.hx C.hb dX6_cast_64 (by decide) ?_
        cases h
        exact gRetI C hr hlocks hP hS dX6_cast_69
      · have h := gneg c_3 h
        refine lv_aload_n C.hx C.hb dX6_cast_48 rfl (lv_at hl 0 rfl) ?_
        refine fr_X6_53_0 C hP dX6_cast_49 ?_
        refine lv_iload_n C.hx C.hb dX6_cast_52 rfl (lv_at hl 3 rfl) ?_
        obtain ⟨g_4, h⟩ := gsplit h
        refine ldr_17 (i := x3) C hP g_4 dX6_cast_53 ?_
        refine lv_istore_n (lv' := [(3, .int (σ.1 17 (x3.toNatClampNeg))), (0, .ref (a 0)), (1, .int x1), (2, .int x2)]) C.hx C.hb dX6_cast_54 rfl hl (by decide) rfl (fun ls hl => ?_)
        refine lv_goto (tgt := 38) C.hx C.hb dX6_cast_55 (by decide) ?_
        exact ih σ x1 x2 (σ.1 17 (x3.toNatClampNeg)) _ _ ls (lv_sub hl [1, 2, 3, 0] rfl) hP hS h
set_option maxHeartbeats 4000000 in
set_option maxRecDepth 100000 in
theorem mX6_cast {l : Launch} {D : va_G} {cI cZ : ClassId} {a : Nat → Nat} (hD : ∀ σ, va_D (rAd a) (rW cI cZ a σ)) {fu : Nat} {σ : MS} {p1 p2 : Int32} {r : Int32} (h : sX6_cast fu σ p1 p2 = some r) : gMet (rW cI cZ a) (rAd a) l D cI cZ yX6_cast cX6_cast 4 (some .int) (2) (43) [.ref (a 0), .int p1, .int p2] σ r σ := by
  refine gEnt (by decide) (Nat.le_of_ble_eq_true rfl) (fun p e s m below meth c ls C hml hr hlocks hP hl => ?_)
  have hl : lv_has ls 4 [(0, .ref (a 0)), (1, .int p1), (2, .int p2)] := hl
  have hS : va_S (rAd a) s.heap s.heap [] := va_S.rf
  rw [sX6_cast] at h
  refine lv_aload_n C.hx C.hb dX6_cast_0 rfl (lv_at hl 0 rfl) ?_
  refine lv_iload_n C.hx C.hb dX6_cast_1 rfl (lv_at hl 1 rfl) ?_
  obtain ⟨r_1, e_1, h⟩ := gbind h
  refine gCallV (wd := rW cI cZ a) (As := [.int p1]) (rest := []) C hml hl.1 hS (mX6_isThing hD e_1) k_605 k_607 k_26 k_36 k_608 hdX6_isThing ⟨by show 1 + 1 ≤ 2; omega, by show 8 + (2 + 11) + (22) ≤ 43; omega⟩ hP 0 6 rfl rfl rfl rfl rfl (Nat.le_of_ble_eq_true rfl) dX6_cast_2 ⟨Nat.zero_le _, Nat.zero_le _⟩ (fun H locs hP hS => ?_)
  refine lv_if_eq (tgt := 16) C.hx C.hb dX6_cast_5 (by decide) (fun c_2 => ?_) (fun c_2 => ?_)
  · have h := gpos c_2 h
    refine lv_bipush (v := (-2 : Int32)) C.hx C.hb dX6_cast_16 (by decide) ?_
    cases h
    exact gRetI C hr hlocks hP hS dX6_cast_18
  · have h := gneg c_2 h
    refine lv_aload_n C.hx C.hb dX6_cast_8 rfl (lv_at hl 0 rfl) ?_
    refine lv_iload_n C.hx C.hb dX6_cast_9 rfl (lv_at hl 2 rfl) ?_
    obtain ⟨r_3, e_3, h⟩ := gbind h
    refine gCallV (wd := rW cI cZ a) (As := [.int p2]) (rest := []) C hml hl.1 hS (mX6_isModule hD e_3) k_593 k_595 k_25 k_36 k_596 hdX6_isModule ⟨by show 1 + 1 ≤ 2; omega, by show 8 + (2 + 11) + (22) ≤ 43; omega⟩ hP 0 6 rfl rfl rfl rfl rfl (Nat.le_of_ble_eq_true rfl) dX6_cast_10 ⟨Nat.zero_le _, Nat.zero_le _⟩ (fun H locs hP hS => ?_)
    refine lv_if_ne (tgt := 19) C.hx C.hb dX6_cast_13 (by decide) (fun c_4 => ?_) (fun c_4 => ?_)
    · have h := gneg c_4 h
      refine lv_aload_n C.hx C.hb dX6_cast_19 rfl (lv_at hl 0 rfl) ?_
      refine fr_X6_65_0 C hP dX6_cast_20 ?_
      refine lv_iload_n C.hx C.hb dX6_cast_23 rfl (lv_at hl 1 rfl) ?_
      obtain ⟨g_5, h⟩ := gsplit h
      refine ldr_22 (i := p1) C hP g_5 dX6_cast_24 ?_
      refine lv_if_eq (tgt := 31) C.hx C.hb dX6_cast_25 (by decide) (fun c_6 => ?_) (fun c_6 => ?_)
      · have h := gpos c_6 h
        refine lv_aload_n C.hx C.hb dX6_cast_31 rfl (lv_at hl 0 rfl) ?_
        refine fr_X6_62_0 C hP dX6_cast_32 ?_
        refine lv_iload_n C.hx C.hb dX6_cast_35 rfl (lv_at hl 1 rfl) ?_
        refine ldr_21 (i := p1) C hP g_5 dX6_cast_36 ?_
        refine lv_istore_n (lv' := [(3, .int (σ.1 21 (p1.toNatClampNeg))), (0, .ref (a 0)), (1, .int p1), (2, .int p2)]) C.hx C.hb dX6_cast_37 rfl hl (by decide) rfl (fun ls hl => ?_)
        exact wX6_cast_L38 C hml hr hlocks hD fu σ p1 p2 (σ.1 21 (p1.toNatClampNeg)) _ _ ls (lv_sub hl [1, 2, 3, 0] rfl) hP hS h
      · have h := gneg c_6 h
        refine lv_bipush (v := (-3 : Int32)) C.hx C.hb dX6_cast_28 (by decide) ?_
        cases h
        exact gRetI C hr hlocks hP hS dX6_cast_30
    · have h := gpos c_4 h
      refine lv_bipush (v := (-2 : Int32)) C.hx C.hb dX6_cast_16 (by decide) ?_
      cases h
      exact gRetI C hr hlocks hP hS dX6_cast_18
set_option maxHeartbeats 4000000 in
set_option maxRecDepth 100000 in
theorem mX6_drop {l : Launch} {D : va_G} {cI cZ : ClassId} {a : Nat → Nat} (hD : ∀ σ, va_D (rAd a) (rW cI cZ a σ)) {σ : MS} {p1 : Int32} {r : Int32} {σ' : MS} (h : sX6_drop σ p1 = some (r, σ')) : gMet (rW cI cZ a) (rAd a) l D cI cZ yX6_drop cX6_drop 2 (some .int) (2) (43) [.ref (a 0), .int p1] σ r σ' := by
  refine gEnt (by decide) (Nat.le_of_ble_eq_true rfl) (fun p e s m below meth c ls C hml hr hlocks hP hl => ?_)
  have hl : lv_has ls 2 [(0, .ref (a 0)), (1, .int p1)] := hl
  have hS : va_S (rAd a) s.heap s.heap [] := va_S.rf
  rw [sX6_drop] at h
  refine lv_aload_n C.hx C.hb dX6_drop_0 rfl (lv_at hl 0 rfl) ?_
  refine lv_iload_n C.hx C.hb dX6_drop_1 rfl (lv_at hl 1 rfl) ?_
  obtain ⟨r_1, e_1, h⟩ := gbind h
  refine gCallV (wd := rW cI cZ a) (As := [.int p1]) (rest := []) C hml hl.1 hS (mX6_isThing hD e_1) k_605 k_607 k_26 k_36 k_608 hdX6_isThing ⟨by show 1 + 1 ≤ 2; omega, by show 8 + (2 + 11) + (22) ≤ 43; omega⟩ hP 0 6 rfl rfl rfl rfl rfl (Nat.le_of_ble_eq_true rfl) dX6_drop_2 ⟨Nat.zero_le _, Nat.zero_le _⟩ (fun H locs hP hS => ?_)
  refine lv_if_ne (tgt := 11) C.hx C.hb dX6_drop_5 (by decide) (fun c_2 => ?_) (fun c_2 => ?_)
  · have h := gneg c_2 h
    refine lv_aload_n C.hx C.hb dX6_drop_11 rfl (lv_at hl 0 rfl) ?_
    refine fr_X6_65_0 C hP dX6_drop_12 ?_
    refine lv_iload_n C.hx C.hb dX6_drop_15 rfl (lv_at hl 1 rfl) ?_
    obtain ⟨g_3, h⟩ := gsplit h
    refine ldr_22 (i := p1) C hP g_3 dX6_drop_16 ?_
    refine lv_if_eq (tgt := 23) C.hx C.hb dX6_drop_17 (by decide) (fun c_4 => ?_) (fun c_4 => ?_)
    · have h := gpos c_4 h
      refine lv_aload_n C.hx C.hb dX6_drop_23 rfl (lv_at hl 0 rfl) ?_
      refine fr_X6_65_0 C hP dX6_drop_24 ?_
      refine lv_iload_n C.hx C.hb dX6_drop_27 rfl (lv_at hl 1 rfl) ?_
      refine lv_iconst (v := (1 : Int32)) C.hx C.hb dX6_drop_28 (by decide) ?_
      refine str_22 (i := p1) (x := (1 : Int32)) C hD hP hS g_3 dX6_drop_29 (fun H locs hP hS => ?_)
      have hP : va_P D vwCl (rW cI cZ a (sA σ 22 (p1.toNatClampNeg) (1 : Int32))) H := hP
      refine lv_iconst (v := (1 : Int32)) C.hx C.hb dX6_drop_30 (by decide) ?_
      cases h
      exact gRetI C hr hlocks hP hS dX6_drop_31
    · have h := gneg c_4 h
      refine lv_bipush (v := (-3 : Int32)) C.hx C.hb dX6_drop_20 (by decide) ?_
      cases h
      exact gRetI C hr hlocks hP hS dX6_drop_22
  · have h := gpos c_2 h
    refine lv_bipush (v := (-2 : Int32)) C.hx C.hb dX6_drop_8 (by decide) ?_
    cases h
    exact gRetI C hr hlocks hP hS dX6_drop_10
set_option maxHeartbeats 4000000 in
set_option maxRecDepth 100000 in
theorem wX6_letGo_L28 {l : Launch} {D : va_G} {cI cZ : ClassId} {a : Nat → Nat} {p : Program} {e : Env} {s : State} {m : MethodId} {args : Array Value} {below : List Frame} {meth : Method} {c : Code} {fu : Nat} {r : Int32} {σ' : MS} (C : Cx RX6 cX6_letGo D cI cZ p s m args c) (hml : c.maxLocals = 4) (hr : meth.sig.returnType = (some .int)) (hlocks : meth.locks = false) (hD : ∀ σ, va_D (rAd a) (rW cI cZ a σ)) : ∀ (n : Nat) (σ : MS) (x1 : Int32) (x2 : Int32) (x3 : Int32) (H : Heap) (locs : List Loc) (ls : Array Slot), lv_has ls 4 [(0, .ref (a 0)), (1, .int x1), (2, .int x2), (3, .int x3)] → va_P D vwCl (rW cI cZ a σ) H → va_S (rAd a) s.heap H locs → sX6_letGo_L28 fu n σ x1 x2 x3 = some (r, σ') → W p l e (gRm (2) (43)) s m args below meth c H locs 0 0 (MQ below (gQi (rW cI cZ a) (rAd a) D r σ') args s 0 0 (rAd a)) (F0 m 28 ls []) := by
  intro n
  induction n with
  | zero => intro σ x1 x2 x3 H locs ls hl hP hS h; cases h
  | succ n ih =>
    intro σ x1 x2 x3 H locs ls hl hP hS h
    rw [sX6_letGo_L28] at h
    refine lv_iload_n C.hx C.hb dX6_letGo_28 rfl (lv_at hl 3 rfl) ?_
    refine lv_aload_n C.hx C.hb dX6_letGo_29 rfl (lv_at hl 0 rfl) ?_
    refine fr_X6_93_0 C hP dX6_letGo_30 ?_
    refine lv_icmp_ge (tgt := 71) C.hx C.hb dX6_letGo_33 (by decide) (fun c_1 => ?_) (fun c_1 => ?_)
    · have h := gpos c_1 h
      refine lv_iload_n C.hx C.hb dX6_letGo_71 rfl (lv_at hl 2 rfl) ?_
      refine lv_if_ne (tgt := 78) C.hx C.hb dX6_letGo_72 (by decide) (fun c_2 => ?_) (fun c_2 => ?_)
      · have h := gneg c_2 h
        refine lv_aload_n C.hx C.hb dX6_letGo_78 rfl (lv_at hl 0 rfl) ?_
        refine fr_X6_32_0 C hP dX6_letGo_79 ?_
        refine lv_iload_n C.hx C.hb dX6_letGo_82 rfl (lv_at hl 1 rfl) ?_
        refine lv_iconst (v := (1 : Int32)) C.hx C.hb dX6_letGo_83 (by decide) ?_
        obtain ⟨g_3, h⟩ := gsplit h
        refine str_9 (i := x1) (x := (1 : Int32)) C hD hP hS g_3 dX6_letGo_84 (fun H locs hP hS => ?_)
        have hP : va_P D vwCl (rW cI cZ a (sA σ 9 (x1.toNatClampNeg) (1 : Int32))) H := hP
        refine lv_iconst (v := (1 : Int32)) C.hx C.hb dX6_letGo_85 (by decide) ?_
        cases h
        exact gRetI C hr hlocks hP hS dX6_letGo_86
      · have h := gpos c_2 h
        refine lv_bipush (v := (-3 : Int32)) C.hx C.hb dX6_letGo_75 (by decide) ?_
        cases h
        exact gRetI C hr hlocks hP hS dX6_letGo_77
    · have h := gneg c_1 h
      refine lv_iload_n C.hx C.hb dX6_letGo_36 rfl (lv_at hl 2 rfl) ?_
      refine lv_if_eq (tgt := 63) C.hx C.hb dX6_letGo_37 (by decide) (fun c_4 => ?_) (fun c_4 => ?_)
      · have h := gpos c_4 h
        refine lv_iconst (v := (0 : Int32)) C.hx C.hb dX6_letGo_63 (by decide) ?_
        refine lv_istore_n (lv' := [(2, .int (0 : Int32)), (0, .ref (a 0)), (1, .int x1), (3, .int x3)]) C.hx C.hb dX6_letGo_64 rfl hl (by decide) rfl (fun ls hl => ?_)
        refine lv_iinc (v := (x3 + (1 : Int32))) (lv' := [(3, .int (x3 + (1 : Int32))), (2, .int (0 : Int32)), (0, .ref (a 0)), (1, .int x1)]) C.hx C.hb dX6_letGo_65 hl (k := 3) rfl rfl (by decide) rfl (fun ls hl => ?_)
        refine lv_goto (tgt := 28) C.hx C.hb dX6_letGo_68 (by decide) ?_
        exact ih σ x1 (0 : Int32) (x3 + (1 : Int32)) _ _ ls (lv_sub hl [2, 3, 1, 0] rfl) hP hS h
      · have h := gneg c_4 h
        refine lv_aload_n C.hx C.hb dX6_letGo_40 rfl (lv_at hl 0 rfl) ?_
        refine fr_X6_25_0 C hP dX6_letGo_41 ?_
        refine lv_iload_n C.hx C.hb dX6_letGo_44 rfl (lv_at hl 3 rfl) ?_
        obtain ⟨g_5, h⟩ := gsplit h
        refine ldr_7 (i := x3) C hP g_5 dX6_letGo_45 ?_
        refine lv_iload_n C.hx C.hb dX6_letGo_46 rfl (lv_at hl 1 rfl) ?_
        refine lv_icmp_ne (tgt := 59) C.hx C.hb dX6_letGo_47 (by decide) (fun c_6 => ?_) (fun c_6 => ?_)
        · have h := gneg c_6 h
          refine lv_iconst (v := (1 : Int32)) C.hx C.hb dX6_letGo_59 (by decide) ?_
          refine lv_goto (tgt := 64) C.hx C.hb dX6_letGo_60 (by decide) ?_
          refine lv_istore_n (lv' := [(2, .int (1 : Int32)), (0, .ref (a 0)), (1, .int x1), (3, .int x3)]) C.hx C.hb dX6_letGo_64 rfl hl (by decide) rfl (fun ls hl => ?_)
          refine lv_iinc (v := (x3 + (1 : Int32))) (lv' := [(3, .int (x3 + (1 : Int32))), (2, .int (1 : Int32)), (0, .ref (a 0)), (1, .int x1)]) C.hx C.hb dX6_letGo_65 hl (k := 3) rfl rfl (by decide) rfl (fun ls hl => ?_)
          refine lv_goto (tgt := 28) C.hx C.hb dX6_letGo_68 (by decide) ?_
          exact ih σ x1 (1 : Int32) (x3 + (1 : Int32)) _ _ ls (lv_sub hl [2, 3, 1, 0] rfl) hP hS h
        · have h := gpos c_6 h
          refine lv_aload_n C.hx C.hb dX6_letGo_50 rfl (lv_at hl 0 rfl) ?_
          refine fr_X6_32_0 C hP dX6_letGo_51 ?_
          refine lv_iload_n C.hx C.hb dX6_letGo_54 rfl (lv_at hl 3 rfl) ?_
          refine ldr_9 (i := x3) C hP g_5 dX6_letGo_55 ?_
          refine lv_if_eq (tgt := 63) C.hx C.hb dX6_letGo_56 (by decide) (fun c_7 => ?_) (fun c_7 => ?_)
          · have h := gpos c_7 h
            refine lv_iconst (v := (0 : Int32)) C.hx C.hb dX6_letGo_63 (by decide) ?_
            refine lv_istore_n (lv' := [(2, .int (0 : Int32)), (0, .ref (a 0)), (1, .int x1), (3, .int x3)]) C.hx C.hb dX6_letGo_64 rfl hl (by decide) rfl (fun ls hl => ?_)
            refine lv_iinc (v := (x3 + (1 : Int32))) (lv' := [(3, .int (x3 + (1 : Int32))), (2, .int (0 : Int32)), (0, .ref (a 0)), (1, .int x1)]) C.hx C.hb dX6_letGo_65 hl (k := 3) rfl rfl (by decide) rfl (fun ls hl => ?_)
            refine lv_goto (tgt := 28) C.hx C.hb dX6_letGo_68 (by decide) ?_
            exact ih σ x1 (0 : Int32) (x3 + (1 : Int32)) _ _ ls (lv_sub hl [2, 3, 1, 0] rfl) hP hS h
          · have h := gneg c_7 h
            refine lv_iconst (v := (1 : Int32)) C.hx C.hb dX6_letGo_59 (by decide) ?_
            refine lv_goto (tgt := 64) C.hx C.hb dX6_letGo_60 (by decide) ?_
            refine lv_istore_n (lv' := [(2, .int (1 : Int32)), (0, .ref (a 0)), (1, .int x1), (3, .int x3)]) C.hx C.hb dX6_letGo_64 rfl hl (by decide) rfl (fun ls hl => ?_)
            refine lv_iinc (v := (x3 + (1 : Int32))) (lv' := [(3, .int (x3 + (1 : Int32))), (2, .int (1 : Int32)), (0, .ref (a 0)), (1, .int x1)]) C.hx C.hb dX6_letGo_65 hl (k := 3) rfl rfl (by decide) rfl (fun ls hl => ?_)
            refine lv_goto (tgt := 28) C.hx C.hb dX6_letGo_68 (by decide) ?_
            exact ih σ x1 (1 : Int32) (x3 + (1 : Int32)) _ _ ls (lv_sub hl [2, 3, 1, 0] rfl) hP hS h
set_option maxHeartbeats 4000000 in
set_option maxRecDepth 100000 in
theorem mX6_letGo {l : Launch} {D : va_G} {cI cZ : ClassId} {a : Nat → Nat} (hD : ∀ σ, va_D (rAd a) (rW cI cZ a σ)) {fu : Nat} {σ : MS} {p1 : Int32} {r : Int32} {σ' : MS} (h : sX6_letGo fu σ p1 = some (r, σ')) : gMet (rW cI cZ a) (rAd a) l D cI cZ yX6_letGo cX6_letGo 4 (some .int) (2) (43) [.ref (a 0), .int p1] σ r σ' := by
  refine gEnt (by decide) (Nat.le_of_ble_eq_true rfl) (fun p e s m below meth c ls C hml hr hlocks hP hl => ?_)
  have hl : lv_has ls 4 [(0, .ref (a 0)), (1, .int p1)] := hl
  have hS : va_S (rAd a) s.heap s.heap [] := va_S.rf
  rw [sX6_letGo] at h
  refine lv_aload_n C.hx C.hb dX6_letGo_0 rfl (lv_at hl 0 rfl) ?_
  refine lv_iload_n C.hx C.hb dX6_letGo_1 rfl (lv_at hl 1 rfl) ?_
  obtain ⟨r_1, e_1, h⟩ := gbind h
  refine gCallV (wd := rW cI cZ a) (As := [.int p1]) (rest := []) C hml hl.1 hS (mX6_isLoader hD e_1) k_517 k_519 k_12 k_36 k_520 hdX6_isLoader ⟨by show 1 + 1 ≤ 2; omega, by show 8 + (2 + 11) + (22) ≤ 43; omega⟩ hP 0 6 rfl rfl rfl rfl rfl (Nat.le_of_ble_eq_true rfl) dX6_letGo_2 ⟨Nat.zero_le _, Nat.zero_le _⟩ (fun H locs hP hS => ?_)
  refine lv_if_ne (tgt := 11) C.hx C.hb dX6_letGo_5 (by decide) (fun c_2 => ?_) (fun c_2 => ?_)
  · have h := gneg c_2 h
    refine lv_aload_n C.hx C.hb dX6_letGo_11 rfl (lv_at hl 0 rfl) ?_
    refine fr_X6_32_0 C hP dX6_letGo_12 ?_
    refine lv_iload_n C.hx C.hb dX6_letGo_15 rfl (lv_at hl 1 rfl) ?_
    obtain ⟨g_3, h⟩ := gsplit h
    refine ldr_9 (i := p1) C hP g_3 dX6_letGo_16 ?_
    refine lv_if_ne (tgt := 24) C.hx C.hb dX6_letGo_17 (by decide) (fun c_4 => ?_) (fun c_4 => ?_)
    · have h := gneg c_4 h
      refine lv_iconst (v := (0 : Int32)) C.hx C.hb dX6_letGo_24 (by decide) ?_
      refine lv_istore_n (lv' := [(2, .int (0 : Int32)), (0, .ref (a 0)), (1, .int p1)]) C.hx C.hb dX6_letGo_25 rfl hl (by decide) rfl (fun ls hl => ?_)
      refine lv_iconst (v := (0 : Int32)) C.hx C.hb dX6_letGo_26 (by decide) ?_
      refine lv_istore_n (lv' := [(3, .int (0 : Int32)), (2, .int (0 : Int32)), (0, .ref (a 0)), (1, .int p1)]) C.hx C.hb dX6_letGo_27 rfl hl (by decide) rfl (fun ls hl => ?_)
      exact wX6_letGo_L28 C hml hr hlocks hD fu σ p1 (0 : Int32) (0 : Int32) _ _ ls (lv_sub hl [2, 3, 1, 0] rfl) hP hS h
    · have h := gpos c_4 h
      refine lv_iconst (v := (1 : Int32)) C.hx C.hb dX6_letGo_20 (by decide) ?_
      refine lv_goto (tgt := 25) C.hx C.hb dX6_letGo_21 (by decide) ?_
      refine lv_istore_n (lv' := [(2, .int (1 : Int32)), (0, .ref (a 0)), (1, .int p1)]) C.hx C.hb dX6_letGo_25 rfl hl (by decide) rfl (fun ls hl => ?_)
      refine lv_iconst (v := (0 : Int32)) C.hx C.hb dX6_letGo_26 (by decide) ?_
      refine lv_istore_n (lv' := [(3, .int (0 : Int32)), (2, .int (1 : Int32)), (0, .ref (a 0)), (1, .int p1)]) C.hx C.hb dX6_letGo_27 rfl hl (by decide) rfl (fun ls hl => ?_)
      exact wX6_letGo_L28 C hml hr hlocks hD fu σ p1 (1 : Int32) (0 : Int32) _ _ ls (lv_sub hl [2, 3, 1, 0] rfl) hP hS h
  · have h := gpos c_2 h
    refine lv_bipush (v := (-2 : Int32)) C.hx C.hb dX6_letGo_8 (by decide) ?_
    cases h
    exact gRetI C hr hlocks hP hS dX6_letGo_10
set_option maxHeartbeats 4000000 in
set_option maxRecDepth 100000 in
theorem wX6_holds_L160 {l : Launch} {D : va_G} {cI cZ : ClassId} {a : Nat → Nat} {p : Program} {e : Env} {s : State} {m : MethodId} {args : Array Value} {below : List Frame} {meth : Method} {c : Code} {fu : Nat} {σ' : MS} (C : Cx RX6 cX6_holds D cI cZ p s m args c) (hml : c.maxLocals = 2) (hr : meth.sig.returnType = none) (hlocks : meth.locks = false) (hD : ∀ σ, va_D (rAd a) (rW cI cZ a σ)) : ∀ (n : Nat) (σ : MS) (x1 : Int32) (H : Heap) (locs : List Loc) (ls : Array Slot), lv_has ls 2 [(0, .ref (a 0)), (1, .int x1)] → va_P D vwCl (rW cI cZ a σ) H → va_S (rAd a) s.heap H locs → sX6_holds_L160 fu n σ x1 = some σ' → W p l e (gRm (0) (0)) s m args below meth c H locs 0 0 (MQ below (gQv (rW cI cZ a) (rAd a) D σ') args s 0 0 (rAd a)) (F0 m 160 ls []) := by
  intro n
  induction n with
  | zero => intro σ x1 H locs ls hl hP hS h; cases h
  | succ n ih =>
    intro σ x1 H locs ls hl hP hS h
    rw [sX6_holds_L160] at h
    refine lv_iload_n C.hx C.hb dX6_holds_160 rfl (lv_at hl 1 rfl) ?_
    refine lv_if_lt (tgt := 201) C.hx C.hb dX6_holds_161 (by decide) (fun c_1 => ?_) (fun c_1 => ?_)
    · have h := gpos c_1 h
      cases h
      exact gRetV C hr hlocks hP hS dX6_holds_201
    · have h := gneg c_1 h
      refine lv_aload_n C.hx C.hb dX6_holds_164 rfl (lv_at hl 0 rfl) ?_
      refine fr_X6_86_0 C hP dX6_holds_165 ?_
      refine lv_iload_n C.hx C.hb dX6_holds_168 rfl (lv_at hl 1 rfl) ?_
      obtain ⟨g_2, h⟩ := gsplit h
      refine ldr_32 (i := x1) C hP g_2 dX6_holds_169 ?_
      refine lv_if_eq (tgt := 195) C.hx C.hb dX6_holds_170 (by decide) (fun c_3 => ?_) (fun c_3 => ?_)
      · have h := gpos c_3 h
        refine lv_iinc (v := (x1 + (-1 : Int32))) (lv' := [(1, .int (x1 + (-1 : Int32))), (0, .ref (a 0))]) C.hx C.hb dX6_holds_195 hl (k := 1) rfl rfl (by decide) rfl (fun ls hl => ?_)
        refine lv_goto (tgt := 160) C.hx C.hb dX6_holds_198 (by decide) ?_
        exact ih σ (x1 + (-1 : Int32)) _ _ ls (lv_sub hl [1, 0] rfl) hP hS h
      · have h := gneg c_3 h
        refine lv_aload_n C.hx C.hb dX6_holds_173 rfl (lv_at hl 0 rfl) ?_
        refine fr_X6_53_0 C hP dX6_holds_174 ?_
        refine lv_iload_n C.hx C.hb dX6_holds_177 rfl (lv_at hl 1 rfl) ?_
        refine ldr_17 (i := x1) C hP g_2 dX6_holds_178 ?_
        refine lv_iconst (v := (-1 : Int32)) C.hx C.hb dX6_holds_179 (by decide) ?_
        refine lv_icmp_eq (tgt := 195) C.hx C.hb dX6_holds_180 (by decide) (fun c_4 => ?_) (fun c_4 => ?_)
        · have h := gpos c_4 h
          refine lv_iinc (v := (x1 + (-1 : Int32))) (lv' := [(1, .int (x1 + (-1 : Int32))), (0, .ref (a 0))]) C.hx C.hb dX6_holds_195 hl (k := 1) rfl rfl (by decide) rfl (fun ls hl => ?_)
          refine lv_goto (tgt := 160) C.hx C.hb dX6_holds_198 (by decide) ?_
          exact ih σ (x1 + (-1 : Int32)) _ _ ls (lv_sub hl [1, 0] rfl) hP hS h
        · have h := gneg c_4 h
          refine lv_aload_n C.hx C.hb dX6_holds_183 rfl (lv_at hl 0 rfl) ?_
          refine fr_X6_86_0 C hP dX6_holds_184 ?_
          refine lv_aload_n C.hx C.hb dX6_holds_187 rfl (lv_at hl 0 rfl) ?_
          refine fr_X6_53_0 C hP dX6_holds_188 ?_
          refine lv_iload_n C.hx C.hb dX6_holds_191 rfl (lv_at hl 1 rfl) ?_
          refine ldr_17 (i := x1) C hP g_2 dX6_holds_192 ?_
          refine lv_iconst (v := (1 : Int32)) C.hx C.hb dX6_holds_193 (by decide) ?_
          obtain ⟨g_5, h⟩ := gsplit h
          refine str_32 (i := (σ.1 17 (x1.toNatClampNeg))) (x := (1 : Int32)) C hD hP hS g_5 dX6_holds_194 (fun H locs hP hS => ?_)
          have hP : va_P D vwCl (rW cI cZ a (sA σ 32 ((σ.1 17 (x1.toNatClampNeg)).toNatClampNeg) (1 : Int32))) H := hP
          refine lv_iinc (v := (x1 + (-1 : Int32))) (lv' := [(1, .int (x1 + (-1 : Int32))), (0, .ref (a 0))]) C.hx C.hb dX6_holds_195 hl (k := 1) rfl rfl (by decide) rfl (fun ls hl => ?_)
          refine lv_goto (tgt := 160) C.hx C.hb dX6_holds_198 (by decide) ?_
          exact ih (sA σ 32 ((σ.1 17 (x1.toNatClampNeg)).toNatClampNeg) (1 : Int32)) (x1 + (-1 : Int32)) _ _ ls (lv_sub hl [1, 0] rfl) hP hS h
set_option maxHeartbeats 4000000 in
set_option maxRecDepth 100000 in
theorem wX6_holds_L80 {l : Launch} {D : va_G} {cI cZ : ClassId} {a : Nat → Nat} {p : Program} {e : Env} {s : State} {m : MethodId} {args : Array Value} {below : List Frame} {meth : Method} {c : Code} {fu : Nat} {σ' : MS} (C : Cx RX6 cX6_holds D cI cZ p s m args c) (hml : c.maxLocals = 2) (hr : meth.sig.returnType = none) (hlocks : meth.locks = false) (hD : ∀ σ, va_D (rAd a) (rW cI cZ a σ)) : ∀ (n : Nat) (σ : MS) (x1 : Int32) (H : Heap) (locs : List Loc) (ls : Array Slot), lv_has ls 2 [(0, .ref (a 0)), (1, .int x1)] → va_P D vwCl (rW cI cZ a σ) H → va_S (rAd a) s.heap H locs → sX6_holds_L80 fu n σ x1 = some σ' → W p l e (gRm (0) (0)) s m args below meth c H locs 0 0 (MQ below (gQv (rW cI cZ a) (rAd a) D σ') args s 0 0 (rAd a)) (F0 m 80 ls []) := by
  intro n
  induction n with
  | zero => intro σ x1 H locs ls hl hP hS h; cases h
  | succ n ih =>
    intro σ x1 H locs ls hl hP hS h
    rw [sX6_holds_L80] at h
    refine lv_iload_n C.hx C.hb dX6_holds_80 rfl (lv_at hl 1 rfl) ?_
    refine lv_bipush (v := (31 : Int32)) C.hx C.hb dX6_holds_81 (by decide) ?_
    refine lv_aload_n C.hx C.hb dX6_holds_83 rfl (lv_at hl 0 rfl) ?_
    refine fr_X6_93_0 C hP dX6_holds_84 ?_
    refine lv_imul C.hx C.hb dX6_holds_87 ?_
    refine lv_icmp_ge (tgt := 153) C.hx C.hb dX6_holds_88 (by decide) (fun c_1 => ?_) (fun c_1 => ?_)
    · have h := gpos c_1 h
      refine lv_aload_n C.hx C.hb dX6_holds_153 rfl (lv_at hl 0 rfl) ?_
      refine fr_X6_100_0 C hP dX6_holds_154 ?_
      refine lv_iconst (v := (1 : Int32)) C.hx C.hb dX6_holds_157 (by decide) ?_
      refine lv_isub C.hx C.hb dX6_holds_158 ?_
      refine lv_istore_n (lv' := [(1, .int ((σ.2 14) - (1 : Int32))), (0, .ref (a 0))]) C.hx C.hb dX6_holds_159 rfl hl (by decide) rfl (fun ls hl => ?_)
      exact wX6_holds_L160 C hml hr hlocks hD fu σ ((σ.2 14) - (1 : Int32)) _ _ ls (lv_sub hl [1, 0] rfl) hP hS h
    · have h := gneg c_1 h
      refine lv_aload_n C.hx C.hb dX6_holds_91 rfl (lv_at hl 0 rfl) ?_
      refine fr_X6_32_0 C hP dX6_holds_92 ?_
      refine lv_iload_n C.hx C.hb dX6_holds_95 rfl (lv_at hl 1 rfl) ?_
      refine lv_bipush (v := (31 : Int32)) C.hx C.hb dX6_holds_96 (by decide) ?_
      refine lv_idiv C.hx C.hb dX6_holds_98 (by decide) ?_
      obtain ⟨g_2, h⟩ := gsplit h
      refine ldr_9 (i := (x1 / (31 : Int32))) C hP g_2 dX6_holds_99 ?_
      refine lv_if_ne (tgt := 147) C.hx C.hb dX6_holds_100 (by decide) (fun c_3 => ?_) (fun c_3 => ?_)
      · have h := gneg c_3 h
        refine lv_iinc (v := (x1 + (1 : Int32))) (lv' := [(1, .int (x1 + (1 : Int32))), (0, .ref (a 0))]) C.hx C.hb dX6_holds_147 hl (k := 1) rfl rfl (by decide) rfl (fun ls hl => ?_)
        refine lv_goto (tgt := 80) C.hx C.hb dX6_holds_150 (by decide) ?_
        exact ih σ (x1 + (1 : Int32)) _ _ ls (lv_sub hl [1, 0] rfl) hP hS h
      · have h := gpos c_3 h
        refine lv_aload_n C.hx C.hb dX6_holds_103 rfl (lv_at hl 0 rfl) ?_
        refine fr_X6_38_0 C hP dX6_holds_104 ?_
        refine lv_iload_n C.hx C.hb dX6_holds_107 rfl (lv_at hl 1 rfl) ?_
        obtain ⟨g_4, h⟩ := gsplit h
        refine ldr_11 (i := x1) C hP g_4 dX6_holds_108 ?_
        refine lv_iconst (v := (-1 : Int32)) C.hx C.hb dX6_holds_109 (by decide) ?_
        refine lv_icmp_eq (tgt := 125) C.hx C.hb dX6_holds_110 (by decide) (fun c_5 => ?_) (fun c_5 => ?_)
        · have h := gpos c_5 h
          refine lv_aload_n C.hx C.hb dX6_holds_125 rfl (lv_at hl 0 rfl) ?_
          refine fr_X6_41_0 C hP dX6_holds_126 ?_
          refine lv_iload_n C.hx C.hb dX6_holds_129 rfl (lv_at hl 1 rfl) ?_
          refine ldr_12 (i := x1) C hP g_4 dX6_holds_130 ?_
          refine lv_iconst (v := (-1 : Int32)) C.hx C.hb dX6_holds_131 (by decide) ?_
          refine lv_icmp_eq (tgt := 147) C.hx C.hb dX6_holds_132 (by decide) (fun c_6 => ?_) (fun c_6 => ?_)
          · have h := gpos c_6 h
            refine lv_iinc (v := (x1 + (1 : Int32))) (lv' := [(1, .int (x1 + (1 : Int32))), (0, .ref (a 0))]) C.hx C.hb dX6_holds_147 hl (k := 1) rfl rfl (by decide) rfl (fun ls hl => ?_)
            refine lv_goto (tgt := 80) C.hx C.hb dX6_holds_150 (by decide) ?_
            exact ih σ (x1 + (1 : Int32)) _ _ ls (lv_sub hl [1, 0] rfl) hP hS h
          · have h := gneg c_6 h
            refine lv_aload_n C.hx C.hb dX6_holds_135 rfl (lv_at hl 0 rfl) ?_
            refine fr_X6_86_0 C hP dX6_holds_136 ?_
            refine lv_aload_n C.hx C.hb dX6_holds_139 rfl (lv_at hl 0 rfl) ?_
            refine fr_X6_41_0 C hP dX6_holds_140 ?_
            refine lv_iload_n C.hx C.hb dX6_holds_143 rfl (lv_at hl 1 rfl) ?_
            refine ldr_12 (i := x1) C hP g_4 dX6_holds_144 ?_
            refine lv_iconst (v := (1 : Int32)) C.hx C.hb dX6_holds_145 (by decide) ?_
            obtain ⟨g_7, h⟩ := gsplit h
            refine str_32 (i := (σ.1 12 (x1.toNatClampNeg))) (x := (1 : Int32)) C hD hP hS g_7 dX6_holds_146 (fun H locs hP hS => ?_)
            have hP : va_P D vwCl (rW cI cZ a (sA σ 32 ((σ.1 12 (x1.toNatClampNeg)).toNatClampNeg) (1 : Int32))) H := hP
            refine lv_iinc (v := (x1 + (1 : Int32))) (lv' := [(1, .int (x1 + (1 : Int32))), (0, .ref (a 0))]) C.hx C.hb dX6_holds_147 hl (k := 1) rfl rfl (by decide) rfl (fun ls hl => ?_)
            refine lv_goto (tgt := 80) C.hx C.hb dX6_holds_150 (by decide) ?_
            exact ih (sA σ 32 ((σ.1 12 (x1.toNatClampNeg)).toNatClampNeg) (1 : Int32)) (x1 + (1 : Int32)) _ _ ls (lv_sub hl [1, 0] rfl) hP hS h
        · have h := gneg c_5 h
          refine lv_aload_n C.hx C.hb dX6_holds_113 rfl (lv_at hl 0 rfl) ?_
          refine fr_X6_86_0 C hP dX6_holds_114 ?_
          refine lv_aload_n C.hx C.hb dX6_holds_117 rfl (lv_at hl 0 rfl) ?_
          refine fr_X6_38_0 C hP dX6_holds_118 ?_
          refine lv_iload_n C.hx C.hb dX6_holds_121 rfl (lv_at hl 1 rfl) ?_
          refine ldr_11 (i := x1) C hP g_4 dX6_holds_122 ?_
          refine lv_iconst (v := (1 : Int32)) C.hx C.hb dX6_holds_123 (by decide) ?_
          obtain ⟨g_8, h⟩ := gsplit h
          refine str_32 (i := (σ.1 11 (x1.toNatClampNeg))) (x := (1 : Int32)) C hD hP hS g_8 dX6_holds_124 (fun H locs hP hS => ?_)
          have hP : va_P D vwCl (rW cI cZ a (sA σ 32 ((σ.1 11 (x1.toNatClampNeg)).toNatClampNeg) (1 : Int32))) H := hP
          refine lv_aload_n C.hx C.hb dX6_holds_125 rfl (lv_at hl 0 rfl) ?_
          refine fr_X6_41_0 C hP dX6_holds_126 ?_
          refine lv_iload_n C.hx C.hb dX6_holds_129 rfl (lv_at hl 1 rfl) ?_
          refine ldr_12 (i := x1) C hP g_4 dX6_holds_130 ?_
          refine lv_iconst (v := (-1 : Int32)) C.hx C.hb dX6_holds_131 (by decide) ?_
          refine lv_icmp_eq (tgt := 147) C.hx C.hb dX6_holds_132 (by decide) (fun c_9 => ?_) (fun c_9 => ?_)
          · have h := gpos c_9 h
            refine lv_iinc (v := (x1 + (1 : Int32))) (lv' := [(1, .int (x1 + (1 : Int32))), (0, .ref (a 0))]) C.hx C.hb dX6_holds_147 hl (k := 1) rfl rfl (by decide) rfl (fun ls hl => ?_)
            refine lv_goto (tgt := 80) C.hx C.hb dX6_holds_150 (by decide) ?_
            exact ih (sA σ 32 ((σ.1 11 (x1.toNatClampNeg)).toNatClampNeg) (1 : Int32)) (x1 + (1 : Int32)) _ _ ls (lv_sub hl [1, 0] rfl) hP hS h
          · have h := gneg c_9 h
            refine lv_aload_n C.hx C.hb dX6_holds_135 rfl (lv_at hl 0 rfl) ?_
            refine fr_X6_86_0 C hP dX6_holds_136 ?_
            refine lv_aload_n C.hx C.hb dX6_holds_139 rfl (lv_at hl 0 rfl) ?_
            refine fr_X6_41_0 C hP dX6_holds_140 ?_
            refine lv_iload_n C.hx C.hb dX6_holds_143 rfl (lv_at hl 1 rfl) ?_
            refine ldr_12 (i := x1) C hP g_4 dX6_holds_144 ?_
            refine lv_iconst (v := (1 : Int32)) C.hx C.hb dX6_holds_145 (by decide) ?_
            obtain ⟨g_10, h⟩ := gsplit h
            refine str_32 (i := (σ.1 12 (x1.toNatClampNeg))) (x := (1 : Int32)) C hD hP hS g_10 dX6_holds_146 (fun H locs hP hS => ?_)
            have hP : va_P D vwCl (rW cI cZ a (sA (sA σ 32 ((σ.1 11 (x1.toNatClampNeg)).toNatClampNeg) (1 : Int32)) 32 ((σ.1 12 (x1.toNatClampNeg)).toNatClampNeg) (1 : Int32))) H := hP
            refine lv_iinc (v := (x1 + (1 : Int32))) (lv' := [(1, .int (x1 + (1 : Int32))), (0, .ref (a 0))]) C.hx C.hb dX6_holds_147 hl (k := 1) rfl rfl (by decide) rfl (fun ls hl => ?_)
            refine lv_goto (tgt := 80) C.hx C.hb dX6_holds_150 (by decide) ?_
            exact ih (sA (sA σ 32 ((σ.1 11 (x1.toNatClampNeg)).toNatClampNeg) (1 : Int32)) 32 ((σ.1 12 (x1.toNatClampNeg)).toNatClampNeg) (1 : Int32)) (x1 + (1 : Int32)) _ _ ls (lv_sub hl [1, 0] rfl) hP hS h
set_option maxHeartbeats 4000000 in
set_option maxRecDepth 100000 in
theorem wX6_holds_L25 {l : Launch} {D : va_G} {cI cZ : ClassId} {a : Nat → Nat} {p : Program} {e : Env} {s : State} {m : MethodId} {args : Array Value} {below : List Frame} {meth : Method} {c : Code} {fu : Nat} {σ' : MS} (C : Cx RX6 cX6_holds D cI cZ p s m args c) (hml : c.maxLocals = 2) (hr : meth.sig.returnType = none) (hlocks : meth.locks = false) (hD : ∀ σ, va_D (rAd a) (rW cI cZ a σ)) : ∀ (n : Nat) (σ : MS) (x1 : Int32) (H : Heap) (locs : List Loc) (ls : Array Slot), lv_has ls 2 [(0, .ref (a 0)), (1, .int x1)] → va_P D vwCl (rW cI cZ a σ) H → va_S (rAd a) s.heap H locs → sX6_holds_L25 fu n σ x1 = some σ' → W p l e (gRm (0) (0)) s m args below meth c H locs 0 0 (MQ below (gQv (rW cI cZ a) (rAd a) D σ') args s 0 0 (rAd a)) (F0 m 25 ls []) := by
  intro n
  induction n with
  | zero => intro σ x1 H locs ls hl hP hS h; cases h
  | succ n ih =>
    intro σ x1 H locs ls hl hP hS h
    rw [sX6_holds_L25] at h
    refine lv_iload_n C.hx C.hb dX6_holds_25 rfl (lv_at hl 1 rfl) ?_
    refine lv_aload_n C.hx C.hb dX6_holds_26 rfl (lv_at hl 0 rfl) ?_
    refine fr_X6_103_0 C hP dX6_holds_27 ?_
    refine lv_icmp_ge (tgt := 78) C.hx C.hb dX6_holds_30 (by decide) (fun c_1 => ?_) (fun c_1 => ?_)
    · have h := gpos c_1 h
      refine lv_iconst (v := (0 : Int32)) C.hx C.hb dX6_holds_78 (by decide) ?_
      refine lv_istore_n (lv' := [(1, .int (0 : Int32)), (0, .ref (a 0))]) C.hx C.hb dX6_holds_79 rfl hl (by decide) rfl (fun ls hl => ?_)
      exact wX6_holds_L80 C hml hr hlocks hD fu σ (0 : Int32) _ _ ls (lv_sub hl [1, 0] rfl) hP hS h
    · have h := gneg c_1 h
      refine lv_aload_n C.hx C.hb dX6_holds_33 rfl (lv_at hl 0 rfl) ?_
      refine fr_X6_86_0 C hP dX6_holds_34 ?_
      refine lv_aload_n C.hx C.hb dX6_holds_37 rfl (lv_at hl 0 rfl) ?_
      refine fr_X6_62_0 C hP dX6_holds_38 ?_
      refine lv_iload_n C.hx C.hb dX6_holds_41 rfl (lv_at hl 1 rfl) ?_
      obtain ⟨g_2, h⟩ := gsplit h
      refine ldr_21 (i := x1) C hP g_2 dX6_holds_42 ?_
      refine lv_aload_n C.hx C.hb dX6_holds_43 rfl (lv_at hl 0 rfl) ?_
      refine fr_X6_86_0 C hP dX6_holds_44 ?_
      refine lv_aload_n C.hx C.hb dX6_holds_47 rfl (lv_at hl 0 rfl) ?_
      refine fr_X6_62_0 C hP dX6_holds_48 ?_
      refine lv_iload_n C.hx C.hb dX6_holds_51 rfl (lv_at hl 1 rfl) ?_
      refine ldr_21 (i := x1) C hP g_2 dX6_holds_52 ?_
      obtain ⟨g_3, h⟩ := gsplit h
      refine ldr_32 (i := (σ.1 21 (x1.toNatClampNeg))) C hP g_3 dX6_holds_53 ?_
      refine lv_if_ne (tgt := 66) C.hx C.hb dX6_holds_54 (by decide) (fun c_4 => ?_) (fun c_4 => ?_)
      · have h := gneg c_4 h
        refine lv_iconst (v := (1 : Int32)) C.hx C.hb dX6_holds_66 (by decide) ?_
        refine lv_goto (tgt := 71) C.hx C.hb dX6_holds_67 (by decide) ?_
        refine str_32 (i := (σ.1 21 (x1.toNatClampNeg))) (x := (1 : Int32)) C hD hP hS g_3 dX6_holds_71 (fun H locs hP hS => ?_)
        have hP : va_P D vwCl (rW cI cZ a (sA σ 32 ((σ.1 21 (x1.toNatClampNeg)).toNatClampNeg) (1 : Int32))) H := hP
        refine lv_iinc (v := (x1 + (1 : Int32))) (lv' := [(1, .int (x1 + (1 : Int32))), (0, .ref (a 0))]) C.hx C.hb dX6_holds_72 hl (k := 1) rfl rfl (by decide) rfl (fun ls hl => ?_)
        refine lv_goto (tgt := 25) C.hx C.hb dX6_holds_75 (by decide) ?_
        exact ih (sA σ 32 ((σ.1 21 (x1.toNatClampNeg)).toNatClampNeg) (1 : Int32)) (x1 + (1 : Int32)) _ _ ls (lv_sub hl [1, 0] rfl) hP hS h
      · have h := gpos c_4 h
        refine lv_aload_n C.hx C.hb dX6_holds_57 rfl (lv_at hl 0 rfl) ?_
        refine fr_X6_65_0 C hP dX6_holds_58 ?_
        refine lv_iload_n C.hx C.hb dX6_holds_61 rfl (lv_at hl 1 rfl) ?_
        refine ldr_22 (i := x1) C hP g_2 dX6_holds_62 ?_
        refine lv_if_ne (tgt := 70) C.hx C.hb dX6_holds_63 (by decide) (fun c_5 => ?_) (fun c_5 => ?_)
        · have h := gneg c_5 h
          refine lv_iconst (v := (0 : Int32)) C.hx C.hb dX6_holds_70 (by decide) ?_
          refine str_32 (i := (σ.1 21 (x1.toNatClampNeg))) (x := (0 : Int32)) C hD hP hS g_3 dX6_holds_71 (fun H locs hP hS => ?_)
          have hP : va_P D vwCl (rW cI cZ a (sA σ 32 ((σ.1 21 (x1.toNatClampNeg)).toNatClampNeg) (0 : Int32))) H := hP
          refine lv_iinc (v := (x1 + (1 : Int32))) (lv' := [(1, .int (x1 + (1 : Int32))), (0, .ref (a 0))]) C.hx C.hb dX6_holds_72 hl (k := 1) rfl rfl (by decide) rfl (fun ls hl => ?_)
          refine lv_goto (tgt := 25) C.hx C.hb dX6_holds_75 (by decide) ?_
          exact ih (sA σ 32 ((σ.1 21 (x1.toNatClampNeg)).toNatClampNeg) (0 : Int32)) (x1 + (1 : Int32)) _ _ ls (lv_sub hl [1, 0] rfl) hP hS h
        · have h := gpos c_5 h
          refine lv_iconst (v := (1 : Int32)) C.hx C.hb dX6_holds_66 (by decide) ?_
          refine lv_goto (tgt := 71) C.hx C.hb dX6_holds_67 (by decide) ?_
          refine str_32 (i := (σ.1 21 (x1.toNatClampNeg))) (x := (1 : Int32)) C hD hP hS g_3 dX6_holds_71 (fun H locs hP hS => ?_)
          have hP : va_P D vwCl (rW cI cZ a (sA σ 32 ((σ.1 21 (x1.toNatClampNeg)).toNatClampNeg) (1 : Int32))) H := hP
          refine lv_iinc (v := (x1 + (1 : Int32))) (lv' := [(1, .int (x1 + (1 : Int32))), (0, .ref (a 0))]) C.hx C.hb dX6_holds_72 hl (k := 1) rfl rfl (by decide) rfl (fun ls hl => ?_)
          refine lv_goto (tgt := 25) C.hx C.hb dX6_holds_75 (by decide) ?_
          exact ih (sA σ 32 ((σ.1 21 (x1.toNatClampNeg)).toNatClampNeg) (1 : Int32)) (x1 + (1 : Int32)) _ _ ls (lv_sub hl [1, 0] rfl) hP hS h
set_option maxHeartbeats 4000000 in
set_option maxRecDepth 100000 in
theorem wX6_holds_L2 {l : Launch} {D : va_G} {cI cZ : ClassId} {a : Nat → Nat} {p : Program} {e : Env} {s : State} {m : MethodId} {args : Array Value} {below : List Frame} {meth : Method} {c : Code} {fu : Nat} {σ' : MS} (C : Cx RX6 cX6_holds D cI cZ p s m args c) (hml : c.maxLocals = 2) (hr : meth.sig.returnType = none) (hlocks : meth.locks = false) (hD : ∀ σ, va_D (rAd a) (rW cI cZ a σ)) : ∀ (n : Nat) (σ : MS) (x1 : Int32) (H : Heap) (locs : List Loc) (ls : Array Slot), lv_has ls 2 [(0, .ref (a 0)), (1, .int x1)] → va_P D vwCl (rW cI cZ a σ) H → va_S (rAd a) s.heap H locs → sX6_holds_L2 fu n σ x1 = some σ' → W p l e (gRm (0) (0)) s m args below meth c H locs 0 0 (MQ below (gQv (rW cI cZ a) (rAd a) D σ') args s 0 0 (rAd a)) (F0 m 2 ls []) := by
  intro n
  induction n with
  | zero => intro σ x1 H locs ls hl hP hS h; cases h
  | succ n ih =>
    intro σ x1 H locs ls hl hP hS h
    rw [sX6_holds_L2] at h
    refine lv_iload_n C.hx C.hb dX6_holds_2 rfl (lv_at hl 1 rfl) ?_
    refine lv_aload_n C.hx C.hb dX6_holds_3 rfl (lv_at hl 0 rfl) ?_
    refine fr_X6_100_0 C hP dX6_holds_4 ?_
    refine lv_icmp_ge (tgt := 23) C.hx C.hb dX6_holds_7 (by decide) (fun c_1 => ?_) (fun c_1 => ?_)
    · have h := gpos c_1 h
      refine lv_iconst (v := (0 : Int32)) C.hx C.hb dX6_holds_23 (by decide) ?_
      refine lv_istore_n (lv' := [(1, .int (0 : Int32)), (0, .ref (a 0))]) C.hx C.hb dX6_holds_24 rfl hl (by decide) rfl (fun ls hl => ?_)
      exact wX6_holds_L25 C hml hr hlocks hD fu σ (0 : Int32) _ _ ls (lv_sub hl [1, 0] rfl) hP hS h
    · have h := gneg c_1 h
      refine lv_aload_n C.hx C.hb dX6_holds_10 rfl (lv_at hl 0 rfl) ?_
      refine fr_X6_86_0 C hP dX6_holds_11 ?_
      refine lv_iload_n C.hx C.hb dX6_holds_14 rfl (lv_at hl 1 rfl) ?_
      refine lv_iconst (v := (0 : Int32)) C.hx C.hb dX6_holds_15 (by decide) ?_
      obtain ⟨g_2, h⟩ := gsplit h
      refine str_32 (i := x1) (x := (0 : Int32)) C hD hP hS g_2 dX6_holds_16 (fun H locs hP hS => ?_)
      have hP : va_P D vwCl (rW cI cZ a (sA σ 32 (x1.toNatClampNeg) (0 : Int32))) H := hP
      refine lv_iinc (v := (x1 + (1 : Int32))) (lv' := [(1, .int (x1 + (1 : Int32))), (0, .ref (a 0))]) C.hx C.hb dX6_holds_17 hl (k := 1) rfl rfl (by decide) rfl (fun ls hl => ?_)
      refine lv_goto (tgt := 2) C.hx C.hb dX6_holds_20 (by decide) ?_
      exact ih (sA σ 32 (x1.toNatClampNeg) (0 : Int32)) (x1 + (1 : Int32)) _ _ ls (lv_sub hl [1, 0] rfl) hP hS h
set_option maxHeartbeats 4000000 in
set_option maxRecDepth 100000 in
theorem mX6_holds {l : Launch} {D : va_G} {cI cZ : ClassId} {a : Nat → Nat} (hD : ∀ σ, va_D (rAd a) (rW cI cZ a σ)) {fu : Nat} {σ : MS} {σ' : MS} (h : sX6_holds fu σ = some σ') : gMetV (rW cI cZ a) (rAd a) l D cI cZ yX6_holds cX6_holds 2 (0) (0) [.ref (a 0)] σ σ' := by
  refine gEnt (by decide) (Nat.le_of_ble_eq_true rfl) (fun p e s m below meth c ls C hml hr hlocks hP hl => ?_)
  have hl : lv_has ls 2 [(0, .ref (a 0))] := hl
  have hS : va_S (rAd a) s.heap s.heap [] := va_S.rf
  rw [sX6_holds] at h
  refine lv_iconst (v := (0 : Int32)) C.hx C.hb dX6_holds_0 (by decide) ?_
  refine lv_istore_n (lv' := [(1, .int (0 : Int32)), (0, .ref (a 0))]) C.hx C.hb dX6_holds_1 rfl hl (by decide) rfl (fun ls hl => ?_)
  exact wX6_holds_L2 C hml hr hlocks hD fu σ (0 : Int32) _ _ ls (lv_sub hl [1, 0] rfl) hP hS h
set_option maxHeartbeats 4000000 in
set_option maxRecDepth 100000 in
theorem wX6_held_L19 {l : Launch} {D : va_G} {cI cZ : ClassId} {a : Nat → Nat} {p : Program} {e : Env} {s : State} {m : MethodId} {args : Array Value} {below : List Frame} {meth : Method} {c : Code} {fu : Nat} {r : Int32} {σ' : MS} (C : Cx RX6 cX6_held D cI cZ p s m args c) (hml : c.maxLocals = 4) (hr : meth.sig.returnType = (some .int)) (hlocks : meth.locks = false) (hD : ∀ σ, va_D (rAd a) (rW cI cZ a σ)) : ∀ (n : Nat) (σ : MS) (x1 : Int32) (x2 : Int32) (x3 : Int32) (H : Heap) (locs : List Loc) (ls : Array Slot), lv_has ls 4 [(0, .ref (a 0)), (1, .int x1), (2, .int x2), (3, .int x3)] → va_P D vwCl (rW cI cZ a σ) H → va_S (rAd a) s.heap H locs → sX6_held_L19 fu n σ x1 x2 x3 = some (r, σ') → W p l e (gRm (2) (43)) s m args below meth c H locs 0 0 (MQ below (gQi (rW cI cZ a) (rAd a) D r σ') args s 0 0 (rAd a)) (F0 m 19 ls []) := by
  intro n
  induction n with
  | zero => intro σ x1 x2 x3 H locs ls hl hP hS h; cases h
  | succ n ih =>
    intro σ x1 x2 x3 H locs ls hl hP hS h
    rw [sX6_held_L19] at h
    refine lv_iload_n C.hx C.hb dX6_held_19 rfl (lv_at hl 3 rfl) ?_
    refine lv_aload_n C.hx C.hb dX6_held_20 rfl (lv_at hl 0 rfl) ?_
    refine fr_X6_100_0 C hP dX6_held_21 ?_
    refine lv_icmp_ge (tgt := 60) C.hx C.hb dX6_held_24 (by decide) (fun c_1 => ?_) (fun c_1 => ?_)
    · have h := gpos c_1 h
      refine lv_iload_n C.hx C.hb dX6_held_60 rfl (lv_at hl 2 rfl) ?_
      cases h
      exact gRetI C hr hlocks hP hS dX6_held_61
    · have h := gneg c_1 h
      refine lv_aload_n C.hx C.hb dX6_held_27 rfl (lv_at hl 0 rfl) ?_
      refine fr_X6_47_0 C hP dX6_held_28 ?_
      refine lv_iload_n C.hx C.hb dX6_held_31 rfl (lv_at hl 3 rfl) ?_
      obtain ⟨g_2, h⟩ := gsplit h
      refine ldr_15 (i := x3) C hP g_2 dX6_held_32 ?_
      refine lv_iload_n C.hx C.hb dX6_held_33 rfl (lv_at hl 1 rfl) ?_
      refine lv_icmp_ne (tgt := 52) C.hx C.hb dX6_held_34 (by decide) (fun c_3 => ?_) (fun c_3 => ?_)
      · have h := gneg c_3 h
        refine lv_iload_n C.hx C.hb dX6_held_52 rfl (lv_at hl 2 rfl) ?_
        refine lv_istore_n (lv' := [(2, .int x2), (0, .ref (a 0)), (1, .int x1), (3, .int x3)]) C.hx C.hb dX6_held_53 rfl hl (by decide) rfl (fun ls hl => ?_)
        refine lv_iinc (v := (x3 + (1 : Int32))) (lv' := [(3, .int (x3 + (1 : Int32))), (2, .int x2), (0, .ref (a 0)), (1, .int x1)]) C.hx C.hb dX6_held_54 hl (k := 3) rfl rfl (by decide) rfl (fun ls hl => ?_)
        refine lv_goto (tgt := 19) C.hx C.hb dX6_held_57 (by decide) ?_
        exact ih σ x1 x2 (x3 + (1 : Int32)) _ _ ls (lv_sub hl [2, 3, 1, 0] rfl) hP hS h
      · have h := gpos c_3 h
        refine lv_aload_n C.hx C.hb dX6_held_37 rfl (lv_at hl 0 rfl) ?_
        refine fr_X6_86_0 C hP dX6_held_38 ?_
        refine lv_iload_n C.hx C.hb dX6_held_41 rfl (lv_at hl 3 rfl) ?_
        refine ldr_32 (i := x3) C hP g_2 dX6_held_42 ?_
        refine lv_if_eq (tgt := 52) C.hx C.hb dX6_held_43 (by decide) (fun c_4 => ?_) (fun c_4 => ?_)
        · have h := gpos c_4 h
          refine lv_iload_n C.hx C.hb dX6_held_52 rfl (lv_at hl 2 rfl) ?_
          refine lv_istore_n (lv' := [(2, .int x2), (0, .ref (a 0)), (1, .int x1), (3, .int x3)]) C.hx C.hb dX6_held_53 rfl hl (by decide) rfl (fun ls hl => ?_)
          refine lv_iinc (v := (x3 + (1 : Int32))) (lv' := [(3, .int (x3 + (1 : Int32))), (2, .int x2), (0, .ref (a 0)), (1, .int x1)]) C.hx C.hb dX6_held_54 hl (k := 3) rfl rfl (by decide) rfl (fun ls hl => ?_)
          refine lv_goto (tgt := 19) C.hx C.hb dX6_held_57 (by decide) ?_
          exact ih σ x1 x2 (x3 + (1 : Int32)) _ _ ls (lv_sub hl [2, 3, 1, 0] rfl) hP hS h
        · have h := gneg c_4 h
          refine lv_iload_n C.hx C.hb dX6_held_46 rfl (lv_at hl 2 rfl) ?_
          refine lv_iconst (v := (1 : Int32)) C.hx C.hb dX6_held_47 (by decide) ?_
          refine lv_iadd C.hx C.hb dX6_held_48 ?_
          refine lv_goto (tgt := 53) C.hx C.hb dX6_held_49 (by decide) ?_
          refine lv_istore_n (lv' := [(2, .int (x2 + (1 : Int32))), (0, .ref (a 0)), (1, .int x1), (3, .int x3)]) C.hx C.hb dX6_held_53 rfl hl (by decide) rfl (fun ls hl => ?_)
          refine lv_iinc (v := (x3 + (1 : Int32))) (lv' := [(3, .int (x3 + (1 : Int32))), (2, .int (x2 + (1 : Int32))), (0, .ref (a 0)), (1, .int x1)]) C.hx C.hb dX6_held_54 hl (k := 3) rfl rfl (by decide) rfl (fun ls hl => ?_)
          refine lv_goto (tgt := 19) C.hx C.hb dX6_held_57 (by decide) ?_
          exact ih σ x1 (x2 + (1 : Int32)) (x3 + (1 : Int32)) _ _ ls (lv_sub hl [2, 3, 1, 0] rfl) hP hS h
set_option maxHeartbeats 4000000 in
set_option maxRecDepth 100000 in
theorem mX6_held {l : Launch} {D : va_G} {cI cZ : ClassId} {a : Nat → Nat} (hD : ∀ σ, va_D (rAd a) (rW cI cZ a σ)) {fu : Nat} {σ : MS} {p1 : Int32} {r : Int32} {σ' : MS} (h : sX6_held fu σ p1 = some (r, σ')) : gMet (rW cI cZ a) (rAd a) l D cI cZ yX6_held cX6_held 4 (some .int) (2) (43) [.ref (a 0), .int p1] σ r σ' := by
  refine gEnt (by decide) (Nat.le_of_ble_eq_true rfl) (fun p e s m below meth c ls C hml hr hlocks hP hl => ?_)
  have hl : lv_has ls 4 [(0, .ref (a 0)), (1, .int p1)] := hl
  have hS : va_S (rAd a) s.heap s.heap [] := va_S.rf
  rw [sX6_held] at h
  refine lv_aload_n C.hx C.hb dX6_held_0 rfl (lv_at hl 0 rfl) ?_
  refine lv_iload_n C.hx C.hb dX6_held_1 rfl (lv_at hl 1 rfl) ?_
  obtain ⟨r_1, e_1, h⟩ := gbind h
  refine gCallV (wd := rW cI cZ a) (As := [.int p1]) (rest := []) C hml hl.1 hS (mX6_isLoader hD e_1) k_517 k_519 k_12 k_36 k_520 hdX6_isLoader ⟨by show 1 + 1 ≤ 2; omega, by show 8 + (2 + 11) + (22) ≤ 43; omega⟩ hP 0 6 rfl rfl rfl rfl rfl (Nat.le_of_ble_eq_true rfl) dX6_held_2 ⟨Nat.zero_le _, Nat.zero_le _⟩ (fun H locs hP hS => ?_)
  refine lv_if_ne (tgt := 11) C.hx C.hb dX6_held_5 (by decide) (fun c_2 => ?_) (fun c_2 => ?_)
  · have h := gneg c_2 h
    refine lv_aload_n C.hx C.hb dX6_held_11 rfl (lv_at hl 0 rfl) ?_
    obtain ⟨u_3, e_3, h⟩ := gbind h
    refine gCallVv (wd := rW cI cZ a) (As := []) (rest := []) C hml hl.1 hS (mX6_holds hD e_3) k_621 k_623 k_27 k_36 k_624 hdX6_holds ⟨by show 0 + 1 ≤ 2; omega, by show 8 + (2 + 11) + (0) ≤ 43; omega⟩ hP 0 6 rfl rfl rfl rfl rfl (Nat.le_of_ble_eq_true rfl) dX6_held_12 ⟨Nat.zero_le _, Nat.zero_le _⟩ (fun H locs hP hS => ?_)
    refine lv_iconst (v := (0 : Int32)) C.hx C.hb dX6_held_15 (by decide) ?_
    refine lv_istore_n (lv' := [(2, .int (0 : Int32)), (0, .ref (a 0)), (1, .int p1)]) C.hx C.hb dX6_held_16 rfl hl (by decide) rfl (fun ls hl => ?_)
    refine lv_iconst (v := (0 : Int32)) C.hx C.hb dX6_held_17 (by decide) ?_
    refine lv_istore_n (lv' := [(3, .int (0 : Int32)), (2, .int (0 : Int32)), (0, .ref (a 0)), (1, .int p1)]) C.hx C.hb dX6_held_18 rfl hl (by decide) rfl (fun ls hl => ?_)
    exact wX6_held_L19 C hml hr hlocks hD fu u_3 p1 (0 : Int32) (0 : Int32) _ _ ls (lv_sub hl [2, 3, 1, 0] rfl) hP hS h
  · have h := gpos c_2 h
    refine lv_bipush (v := (-2 : Int32)) C.hx C.hb dX6_held_8 (by decide) ?_
    cases h
    exact gRetI C hr hlocks hP hS dX6_held_10
set_option maxHeartbeats 4000000 in
set_option maxRecDepth 100000 in
theorem mX6_isHeld {l : Launch} {D : va_G} {cI cZ : ClassId} {a : Nat → Nat} (hD : ∀ σ, va_D (rAd a) (rW cI cZ a σ)) {fu : Nat} {σ : MS} {p1 : Int32} {r : Int32} {σ' : MS} (h : sX6_isHeld fu σ p1 = some (r, σ')) : gMet (rW cI cZ a) (rAd a) l D cI cZ yX6_isHeld cX6_isHeld 2 (some .int) (2) (43) [.ref (a 0), .int p1] σ r σ' := by
  refine gEnt (by decide) (Nat.le_of_ble_eq_true rfl) (fun p e s m below meth c ls C hml hr hlocks hP hl => ?_)
  have hl : lv_has ls 2 [(0, .ref (a 0)), (1, .int p1)] := hl
  have hS : va_S (rAd a) s.heap s.heap [] := va_S.rf
  rw [sX6_isHeld] at h
  refine lv_aload_n C.hx C.hb dX6_isHeld_0 rfl (lv_at hl 0 rfl) ?_
  refine lv_iload_n C.hx C.hb dX6_isHeld_1 rfl (lv_at hl 1 rfl) ?_
  obtain ⟨r_1, e_1, h⟩ := gbind h
  refine gCallV (wd := rW cI cZ a) (As := [.int p1]) (rest := []) C hml hl.1 hS (mX6_isModule hD e_1) k_593 k_595 k_25 k_36 k_596 hdX6_isModule ⟨by show 1 + 1 ≤ 2; omega, by show 8 + (2 + 11) + (22) ≤ 43; omega⟩ hP 0 6 rfl rfl rfl rfl rfl (Nat.le_of_ble_eq_true rfl) dX6_isHeld_2 ⟨Nat.zero_le _, Nat.zero_le _⟩ (fun H locs hP hS => ?_)
  refine lv_if_ne (tgt := 11) C.hx C.hb dX6_isHeld_5 (by decide) (fun c_2 => ?_) (fun c_2 => ?_)
  · have h := gneg c_2 h
    refine lv_aload_n C.hx C.hb dX6_isHeld_11 rfl (lv_at hl 0 rfl) ?_
    obtain ⟨u_3, e_3, h⟩ := gbind h
    refine gCallVv (wd := rW cI cZ a) (As := []) (rest := []) C hml hl.1 hS (mX6_holds hD e_3) k_621 k_623 k_27 k_36 k_624 hdX6_holds ⟨by show 0 + 1 ≤ 2; omega, by show 8 + (2 + 11) + (0) ≤ 43; omega⟩ hP 0 6 rfl rfl rfl rfl rfl (Nat.le_of_ble_eq_true rfl) dX6_isHeld_12 ⟨Nat.zero_le _, Nat.zero_le _⟩ (fun H locs hP hS => ?_)
    refine lv_aload_n C.hx C.hb dX6_isHeld_15 rfl (lv_at hl 0 rfl) ?_
    refine fr_X6_86_0 C hP dX6_isHeld_16 ?_
    refine lv_iload_n C.hx C.hb dX6_isHeld_19 rfl (lv_at hl 1 rfl) ?_
    obtain ⟨g_4, h⟩ := gsplit h
    refine ldr_32 (i := p1) C hP g_4 dX6_isHeld_20 ?_
    refine lv_if_eq (tgt := 28) C.hx C.hb dX6_isHeld_21 (by decide) (fun c_5 => ?_) (fun c_5 => ?_)
    · have h := gpos c_5 h
      refine lv_iconst (v := (0 : Int32)) C.hx C.hb dX6_isHeld_28 (by decide) ?_
      cases h
      exact gRetI C hr hlocks hP hS dX6_isHeld_29
    · have h := gneg c_5 h
      refine lv_iconst (v := (1 : Int32)) C.hx C.hb dX6_isHeld_24 (by decide) ?_
      refine lv_goto (tgt := 29) C.hx C.hb dX6_isHeld_25 (by decide) ?_
      cases h
      exact gRetI C hr hlocks hP hS dX6_isHeld_29
  · have h := gpos c_2 h
    refine lv_bipush (v := (-2 : Int32)) C.hx C.hb dX6_isHeld_8 (by decide) ?_
    cases h
    exact gRetI C hr hlocks hP hS dX6_isHeld_10
set_option maxHeartbeats 4000000 in
set_option maxRecDepth 100000 in
theorem mX6_about {l : Launch} {D : va_G} {cI cZ : ClassId} {a : Nat → Nat} (hD : ∀ σ, va_D (rAd a) (rW cI cZ a σ)) {σ : MS} {p1 p2 : Int32} {r : Int32} (h : sX6_about σ p1 p2 = some r) : gMet (rW cI cZ a) (rAd a) l D cI cZ yX6_about cX6_about 3 (some .int) (2) (43) [.ref (a 0), .int p1, .int p2] σ r σ := by
  refine gEnt (by decide) (Nat.le_of_ble_eq_true rfl) (fun p e s m below meth c ls C hml hr hlocks hP hl => ?_)
  have hl : lv_has ls 3 [(0, .ref (a 0)), (1, .int p1), (2, .int p2)] := hl
  have hS : va_S (rAd a) s.heap s.heap [] := va_S.rf
  rw [sX6_about] at h
  refine lv_aload_n C.hx C.hb dX6_about_0 rfl (lv_at hl 0 rfl) ?_
  refine lv_iload_n C.hx C.hb dX6_about_1 rfl (lv_at hl 1 rfl) ?_
  obtain ⟨r_1, e_1, h⟩ := gbind h
  refine gCallV (wd := rW cI cZ a) (As := [.int p1]) (rest := []) C hml hl.1 hS (mX6_isModule hD e_1) k_593 k_595 k_25 k_36 k_596 hdX6_isModule ⟨by show 1 + 1 ≤ 2; omega, by show 8 + (2 + 11) + (22) ≤ 43; omega⟩ hP 0 6 rfl rfl rfl rfl rfl (Nat.le_of_ble_eq_true rfl) dX6_about_2 ⟨Nat.zero_le _, Nat.zero_le _⟩ (fun H locs hP hS => ?_)
  refine lv_if_ne (tgt := 10) C.hx C.hb dX6_about_5 (by decide) (fun c_2 => ?_) (fun c_2 => ?_)
  · have h := gneg c_2 h
    refine lv_iload_n C.hx C.hb dX6_about_10 rfl (lv_at hl 2 rfl) ?_
    by_cases s_11_0 : p2 = (0 : Int32)
    · have h := gpos s_11_0 h
      refine lv_tableIn (tgt := 48) (off := 37) C.hx C.hb dX6_about_11 (by rw [s_11_0]; decide) (by rw [s_11_0]; decide) (by rw [s_11_0]; rfl) (by decide) ?_
      refine lv_aload_n C.hx C.hb dX6_about_48 rfl (lv_at hl 0 rfl) ?_
      refine fr_X6_47_0 C hP dX6_about_49 ?_
      refine lv_iload_n C.hx C.hb dX6_about_52 rfl (lv_at hl 1 rfl) ?_
      obtain ⟨g_3, h⟩ := gsplit h
      refine ldr_15 (i := p1) C hP g_3 dX6_about_53 ?_
      cases h
      exact gRetI C hr hlocks hP hS dX6_about_54
    · have h := gneg s_11_0 h
      by_cases s_11_1 : p2 = (1 : Int32)
      · have h := gpos s_11_1 h
        refine lv_tableIn (tgt := 55) (off := 44) C.hx C.hb dX6_about_11 (by rw [s_11_1]; decide) (by rw [s_11_1]; decide) (by rw [s_11_1]; rfl) (by decide) ?_
        refine lv_aload_n C.hx C.hb dX6_about_55 rfl (lv_at hl 0 rfl) ?_
        refine fr_X6_50_0 C hP dX6_about_56 ?_
        refine lv_iload_n C.hx C.hb dX6_about_59 rfl (lv_at hl 1 rfl) ?_
        obtain ⟨g_4, h⟩ := gsplit h
        refine ldr_16 (i := p1) C hP g_4 dX6_about_60 ?_
        cases h
        exact gRetI C hr hlocks hP hS dX6_about_61
      · have h := gneg s_11_1 h
        by_cases s_11_2 : p2 = (2 : Int32)
        · have h := gpos s_11_2 h
          refine lv_tableIn (tgt := 62) (off := 51) C.hx C.hb dX6_about_11 (by rw [s_11_2]; decide) (by rw [s_11_2]; decide) (by rw [s_11_2]; rfl) (by decide) ?_
          refine lv_aload_n C.hx C.hb dX6_about_62 rfl (lv_at hl 0 rfl) ?_
          refine fr_X6_53_0 C hP dX6_about_63 ?_
          refine lv_iload_n C.hx C.hb dX6_about_66 rfl (lv_at hl 1 rfl) ?_
          obtain ⟨g_5, h⟩ := gsplit h
          refine ldr_17 (i := p1) C hP g_5 dX6_about_67 ?_
          cases h
          exact gRetI C hr hlocks hP hS dX6_about_68
        · have h := gneg s_11_2 h
          by_cases s_11_3 : p2 = (3 : Int32)
          · have h := gpos s_11_3 h
            refine lv_tableIn (tgt := 69) (off := 58) C.hx C.hb dX6_about_11 (by rw [s_11_3]; decide) (by rw [s_11_3]; decide) (by rw [s_11_3]; rfl) (by decide) ?_
            refine lv_aload_n C.hx C.hb dX6_about_69 rfl (lv_at hl 0 rfl) ?_
            refine fr_X6_59_0 C hP dX6_about_70 ?_
            refine lv_iload_n C.hx C.hb dX6_about_73 rfl (lv_at hl 1 rfl) ?_
            obtain ⟨g_6, h⟩ := gsplit h
            refine ldr_19 (i := p1) C hP g_6 dX6_about_74 ?_
            cases h
            exact gRetI C hr hlocks hP hS dX6_about_75
          · have h := gneg s_11_3 h
            by_cases s_11_4 : p2 = (4 : Int32)
            · have h := gpos s_11_4 h
              refine lv_tableIn (tgt := 76) (off := 65) C.hx C.hb dX6_about_11 (by rw [s_11_4]; decide) (by rw [s_11_4]; decide) (by rw [s_11_4]; rfl) (by decide) ?_
              refine lv_aload_n C.hx C.hb dX6_about_76 rfl (lv_at hl 0 rfl) ?_
              refine fr_X6_13_0 C hP dX6_about_77 ?_
              refine lv_aload_n C.hx C.hb dX6_about_80 rfl (lv_at hl 0 rfl) ?_
              refine fr_X6_56_0 C hP dX6_about_81 ?_
              refine lv_iload_n C.hx C.hb dX6_about_84 rfl (lv_at hl 1 rfl) ?_
              obtain ⟨g_7, h⟩ := gsplit h
              refine ldr_18 (i := p1) C hP g_7 dX6_about_85 ?_
              obtain ⟨g_8, h⟩ := gsplit h
              refine ldr_2 (i := (σ.1 18 (p1.toNatClampNeg))) C hP g_8 dX6_about_86 ?_
              cases h
              exact gRetI C hr hlocks hP hS dX6_about_87
            · have h := gneg s_11_4 h
              by_cases s_11_5 : p2 = (5 : Int32)
              · have h := gpos s_11_5 h
                refine lv_tableIn (tgt := 88) (off := 77) C.hx C.hb dX6_about_11 (by rw [s_11_5]; decide) (by rw [s_11_5]; decide) (by rw [s_11_5]; rfl) (by decide) ?_
                refine lv_aload_n C.hx C.hb dX6_about_88 rfl (lv_at hl 0 rfl) ?_
                refine fr_X6_56_0 C hP dX6_about_89 ?_
                refine lv_iload_n C.hx C.hb dX6_about_92 rfl (lv_at hl 1 rfl) ?_
                obtain ⟨g_9, h⟩ := gsplit h
                refine ldr_18 (i := p1) C hP g_9 dX6_about_93 ?_
                cases h
                exact gRetI C hr hlocks hP hS dX6_about_94
              · have h := gneg s_11_5 h
                have t_0 : (p2).toInt ≠ 0 := sw_ne (by decide) s_11_0
                have t_1 : (p2).toInt ≠ 1 := sw_ne (by decide) s_11_1
                have t_2 : (p2).toInt ≠ 2 := sw_ne (by decide) s_11_2
                have t_3 : (p2).toInt ≠ 3 := sw_ne (by decide) s_11_3
                have t_4 : (p2).toInt ≠ 4 := sw_ne (by decide) s_11_4
                have t_5 : (p2).toInt ≠ 5 := sw_ne (by decide) s_11_5
                refine lv_tableOut (tgt := 95) C.hx C.hb dX6_about_11 (by omega) (by decide) ?_
                refine lv_iconst (v := (0 : Int32)) C.hx C.hb dX6_about_95 (by decide) ?_
                cases h
                exact gRetI C hr hlocks hP hS dX6_about_96
  · have h := gpos c_2 h
    refine lv_iconst (v := (0 : Int32)) C.hx C.hb dX6_about_8 (by decide) ?_
    cases h
    exact gRetI C hr hlocks hP hS dX6_about_9
set_option maxHeartbeats 4000000 in
set_option maxRecDepth 100000 in
theorem mX6_aboutThing {l : Launch} {D : va_G} {cI cZ : ClassId} {a : Nat → Nat} (hD : ∀ σ, va_D (rAd a) (rW cI cZ a σ)) {σ : MS} {p1 p2 : Int32} {r : Int32} (h : sX6_aboutThing σ p1 p2 = some r) : gMet (rW cI cZ a) (rAd a) l D cI cZ yX6_aboutThing cX6_aboutThing 3 (some .int) (2) (43) [.ref (a 0), .int p1, .int p2] σ r σ := by
  refine gEnt (by decide) (Nat.le_of_ble_eq_true rfl) (fun p e s m below meth c ls C hml hr hlocks hP hl => ?_)
  have hl : lv_has ls 3 [(0, .ref (a 0)), (1, .int p1), (2, .int p2)] := hl
  have hS : va_S (rAd a) s.heap s.heap [] := va_S.rf
  rw [sX6_aboutThing] at h
  refine lv_aload_n C.hx C.hb dX6_aboutThing_0 rfl (lv_at hl 0 rfl) ?_
  refine lv_iload_n C.hx C.hb dX6_aboutThing_1 rfl (lv_at hl 1 rfl) ?_
  obtain ⟨r_1, e_1, h⟩ := gbind h
  refine gCallV (wd := rW cI cZ a) (As := [.int p1]) (rest := []) C hml hl.1 hS (mX6_isThing hD e_1) k_605 k_607 k_26 k_36 k_608 hdX6_isThing ⟨by show 1 + 1 ≤ 2; omega, by show 8 + (2 + 11) + (22) ≤ 43; omega⟩ hP 0 6 rfl rfl rfl rfl rfl (Nat.le_of_ble_eq_true rfl) dX6_aboutThing_2 ⟨Nat.zero_le _, Nat.zero_le _⟩ (fun H locs hP hS => ?_)
  refine lv_if_eq (tgt := 17) C.hx C.hb dX6_aboutThing_5 (by decide) (fun c_2 => ?_) (fun c_2 => ?_)
  · have h := gpos c_2 h
    refine lv_bipush (v := (-2 : Int32)) C.hx C.hb dX6_aboutThing_17 (by decide) ?_
    cases h
    exact gRetI C hr hlocks hP hS dX6_aboutThing_19
  · have h := gneg c_2 h
    refine lv_iload_n C.hx C.hb dX6_aboutThing_8 rfl (lv_at hl 2 rfl) ?_
    refine lv_iconst (v := (0 : Int32)) C.hx C.hb dX6_aboutThing_9 (by decide) ?_
    refine lv_iconst (v := (1 : Int32)) C.hx C.hb dX6_aboutThing_10 (by decide) ?_
    obtain ⟨r_3, e_3, h⟩ := gbind h
    refine gCallS (wd := rW cI cZ a) (As := [.int p2, .int (0 : Int32), .int (1 : Int32)]) (rest := []) C hml hl.1 hS (mX6_in hD e_3) k_510 k_511 k_36 k_512 hdX6_in ⟨by show 0 + 1 ≤ 2; omega, by show 8 + (3 + 11) + (0) ≤ 43; omega⟩ hP rfl rfl (Nat.le_of_ble_eq_true rfl) dX6_aboutThing_11 ⟨Nat.zero_le _, Nat.zero_le _⟩ (fun H locs hP hS => ?_)
    refine lv_if_ne (tgt := 20) C.hx C.hb dX6_aboutThing_14 (by decide) (fun c_4 => ?_) (fun c_4 => ?_)
    · have h := gneg c_4 h
      refine lv_iload_n C.hx C.hb dX6_aboutThing_20 rfl (lv_at hl 2 rfl) ?_
      refine lv_if_ne (tgt := 33) C.hx C.hb dX6_aboutThing_21 (by decide) (fun c_5 => ?_) (fun c_5 => ?_)
      · have h := gneg c_5 h
        refine lv_aload_n C.hx C.hb dX6_aboutThing_33 rfl (lv_at hl 0 rfl) ?_
        refine fr_X6_65_0 C hP dX6_aboutThing_34 ?_
        refine lv_iload_n C.hx C.hb dX6_aboutThing_37 rfl (lv_at hl 1 rfl) ?_
        obtain ⟨g_6, h⟩ := gsplit h
        refine ldr_22 (i := p1) C hP g_6 dX6_aboutThing_38 ?_
        refine lv_if_eq (tgt := 46) C.hx C.hb dX6_aboutThing_39 (by decide) (fun c_7 => ?_) (fun c_7 => ?_)
        · have h := gpos c_7 h
          refine lv_iconst (v := (0 : Int32)) C.hx C.hb dX6_aboutThing_46 (by decide) ?_
          cases h
          exact gRetI C hr hlocks hP hS dX6_aboutThing_47
        · have h := gneg c_7 h
          refine lv_iconst (v := (1 : Int32)) C.hx C.hb dX6_aboutThing_42 (by decide) ?_
          refine lv_goto (tgt := 47) C.hx C.hb dX6_aboutThing_43 (by decide) ?_
          cases h
          exact gRetI C hr hlocks hP hS dX6_aboutThing_47
      · have h := gpos c_5 h
        refine lv_aload_n C.hx C.hb dX6_aboutThing_24 rfl (lv_at hl 0 rfl) ?_
        refine fr_X6_62_0 C hP dX6_aboutThing_25 ?_
        refine lv_iload_n C.hx C.hb dX6_aboutThing_28 rfl (lv_at hl 1 rfl) ?_
        obtain ⟨g_8, h⟩ := gsplit h
        refine ldr_21 (i := p1) C hP g_8 dX6_aboutThing_29 ?_
        refine lv_goto (tgt := 47) C.hx C.hb dX6_aboutThing_30 (by decide) ?_
        cases h
        exact gRetI C hr hlocks hP hS dX6_aboutThing_47
    · have h := gpos c_4 h
      refine lv_bipush (v := (-2 : Int32)) C.hx C.hb dX6_aboutThing_17 (by decide) ?_
      cases h
      exact gRetI C hr hlocks hP hS dX6_aboutThing_19
set_option maxHeartbeats 4000000 in
set_option maxRecDepth 100000 in
theorem mX6_order {l : Launch} {D : va_G} {cI cZ : ClassId} {a : Nat → Nat} (hD : ∀ σ, va_D (rAd a) (rW cI cZ a σ)) {σ : MS} {p1 : Int32} {r : Int32} (h : sX6_order σ p1 = some r) : gMet (rW cI cZ a) (rAd a) l D cI cZ yX6_order cX6_order 2 (some .int) (1) (22) [.ref (a 0), .int p1] σ r σ := by
  refine gEnt (by decide) (Nat.le_of_ble_eq_true rfl) (fun p e s m below meth c ls C hml hr hlocks hP hl => ?_)
  have hl : lv_has ls 2 [(0, .ref (a 0)), (1, .int p1)] := hl
  have hS : va_S (rAd a) s.heap s.heap [] := va_S.rf
  rw [sX6_order] at h
  refine lv_iload_n C.hx C.hb dX6_order_0 rfl (lv_at hl 1 rfl) ?_
  refine lv_iconst (v := (0 : Int32)) C.hx C.hb dX6_order_1 (by decide) ?_
  refine lv_aload_n C.hx C.hb dX6_order_2 rfl (lv_at hl 0 rfl) ?_
  refine fr_X6_154_0 C hP dX6_order_3 ?_
  refine lv_iconst (v := (1 : Int32)) C.hx C.hb dX6_order_6 (by decide) ?_
  refine lv_isub C.hx C.hb dX6_order_7 ?_
  obtain ⟨r_1, e_1, h⟩ := gbind h
  refine gCallS (wd := rW cI cZ a) (As := [.int p1, .int (0 : Int32), .int ((σ.2 23) - (1 : Int32))]) (rest := []) C hml hl.1 hS (mX6_in hD e_1) k_510 k_511 k_36 k_512 hdX6_in ⟨by show 0 + 1 ≤ 1; omega, by show 8 + (3 + 11) + (0) ≤ 22; omega⟩ hP rfl rfl (Nat.le_of_ble_eq_true rfl) dX6_order_8 ⟨Nat.zero_le _, Nat.zero_le _⟩ (fun H locs hP hS => ?_)
  refine lv_if_eq (tgt := 23) C.hx C.hb dX6_order_11 (by decide) (fun c_2 => ?_) (fun c_2 => ?_)
  · have h := gpos c_2 h
    refine lv_iconst (v := (0 : Int32)) C.hx C.hb dX6_order_23 (by decide) ?_
    cases h
    exact gRetI C hr hlocks hP hS dX6_order_24
  · have h := gneg c_2 h
    refine lv_aload_n C.hx C.hb dX6_order_14 rfl (lv_at hl 0 rfl) ?_
    refine fr_X6_68_0 C hP dX6_order_15 ?_
    refine lv_iload_n C.hx C.hb dX6_order_18 rfl (lv_at hl 1 rfl) ?_
    obtain ⟨g_3, h⟩ := gsplit h
    refine ldr_24 (i := p1) C hP g_3 dX6_order_19 ?_
    refine lv_goto (tgt := 24) C.hx C.hb dX6_order_20 (by decide) ?_
    cases h
    exact gRetI C hr hlocks hP hS dX6_order_24
set_option maxHeartbeats 4000000 in
set_option maxRecDepth 100000 in
theorem mX6_count {l : Launch} {D : va_G} {cI cZ : ClassId} {a : Nat → Nat} (hD : ∀ σ, va_D (rAd a) (rW cI cZ a σ)) {σ : MS} {p1 : Int32} {r : Int32} (h : sX6_count σ p1 = some r) : gMet (rW cI cZ a) (rAd a) l D cI cZ yX6_count cX6_count 2 (some .int) (0) (0) [.ref (a 0), .int p1] σ r σ := by
  refine gEnt (by decide) (Nat.le_of_ble_eq_true rfl) (fun p e s m below meth c ls C hml hr hlocks hP hl => ?_)
  have hl : lv_has ls 2 [(0, .ref (a 0)), (1, .int p1)] := hl
  have hS : va_S (rAd a) s.heap s.heap [] := va_S.rf
  rw [sX6_count] at h
  refine lv_iload_n C.hx C.hb dX6_count_0 rfl (lv_at hl 1 rfl) ?_
  by_cases s_1_0 : p1 = (0 : Int32)
  · have h := gpos s_1_0 h
    refine lv_tableIn (tgt := 36) (off := 35) C.hx C.hb dX6_count_1 (by rw [s_1_0]; decide) (by rw [s_1_0]; decide) (by rw [s_1_0]; rfl) (by decide) ?_
    refine lv_aload_n C.hx C.hb dX6_count_36 rfl (lv_at hl 0 rfl) ?_
    refine fr_X6_97_0 C hP dX6_count_37 ?_
    cases h
    exact gRetI C hr hlocks hP hS dX6_count_40
  · have h := gneg s_1_0 h
    by_cases s_1_1 : p1 = (1 : Int32)
    · have h := gpos s_1_1 h
      refine lv_tableIn (tgt := 41) (off := 40) C.hx C.hb dX6_count_1 (by rw [s_1_1]; decide) (by rw [s_1_1]; decide) (by rw [s_1_1]; rfl) (by decide) ?_
      refine lv_aload_n C.hx C.hb dX6_count_41 rfl (lv_at hl 0 rfl) ?_
      refine fr_X6_93_0 C hP dX6_count_42 ?_
      cases h
      exact gRetI C hr hlocks hP hS dX6_count_45
    · have h := gneg s_1_1 h
      by_cases s_1_2 : p1 = (2 : Int32)
      · have h := gpos s_1_2 h
        refine lv_tableIn (tgt := 46) (off := 45) C.hx C.hb dX6_count_1 (by rw [s_1_2]; decide) (by rw [s_1_2]; decide) (by rw [s_1_2]; rfl) (by decide) ?_
        refine lv_aload_n C.hx C.hb dX6_count_46 rfl (lv_at hl 0 rfl) ?_
        refine fr_X6_100_0 C hP dX6_count_47 ?_
        cases h
        exact gRetI C hr hlocks hP hS dX6_count_50
      · have h := gneg s_1_2 h
        by_cases s_1_3 : p1 = (3 : Int32)
        · have h := gpos s_1_3 h
          refine lv_tableIn (tgt := 51) (off := 50) C.hx C.hb dX6_count_1 (by rw [s_1_3]; decide) (by rw [s_1_3]; decide) (by rw [s_1_3]; rfl) (by decide) ?_
          refine lv_aload_n C.hx C.hb dX6_count_51 rfl (lv_at hl 0 rfl) ?_
          refine fr_X6_103_0 C hP dX6_count_52 ?_
          cases h
          exact gRetI C hr hlocks hP hS dX6_count_55
        · have h := gneg s_1_3 h
          by_cases s_1_4 : p1 = (4 : Int32)
          · have h := gpos s_1_4 h
            refine lv_tableIn (tgt := 56) (off := 55) C.hx C.hb dX6_count_1 (by rw [s_1_4]; decide) (by rw [s_1_4]; decide) (by rw [s_1_4]; rfl) (by decide) ?_
            refine lv_aload_n C.hx C.hb dX6_count_56 rfl (lv_at hl 0 rfl) ?_
            refine fr_X6_154_0 C hP dX6_count_57 ?_
            cases h
            exact gRetI C hr hlocks hP hS dX6_count_60
          · have h := gneg s_1_4 h
            have t_0 : (p1).toInt ≠ 0 := sw_ne (by decide) s_1_0
            have t_1 : (p1).toInt ≠ 1 := sw_ne (by decide) s_1_1
            have t_2 : (p1).toInt ≠ 2 := sw_ne (by decide) s_1_2
            have t_3 : (p1).toInt ≠ 3 := sw_ne (by decide) s_1_3
            have t_4 : (p1).toInt ≠ 4 := sw_ne (by decide) s_1_4
            refine lv_tableOut (tgt := 61) C.hx C.hb dX6_count_1 (by omega) (by decide) ?_
            refine lv_bipush (v := (-2 : Int32)) C.hx C.hb dX6_count_61 (by decide) ?_
            cases h
            exact gRetI C hr hlocks hP hS dX6_count_63
