theorem dnn_1 {σ : MS} : sX5_isNameOrNone σ (-1) = some 1 := by rw [sX5_isNameOrNone, if_pos rfl]
theorem dnn_yes {σ : MS} {j : Nat} (hj : j < 31) : sX5_isNameOrNone σ (nI j) = some 1 := by rw [sX5_isNameOrNone, if_neg (nI_m1 (by omega)), dn_yes hj, Option.bind_some, if_neg n10]
theorem dnn_no {σ : MS} {p : Int32} (h1 : ¬ p = -1) (hp : p < 0 ∨ (¬ p < 0 ∧ nI 31 ≤ p)) : sX5_isNameOrNone σ p = some 0 := by rw [sX5_isNameOrNone, if_neg h1, dn_no hp, Option.bind_some, if_pos rfl]
theorem add_file {nf nl nm nt no K : Nat} {σ τ : MS} (h : RR nf nl nm nt no K σ τ) (hn : nf < 40) {p1 p2 p3 p4 p5 : Int32} (h1 : iv p1 31) (h3 : ov p3 31) (h4 : ov p4 31) (h5 : iv p5 4) :
    RR (nf + 1) nl nm nt no K (sZ (sA (sA (sA (sA (sA σ 8 nf p1) 9 nf p2) 10 nf p3) 11 nf p4) 12 nf p5) 0 (nI (nf + 1))) (sZ (sA (sA (sA (sA (sA τ 1 nf p1) 2 nf p2) 3 nf p3) 4 nf p4) 5 nf p5) 0 (nI (nf + 1))) := by
  obtain ⟨⟨⟨h8, h9, h10, h11, h12⟩, g2, g3, g4, ⟨hz0, hz1, hz2⟩, ⟨hr0, hr6, hr14⟩, ⟨hb1, hb2, hb3⟩, ⟨hi1, hi2, hi3, hi4⟩⟩, g8⟩ := h
  refine ⟨⟨⟨congrArg (fun z => upd z nf p1) h8, congrArg (fun z => upd z nf p2) h9, congrArg (fun z => upd z nf p3) h10, congrArg (fun z => upd z nf p4) h11, congrArg (fun z => upd z nf p5) h12⟩, g2, g3, g4, ⟨rfl, hz1, hz2⟩, ⟨rfl, hr6, hr14⟩, ⟨by omega, hb2, hb3⟩, ⟨fun f hf => ?_, hi2, fun j hj => ?_, fun m hm => ?_⟩⟩, g8⟩
  · show iv (upd (σ.1 8) nf p1 f) 31 ∧ ov (upd (σ.1 10) nf p3 f) 31 ∧ ov (upd (σ.1 11) nf p4 f) 31 ∧ iv (upd (σ.1 12) nf p5 f) 4
    by_cases e : f = nf
    · subst e
      rw [pk_us, pk_us, pk_us, pk_us]
      exact ⟨h1, h3, h4, h5⟩
    · rw [pk_un e, pk_un e, pk_un e, pk_un e]
      exact hi1 f (by omega)
  · obtain ⟨a1, a2, a3⟩ := hi3 j hj
    exact ⟨a1.mono (by omega), a2, a3⟩
  · obtain ⟨a1, a2, a3⟩ := hi4 m hm
    exact ⟨a1, a2.mono (by omega), a3⟩
theorem ov_or (p : Int32) : ov p 31 ∨ (¬ p = -1 ∧ (p < 0 ∨ (¬ p < 0 ∧ nI 31 ≤ p))) := by
  by_cases c : p = -1
  · exact Or.inl (Or.inl c)
  · rcases ix_or p (n := 31) (by omega) with h | h
    · exact Or.inl (Or.inr h)
    · exact Or.inr ⟨c, h⟩
theorem dnn_ov {σ : MS} {p : Int32} (h : ov p 31) : sX5_isNameOrNone σ p = some 1 := by
  rcases h with rfl | ⟨j, hj, rfl⟩
  · exact dnn_1
  · exact dnn_yes hj
/-- the reference's file, once the inner name is one -/
theorem rfile_e {τ : MS} {j : Nat} {p2 p3 p4 p5 : Int32} (hj : j < 31) (h3 : ov p3 31) (h4 : ov p4 31) : sX6_file τ (nI j) p2 p3 p4 p5 = (sX6_in τ p5 0 3).bind fun r => if r = 0 then some (-2, τ) else if τ.2 0 = 40 then some (-4, τ) else if gi (τ.2 0) 40 then some (τ.2 0 + 1 - 1, sZ (sA (sA (sA (sA (sA τ 1 ((τ.2 0).toNatClampNeg) (nI j)) 2 ((τ.2 0).toNatClampNeg) p2) 3 ((τ.2 0).toNatClampNeg) p3) 4 ((τ.2 0).toNatClampNeg) p4) 5 ((τ.2 0).toNatClampNeg) p5) 0 (τ.2 0 + 1)) else none := by
  rw [sX6_file, rn_yes hj, Option.bind_some, if_neg n10]
  rcases h3 with rfl | ⟨a, ha, rfl⟩ <;> rcases h4 with rfl | ⟨b, hb, rfl⟩
  · rw [if_pos rfl, if_pos rfl]
  · rw [if_pos rfl, if_neg (nI_m1 (by omega)), rn_yes hb, Option.bind_some, if_neg n10]
  · rw [if_neg (nI_m1 (by omega)), rn_yes ha, Option.bind_some, if_neg n10, if_pos rfl]
  · rw [if_neg (nI_m1 (by omega)), rn_yes ha, Option.bind_some, if_neg n10, if_neg (nI_m1 (by omega)), rn_yes hb, Option.bind_some, if_neg n10]
theorem c_file (p1 p2 p3 p4 p5 : Int32) : CallOK (fun _ σ => sX5_file σ p1 p2 p3 p4 p5) (fun _ τ => sX6_file τ p1 p2 p3 p4 p5) := by
  intro K σ τ hS hK
  obtain ⟨nf, nl, nm, nt, no, h⟩ := id hS
  have hbf := h.1.bf
  rcases ix_or p1 (n := 31) (by omega) with ⟨j, hj, rfl⟩ | hp
  · rcases ov_or p3 with h3 | ⟨n3, hp3⟩
    · rcases ov_or p4 with h4 | ⟨n4, hp4⟩
      · rcases ix_or p5 (n := 4) (by omega) with ⟨q, hq, rfl⟩ | hp5
        · by_cases c : nf = 40
          · subst c
            refine ⟨-4, σ, τ, 0, fun fu hfu => ⟨?_, ?_⟩, hS.more (by omega)⟩
            · show sX5_file _ _ _ _ _ _ = _
              rw [sX5_file, dn_yes hj, Option.bind_some, if_neg n10, dnn_ov h3, Option.bind_some, if_neg n10, dnn_ov h4, Option.bind_some, if_neg n10, if_neg (nI_pos (by omega)), if_pos (show nI q ≤ (3 : Int32) from nI_le (b := 3) (by omega) (by omega)), sX0_add, h.1.z0, if_neg (by decide)]
              rfl
            · show sX6_file _ _ _ _ _ _ = _
              rw [rfile_e hj h3 h4, show (3 : Int32) = nI 4 - 1 by decide, rin_yes (by omega) hq, Option.bind_some, if_neg n10, h.1.r0, if_pos (by decide)]
          · refine ⟨nI nf, _, _, 0, fun fu hfu => ⟨?_, ?_⟩, SS.more (K := K) ⟨nf + 1, nl, nm, nt, no, add_file h (by omega) (p1 := nI j) (p2 := p2) (p3 := p3) (p4 := p4) (p5 := nI q) ⟨j, hj, rfl⟩ h3 h4 ⟨q, hq, rfl⟩⟩ (by omega)⟩
            · show sX5_file _ _ _ _ _ _ = _
              rw [sX5_file, dn_yes hj, Option.bind_some, if_neg n10, dnn_ov h3, Option.bind_some, if_neg n10, dnn_ov h4, Option.bind_some, if_neg n10, if_neg (nI_pos (by omega)), if_pos (show nI q ≤ (3 : Int32) from nI_le (b := 3) (by omega) (by omega)), sX0_add, h.1.z0, if_pos (show nI nf < (40 : Int32) from nI_lt (b := 40) (by omega) (by omega)), if_pos (gi_nI (by omega) (by omega)), nI_clamp (by omega), nI_1]
              rfl
            · show sX6_file _ _ _ _ _ _ = _
              rw [rfile_e hj h3 h4, show (3 : Int32) = nI 4 - 1 by decide, rin_yes (by omega) hq, Option.bind_some, if_neg n10, h.1.r0, if_neg (show ¬ nI nf = (40 : Int32) from fun e => c ((nI_eq (b := 40) (by omega) (by omega)).mp e)), if_pos (gi_nI (by omega) (by omega)), nI_clamp (by omega), nI_1, nI_pred]
        · refine ⟨-2, σ, τ, 0, fun fu hfu => ⟨?_, ?_⟩, hS.more (by omega)⟩
          · show sX5_file _ _ _ _ _ _ = _
            rw [sX5_file, dn_yes hj, Option.bind_some, if_neg n10, dnn_ov h3, Option.bind_some, if_neg n10, dnn_ov h4, Option.bind_some, if_neg n10]
            rcases hp5 with hp5 | ⟨hp5, hq5⟩
            · rw [if_pos hp5]
            · obtain ⟨a, ha, rfl⟩ := nI_of hp5
              rw [if_neg hp5, if_neg (show ¬ nI a ≤ (3 : Int32) from nI_ge (a := 3) ((nI_leI (by omega) ha).mp hq5) ha)]
          · show sX6_file _ _ _ _ _ _ = _
            rw [rfile_e hj h3 h4, show (3 : Int32) = nI 4 - 1 by decide, rin_no (by omega) hp5, Option.bind_some, if_pos rfl]
      · refine ⟨-2, σ, τ, 0, fun fu hfu => ⟨?_, ?_⟩, hS.more (by omega)⟩
        · show sX5_file _ _ _ _ _ _ = _
          rw [sX5_file, dn_yes hj, Option.bind_some, if_neg n10, dnn_ov h3, Option.bind_some, if_neg n10, dnn_no n4 hp4, Option.bind_some, if_pos rfl]
        · show sX6_file _ _ _ _ _ _ = _
          rw [sX6_file, rn_yes hj, Option.bind_some, if_neg n10]
          rcases h3 with rfl | ⟨a, ha, rfl⟩
          · rw [if_pos rfl, if_neg n4, rn_no hp4, Option.bind_some, if_pos rfl]
          · rw [if_neg (nI_m1 (by omega)), rn_yes ha, Option.bind_some, if_neg n10, if_neg n4, rn_no hp4, Option.bind_some, if_pos rfl]
    · refine ⟨-2, σ, τ, 0, fun fu hfu => ⟨?_, ?_⟩, hS.more (by omega)⟩
      · show sX5_file _ _ _ _ _ _ = _
        rw [sX5_file, dn_yes hj, Option.bind_some, if_neg n10, dnn_no n3 hp3, Option.bind_some, if_pos rfl]
      · show sX6_file _ _ _ _ _ _ = _
        rw [sX6_file, rn_yes hj, Option.bind_some, if_neg n10, if_neg n3, rn_no hp3, Option.bind_some, if_pos rfl]
  · refine ⟨-2, σ, τ, 0, fun fu hfu => ⟨?_, ?_⟩, hS.more (by omega)⟩
    · show sX5_file _ _ _ _ _ _ = _
      rw [sX5_file, dn_no hp, Option.bind_some, if_pos rfl]
    · show sX6_file _ _ _ _ _ _ = _
      rw [sX6_file, rn_no hp, Option.bind_some, if_pos rfl]
