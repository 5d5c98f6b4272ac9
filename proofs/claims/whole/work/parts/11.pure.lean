/-! ===== the pure part: helpers ===== -/
theorem sA_at (σ : MS) (k i : Nat) (x : Int32) (k' : Nat) : (sA σ k i x).1 k' = if k' = k then upd (σ.1 k) i x else σ.1 k' := rfl
theorem sA_eq (σ : MS) (k i : Nat) (x : Int32) : (sA σ k i x).1 k = upd (σ.1 k) i x := by rw [sA_at, if_pos rfl]
theorem sA_ne (σ : MS) {k k' : Nat} (i : Nat) (x : Int32) (h : k' ≠ k) : (sA σ k i x).1 k' = σ.1 k' := by rw [sA_at, if_neg h]
theorem sA_2 (σ : MS) (k i : Nat) (x : Int32) : (sA σ k i x).2 = σ.2 := rfl
theorem sZ_1 (σ : MS) (k : Nat) (x : Int32) : (sZ σ k x).1 = σ.1 := rfl
theorem sZ_at (σ : MS) (k : Nat) (x : Int32) (k' : Nat) : (sZ σ k x).2 k' = if k' = k then x else σ.2 k' := rfl
theorem sZ_eq (σ : MS) (k : Nat) (x : Int32) : (sZ σ k x).2 k = x := by rw [sZ_at, if_pos rfl]
theorem sZ_ne (σ : MS) {k k' : Nat} (x : Int32) (h : k' ≠ k) : (sZ σ k x).2 k' = σ.2 k' := by rw [sZ_at, if_neg h]
theorem upd_at (f : Nat → Int32) (i : Nat) (x : Int32) (j : Nat) : upd f i x j = if j = i then x else f j := rfl
theorem gi_nI {a n : Nat} (h : a < n) (hn : n < 2 ^ 31) : gi (nI a) n := vp_in_nI h hn
theorem gi_of {x : Int32} {n : Nat} (h : gi x n) (hn : n < 2 ^ 31) : ∃ j, j < n ∧ x = nI j := vp_in_of h hn
theorem nI_ne_neg {a : Nat} (ha : a < 2 ^ 31) {x : Int32} (hx : x < 0) : ¬ nI a = x := fun e => nI_pos ha (by rw [e]; exact hx)
theorem nI_m1 {a : Nat} (ha : a < 2 ^ 31) : ¬ nI a = -1 := nI_ne_neg ha (by decide)
theorem slot_e {l x : Nat} : (31 : Int32) * nI l + nI x = nI (31 * l + x) := by
  rw [show (31 : Int32) = nI 31 from rfl, pk_mul, nI_add]
theorem slot_e2 {l x : Nat} : nI l * (31 : Int32) + nI x = nI (31 * l + x) := by
  rw [show (31 : Int32) = nI 31 from rfl, pk_mul, nI_add, Nat.mul_comm]
theorem slot_div {l x : Nat} (hl : l < 10) (hx : x < 31) : nI (31 * l + x) / (31 : Int32) = nI l := by
  rw [show (31 : Int32) = nI 31 from rfl, pk_div (by omega) (by omega) (by omega), show (31 * l + x) / 31 = l by omega]
theorem slot_mod {l x : Nat} (hl : l < 10) (hx : x < 31) : nI (31 * l + x) - nI (31 * l + x) / (31 : Int32) * (31 : Int32) = nI x := by
  rw [show (31 : Int32) = nI 31 from rfl, pk_rem (by omega) (by omega) (by omega), show (31 * l + x) % 31 = x by omega]
theorem slot_sub {l x p : Nat} (hl : l < 10) (hx : x < 31) : (nI (31 * l + x) - nI x) + nI p = nI (31 * l + p) := by
  rw [pk_sub (by omega), nI_add, show 31 * l + x - x + p = 31 * l + p by omega]
/-- sums of weights -/
def cw (w : Int32 → Nat) (f : Nat → Int32) : Nat → Nat
  | 0 => 0
  | n + 1 => cw w f n + w (f n)
theorem cw_congr {w : Int32 → Nat} {f g : Nat → Int32} : ∀ {n : Nat}, (∀ j, j < n → f j = g j) → cw w f n = cw w g n
  | 0, _ => rfl
  | n + 1, h => by rw [cw, cw, cw_congr (fun j hj => h j (by omega)), h n (by omega)]
theorem cw_ge {w : Int32 → Nat} {f : Nat → Int32} {i n : Nat} {x : Int32} (h : n ≤ i) : cw w (upd f i x) n = cw w f n := cw_congr (fun j hj => pk_un (by omega))
theorem cw_upd {w : Int32 → Nat} {f : Nat → Int32} {i : Nat} {x : Int32} : ∀ {n : Nat}, i < n → cw w (upd f i x) n + w (f i) = cw w f n + w x
  | 0, h => absurd h (Nat.not_lt_zero _)
  | n + 1, h => by
    by_cases e : i = n
    · subst e
      rw [cw, cw, cw_ge (Nat.le_refl _), pk_us]
      omega
    · have := cw_upd (w := w) (f := f) (x := x) (show i < n by omega)
      rw [cw, cw, pk_un (show n ≠ i by omega)]
      omega
theorem cw_le {w : Int32 → Nat} {f : Nat → Int32} {c : Nat} (hw : ∀ x, w x ≤ c) : ∀ n, cw w f n ≤ c * n
  | 0 => by simp [cw]
  | n + 1 => by
    have h1 := cw_le (f := f) hw n
    have h2 := hw (f n)
    rw [cw, Nat.mul_succ]
    omega
theorem cw_lt {w : Int32 → Nat} {f : Nat → Int32} {c : Nat} (hw : ∀ x, w x ≤ c) {i : Nat} : ∀ {n : Nat}, i < n → w (f i) < c → cw w f n < c * n
  | 0, h, _ => absurd h (Nat.not_lt_zero _)
  | n + 1, h, hi => by
    have h2 := hw (f n)
    rw [cw, Nat.mul_succ]
    by_cases e : i = n
    · subst e
      have h1 := cw_le (f := f) hw i
      omega
    · have := cw_lt (f := f) hw (show i < n by omega) hi
      omega
theorem cw_mono {w : Int32 → Nat} {f : Nat → Int32} {n : Nat} : cw w f n ≤ cw w f (n + 1) := by rw [cw]; omega
/-- values: a number below n, or none -/
def iv (x : Int32) (n : Nat) : Prop := ∃ k, k < n ∧ x = nI k
def ov (x : Int32) (n : Nat) : Prop := x = -1 ∨ iv x n
theorem iv.mono {x : Int32} {n m : Nat} (h : iv x n) (hm : n ≤ m) : iv x m := by obtain ⟨k, h1, h2⟩ := h; exact ⟨k, by omega, h2⟩
theorem ov.mono {x : Int32} {n m : Nat} (h : ov x n) (hm : n ≤ m) : ov x m := h.imp id (fun h => h.mono hm)
theorem iv_ov {x : Int32} {n : Nat} (h : iv x n) : ov x n := Or.inr h
theorem ov_n1 {n : Nat} : ov (-1) n := Or.inl rfl
theorem ov.iv {x : Int32} {n : Nat} (h : ov x n) (hx : ¬ x = -1) : iv x n := h.resolve_left hx
def slotEq (nl : Nat) (f g : Nat → Int32) : Prop := ∀ j, f j = if j < 31 * nl then g j else -1
theorem slotEq.at {nl : Nat} {f g : Nat → Int32} (h : slotEq nl f g) {j : Nat} (hj : j < 31 * nl) : g j = f j := by rw [h j, if_pos hj]
theorem slotEq.upd {nl : Nat} {f g : Nat → Int32} (h : slotEq nl f g) {j : Nat} (hj : j < 31 * nl) (x : Int32) : slotEq nl (upd f j x) (upd g j x) := by
  intro i
  by_cases e : i = j
  · subst e; rw [pk_us, pk_us, if_pos hj]
  · rw [pk_un e, pk_un e]; exact h i
theorem upd_self {f : Nat → Int32} {i : Nat} {x : Int32} (h : f i = x) : upd f i x = f := by
  funext j
  by_cases e : j = i
  · subst e; rw [pk_us, h]
  · rw [pk_un e]
theorem upd_back {f : Nat → Int32} {i : Nat} {x y : Int32} (h : f i = x) : upd (upd f i y) i x = f := by
  funext j
  by_cases e : j = i
  · subst e; rw [pk_us, h]
  · rw [pk_un e, pk_un e]
/-- the reference's machine: from one state to another in some steps -/
def RT (τ τ' : MS) : Prop := ∃ k, ∀ fu n, sX6_runs_L0 fu (n + k) τ = sX6_runs_L0 fu n τ'
theorem RT.rf {τ : MS} : RT τ τ := ⟨0, fun _ _ => rfl⟩
theorem RT.tr {a b c : MS} (h : RT a b) (h' : RT b c) : RT a c := by
  obtain ⟨k, h⟩ := h
  obtain ⟨k', h'⟩ := h'
  exact ⟨k' + k, fun fu n => by rw [← Nat.add_assoc, h, h']⟩
theorem RT_ask {τ τ' : MS} {d at_ : Nat} (hd : d < 1300) (h1 : τ.2 25 = nI (d + 1)) (h2 : τ.1 26 d = 0) (h3 : τ.1 28 d = nI at_) (h : sX6_asks τ (nI d) (nI at_) = some τ') : RT τ τ' := by
  refine ⟨1, fun fu n => ?_⟩
  rw [sX6_runs_L0, h1, nI_pred, if_neg (nI_nle (by omega) (by omega)), if_pos (gi_nI hd (by omega)), nI_clamp (by omega), h2, if_pos rfl, h3, h]
  rfl
theorem RT_make {τ τ' : MS} {d at_ f : Nat} (hd : d < 1300) (h1 : τ.2 25 = nI (d + 1)) (h2 : τ.1 26 d = 1) (h3 : τ.1 28 d = nI at_) (h4 : τ.1 29 d = nI f) (h : sX6_makes τ (nI d) (nI at_) (nI f) = some τ') : RT τ τ' := by
  refine ⟨1, fun fu n => ?_⟩
  rw [sX6_runs_L0, h1, nI_pred, if_neg (nI_nle (by omega) (by omega)), if_pos (gi_nI hd (by omega)), nI_clamp (by omega), h2, if_neg (by decide), if_pos rfl, h3, h4, h]
  rfl
theorem RT_begin {τ τ' : MS} {d m : Nat} (hd : d < 1300) (h1 : τ.2 25 = nI (d + 1)) (h2 : τ.1 26 d = 2) (h3 : τ.1 28 d = nI m) (h : sX6_begins τ (nI d) (nI m) = some τ') : RT τ τ' := by
  refine ⟨1, fun fu n => ?_⟩
  rw [sX6_runs_L0, h1, nI_pred, if_neg (nI_nle (by omega) (by omega)), if_pos (gi_nI hd (by omega)), nI_clamp (by omega), h2, if_neg (by decide), if_neg (by decide), h3, h]
  rfl
theorem push_e {τ : MS} {d : Nat} (hd : d < 1300) (h1 : τ.2 25 = nI d) (p1 p2 p3 p4 : Int32) : sX6_push τ p1 p2 p3 p4 = some (sZ (sA (sA (sA (sA (sA τ 26 d p1) 27 d 0) 28 d p2) 29 d p3) 30 d (vp_nar .boolean p4)) 25 (nI (d + 1))) := by
  rw [sX6_push, h1, if_pos (gi_nI hd (by omega)), nI_clamp (by omega), nI_1]
theorem gives_e {τ : MS} {d : Nat} (h1 : τ.2 25 = nI (d + 1)) (v : Int32) : sX6_gives τ v = some (sZ (sZ τ 31 v) 25 (nI d)) := by
  rw [sX6_gives, h1, nI_pred]
