/-! THE CLAIM OUT OF ONE WALK OF THE LAW'S BODY. Your part is whole_start (and what it stands on); all else here is the same for every law, but numbers. -/
def R_law : String := "ModuleLoadersLaw"
def lw_P (b : Addr) (xs : List Int32) (args : Array Value) (s : State) : Prop := args = #[.ref b] ∧ s.IntsAt b xs ∧ xs.length ≤ 3072 ∧ (Jvm.Cond.and given_1 narrow_1).before args s = true
def lw_Q (_ : Array Value) (s : State) (o : Outcome) (t : State) : Prop := o = .returned (some (.int 1)) ∧ Framed s o t [] 600000 7302250
def lw_Z (below : List Frame) (a : Array Value) (s : State) : State → Prop := fun t => ∃ o, t.status = .running ∧ Ended t below o ∧ lw_Q a s o t
/-- the law's own end, with 1 on the stack, nothing written that was there before, its room as the claim has it -/
theorem lw_ret {p : Program} {l : Launch} {e : Env} {s : State} {m : MethodId} {below : List Frame} {meth : Method} {c : Code} {b : Nat} (hx : p.tables.exec = Jvm.exec) (hb : c.code = code) (hr : meth.sig.returnType = ret) (hlocks : meth.locks = false) {pc : Nat} {H : Heap} {ls : Array Slot} (hdg : decode code pc = .ok (.ireturn, 1)) : W p l e room_1 s m #[Value.ref b] below meth c H [] 600000 7302250 (lw_Z below #[Value.ref b] s) (F0 m pc ls [.int 1]) := by
  intro T hT X
  obtain ⟨fs, hret, hrun, hended, hW, hframe⟩ := X.leave (v := some (.int 1)) (hlocks := hlocks) (fun h => by rw [hr] at h; cases h)
  have hmeth' : T.vm.method? m = some meth := X.method'
  refine ⟨T.setFrames fs, ?_, .returned (some (.int 1)), hrun, hended, rfl, ⟨_, rfl⟩, hW, hframe⟩
  jvm_step X.here [X.here.top, hx, hb, hdg, hmeth', hr, ret, narrow_b1]
  (try refine ⟨rfl, ?_⟩); (try refine ⟨rfl, ?_⟩)
  first | (intro acts; rw [hret _ acts rfl rfl rfl]) | rw [hret _ _ rfl rfl rfl]
  exact Steps.refl _
/-- what holds at the law's entry: the machine, the code, the tables' words (any of lw_tbl by 'hts w (by decide +kernel)'), the script of L ints xs at the cell b, what the Statement gives of the start (any of its parts by flat_of_before) -/
def lw_At (p : Program) (s : State) (m : MethodId) (meth : Method) (c : Code) (b L : Nat) (xs : Nat → Int32) : Prop :=
  p.tables.exec = Jvm.exec ∧ c.code = code ∧ meth.sig.returnType = ret ∧ c.maxLocals = 4 ∧ s.vm.findClass R_law = some m.cls ∧ (∀ w ∈ lw_tbl, w.before #[Value.ref b] s = true) ∧ va_X b L xs s s.heap ∧ b < s.heap.size ∧ meth.locks = false ∧ (Jvm.Cond.and given_1 narrow_1).before #[Value.ref b] s = true
section LC
variable {own : String} {cc : ByteArray} {D : va_G} {cI cZ : ClassId} {p : Program} {l : Launch} {e : Env} {R : Room} {s : State} {m : MethodId} {args : Array Value} {below : List Frame} {meth : Method} {c : Code} {H : Heap} {locs : List Loc} {cells slots : Nat} {Q : State → Prop} {pc : Nat} {ls : Array Slot} {rest : List Value} {H0 : Heap} {A Ad : Nat → Prop} {wd : MS → va_W} {σ σ' : MS} {y : MethodName} {bytes : ByteArray} {maxL nL n index f k : Nat} {ret : Option FieldType} {X : String} {b : Addr} {As : List Value} {r : Int32}
/-- a call of a method of one of the two worlds, from the law -/
theorem lCall (C : Cx own cc D cI cZ p s m args c) (hml : c.maxLocals = nL) (hsz : ls.size = nL) (hS : va_S A H0 H locs) (hAd : ∀ q, Ad q → A q) (hM : gMet wd Ad l D cI cZ y bytes maxL ret f k (.ref b :: As) σ r σ')
    (h1 : Cond.methodLink own index y ∈ lw_good) (h2 : Cond.instanceMethod y ∈ lw_good) (h3 : Cond.selects X y y ∈ lw_good) (h4 : Cond.initialized X ∈ lw_good) (h5 : Cond.code y bytes maxL ret ∈ lw_good)
    (hd : y.cls = X ∧ y.cls ≠ "java/lang/invoke/MethodHandle" ∧ y.cls ≠ "java/lang/invoke/VarHandle" ∧ (parseMethodDescriptor y.desc).map (fun d => d.parameters.length) = some n) (hR : f + 1 ≤ R.frames ∧ 8 + (maxL + 11) + k ≤ R.locals)
    (hP : va_P D vwCl (wd σ) H) (q0 ci : Nat) {q : vw_C} {fs : List Value} (hc : vwCl[ci]? = some q) (hq : q.1 = X) (he : (wd σ)[q0]? = some (b, .inr (ci, fs))) {st : List Value} (hst : st = As.reverse ++ .ref b :: rest) (hn : As.length = n) (hW : ((rest.map fun v => v.category).sum ≤ 8)) (hdg : decode cc pc = .ok (.invokevirtual index, 3)) (hf : cells ≤ R.cells ∧ slots ≤ R.slots)
    (kk : ∀ (H1 : Heap) (locs1 : List Loc), va_P D vwCl (wd σ') H1 → (∀ w : va_W, va_P D vwCl w H → (∀ (k : Nat) (q : Nat × va_E), w[k]? = some q → ¬ Ad q.1) → va_P D vwCl w H1) → va_S A H0 H1 locs1 → W p l e R s m args below meth c H1 locs1 cells slots Q (F0 m (pc + 3) ls (.int r :: rest))) : W p l e R s m args below meth c H locs cells slots Q (F0 m pc ls st) := by
  subst hst
  refine va_calli (A1 := Ad) (gRunV C hml hsz hM h1 h2 h3 h4 h5 hd hR hP hc hq he hn hW hdg hf) hS (fun q _ h => hAd q h) (fun q h => hAd q h) (fun r1 u t H1 locs1 ht hvm hw hB hz1 hk1 hS1 => ?_)
  subst hw
  exact kk H1 locs1 (ht ▸ (hB : va_P D vwCl (wd σ') t.heap)) (fun w hw hdis => hw.kept (fun k q hk => hk1 q.1 (hw k q hk).lt (hdis k q hk))) hS1
end LC
theorem va_D_same {A : Nat → Prop} {w w' : va_W} (he : w.map Prod.fst = w'.map Prod.fst) (h : va_D A w) : va_D A w' := by
  have key : ∀ (k : Nat) (q : Nat × va_E), w'[k]? = some q → ∃ q0, w[k]? = some q0 ∧ q0.1 = q.1 := by
    intro k q hk
    have h1 : (w'.map Prod.fst)[k]? = some q.1 := by rw [List.getElem?_map, hk]; rfl
    rw [← he, List.getElem?_map] at h1
    cases hw : w[k]? with
    | none => rw [hw] at h1; cases h1
    | some q0 => rw [hw] at h1; exact ⟨q0, rfl, Option.some.inj h1⟩
  refine ⟨fun i j x y hi hj hxy => ?_, fun k q hk => ?_⟩
  · obtain ⟨x0, h1, h2⟩ := key i x hi
    obtain ⟨y0, h3, h4⟩ := key j y hj
    exact h.1 i j x0 y0 h1 h3 (h2.trans (hxy.trans h4.symm))
  · obtain ⟨q0, h1, h2⟩ := key k q hk
    rw [← h2]
    exact h.2 k q0 h1
theorem va_D_own {A : Nat → Prop} {w : va_W} (h : va_D A w) : va_D (fun q => q ∈ w.map Prod.fst) w := ⟨h.1, fun k q hk => List.mem_map.mpr ⟨q, List.mem_of_getElem? hk, rfl⟩⟩
theorem va_D_left {A : Nat → Prop} {w1 w2 : va_W} (h : va_D A (w1 ++ w2)) : va_D A w1 := by
  have key : ∀ (k : Nat) (q : Nat × va_E), w1[k]? = some q → (w1 ++ w2)[k]? = some q := fun k q hk => by
    rw [List.getElem?_append_left (List.getElem?_eq_some_iff.mp hk).1]; exact hk
  exact ⟨fun i j x y hi hj => h.1 i j x y (key i x hi) (key j y hj), fun k q hk => h.2 k q (key k q hk)⟩
theorem va_D_right {A : Nat → Prop} {w1 w2 : va_W} (h : va_D A (w1 ++ w2)) : va_D A w2 := by
  have key : ∀ (k : Nat) (q : Nat × va_E), w2[k]? = some q → (w1 ++ w2)[w1.length + k]? = some q := fun k q hk => by
    rw [List.getElem?_append_right (by omega)]; rw [show w1.length + k - w1.length = k by omega]; exact hk
  exact ⟨fun i j x y hi hj hxy => by have := h.1 _ _ x y (key i x hi) (key j y hj) hxy; omega, fun k q hk => h.2 _ q (key k q hk)⟩
theorem va_P_left {D : va_G} {w1 w2 : va_W} {H : Heap} (h : va_P D vwCl (w1 ++ w2) H) : va_P D vwCl w1 H := fun k q hk => h k q (by
    rw [List.getElem?_append_left (List.getElem?_eq_some_iff.mp hk).1]; exact hk)
theorem va_P_right {D : va_G} {w1 w2 : va_W} {H : Heap} (h : va_P D vwCl (w1 ++ w2) H) : va_P D vwCl w2 H := fun k q hk => h (w1.length + k) q (by
    rw [List.getElem?_append_right (by omega)]; rw [show w1.length + k - w1.length = k by omega]; exact hk)
theorem va_D_apart {A : Nat → Prop} {w1 w2 : va_W} (h : va_D A (w1 ++ w2)) : ∀ (i j : Nat) (p q : Nat × va_E), w1[i]? = some p → w2[j]? = some q → p.1 ≠ q.1 := by
  intro i j p q hi hj e
  have hl := (List.getElem?_eq_some_iff.mp hi).1
  have h1 : (w1 ++ w2)[i]? = some p := by rw [List.getElem?_append_left hl]; exact hi
  have h2 : (w1 ++ w2)[w1.length + j]? = some q := by
    rw [List.getElem?_append_right (by omega)]; rw [show w1.length + j - w1.length = j by omega]; exact hj
  have := h.1 _ _ p q h1 h2 e
  omega
theorem mem_fst {w : va_W} {x : Nat} (h : x ∈ w.map Prod.fst) : ∃ (i : Nat) (p : Nat × va_E), w[i]? = some p ∧ p.1 = x := by
  obtain ⟨p, hp, e⟩ := List.mem_map.mp h
  obtain ⟨i, hi⟩ := List.getElem?_of_mem hp
  exact ⟨i, p, hi, e⟩
set_option maxHeartbeats 8000000 in
set_option maxRecDepth 100000 in
theorem law_loop {p : Program} {l : Launch} {e : Env} {s : State} {m : MethodId} {below : List Frame} {meth : Method} {c : Code} {D : va_G} {cI cZ : ClassId} {b L : Nat} {xs : Nat → Int32} {a1 a2 : Nat → Nat} {fu : Nat} (C : Cx RL cL_law D cI cZ p s m #[Value.ref b] c) (hml : c.maxLocals = 4) (hr : meth.sig.returnType = ret) (hlocks : meth.locks = false) (hX : va_X b L xs s s.heap) (hbl : b < s.heap.size) (hbA : ¬ (fun q : Nat => s.heap.size ≤ q) b) (hDd : ∀ σ, va_D (dAd a1) (dW cI cZ a1 σ)) (hDr : ∀ σ, va_D (rAd a2) (rW cI cZ a2 σ)) (hAd : ∀ q, dAd a1 q → s.heap.size ≤ q) (hAr : ∀ q, rAd a2 q → s.heap.size ≤ q) (xr : ∀ (σ : MS) (k : Nat) (q : Nat × va_E), (rW cI cZ a2 σ)[k]? = some q → ¬ dAd a1 q.1) (xd : ∀ (σ : MS) (k : Nat) (q : Nat × va_E), (dW cI cZ a1 σ)[k]? = some q → ¬ rAd a2 q.1) : ∀ (n : Nat) (σ τ : MS) (x3 : Int32) (H : Heap) (locs : List Loc) (ls : Array Slot), lv_has ls 4 [(0, .ref b), (1, .ref (a1 0)), (2, .ref (a2 0)), (3, .int x3)] → va_P D vwCl (dW cI cZ a1 σ) H → va_P D vwCl (rW cI cZ a2 τ) H → va_S (fun q : Nat => s.heap.size ≤ q) s.heap H locs → sLaw fu xs L n σ τ x3 = some 1 → W p l e room_1 s m #[Value.ref b] below meth c H locs 600000 7302250 (lw_Z below #[Value.ref b] s) (F0 m 18 ls []) := by
  intro n
  induction n with
  | zero => intro σ τ x3 H locs ls hl hPd hPr hS h; cases h
  | succ n ih =>
    intro σ τ x3 H locs ls hl hPd hPr hS h
    rw [sLaw] at h
    refine lv_iload_n C.hx C.hb dL_law_18 rfl (lv_at hl 3 rfl) ?_
    refine lv_aload_n C.hx C.hb dL_law_19 rfl (lv_at hl 0 rfl) ?_
    refine va_slen C.hx C.hb hX hbl hbA hS dL_law_20 ?_
    refine lv_bipush (v := (6 : Int32)) C.hx C.hb dL_law_21 (by decide) ?_
    refine lv_isub C.hx C.hb dL_law_23 ?_
    refine lv_icmp_gt (tgt := 716) C.hx C.hb dL_law_24 (by decide) (fun c_1 => ?_) (fun c_1 => ?_)
    · have h := gpos c_1 h
      refine lv_iconst (v := (1 : Int32)) C.hx C.hb dL_law_716 (by decide) ?_
      refine va_forget (fun q hq => hS.2.2 q hq) ?_
      exact lw_ret C.hx C.hb hr hlocks dL_law_717
    · have h := gneg c_1 h
      refine lv_aload_n C.hx C.hb dL_law_27 rfl (lv_at hl 0 rfl) ?_
      refine lv_iload_n C.hx C.hb dL_law_28 rfl (lv_at hl 3 rfl) ?_
      obtain ⟨g_2, h⟩ := gsplit h
      refine va_sld C.hx C.hb hX hbl hbA hS g_2 dL_law_29 ?_
      refine lv_bipush (v := (31 : Int32)) C.hx C.hb dL_law_30 (by decide) ?_
      refine lv_iand C.hx C.hb dL_law_32 ?_
      by_cases s_0 : ((xs (x3.toNatClampNeg)) &&& (31 : Int32)) = (0 : Int32)
      · have h := gpos s_0 h
        refine lv_tableIn (tgt := 120) (off := 87) C.hx C.hb dL_law_33 (by rw [s_0]; decide) (by rw [s_0]; decide) (by rw [s_0]; rfl) (by decide) ?_
        refine lv_aload_n C.hx C.hb dL_law_120 rfl (lv_at hl 1 rfl) ?_
        refine lv_aload_n C.hx C.hb dL_law_121 rfl (lv_at hl 0 rfl) ?_
        refine lv_iload_n C.hx C.hb dL_law_122 rfl (lv_at hl 3 rfl) ?_
        refine lv_iconst (v := (1 : Int32)) C.hx C.hb dL_law_123 (by decide) ?_
        refine lv_iadd C.hx C.hb dL_law_124 ?_
        obtain ⟨g_3, h⟩ := gsplit h
        refine va_sld C.hx C.hb hX hbl hbA hS g_3 dL_law_125 ?_
        refine lv_aload_n C.hx C.hb dL_law_126 rfl (lv_at hl 0 rfl) ?_
        refine lv_iload_n C.hx C.hb dL_law_127 rfl (lv_at hl 3 rfl) ?_
        refine lv_iconst (v := (2 : Int32)) C.hx C.hb dL_law_128 (by decide) ?_
        refine lv_iadd C.hx C.hb dL_law_129 ?_
        obtain ⟨g_4, h⟩ := gsplit h
        refine va_sld C.hx C.hb hX hbl hbA hS g_4 dL_law_130 ?_
        refine lv_aload_n C.hx C.hb dL_law_131 rfl (lv_at hl 0 rfl) ?_
        refine lv_iload_n C.hx C.hb dL_law_132 rfl (lv_at hl 3 rfl) ?_
        refine lv_iconst (v := (3 : Int32)) C.hx C.hb dL_law_133 (by decide) ?_
        refine lv_iadd C.hx C.hb dL_law_134 ?_
        obtain ⟨g_5, h⟩ := gsplit h
        refine va_sld C.hx C.hb hX hbl hbA hS g_5 dL_law_135 ?_
        refine lv_aload_n C.hx C.hb dL_law_136 rfl (lv_at hl 0 rfl) ?_
        refine lv_iload_n C.hx C.hb dL_law_137 rfl (lv_at hl 3 rfl) ?_
        refine lv_iconst (v := (4 : Int32)) C.hx C.hb dL_law_138 (by decide) ?_
        refine lv_iadd C.hx C.hb dL_law_139 ?_
        obtain ⟨g_6, h⟩ := gsplit h
        refine va_sld C.hx C.hb hX hbl hbA hS g_6 dL_law_140 ?_
        refine lv_aload_n C.hx C.hb dL_law_141 rfl (lv_at hl 0 rfl) ?_
        refine lv_iload_n C.hx C.hb dL_law_142 rfl (lv_at hl 3 rfl) ?_
        refine lv_iconst (v := (5 : Int32)) C.hx C.hb dL_law_143 (by decide) ?_
        refine lv_iadd C.hx C.hb dL_law_144 ?_
        obtain ⟨g_7, h⟩ := gsplit h
        refine va_sld C.hx C.hb hX hbl hbA hS g_7 dL_law_145 ?_
        obtain ⟨⟨r_8, u_8⟩, e_8, h⟩ := gbind h
        refine lCall (wd := dW cI cZ a1) (Ad := dAd a1) (As := [.int (xs ((x3 + (1 : Int32)).toNatClampNeg)), .int (xs ((x3 + (2 : Int32)).toNatClampNeg)), .int (xs ((x3 + (3 : Int32)).toNatClampNeg)), .int (xs ((x3 + (4 : Int32)).toNatClampNeg)), .int (xs ((x3 + (5 : Int32)).toNatClampNeg))]) (rest := []) C hml hl.1 hS hAd (mX5_file hDd e_8) k_206 k_207 k_208 k_29 k_209 hdX5_file ⟨by show 2 + 1 ≤ 2048; omega, by show 8 + (6 + 11) + 40 ≤ 84000; omega⟩ hPd 0 5 rfl rfl rfl rfl rfl (Nat.le_of_ble_eq_true rfl) dL_law_146 ⟨Nat.le_refl _, Nat.le_refl _⟩ (fun H locs hPd hP2 hS => ?_)
        have hPr := hP2 _ hPr (xr _)
        refine lv_aload_n C.hx C.hb dL_law_149 rfl (lv_at hl 2 rfl) ?_
        refine lv_aload_n C.hx C.hb dL_law_150 rfl (lv_at hl 0 rfl) ?_
        refine lv_iload_n C.hx C.hb dL_law_151 rfl (lv_at hl 3 rfl) ?_
        refine lv_iconst (v := (1 : Int32)) C.hx C.hb dL_law_152 (by decide) ?_
        refine lv_iadd C.hx C.hb dL_law_153 ?_
        refine va_sld C.hx C.hb hX hbl hbA hS g_3 dL_law_154 ?_
        refine lv_aload_n C.hx C.hb dL_law_155 rfl (lv_at hl 0 rfl) ?_
        refine lv_iload_n C.hx C.hb dL_law_156 rfl (lv_at hl 3 rfl) ?_
        refine lv_iconst (v := (2 : Int32)) C.hx C.hb dL_law_157 (by decide) ?_
        refine lv_iadd C.hx C.hb dL_law_158 ?_
        refine va_sld C.hx C.hb hX hbl hbA hS g_4 dL_law_159 ?_
        refine lv_aload_n C.hx C.hb dL_law_160 rfl (lv_at hl 0 rfl) ?_
        refine lv_iload_n C.hx C.hb dL_law_161 rfl (lv_at hl 3 rfl) ?_
        refine lv_iconst (v := (3 : Int32)) C.hx C.hb dL_law_162 (by decide) ?_
        refine lv_iadd C.hx C.hb dL_law_163 ?_
        refine va_sld C.hx C.hb hX hbl hbA hS g_5 dL_law_164 ?_
        refine lv_aload_n C.hx C.hb dL_law_165 rfl (lv_at hl 0 rfl) ?_
        refine lv_iload_n C.hx C.hb dL_law_166 rfl (lv_at hl 3 rfl) ?_
        refine lv_iconst (v := (4 : Int32)) C.hx C.hb dL_law_167 (by decide) ?_
        refine lv_iadd C.hx C.hb dL_law_168 ?_
        refine va_sld C.hx C.hb hX hbl hbA hS g_6 dL_law_169 ?_
        refine lv_aload_n C.hx C.hb dL_law_170 rfl (lv_at hl 0 rfl) ?_
        refine lv_iload_n C.hx C.hb dL_law_171 rfl (lv_at hl 3 rfl) ?_
        refine lv_iconst (v := (5 : Int32)) C.hx C.hb dL_law_172 (by decide) ?_
        refine lv_iadd C.hx C.hb dL_law_173 ?_
        refine va_sld C.hx C.hb hX hbl hbA hS g_7 dL_law_174 ?_
        obtain ⟨⟨r_9, u_9⟩, e_9, h⟩ := gbind h
        refine lCall (wd := rW cI cZ a2) (Ad := rAd a2) (As := [.int (xs ((x3 + (1 : Int32)).toNatClampNeg)), .int (xs ((x3 + (2 : Int32)).toNatClampNeg)), .int (xs ((x3 + (3 : Int32)).toNatClampNeg)), .int (xs ((x3 + (4 : Int32)).toNatClampNeg)), .int (xs ((x3 + (5 : Int32)).toNatClampNeg))]) (rest := [.int r_8]) C hml hl.1 hS hAr (mX6_file hDr e_9) k_503 k_504 k_505 k_36 k_506 hdX6_file ⟨by show 2 + 1 ≤ 2048; omega, by show 8 + (6 + 11) + 42 ≤ 84000; omega⟩ hPr 0 6 rfl rfl rfl rfl rfl (Nat.le_of_ble_eq_true rfl) dL_law_175 ⟨Nat.le_refl _, Nat.le_refl _⟩ (fun H locs hPr hP2 hS => ?_)
        have hPd := hP2 _ hPd (xd _)
        refine lv_icmp_eq (tgt := 710) C.hx C.hb dL_law_178 (by decide) (fun c_10 => ?_) (fun c_10 => ?_)
        · have h := gpos c_10 h
          refine lv_iinc (v := (x3 + (6 : Int32))) (lv' := [(3, .int (x3 + (6 : Int32))), (0, .ref b), (1, .ref (a1 0)), (2, .ref (a2 0))]) C.hx C.hb dL_law_710 hl (k := 3) rfl rfl (by decide) rfl (fun ls hl => ?_)
          refine lv_goto (tgt := 18) C.hx C.hb dL_law_713 (by decide) ?_
          exact ih u_8 u_9 (x3 + (6 : Int32)) _ _ ls (lv_sub hl [1, 2, 3, 0] rfl) hPd hPr hS h
        · have h := gneg c_10 h
          refine lv_iconst (v := (0 : Int32)) C.hx C.hb dL_law_181 (by decide) ?_
          exact absurd h (by decide)
      have h := gneg s_0 h
      by_cases s_1 : ((xs (x3.toNatClampNeg)) &&& (31 : Int32)) = (1 : Int32)
      · have h := gpos s_1 h
        refine lv_tableIn (tgt := 183) (off := 150) C.hx C.hb dL_law_33 (by rw [s_1]; decide) (by rw [s_1]; decide) (by rw [s_1]; rfl) (by decide) ?_
        refine lv_aload_n C.hx C.hb dL_law_183 rfl (lv_at hl 1 rfl) ?_
        refine lv_aload_n C.hx C.hb dL_law_184 rfl (lv_at hl 0 rfl) ?_
        refine lv_iload_n C.hx C.hb dL_law_185 rfl (lv_at hl 3 rfl) ?_
        refine lv_iconst (v := (1 : Int32)) C.hx C.hb dL_law_186 (by decide) ?_
        refine lv_iadd C.hx C.hb dL_law_187 ?_
        obtain ⟨g_11, h⟩ := gsplit h
        refine va_sld C.hx C.hb hX hbl hbA hS g_11 dL_law_188 ?_
        refine lv_aload_n C.hx C.hb dL_law_189 rfl (lv_at hl 0 rfl) ?_
        refine lv_iload_n C.hx C.hb dL_law_190 rfl (lv_at hl 3 rfl) ?_
        refine lv_iconst (v := (2 : Int32)) C.hx C.hb dL_law_191 (by decide) ?_
        refine lv_iadd C.hx C.hb dL_law_192 ?_
        obtain ⟨g_12, h⟩ := gsplit h
        refine va_sld C.hx C.hb hX hbl hbA hS g_12 dL_law_193 ?_
        refine lv_if_eq (tgt := 201) C.hx C.hb dL_law_194 (by decide) (fun c_13 => ?_) (fun c_13 => ?_)
        · have h := gpos c_13 h
          refine lv_iconst (v := (0 : Int32)) C.hx C.hb dL_law_201 (by decide) ?_
          obtain ⟨⟨r_14, u_14⟩, e_14, h⟩ := gbind h
          refine lCall (wd := dW cI cZ a1) (Ad := dAd a1) (As := [.int (xs ((x3 + (1 : Int32)).toNatClampNeg)), .int (0 : Int32)]) (rest := []) C hml hl.1 hS hAd (mX5_loader hDd e_14) k_220 k_221 k_222 k_29 k_223 hdX5_loader ⟨by show 1 + 1 ≤ 2048; omega, by show 8 + (3 + 11) + 22 ≤ 84000; omega⟩ hPd 0 5 rfl rfl rfl rfl rfl (Nat.le_of_ble_eq_true rfl) dL_law_202 ⟨Nat.le_refl _, Nat.le_refl _⟩ (fun H locs hPd hP2 hS => ?_)
          have hPr := hP2 _ hPr (xr _)
          refine lv_aload_n C.hx C.hb dL_law_205 rfl (lv_at hl 2 rfl) ?_
          refine lv_aload_n C.hx C.hb dL_law_206 rfl (lv_at hl 0 rfl) ?_
          refine lv_iload_n C.hx C.hb dL_law_207 rfl (lv_at hl 3 rfl) ?_
          refine lv_iconst (v := (1 : Int32)) C.hx C.hb dL_law_208 (by decide) ?_
          refine lv_iadd C.hx C.hb dL_law_209 ?_
          refine va_sld C.hx C.hb hX hbl hbA hS g_11 dL_law_210 ?_
          refine lv_aload_n C.hx C.hb dL_law_211 rfl (lv_at hl 0 rfl) ?_
          refine lv_iload_n C.hx C.hb dL_law_212 rfl (lv_at hl 3 rfl) ?_
          refine lv_iconst (v := (2 : Int32)) C.hx C.hb dL_law_213 (by decide) ?_
          refine lv_iadd C.hx C.hb dL_law_214 ?_
          refine va_sld C.hx C.hb hX hbl hbA hS g_12 dL_law_215 ?_
          refine lv_if_eq (tgt := 223) C.hx C.hb dL_law_216 (by decide) (fun _ => ?_) (fun c_ => absurd c_13 c_)
          refine lv_iconst (v := (0 : Int32)) C.hx C.hb dL_law_223 (by decide) ?_
          obtain ⟨⟨r_15, u_15⟩, e_15, h⟩ := gbind h
          refine lCall (wd := rW cI cZ a2) (Ad := rAd a2) (As := [.int (xs ((x3 + (1 : Int32)).toNatClampNeg)), .int (0 : Int32)]) (rest := [.int r_14]) C hml hl.1 hS hAr (mX6_loader hDr e_15) k_513 k_514 k_515 k_36 k_516 hdX6_loader ⟨by show 2 + 1 ≤ 2048; omega, by show 8 + (4 + 11) + 43 ≤ 84000; omega⟩ hPr 0 6 rfl rfl rfl rfl rfl (Nat.le_of_ble_eq_true rfl) dL_law_224 ⟨Nat.le_refl _, Nat.le_refl _⟩ (fun H locs hPr hP2 hS => ?_)
          have hPd := hP2 _ hPd (xd _)
          refine lv_icmp_eq (tgt := 710) C.hx C.hb dL_law_227 (by decide) (fun c_16 => ?_) (fun c_16 => ?_)
          · have h := gpos c_16 h
            refine lv_iinc (v := (x3 + (6 : Int32))) (lv' := [(3, .int (x3 + (6 : Int32))), (0, .ref b), (1, .ref (a1 0)), (2, .ref (a2 0))]) C.hx C.hb dL_law_710 hl (k := 3) rfl rfl (by decide) rfl (fun ls hl => ?_)
            refine lv_goto (tgt := 18) C.hx C.hb dL_law_713 (by decide) ?_
            exact ih u_14 u_15 (x3 + (6 : Int32)) _ _ ls (lv_sub hl [1, 2, 3, 0] rfl) hPd hPr hS h
          · have h := gneg c_16 h
            refine lv_iconst (v := (0 : Int32)) C.hx C.hb dL_law_230 (by decide) ?_
            exact absurd h (by decide)
        · have h := gneg c_13 h
          refine lv_iconst (v := (1 : Int32)) C.hx C.hb dL_law_197 (by decide) ?_
          refine lv_goto (tgt := 202) C.hx C.hb dL_law_198 (by decide) ?_
          obtain ⟨⟨r_17, u_17⟩, e_17, h⟩ := gbind h
          refine lCall (wd := dW cI cZ a1) (Ad := dAd a1) (As := [.int (xs ((x3 + (1 : Int32)).toNatClampNeg)), .int (1 : Int32)]) (rest := []) C hml hl.1 hS hAd (mX5_loader hDd e_17) k_220 k_221 k_222 k_29 k_223 hdX5_loader ⟨by show 1 + 1 ≤ 2048; omega, by show 8 + (3 + 11) + 22 ≤ 84000; omega⟩ hPd 0 5 rfl rfl rfl rfl rfl (Nat.le_of_ble_eq_true rfl) dL_law_202 ⟨Nat.le_refl _, Nat.le_refl _⟩ (fun H locs hPd hP2 hS => ?_)
          have hPr := hP2 _ hPr (xr _)
          refine lv_aload_n C.hx C.hb dL_law_205 rfl (lv_at hl 2 rfl) ?_
          refine lv_aload_n C.hx C.hb dL_law_206 rfl (lv_at hl 0 rfl) ?_
          refine lv_iload_n C.hx C.hb dL_law_207 rfl (lv_at hl 3 rfl) ?_
          refine lv_iconst (v := (1 : Int32)) C.hx C.hb dL_law_208 (by decide) ?_
          refine lv_iadd C.hx C.hb dL_law_209 ?_
          refine va_sld C.hx C.hb hX hbl hbA hS g_11 dL_law_210 ?_
          refine lv_aload_n C.hx C.hb dL_law_211 rfl (lv_at hl 0 rfl) ?_
          refine lv_iload_n C.hx C.hb dL_law_212 rfl (lv_at hl 3 rfl) ?_
          refine lv_iconst (v := (2 : Int32)) C.hx C.hb dL_law_213 (by decide) ?_
          refine lv_iadd C.hx C.hb dL_law_214 ?_
          refine va_sld C.hx C.hb hX hbl hbA hS g_12 dL_law_215 ?_
          refine lv_if_eq (tgt := 223) C.hx C.hb dL_law_216 (by decide) (fun c_ => absurd c_ c_13) (fun _ => ?_)
          refine lv_iconst (v := (1 : Int32)) C.hx C.hb dL_law_219 (by decide) ?_
          refine lv_goto (tgt := 224) C.hx C.hb dL_law_220 (by decide) ?_
          obtain ⟨⟨r_18, u_18⟩, e_18, h⟩ := gbind h
          refine lCall (wd := rW cI cZ a2) (Ad := rAd a2) (As := [.int (xs ((x3 + (1 : Int32)).toNatClampNeg)), .int (1 : Int32)]) (rest := [.int r_17]) C hml hl.1 hS hAr (mX6_loader hDr e_18) k_513 k_514 k_515 k_36 k_516 hdX6_loader ⟨by show 2 + 1 ≤ 2048; omega, by show 8 + (4 + 11) + 43 ≤ 84000; omega⟩ hPr 0 6 rfl rfl rfl rfl rfl (Nat.le_of_ble_eq_true rfl) dL_law_224 ⟨Nat.le_refl _, Nat.le_refl _⟩ (fun H locs hPr hP2 hS => ?_)
          have hPd := hP2 _ hPd (xd _)
          refine lv_icmp_eq (tgt := 710) C.hx C.hb dL_law_227 (by decide) (fun c_19 => ?_) (fun c_19 => ?_)
          · have h := gpos c_19 h
            refine lv_iinc (v := (x3 + (6 : Int32))) (lv' := [(3, .int (x3 + (6 : Int32))), (0, .ref b), (1, .ref (a1 0)), (2, .ref (a2 0))]) C.hx C.hb dL_law_710 hl (k := 3) rfl rfl (by decide) rfl (fun ls hl => ?_)
            refine lv_goto (tgt := 18) C.hx C.hb dL_law_713 (by decide) ?_
            exact ih u_17 u_18 (x3 + (6 : Int32)) _ _ ls (lv_sub hl [1, 2, 3, 0] rfl) hPd hPr hS h
          · have h := gneg c_19 h
            refine lv_iconst (v := (0 : Int32)) C.hx C.hb dL_law_230 (by decide) ?_
            exact absurd h (by decide)
      have h := gneg s_1 h
      by_cases s_2 : ((xs (x3.toNatClampNeg)) &&& (31 : Int32)) = (2 : Int32)
      · have h := gpos s_2 h
        refine lv_tableIn (tgt := 232) (off := 199) C.hx C.hb dL_law_33 (by rw [s_2]; decide) (by rw [s_2]; decide) (by rw [s_2]; rfl) (by decide) ?_
        refine lv_aload_n C.hx C.hb dL_law_232 rfl (lv_at hl 1 rfl) ?_
        refine lv_aload_n C.hx C.hb dL_law_233 rfl (lv_at hl 0 rfl) ?_
        refine lv_iload_n C.hx C.hb dL_law_234 rfl (lv_at hl 3 rfl) ?_
        refine lv_iconst (v := (1 : Int32)) C.hx C.hb dL_law_235 (by decide) ?_
        refine lv_iadd C.hx C.hb dL_law_236 ?_
        obtain ⟨g_20, h⟩ := gsplit h
        refine va_sld C.hx C.hb hX hbl hbA hS g_20 dL_law_237 ?_
        refine lv_aload_n C.hx C.hb dL_law_238 rfl (lv_at hl 0 rfl) ?_
        refine lv_iload_n C.hx C.hb dL_law_239 rfl (lv_at hl 3 rfl) ?_
        refine lv_iconst (v := (2 : Int32)) C.hx C.hb dL_law_240 (by decide) ?_
        refine lv_iadd C.hx C.hb dL_law_241 ?_
        obtain ⟨g_21, h⟩ := gsplit h
        refine va_sld C.hx C.hb hX hbl hbA hS g_21 dL_law_242 ?_
        refine lv_aload_n C.hx C.hb dL_law_243 rfl (lv_at hl 0 rfl) ?_
        refine lv_iload_n C.hx C.hb dL_law_244 rfl (lv_at hl 3 rfl) ?_
        refine lv_iconst (v := (3 : Int32)) C.hx C.hb dL_law_245 (by decide) ?_
        refine lv_iadd C.hx C.hb dL_law_246 ?_
        obtain ⟨g_22, h⟩ := gsplit h
        refine va_sld C.hx C.hb hX hbl hbA hS g_22 dL_law_247 ?_
        obtain ⟨⟨r_23, u_23⟩, e_23, h⟩ := gbind h
        refine lCall (wd := dW cI cZ a1) (Ad := dAd a1) (As := [.int (xs ((x3 + (1 : Int32)).toNatClampNeg)), .int (xs ((x3 + (2 : Int32)).toNatClampNeg)), .int (xs ((x3 + (3 : Int32)).toNatClampNeg))]) (rest := []) C hml hl.1 hS hAd (mX5_put hDd e_23) k_236 k_237 k_238 k_29 k_239 hdX5_put ⟨by show 1 + 1 ≤ 2048; omega, by show 8 + (4 + 11) + 21 ≤ 84000; omega⟩ hPd 0 5 rfl rfl rfl rfl rfl (Nat.le_of_ble_eq_true rfl) dL_law_248 ⟨Nat.le_refl _, Nat.le_refl _⟩ (fun H locs hPd hP2 hS => ?_)
        have hPr := hP2 _ hPr (xr _)
        refine lv_aload_n C.hx C.hb dL_law_251 rfl (lv_at hl 2 rfl) ?_
        refine lv_aload_n C.hx C.hb dL_law_252 rfl (lv_at hl 0 rfl) ?_
        refine lv_iload_n C.hx C.hb dL_law_253 rfl (lv_at hl 3 rfl) ?_
        refine lv_iconst (v := (1 : Int32)) C.hx C.hb dL_law_254 (by decide) ?_
        refine lv_iadd C.hx C.hb dL_law_255 ?_
        refine va_sld C.hx C.hb hX hbl hbA hS g_20 dL_law_256 ?_
        refine lv_aload_n C.hx C.hb dL_law_257 rfl (lv_at hl 0 rfl) ?_
        refine lv_iload_n C.hx C.hb dL_law_258 rfl (lv_at hl 3 rfl) ?_
        refine lv_iconst (v := (2 : Int32)) C.hx C.hb dL_law_259 (by decide) ?_
        refine lv_iadd C.hx C.hb dL_law_260 ?_
        refine va_sld C.hx C.hb hX hbl hbA hS g_21 dL_law_261 ?_
        refine lv_aload_n C.hx C.hb dL_law_262 rfl (lv_at hl 0 rfl) ?_
        refine lv_iload_n C.hx C.hb dL_law_263 rfl (lv_at hl 3 rfl) ?_
        refine lv_iconst (v := (3 : Int32)) C.hx C.hb dL_law_264 (by decide) ?_
        refine lv_iadd C.hx C.hb dL_law_265 ?_
        refine va_sld C.hx C.hb hX hbl hbA hS g_22 dL_law_266 ?_
        obtain ⟨⟨r_24, u_24⟩, e_24, h⟩ := gbind h
        refine lCall (wd := rW cI cZ a2) (Ad := rAd a2) (As := [.int (xs ((x3 + (1 : Int32)).toNatClampNeg)), .int (xs ((x3 + (2 : Int32)).toNatClampNeg)), .int (xs ((x3 + (3 : Int32)).toNatClampNeg))]) (rest := [.int r_23]) C hml hl.1 hS hAr (mX6_put hDr e_24) k_521 k_522 k_523 k_36 k_524 hdX6_put ⟨by show 2 + 1 ≤ 2048; omega, by show 8 + (4 + 11) + 43 ≤ 84000; omega⟩ hPr 0 6 rfl rfl rfl rfl rfl (Nat.le_of_ble_eq_true rfl) dL_law_267 ⟨Nat.le_refl _, Nat.le_refl _⟩ (fun H locs hPr hP2 hS => ?_)
        have hPd := hP2 _ hPd (xd _)
        refine lv_icmp_eq (tgt := 710) C.hx C.hb dL_law_270 (by decide) (fun c_25 => ?_) (fun c_25 => ?_)
        · have h := gpos c_25 h
          refine lv_iinc (v := (x3 + (6 : Int32))) (lv' := [(3, .int (x3 + (6 : Int32))), (0, .ref b), (1, .ref (a1 0)), (2, .ref (a2 0))]) C.hx C.hb dL_law_710 hl (k := 3) rfl rfl (by decide) rfl (fun ls hl => ?_)
          refine lv_goto (tgt := 18) C.hx C.hb dL_law_713 (by decide) ?_
          exact ih u_23 u_24 (x3 + (6 : Int32)) _ _ ls (lv_sub hl [1, 2, 3, 0] rfl) hPd hPr hS h
        · have h := gneg c_25 h
          refine lv_iconst (v := (0 : Int32)) C.hx C.hb dL_law_273 (by decide) ?_
          exact absurd h (by decide)
      have h := gneg s_2 h
      by_cases s_3 : ((xs (x3.toNatClampNeg)) &&& (31 : Int32)) = (3 : Int32)
      · have h := gpos s_3 h
        refine lv_tableIn (tgt := 275) (off := 242) C.hx C.hb dL_law_33 (by rw [s_3]; decide) (by rw [s_3]; decide) (by rw [s_3]; rfl) (by decide) ?_
        refine lv_aload_n C.hx C.hb dL_law_275 rfl (lv_at hl 1 rfl) ?_
        refine lv_aload_n C.hx C.hb dL_law_276 rfl (lv_at hl 0 rfl) ?_
        refine lv_iload_n C.hx C.hb dL_law_277 rfl (lv_at hl 3 rfl) ?_
        refine lv_iconst (v := (1 : Int32)) C.hx C.hb dL_law_278 (by decide) ?_
        refine lv_iadd C.hx C.hb dL_law_279 ?_
        obtain ⟨g_26, h⟩ := gsplit h
        refine va_sld C.hx C.hb hX hbl hbA hS g_26 dL_law_280 ?_
        refine lv_aload_n C.hx C.hb dL_law_281 rfl (lv_at hl 0 rfl) ?_
        refine lv_iload_n C.hx C.hb dL_law_282 rfl (lv_at hl 3 rfl) ?_
        refine lv_iconst (v := (2 : Int32)) C.hx C.hb dL_law_283 (by decide) ?_
        refine lv_iadd C.hx C.hb dL_law_284 ?_
        obtain ⟨g_27, h⟩ := gsplit h
        refine va_sld C.hx C.hb hX hbl hbA hS g_27 dL_law_285 ?_
        obtain ⟨⟨r_28, u_28⟩, e_28, h⟩ := gbind h
        refine lCall (wd := dW cI cZ a1) (Ad := dAd a1) (As := [.int (xs ((x3 + (1 : Int32)).toNatClampNeg)), .int (xs ((x3 + (2 : Int32)).toNatClampNeg))]) (rest := []) C hml hl.1 hS hAd (mX5_load hDd e_28) k_247 k_248 k_249 k_29 k_250 hdX5_load ⟨by show 305 + 1 ≤ 2048; omega, by show 8 + (3 + 11) + 8827 ≤ 84000; omega⟩ hPd 0 5 rfl rfl rfl rfl rfl (Nat.le_of_ble_eq_true rfl) dL_law_286 ⟨Nat.le_refl _, Nat.le_refl _⟩ (fun H locs hPd hP2 hS => ?_)
        have hPr := hP2 _ hPr (xr _)
        refine lv_aload_n C.hx C.hb dL_law_289 rfl (lv_at hl 2 rfl) ?_
        refine lv_aload_n C.hx C.hb dL_law_290 rfl (lv_at hl 0 rfl) ?_
        refine lv_iload_n C.hx C.hb dL_law_291 rfl (lv_at hl 3 rfl) ?_
        refine lv_iconst (v := (1 : Int32)) C.hx C.hb dL_law_292 (by decide) ?_
        refine lv_iadd C.hx C.hb dL_law_293 ?_
        refine va_sld C.hx C.hb hX hbl hbA hS g_26 dL_law_294 ?_
        refine lv_aload_n C.hx C.hb dL_law_295 rfl (lv_at hl 0 rfl) ?_
        refine lv_iload_n C.hx C.hb dL_law_296 rfl (lv_at hl 3 rfl) ?_
        refine lv_iconst (v := (2 : Int32)) C.hx C.hb dL_law_297 (by decide) ?_
        refine lv_iadd C.hx C.hb dL_law_298 ?_
        refine va_sld C.hx C.hb hX hbl hbA hS g_27 dL_law_299 ?_
        obtain ⟨⟨r_29, u_29⟩, e_29, h⟩ := gbind h
        refine lCall (wd := rW cI cZ a2) (Ad := rAd a2) (As := [.int (xs ((x3 + (1 : Int32)).toNatClampNeg)), .int (xs ((x3 + (2 : Int32)).toNatClampNeg))]) (rest := [.int r_28]) C hml hl.1 hS hAr (mX6_load hDr e_29) k_529 k_530 k_531 k_36 k_532 hdX6_load ⟨by show 5 + 1 ≤ 2048; omega, by show 8 + (3 + 11) + 117 ≤ 84000; omega⟩ hPr 0 6 rfl rfl rfl rfl rfl (Nat.le_of_ble_eq_true rfl) dL_law_300 ⟨Nat.le_refl _, Nat.le_refl _⟩ (fun H locs hPr hP2 hS => ?_)
        have hPd := hP2 _ hPd (xd _)
        refine lv_icmp_eq (tgt := 710) C.hx C.hb dL_law_303 (by decide) (fun c_30 => ?_) (fun c_30 => ?_)
        · have h := gpos c_30 h
          refine lv_iinc (v := (x3 + (6 : Int32))) (lv' := [(3, .int (x3 + (6 : Int32))), (0, .ref b), (1, .ref (a1 0)), (2, .ref (a2 0))]) C.hx C.hb dL_law_710 hl (k := 3) rfl rfl (by decide) rfl (fun ls hl => ?_)
          refine lv_goto (tgt := 18) C.hx C.hb dL_law_713 (by decide) ?_
          exact ih u_28 u_29 (x3 + (6 : Int32)) _ _ ls (lv_sub hl [1, 2, 3, 0] rfl) hPd hPr hS h
        · have h := gneg c_30 h
          refine lv_iconst (v := (0 : Int32)) C.hx C.hb dL_law_306 (by decide) ?_
          exact absurd h (by decide)
      have h := gneg s_3 h
      by_cases s_4 : ((xs (x3.toNatClampNeg)) &&& (31 : Int32)) = (4 : Int32)
      · have h := gpos s_4 h
        refine lv_tableIn (tgt := 308) (off := 275) C.hx C.hb dL_law_33 (by rw [s_4]; decide) (by rw [s_4]; decide) (by rw [s_4]; rfl) (by decide) ?_
        refine lv_aload_n C.hx C.hb dL_law_308 rfl (lv_at hl 1 rfl) ?_
        refine lv_aload_n C.hx C.hb dL_law_309 rfl (lv_at hl 0 rfl) ?_
        refine lv_iload_n C.hx C.hb dL_law_310 rfl (lv_at hl 3 rfl) ?_
        refine lv_iconst (v := (1 : Int32)) C.hx C.hb dL_law_311 (by decide) ?_
        refine lv_iadd C.hx C.hb dL_law_312 ?_
        obtain ⟨g_31, h⟩ := gsplit h
        refine va_sld C.hx C.hb hX hbl hbA hS g_31 dL_law_313 ?_
        refine lv_aload_n C.hx C.hb dL_law_314 rfl (lv_at hl 0 rfl) ?_
        refine lv_iload_n C.hx C.hb dL_law_315 rfl (lv_at hl 3 rfl) ?_
        refine lv_iconst (v := (2 : Int32)) C.hx C.hb dL_law_316 (by decide) ?_
        refine lv_iadd C.hx C.hb dL_law_317 ?_
        obtain ⟨g_32, h⟩ := gsplit h
        refine va_sld C.hx C.hb hX hbl hbA hS g_32 dL_law_318 ?_
        refine lv_aload_n C.hx C.hb dL_law_319 rfl (lv_at hl 0 rfl) ?_
        refine lv_iload_n C.hx C.hb dL_law_320 rfl (lv_at hl 3 rfl) ?_
        refine lv_iconst (v := (3 : Int32)) C.hx C.hb dL_law_321 (by decide) ?_
        refine lv_iadd C.hx C.hb dL_law_322 ?_
        obtain ⟨g_33, h⟩ := gsplit h
        refine va_sld C.hx C.hb hX hbl hbA hS g_33 dL_law_323 ?_
        obtain ⟨⟨r_34, u_34⟩, e_34, h⟩ := gbind h
        refine lCall (wd := dW cI cZ a1) (Ad := dAd a1) (As := [.int (xs ((x3 + (1 : Int32)).toNatClampNeg)), .int (xs ((x3 + (2 : Int32)).toNatClampNeg)), .int (xs ((x3 + (3 : Int32)).toNatClampNeg))]) (rest := []) C hml hl.1 hS hAd (mX5_define hDd e_34) k_284 k_285 k_286 k_29 k_287 hdX5_define ⟨by show 305 + 1 ≤ 2048; omega, by show 8 + (4 + 11) + 8829 ≤ 84000; omega⟩ hPd 0 5 rfl rfl rfl rfl rfl (Nat.le_of_ble_eq_true rfl) dL_law_324 ⟨Nat.le_refl _, Nat.le_refl _⟩ (fun H locs hPd hP2 hS => ?_)
        have hPr := hP2 _ hPr (xr _)
        refine lv_aload_n C.hx C.hb dL_law_327 rfl (lv_at hl 2 rfl) ?_
        refine lv_aload_n C.hx C.hb dL_law_328 rfl (lv_at hl 0 rfl) ?_
        refine lv_iload_n C.hx C.hb dL_law_329 rfl (lv_at hl 3 rfl) ?_
        refine lv_iconst (v := (1 : Int32)) C.hx C.hb dL_law_330 (by decide) ?_
        refine lv_iadd C.hx C.hb dL_law_331 ?_
        refine va_sld C.hx C.hb hX hbl hbA hS g_31 dL_law_332 ?_
        refine lv_aload_n C.hx C.hb dL_law_333 rfl (lv_at hl 0 rfl) ?_
        refine lv_iload_n C.hx C.hb dL_law_334 rfl (lv_at hl 3 rfl) ?_
        refine lv_iconst (v := (2 : Int32)) C.hx C.hb dL_law_335 (by decide) ?_
        refine lv_iadd C.hx C.hb dL_law_336 ?_
        refine va_sld C.hx C.hb hX hbl hbA hS g_32 dL_law_337 ?_
        refine lv_aload_n C.hx C.hb dL_law_338 rfl (lv_at hl 0 rfl) ?_
        refine lv_iload_n C.hx C.hb dL_law_339 rfl (lv_at hl 3 rfl) ?_
        refine lv_iconst (v := (3 : Int32)) C.hx C.hb dL_law_340 (by decide) ?_
        refine lv_iadd C.hx C.hb dL_law_341 ?_
        refine va_sld C.hx C.hb hX hbl hbA hS g_33 dL_law_342 ?_
        obtain ⟨⟨r_35, u_35⟩, e_35, h⟩ := gbind h
        refine lCall (wd := rW cI cZ a2) (Ad := rAd a2) (As := [.int (xs ((x3 + (1 : Int32)).toNatClampNeg)), .int (xs ((x3 + (2 : Int32)).toNatClampNeg)), .int (xs ((x3 + (3 : Int32)).toNatClampNeg))]) (rest := [.int r_34]) C hml hl.1 hS hAr (mX6_define hDr e_35) k_577 k_578 k_579 k_36 k_580 hdX6_define ⟨by show 5 + 1 ≤ 2048; omega, by show 8 + (4 + 11) + 117 ≤ 84000; omega⟩ hPr 0 6 rfl rfl rfl rfl rfl (Nat.le_of_ble_eq_true rfl) dL_law_343 ⟨Nat.le_refl _, Nat.le_refl _⟩ (fun H locs hPr hP2 hS => ?_)
        have hPd := hP2 _ hPd (xd _)
        refine lv_icmp_eq (tgt := 710) C.hx C.hb dL_law_346 (by decide) (fun c_36 => ?_) (fun c_36 => ?_)
        · have h := gpos c_36 h
          refine lv_iinc (v := (x3 + (6 : Int32))) (lv' := [(3, .int (x3 + (6 : Int32))), (0, .ref b), (1, .ref (a1 0)), (2, .ref (a2 0))]) C.hx C.hb dL_law_710 hl (k := 3) rfl rfl (by decide) rfl (fun ls hl => ?_)
          refine lv_goto (tgt := 18) C.hx C.hb dL_law_713 (by decide) ?_
          exact ih u_34 u_35 (x3 + (6 : Int32)) _ _ ls (lv_sub hl [1, 2, 3, 0] rfl) hPd hPr hS h
        · have h := gneg c_36 h
          refine lv_iconst (v := (0 : Int32)) C.hx C.hb dL_law_349 (by decide) ?_
          exact absurd h (by decide)
      have h := gneg s_4 h
      by_cases s_5 : ((xs (x3.toNatClampNeg)) &&& (31 : Int32)) = (5 : Int32)
      · have h := gpos s_5 h
        refine lv_tableIn (tgt := 351) (off := 318) C.hx C.hb dL_law_33 (by rw [s_5]; decide) (by rw [s_5]; decide) (by rw [s_5]; rfl) (by decide) ?_
        refine lv_aload_n C.hx C.hb dL_law_351 rfl (lv_at hl 1 rfl) ?_
        refine lv_aload_n C.hx C.hb dL_law_352 rfl (lv_at hl 0 rfl) ?_
        refine lv_iload_n C.hx C.hb dL_law_353 rfl (lv_at hl 3 rfl) ?_
        refine lv_iconst (v := (1 : Int32)) C.hx C.hb dL_law_354 (by decide) ?_
        refine lv_iadd C.hx C.hb dL_law_355 ?_
        obtain ⟨g_37, h⟩ := gsplit h
        refine va_sld C.hx C.hb hX hbl hbA hS g_37 dL_law_356 ?_
        refine lv_aload_n C.hx C.hb dL_law_357 rfl (lv_at hl 0 rfl) ?_
        refine lv_iload_n C.hx C.hb dL_law_358 rfl (lv_at hl 3 rfl) ?_
        refine lv_iconst (v := (2 : Int32)) C.hx C.hb dL_law_359 (by decide) ?_
        refine lv_iadd C.hx C.hb dL_law_360 ?_
        obtain ⟨g_38, h⟩ := gsplit h
        refine va_sld C.hx C.hb hX hbl hbA hS g_38 dL_law_361 ?_
        refine lv_aload_n C.hx C.hb dL_law_362 rfl (lv_at hl 0 rfl) ?_
        refine lv_iload_n C.hx C.hb dL_law_363 rfl (lv_at hl 3 rfl) ?_
        refine lv_iconst (v := (3 : Int32)) C.hx C.hb dL_law_364 (by decide) ?_
        refine lv_iadd C.hx C.hb dL_law_365 ?_
        obtain ⟨g_39, h⟩ := gsplit h
        refine va_sld C.hx C.hb hX hbl hbA hS g_39 dL_law_366 ?_
        obtain ⟨⟨r_40, u_40⟩, e_40, h⟩ := gbind h
        refine lCall (wd := dW cI cZ a1) (Ad := dAd a1) (As := [.int (xs ((x3 + (1 : Int32)).toNatClampNeg)), .int (xs ((x3 + (2 : Int32)).toNatClampNeg)), .int (xs ((x3 + (3 : Int32)).toNatClampNeg))]) (rest := []) C hml hl.1 hS hAd (mX5_anew hDd e_40) k_288 k_289 k_290 k_29 k_291 hdX5_anew ⟨by show 305 + 1 ≤ 2048; omega, by show 8 + (4 + 11) + 8829 ≤ 84000; omega⟩ hPd 0 5 rfl rfl rfl rfl rfl (Nat.le_of_ble_eq_true rfl) dL_law_367 ⟨Nat.le_refl _, Nat.le_refl _⟩ (fun H locs hPd hP2 hS => ?_)
        have hPr := hP2 _ hPr (xr _)
        refine lv_aload_n C.hx C.hb dL_law_370 rfl (lv_at hl 2 rfl) ?_
        refine lv_aload_n C.hx C.hb dL_law_371 rfl (lv_at hl 0 rfl) ?_
        refine lv_iload_n C.hx C.hb dL_law_372 rfl (lv_at hl 3 rfl) ?_
        refine lv_iconst (v := (1 : Int32)) C.hx C.hb dL_law_373 (by decide) ?_
        refine lv_iadd C.hx C.hb dL_law_374 ?_
        refine va_sld C.hx C.hb hX hbl hbA hS g_37 dL_law_375 ?_
        refine lv_aload_n C.hx C.hb dL_law_376 rfl (lv_at hl 0 rfl) ?_
        refine lv_iload_n C.hx C.hb dL_law_377 rfl (lv_at hl 3 rfl) ?_
        refine lv_iconst (v := (2 : Int32)) C.hx C.hb dL_law_378 (by decide) ?_
        refine lv_iadd C.hx C.hb dL_law_379 ?_
        refine va_sld C.hx C.hb hX hbl hbA hS g_38 dL_law_380 ?_
        refine lv_aload_n C.hx C.hb dL_law_381 rfl (lv_at hl 0 rfl) ?_
        refine lv_iload_n C.hx C.hb dL_law_382 rfl (lv_at hl 3 rfl) ?_
        refine lv_iconst (v := (3 : Int32)) C.hx C.hb dL_law_383 (by decide) ?_
        refine lv_iadd C.hx C.hb dL_law_384 ?_
        refine va_sld C.hx C.hb hX hbl hbA hS g_39 dL_law_385 ?_
        obtain ⟨⟨r_41, u_41⟩, e_41, h⟩ := gbind h
        refine lCall (wd := rW cI cZ a2) (Ad := rAd a2) (As := [.int (xs ((x3 + (1 : Int32)).toNatClampNeg)), .int (xs ((x3 + (2 : Int32)).toNatClampNeg)), .int (xs ((x3 + (3 : Int32)).toNatClampNeg))]) (rest := [.int r_40]) C hml hl.1 hS hAr (mX6_anew hDr e_41) k_581 k_582 k_583 k_36 k_584 hdX6_anew ⟨by show 5 + 1 ≤ 2048; omega, by show 8 + (5 + 11) + 117 ≤ 84000; omega⟩ hPr 0 6 rfl rfl rfl rfl rfl (Nat.le_of_ble_eq_true rfl) dL_law_386 ⟨Nat.le_refl _, Nat.le_refl _⟩ (fun H locs hPr hP2 hS => ?_)
        have hPd := hP2 _ hPd (xd _)
        refine lv_icmp_eq (tgt := 710) C.hx C.hb dL_law_389 (by decide) (fun c_42 => ?_) (fun c_42 => ?_)
        · have h := gpos c_42 h
          refine lv_iinc (v := (x3 + (6 : Int32))) (lv' := [(3, .int (x3 + (6 : Int32))), (0, .ref b), (1, .ref (a1 0)), (2, .ref (a2 0))]) C.hx C.hb dL_law_710 hl (k := 3) rfl rfl (by decide) rfl (fun ls hl => ?_)
          refine lv_goto (tgt := 18) C.hx C.hb dL_law_713 (by decide) ?_
          exact ih u_40 u_41 (x3 + (6 : Int32)) _ _ ls (lv_sub hl [1, 2, 3, 0] rfl) hPd hPr hS h
        · have h := gneg c_42 h
          refine lv_iconst (v := (0 : Int32)) C.hx C.hb dL_law_392 (by decide) ?_
          exact absurd h (by decide)
      have h := gneg s_5 h
      by_cases s_6 : ((xs (x3.toNatClampNeg)) &&& (31 : Int32)) = (6 : Int32)
      · have h := gpos s_6 h
        refine lv_tableIn (tgt := 394) (off := 361) C.hx C.hb dL_law_33 (by rw [s_6]; decide) (by rw [s_6]; decide) (by rw [s_6]; rfl) (by decide) ?_
        refine lv_aload_n C.hx C.hb dL_law_394 rfl (lv_at hl 1 rfl) ?_
        refine lv_aload_n C.hx C.hb dL_law_395 rfl (lv_at hl 0 rfl) ?_
        refine lv_iload_n C.hx C.hb dL_law_396 rfl (lv_at hl 3 rfl) ?_
        refine lv_iconst (v := (1 : Int32)) C.hx C.hb dL_law_397 (by decide) ?_
        refine lv_iadd C.hx C.hb dL_law_398 ?_
        obtain ⟨g_43, h⟩ := gsplit h
        refine va_sld C.hx C.hb hX hbl hbA hS g_43 dL_law_399 ?_
        refine lv_aload_n C.hx C.hb dL_law_400 rfl (lv_at hl 0 rfl) ?_
        refine lv_iload_n C.hx C.hb dL_law_401 rfl (lv_at hl 3 rfl) ?_
        refine lv_iconst (v := (2 : Int32)) C.hx C.hb dL_law_402 (by decide) ?_
        refine lv_iadd C.hx C.hb dL_law_403 ?_
        obtain ⟨g_44, h⟩ := gsplit h
        refine va_sld C.hx C.hb hX hbl hbA hS g_44 dL_law_404 ?_
        obtain ⟨r_45, e_45, h⟩ := gbind h
        refine lCall (wd := dW cI cZ a1) (Ad := dAd a1) (As := [.int (xs ((x3 + (1 : Int32)).toNatClampNeg)), .int (xs ((x3 + (2 : Int32)).toNatClampNeg))]) (rest := []) C hml hl.1 hS hAd (mX5_known hDd e_45) k_292 k_293 k_294 k_29 k_295 hdX5_known ⟨by show 2 + 1 ≤ 2048; omega, by show 8 + (3 + 11) + 44 ≤ 84000; omega⟩ hPd 0 5 rfl rfl rfl rfl rfl (Nat.le_of_ble_eq_true rfl) dL_law_405 ⟨Nat.le_refl _, Nat.le_refl _⟩ (fun H locs hPd hP2 hS => ?_)
        have hPr := hP2 _ hPr (xr _)
        refine lv_aload_n C.hx C.hb dL_law_408 rfl (lv_at hl 2 rfl) ?_
        refine lv_aload_n C.hx C.hb dL_law_409 rfl (lv_at hl 0 rfl) ?_
        refine lv_iload_n C.hx C.hb dL_law_410 rfl (lv_at hl 3 rfl) ?_
        refine lv_iconst (v := (1 : Int32)) C.hx C.hb dL_law_411 (by decide) ?_
        refine lv_iadd C.hx C.hb dL_law_412 ?_
        refine va_sld C.hx C.hb hX hbl hbA hS g_43 dL_law_413 ?_
        refine lv_aload_n C.hx C.hb dL_law_414 rfl (lv_at hl 0 rfl) ?_
        refine lv_iload_n C.hx C.hb dL_law_415 rfl (lv_at hl 3 rfl) ?_
        refine lv_iconst (v := (2 : Int32)) C.hx C.hb dL_law_416 (by decide) ?_
        refine lv_iadd C.hx C.hb dL_law_417 ?_
        refine va_sld C.hx C.hb hX hbl hbA hS g_44 dL_law_418 ?_
        obtain ⟨r_46, e_46, h⟩ := gbind h
        refine lCall (wd := rW cI cZ a2) (Ad := rAd a2) (As := [.int (xs ((x3 + (1 : Int32)).toNatClampNeg)), .int (xs ((x3 + (2 : Int32)).toNatClampNeg))]) (rest := [.int r_45]) C hml hl.1 hS hAr (mX6_known hDr e_46) k_585 k_586 k_587 k_36 k_588 hdX6_known ⟨by show 2 + 1 ≤ 2048; omega, by show 8 + (4 + 11) + 43 ≤ 84000; omega⟩ hPr 0 6 rfl rfl rfl rfl rfl (Nat.le_of_ble_eq_true rfl) dL_law_419 ⟨Nat.le_refl _, Nat.le_refl _⟩ (fun H locs hPr hP2 hS => ?_)
        have hPd := hP2 _ hPd (xd _)
        refine lv_icmp_eq (tgt := 710) C.hx C.hb dL_law_422 (by decide) (fun c_47 => ?_) (fun c_47 => ?_)
        · have h := gpos c_47 h
          refine lv_iinc (v := (x3 + (6 : Int32))) (lv' := [(3, .int (x3 + (6 : Int32))), (0, .ref b), (1, .ref (a1 0)), (2, .ref (a2 0))]) C.hx C.hb dL_law_710 hl (k := 3) rfl rfl (by decide) rfl (fun ls hl => ?_)
          refine lv_goto (tgt := 18) C.hx C.hb dL_law_713 (by decide) ?_
          exact ih σ τ (x3 + (6 : Int32)) _ _ ls (lv_sub hl [1, 2, 3, 0] rfl) hPd hPr hS h
        · have h := gneg c_47 h
          refine lv_iconst (v := (0 : Int32)) C.hx C.hb dL_law_425 (by decide) ?_
          exact absurd h (by decide)
      have h := gneg s_6 h
      by_cases s_7 : ((xs (x3.toNatClampNeg)) &&& (31 : Int32)) = (7 : Int32)
      · have h := gpos s_7 h
        refine lv_tableIn (tgt := 427) (off := 394) C.hx C.hb dL_law_33 (by rw [s_7]; decide) (by rw [s_7]; decide) (by rw [s_7]; rfl) (by decide) ?_
        refine lv_aload_n C.hx C.hb dL_law_427 rfl (lv_at hl 1 rfl) ?_
        refine lv_aload_n C.hx C.hb dL_law_428 rfl (lv_at hl 0 rfl) ?_
        refine lv_iload_n C.hx C.hb dL_law_429 rfl (lv_at hl 3 rfl) ?_
        refine lv_iconst (v := (1 : Int32)) C.hx C.hb dL_law_430 (by decide) ?_
        refine lv_iadd C.hx C.hb dL_law_431 ?_
        obtain ⟨g_48, h⟩ := gsplit h
        refine va_sld C.hx C.hb hX hbl hbA hS g_48 dL_law_432 ?_
        obtain ⟨⟨r_49, u_49⟩, e_49, h⟩ := gbind h
        refine lCall (wd := dW cI cZ a1) (Ad := dAd a1) (As := [.int (xs ((x3 + (1 : Int32)).toNatClampNeg))]) (rest := []) C hml hl.1 hS hAd (mX5_begin hDd e_49) k_296 k_297 k_298 k_29 k_299 hdX5_begin ⟨by show 308 + 1 ≤ 2048; omega, by show 8 + (2 + 11) + 8894 ≤ 84000; omega⟩ hPd 0 5 rfl rfl rfl rfl rfl (Nat.le_of_ble_eq_true rfl) dL_law_433 ⟨Nat.le_refl _, Nat.le_refl _⟩ (fun H locs hPd hP2 hS => ?_)
        have hPr := hP2 _ hPr (xr _)
        refine lv_aload_n C.hx C.hb dL_law_436 rfl (lv_at hl 2 rfl) ?_
        refine lv_aload_n C.hx C.hb dL_law_437 rfl (lv_at hl 0 rfl) ?_
        refine lv_iload_n C.hx C.hb dL_law_438 rfl (lv_at hl 3 rfl) ?_
        refine lv_iconst (v := (1 : Int32)) C.hx C.hb dL_law_439 (by decide) ?_
        refine lv_iadd C.hx C.hb dL_law_440 ?_
        refine va_sld C.hx C.hb hX hbl hbA hS g_48 dL_law_441 ?_
        obtain ⟨⟨r_50, u_50⟩, e_50, h⟩ := gbind h
        refine lCall (wd := rW cI cZ a2) (Ad := rAd a2) (As := [.int (xs ((x3 + (1 : Int32)).toNatClampNeg))]) (rest := [.int r_49]) C hml hl.1 hS hAr (mX6_begin hDr e_50) k_589 k_590 k_591 k_36 k_592 hdX6_begin ⟨by show 5 + 1 ≤ 2048; omega, by show 8 + (3 + 11) + 117 ≤ 84000; omega⟩ hPr 0 6 rfl rfl rfl rfl rfl (Nat.le_of_ble_eq_true rfl) dL_law_442 ⟨Nat.le_refl _, Nat.le_refl _⟩ (fun H locs hPr hP2 hS => ?_)
        have hPd := hP2 _ hPd (xd _)
        refine lv_icmp_eq (tgt := 710) C.hx C.hb dL_law_445 (by decide) (fun c_51 => ?_) (fun c_51 => ?_)
        · have h := gpos c_51 h
          refine lv_iinc (v := (x3 + (6 : Int32))) (lv' := [(3, .int (x3 + (6 : Int32))), (0, .ref b), (1, .ref (a1 0)), (2, .ref (a2 0))]) C.hx C.hb dL_law_710 hl (k := 3) rfl rfl (by decide) rfl (fun ls hl => ?_)
          refine lv_goto (tgt := 18) C.hx C.hb dL_law_713 (by decide) ?_
          exact ih u_49 u_50 (x3 + (6 : Int32)) _ _ ls (lv_sub hl [1, 2, 3, 0] rfl) hPd hPr hS h
        · have h := gneg c_51 h
          refine lv_iconst (v := (0 : Int32)) C.hx C.hb dL_law_448 (by decide) ?_
          exact absurd h (by decide)
      have h := gneg s_7 h
      by_cases s_8 : ((xs (x3.toNatClampNeg)) &&& (31 : Int32)) = (8 : Int32)
      · have h := gpos s_8 h
        refine lv_tableIn (tgt := 450) (off := 417) C.hx C.hb dL_law_33 (by rw [s_8]; decide) (by rw [s_8]; decide) (by rw [s_8]; rfl) (by decide) ?_
        refine lv_aload_n C.hx C.hb dL_law_450 rfl (lv_at hl 1 rfl) ?_
        refine lv_aload_n C.hx C.hb dL_law_451 rfl (lv_at hl 0 rfl) ?_
        refine lv_iload_n C.hx C.hb dL_law_452 rfl (lv_at hl 3 rfl) ?_
        refine lv_iconst (v := (1 : Int32)) C.hx C.hb dL_law_453 (by decide) ?_
        refine lv_iadd C.hx C.hb dL_law_454 ?_
        obtain ⟨g_52, h⟩ := gsplit h
        refine va_sld C.hx C.hb hX hbl hbA hS g_52 dL_law_455 ?_
        obtain ⟨⟨r_53, u_53⟩, e_53, h⟩ := gbind h
        refine lCall (wd := dW cI cZ a1) (Ad := dAd a1) (As := [.int (xs ((x3 + (1 : Int32)).toNatClampNeg))]) (rest := []) C hml hl.1 hS hAd (mX5_thing hDd e_53) k_328 k_329 k_330 k_29 k_331 hdX5_thing ⟨by show 308 + 1 ≤ 2048; omega, by show 8 + (3 + 11) + 8894 ≤ 84000; omega⟩ hPd 0 5 rfl rfl rfl rfl rfl (Nat.le_of_ble_eq_true rfl) dL_law_456 ⟨Nat.le_refl _, Nat.le_refl _⟩ (fun H locs hPd hP2 hS => ?_)
        have hPr := hP2 _ hPr (xr _)
        refine lv_aload_n C.hx C.hb dL_law_459 rfl (lv_at hl 2 rfl) ?_
        refine lv_aload_n C.hx C.hb dL_law_460 rfl (lv_at hl 0 rfl) ?_
        refine lv_iload_n C.hx C.hb dL_law_461 rfl (lv_at hl 3 rfl) ?_
        refine lv_iconst (v := (1 : Int32)) C.hx C.hb dL_law_462 (by decide) ?_
        refine lv_iadd C.hx C.hb dL_law_463 ?_
        refine va_sld C.hx C.hb hX hbl hbA hS g_52 dL_law_464 ?_
        obtain ⟨⟨r_54, u_54⟩, e_54, h⟩ := gbind h
        refine lCall (wd := rW cI cZ a2) (Ad := rAd a2) (As := [.int (xs ((x3 + (1 : Int32)).toNatClampNeg))]) (rest := [.int r_53]) C hml hl.1 hS hAr (mX6_thing hDr e_54) k_597 k_598 k_599 k_36 k_600 hdX6_thing ⟨by show 5 + 1 ≤ 2048; omega, by show 8 + (3 + 11) + 117 ≤ 84000; omega⟩ hPr 0 6 rfl rfl rfl rfl rfl (Nat.le_of_ble_eq_true rfl) dL_law_465 ⟨Nat.le_refl _, Nat.le_refl _⟩ (fun H locs hPr hP2 hS => ?_)
        have hPd := hP2 _ hPd (xd _)
        refine lv_icmp_eq (tgt := 710) C.hx C.hb dL_law_468 (by decide) (fun c_55 => ?_) (fun c_55 => ?_)
        · have h := gpos c_55 h
          refine lv_iinc (v := (x3 + (6 : Int32))) (lv' := [(3, .int (x3 + (6 : Int32))), (0, .ref b), (1, .ref (a1 0)), (2, .ref (a2 0))]) C.hx C.hb dL_law_710 hl (k := 3) rfl rfl (by decide) rfl (fun ls hl => ?_)
          refine lv_goto (tgt := 18) C.hx C.hb dL_law_713 (by decide) ?_
          exact ih u_53 u_54 (x3 + (6 : Int32)) _ _ ls (lv_sub hl [1, 2, 3, 0] rfl) hPd hPr hS h
        · have h := gneg c_55 h
          refine lv_iconst (v := (0 : Int32)) C.hx C.hb dL_law_471 (by decide) ?_
          exact absurd h (by decide)
      have h := gneg s_8 h
      by_cases s_9 : ((xs (x3.toNatClampNeg)) &&& (31 : Int32)) = (9 : Int32)
      · have h := gpos s_9 h
        refine lv_tableIn (tgt := 473) (off := 440) C.hx C.hb dL_law_33 (by rw [s_9]; decide) (by rw [s_9]; decide) (by rw [s_9]; rfl) (by decide) ?_
        refine lv_aload_n C.hx C.hb dL_law_473 rfl (lv_at hl 1 rfl) ?_
        refine lv_aload_n C.hx C.hb dL_law_474 rfl (lv_at hl 0 rfl) ?_
        refine lv_iload_n C.hx C.hb dL_law_475 rfl (lv_at hl 3 rfl) ?_
        refine lv_iconst (v := (1 : Int32)) C.hx C.hb dL_law_476 (by decide) ?_
        refine lv_iadd C.hx C.hb dL_law_477 ?_
        obtain ⟨g_56, h⟩ := gsplit h
        refine va_sld C.hx C.hb hX hbl hbA hS g_56 dL_law_478 ?_
        refine lv_aload_n C.hx C.hb dL_law_479 rfl (lv_at hl 0 rfl) ?_
        refine lv_iload_n C.hx C.hb dL_law_480 rfl (lv_at hl 3 rfl) ?_
        refine lv_iconst (v := (2 : Int32)) C.hx C.hb dL_law_481 (by decide) ?_
        refine lv_iadd C.hx C.hb dL_law_482 ?_
        obtain ⟨g_57, h⟩ := gsplit h
        refine va_sld C.hx C.hb hX hbl hbA hS g_57 dL_law_483 ?_
        obtain ⟨r_58, e_58, h⟩ := gbind h
        refine lCall (wd := dW cI cZ a1) (Ad := dAd a1) (As := [.int (xs ((x3 + (1 : Int32)).toNatClampNeg)), .int (xs ((x3 + (2 : Int32)).toNatClampNeg))]) (rest := []) C hml hl.1 hS hAd (mX5_cast hDd e_58) k_341 k_342 k_343 k_29 k_344 hdX5_cast ⟨by show 1 + 1 ≤ 2048; omega, by show 8 + (3 + 11) + 24 ≤ 84000; omega⟩ hPd 0 5 rfl rfl rfl rfl rfl (Nat.le_of_ble_eq_true rfl) dL_law_484 ⟨Nat.le_refl _, Nat.le_refl _⟩ (fun H locs hPd hP2 hS => ?_)
        have hPr := hP2 _ hPr (xr _)
        refine lv_aload_n C.hx C.hb dL_law_487 rfl (lv_at hl 2 rfl) ?_
        refine lv_aload_n C.hx C.hb dL_law_488 rfl (lv_at hl 0 rfl) ?_
        refine lv_iload_n C.hx C.hb dL_law_489 rfl (lv_at hl 3 rfl) ?_
        refine lv_iconst (v := (1 : Int32)) C.hx C.hb dL_law_490 (by decide) ?_
        refine lv_iadd C.hx C.hb dL_law_491 ?_
        refine va_sld C.hx C.hb hX hbl hbA hS g_56 dL_law_492 ?_
        refine lv_aload_n C.hx C.hb dL_law_493 rfl (lv_at hl 0 rfl) ?_
        refine lv_iload_n C.hx C.hb dL_law_494 rfl (lv_at hl 3 rfl) ?_
        refine lv_iconst (v := (2 : Int32)) C.hx C.hb dL_law_495 (by decide) ?_
        refine lv_iadd C.hx C.hb dL_law_496 ?_
        refine va_sld C.hx C.hb hX hbl hbA hS g_57 dL_law_497 ?_
        obtain ⟨r_59, e_59, h⟩ := gbind h
        refine lCall (wd := rW cI cZ a2) (Ad := rAd a2) (As := [.int (xs ((x3 + (1 : Int32)).toNatClampNeg)), .int (xs ((x3 + (2 : Int32)).toNatClampNeg))]) (rest := [.int r_58]) C hml hl.1 hS hAr (mX6_cast hDr e_59) k_601 k_602 k_603 k_36 k_604 hdX6_cast ⟨by show 2 + 1 ≤ 2048; omega, by show 8 + (4 + 11) + 43 ≤ 84000; omega⟩ hPr 0 6 rfl rfl rfl rfl rfl (Nat.le_of_ble_eq_true rfl) dL_law_498 ⟨Nat.le_refl _, Nat.le_refl _⟩ (fun H locs hPr hP2 hS => ?_)
        have hPd := hP2 _ hPd (xd _)
        refine lv_icmp_eq (tgt := 710) C.hx C.hb dL_law_501 (by decide) (fun c_60 => ?_) (fun c_60 => ?_)
        · have h := gpos c_60 h
          refine lv_iinc (v := (x3 + (6 : Int32))) (lv' := [(3, .int (x3 + (6 : Int32))), (0, .ref b), (1, .ref (a1 0)), (2, .ref (a2 0))]) C.hx C.hb dL_law_710 hl (k := 3) rfl rfl (by decide) rfl (fun ls hl => ?_)
          refine lv_goto (tgt := 18) C.hx C.hb dL_law_713 (by decide) ?_
          exact ih σ τ (x3 + (6 : Int32)) _ _ ls (lv_sub hl [1, 2, 3, 0] rfl) hPd hPr hS h
        · have h := gneg c_60 h
          refine lv_iconst (v := (0 : Int32)) C.hx C.hb dL_law_504 (by decide) ?_
          exact absurd h (by decide)
      have h := gneg s_9 h
      by_cases s_10 : ((xs (x3.toNatClampNeg)) &&& (31 : Int32)) = (10 : Int32)
      · have h := gpos s_10 h
        refine lv_tableIn (tgt := 506) (off := 473) C.hx C.hb dL_law_33 (by rw [s_10]; decide) (by rw [s_10]; decide) (by rw [s_10]; rfl) (by decide) ?_
        refine lv_aload_n C.hx C.hb dL_law_506 rfl (lv_at hl 1 rfl) ?_
        refine lv_aload_n C.hx C.hb dL_law_507 rfl (lv_at hl 0 rfl) ?_
        refine lv_iload_n C.hx C.hb dL_law_508 rfl (lv_at hl 3 rfl) ?_
        refine lv_iconst (v := (1 : Int32)) C.hx C.hb dL_law_509 (by decide) ?_
        refine lv_iadd C.hx C.hb dL_law_510 ?_
        obtain ⟨g_61, h⟩ := gsplit h
        refine va_sld C.hx C.hb hX hbl hbA hS g_61 dL_law_511 ?_
        obtain ⟨⟨r_62, u_62⟩, e_62, h⟩ := gbind h
        refine lCall (wd := dW cI cZ a1) (Ad := dAd a1) (As := [.int (xs ((x3 + (1 : Int32)).toNatClampNeg))]) (rest := []) C hml hl.1 hS hAd (mX5_drop hDd e_62) k_353 k_354 k_355 k_29 k_356 hdX5_drop ⟨by show 1 + 1 ≤ 2048; omega, by show 8 + (2 + 11) + 21 ≤ 84000; omega⟩ hPd 0 5 rfl rfl rfl rfl rfl (Nat.le_of_ble_eq_true rfl) dL_law_512 ⟨Nat.le_refl _, Nat.le_refl _⟩ (fun H locs hPd hP2 hS => ?_)
        have hPr := hP2 _ hPr (xr _)
        refine lv_aload_n C.hx C.hb dL_law_515 rfl (lv_at hl 2 rfl) ?_
        refine lv_aload_n C.hx C.hb dL_law_516 rfl (lv_at hl 0 rfl) ?_
        refine lv_iload_n C.hx C.hb dL_law_517 rfl (lv_at hl 3 rfl) ?_
        refine lv_iconst (v := (1 : Int32)) C.hx C.hb dL_law_518 (by decide) ?_
        refine lv_iadd C.hx C.hb dL_law_519 ?_
        refine va_sld C.hx C.hb hX hbl hbA hS g_61 dL_law_520 ?_
        obtain ⟨⟨r_63, u_63⟩, e_63, h⟩ := gbind h
        refine lCall (wd := rW cI cZ a2) (Ad := rAd a2) (As := [.int (xs ((x3 + (1 : Int32)).toNatClampNeg))]) (rest := [.int r_62]) C hml hl.1 hS hAr (mX6_drop hDr e_63) k_609 k_610 k_611 k_36 k_612 hdX6_drop ⟨by show 2 + 1 ≤ 2048; omega, by show 8 + (2 + 11) + 43 ≤ 84000; omega⟩ hPr 0 6 rfl rfl rfl rfl rfl (Nat.le_of_ble_eq_true rfl) dL_law_521 ⟨Nat.le_refl _, Nat.le_refl _⟩ (fun H locs hPr hP2 hS => ?_)
        have hPd := hP2 _ hPd (xd _)
        refine lv_icmp_eq (tgt := 710) C.hx C.hb dL_law_524 (by decide) (fun c_64 => ?_) (fun c_64 => ?_)
        · have h := gpos c_64 h
          refine lv_iinc (v := (x3 + (6 : Int32))) (lv' := [(3, .int (x3 + (6 : Int32))), (0, .ref b), (1, .ref (a1 0)), (2, .ref (a2 0))]) C.hx C.hb dL_law_710 hl (k := 3) rfl rfl (by decide) rfl (fun ls hl => ?_)
          refine lv_goto (tgt := 18) C.hx C.hb dL_law_713 (by decide) ?_
          exact ih u_62 u_63 (x3 + (6 : Int32)) _ _ ls (lv_sub hl [1, 2, 3, 0] rfl) hPd hPr hS h
        · have h := gneg c_64 h
          refine lv_iconst (v := (0 : Int32)) C.hx C.hb dL_law_527 (by decide) ?_
          exact absurd h (by decide)
      have h := gneg s_10 h
      by_cases s_11 : ((xs (x3.toNatClampNeg)) &&& (31 : Int32)) = (11 : Int32)
      · have h := gpos s_11 h
        refine lv_tableIn (tgt := 529) (off := 496) C.hx C.hb dL_law_33 (by rw [s_11]; decide) (by rw [s_11]; decide) (by rw [s_11]; rfl) (by decide) ?_
        refine lv_aload_n C.hx C.hb dL_law_529 rfl (lv_at hl 1 rfl) ?_
        refine lv_aload_n C.hx C.hb dL_law_530 rfl (lv_at hl 0 rfl) ?_
        refine lv_iload_n C.hx C.hb dL_law_531 rfl (lv_at hl 3 rfl) ?_
        refine lv_iconst (v := (1 : Int32)) C.hx C.hb dL_law_532 (by decide) ?_
        refine lv_iadd C.hx C.hb dL_law_533 ?_
        obtain ⟨g_65, h⟩ := gsplit h
        refine va_sld C.hx C.hb hX hbl hbA hS g_65 dL_law_534 ?_
        obtain ⟨⟨r_66, u_66⟩, e_66, h⟩ := gbind h
        refine lCall (wd := dW cI cZ a1) (Ad := dAd a1) (As := [.int (xs ((x3 + (1 : Int32)).toNatClampNeg))]) (rest := []) C hml hl.1 hS hAd (mX5_letGo hDd e_66) k_357 k_358 k_359 k_29 k_360 hdX5_letGo ⟨by show 1 + 1 ≤ 2048; omega, by show 8 + (2 + 11) + 22 ≤ 84000; omega⟩ hPd 0 5 rfl rfl rfl rfl rfl (Nat.le_of_ble_eq_true rfl) dL_law_535 ⟨Nat.le_refl _, Nat.le_refl _⟩ (fun H locs hPd hP2 hS => ?_)
        have hPr := hP2 _ hPr (xr _)
        refine lv_aload_n C.hx C.hb dL_law_538 rfl (lv_at hl 2 rfl) ?_
        refine lv_aload_n C.hx C.hb dL_law_539 rfl (lv_at hl 0 rfl) ?_
        refine lv_iload_n C.hx C.hb dL_law_540 rfl (lv_at hl 3 rfl) ?_
        refine lv_iconst (v := (1 : Int32)) C.hx C.hb dL_law_541 (by decide) ?_
        refine lv_iadd C.hx C.hb dL_law_542 ?_
        refine va_sld C.hx C.hb hX hbl hbA hS g_65 dL_law_543 ?_
        obtain ⟨⟨r_67, u_67⟩, e_67, h⟩ := gbind h
        refine lCall (wd := rW cI cZ a2) (Ad := rAd a2) (As := [.int (xs ((x3 + (1 : Int32)).toNatClampNeg))]) (rest := [.int r_66]) C hml hl.1 hS hAr (mX6_letGo hDr e_67) k_613 k_614 k_615 k_36 k_616 hdX6_letGo ⟨by show 2 + 1 ≤ 2048; omega, by show 8 + (4 + 11) + 43 ≤ 84000; omega⟩ hPr 0 6 rfl rfl rfl rfl rfl (Nat.le_of_ble_eq_true rfl) dL_law_544 ⟨Nat.le_refl _, Nat.le_refl _⟩ (fun H locs hPr hP2 hS => ?_)
        have hPd := hP2 _ hPd (xd _)
        refine lv_icmp_eq (tgt := 710) C.hx C.hb dL_law_547 (by decide) (fun c_68 => ?_) (fun c_68 => ?_)
        · have h := gpos c_68 h
          refine lv_iinc (v := (x3 + (6 : Int32))) (lv' := [(3, .int (x3 + (6 : Int32))), (0, .ref b), (1, .ref (a1 0)), (2, .ref (a2 0))]) C.hx C.hb dL_law_710 hl (k := 3) rfl rfl (by decide) rfl (fun ls hl => ?_)
          refine lv_goto (tgt := 18) C.hx C.hb dL_law_713 (by decide) ?_
          exact ih u_66 u_67 (x3 + (6 : Int32)) _ _ ls (lv_sub hl [1, 2, 3, 0] rfl) hPd hPr hS h
        · have h := gneg c_68 h
          refine lv_iconst (v := (0 : Int32)) C.hx C.hb dL_law_550 (by decide) ?_
          exact absurd h (by decide)
      have h := gneg s_11 h
      by_cases s_12 : ((xs (x3.toNatClampNeg)) &&& (31 : Int32)) = (12 : Int32)
      · have h := gpos s_12 h
        refine lv_tableIn (tgt := 552) (off := 519) C.hx C.hb dL_law_33 (by rw [s_12]; decide) (by rw [s_12]; decide) (by rw [s_12]; rfl) (by decide) ?_
        refine lv_aload_n C.hx C.hb dL_law_552 rfl (lv_at hl 1 rfl) ?_
        refine lv_aload_n C.hx C.hb dL_law_553 rfl (lv_at hl 0 rfl) ?_
        refine lv_iload_n C.hx C.hb dL_law_554 rfl (lv_at hl 3 rfl) ?_
        refine lv_iconst (v := (1 : Int32)) C.hx C.hb dL_law_555 (by decide) ?_
        refine lv_iadd C.hx C.hb dL_law_556 ?_
        obtain ⟨g_69, h⟩ := gsplit h
        refine va_sld C.hx C.hb hX hbl hbA hS g_69 dL_law_557 ?_
        obtain ⟨⟨r_70, u_70⟩, e_70, h⟩ := gbind h
        refine lCall (wd := dW cI cZ a1) (Ad := dAd a1) (As := [.int (xs ((x3 + (1 : Int32)).toNatClampNeg))]) (rest := []) C hml hl.1 hS hAd (mX5_held hDd e_70) k_365 k_366 k_367 k_29 k_368 hdX5_held ⟨by show 3 + 1 ≤ 2048; omega, by show 8 + (4 + 11) + 66 ≤ 84000; omega⟩ hPd 0 5 rfl rfl rfl rfl rfl (Nat.le_of_ble_eq_true rfl) dL_law_558 ⟨Nat.le_refl _, Nat.le_refl _⟩ (fun H locs hPd hP2 hS => ?_)
        have hPr := hP2 _ hPr (xr _)
        refine lv_aload_n C.hx C.hb dL_law_561 rfl (lv_at hl 2 rfl) ?_
        refine lv_aload_n C.hx C.hb dL_law_562 rfl (lv_at hl 0 rfl) ?_
        refine lv_iload_n C.hx C.hb dL_law_563 rfl (lv_at hl 3 rfl) ?_
        refine lv_iconst (v := (1 : Int32)) C.hx C.hb dL_law_564 (by decide) ?_
        refine lv_iadd C.hx C.hb dL_law_565 ?_
        refine va_sld C.hx C.hb hX hbl hbA hS g_69 dL_law_566 ?_
        obtain ⟨⟨r_71, u_71⟩, e_71, h⟩ := gbind h
        refine lCall (wd := rW cI cZ a2) (Ad := rAd a2) (As := [.int (xs ((x3 + (1 : Int32)).toNatClampNeg))]) (rest := [.int r_70]) C hml hl.1 hS hAr (mX6_held hDr e_71) k_617 k_618 k_619 k_36 k_620 hdX6_held ⟨by show 2 + 1 ≤ 2048; omega, by show 8 + (4 + 11) + 43 ≤ 84000; omega⟩ hPr 0 6 rfl rfl rfl rfl rfl (Nat.le_of_ble_eq_true rfl) dL_law_567 ⟨Nat.le_refl _, Nat.le_refl _⟩ (fun H locs hPr hP2 hS => ?_)
        have hPd := hP2 _ hPd (xd _)
        refine lv_icmp_eq (tgt := 710) C.hx C.hb dL_law_570 (by decide) (fun c_72 => ?_) (fun c_72 => ?_)
        · have h := gpos c_72 h
          refine lv_iinc (v := (x3 + (6 : Int32))) (lv' := [(3, .int (x3 + (6 : Int32))), (0, .ref b), (1, .ref (a1 0)), (2, .ref (a2 0))]) C.hx C.hb dL_law_710 hl (k := 3) rfl rfl (by decide) rfl (fun ls hl => ?_)
          refine lv_goto (tgt := 18) C.hx C.hb dL_law_713 (by decide) ?_
          exact ih u_70 u_71 (x3 + (6 : Int32)) _ _ ls (lv_sub hl [1, 2, 3, 0] rfl) hPd hPr hS h
        · have h := gneg c_72 h
          refine lv_iconst (v := (0 : Int32)) C.hx C.hb dL_law_573 (by decide) ?_
          exact absurd h (by decide)
      have h := gneg s_12 h
      by_cases s_13 : ((xs (x3.toNatClampNeg)) &&& (31 : Int32)) = (13 : Int32)
      · have h := gpos s_13 h
        refine lv_tableIn (tgt := 575) (off := 542) C.hx C.hb dL_law_33 (by rw [s_13]; decide) (by rw [s_13]; decide) (by rw [s_13]; rfl) (by decide) ?_
        refine lv_aload_n C.hx C.hb dL_law_575 rfl (lv_at hl 1 rfl) ?_
        refine lv_aload_n C.hx C.hb dL_law_576 rfl (lv_at hl 0 rfl) ?_
        refine lv_iload_n C.hx C.hb dL_law_577 rfl (lv_at hl 3 rfl) ?_
        refine lv_iconst (v := (1 : Int32)) C.hx C.hb dL_law_578 (by decide) ?_
        refine lv_iadd C.hx C.hb dL_law_579 ?_
        obtain ⟨g_73, h⟩ := gsplit h
        refine va_sld C.hx C.hb hX hbl hbA hS g_73 dL_law_580 ?_
        obtain ⟨⟨r_74, u_74⟩, e_74, h⟩ := gbind h
        refine lCall (wd := dW cI cZ a1) (Ad := dAd a1) (As := [.int (xs ((x3 + (1 : Int32)).toNatClampNeg))]) (rest := []) C hml hl.1 hS hAd (mX5_isHeld hDd e_74) k_377 k_378 k_379 k_29 k_380 hdX5_isHeld ⟨by show 3 + 1 ≤ 2048; omega, by show 8 + (2 + 11) + 66 ≤ 84000; omega⟩ hPd 0 5 rfl rfl rfl rfl rfl (Nat.le_of_ble_eq_true rfl) dL_law_581 ⟨Nat.le_refl _, Nat.le_refl _⟩ (fun H locs hPd hP2 hS => ?_)
        have hPr := hP2 _ hPr (xr _)
        refine lv_aload_n C.hx C.hb dL_law_584 rfl (lv_at hl 2 rfl) ?_
        refine lv_aload_n C.hx C.hb dL_law_585 rfl (lv_at hl 0 rfl) ?_
        refine lv_iload_n C.hx C.hb dL_law_586 rfl (lv_at hl 3 rfl) ?_
        refine lv_iconst (v := (1 : Int32)) C.hx C.hb dL_law_587 (by decide) ?_
        refine lv_iadd C.hx C.hb dL_law_588 ?_
        refine va_sld C.hx C.hb hX hbl hbA hS g_73 dL_law_589 ?_
        obtain ⟨⟨r_75, u_75⟩, e_75, h⟩ := gbind h
        refine lCall (wd := rW cI cZ a2) (Ad := rAd a2) (As := [.int (xs ((x3 + (1 : Int32)).toNatClampNeg))]) (rest := [.int r_74]) C hml hl.1 hS hAr (mX6_isHeld hDr e_75) k_625 k_626 k_627 k_36 k_628 hdX6_isHeld ⟨by show 2 + 1 ≤ 2048; omega, by show 8 + (2 + 11) + 43 ≤ 84000; omega⟩ hPr 0 6 rfl rfl rfl rfl rfl (Nat.le_of_ble_eq_true rfl) dL_law_590 ⟨Nat.le_refl _, Nat.le_refl _⟩ (fun H locs hPr hP2 hS => ?_)
        have hPd := hP2 _ hPd (xd _)
        refine lv_icmp_eq (tgt := 710) C.hx C.hb dL_law_593 (by decide) (fun c_76 => ?_) (fun c_76 => ?_)
        · have h := gpos c_76 h
          refine lv_iinc (v := (x3 + (6 : Int32))) (lv' := [(3, .int (x3 + (6 : Int32))), (0, .ref b), (1, .ref (a1 0)), (2, .ref (a2 0))]) C.hx C.hb dL_law_710 hl (k := 3) rfl rfl (by decide) rfl (fun ls hl => ?_)
          refine lv_goto (tgt := 18) C.hx C.hb dL_law_713 (by decide) ?_
          exact ih u_74 u_75 (x3 + (6 : Int32)) _ _ ls (lv_sub hl [1, 2, 3, 0] rfl) hPd hPr hS h
        · have h := gneg c_76 h
          refine lv_iconst (v := (0 : Int32)) C.hx C.hb dL_law_596 (by decide) ?_
          exact absurd h (by decide)
      have h := gneg s_13 h
      by_cases s_14 : ((xs (x3.toNatClampNeg)) &&& (31 : Int32)) = (14 : Int32)
      · have h := gpos s_14 h
        refine lv_tableIn (tgt := 598) (off := 565) C.hx C.hb dL_law_33 (by rw [s_14]; decide) (by rw [s_14]; decide) (by rw [s_14]; rfl) (by decide) ?_
        refine lv_aload_n C.hx C.hb dL_law_598 rfl (lv_at hl 1 rfl) ?_
        refine lv_aload_n C.hx C.hb dL_law_599 rfl (lv_at hl 0 rfl) ?_
        refine lv_iload_n C.hx C.hb dL_law_600 rfl (lv_at hl 3 rfl) ?_
        refine lv_iconst (v := (1 : Int32)) C.hx C.hb dL_law_601 (by decide) ?_
        refine lv_iadd C.hx C.hb dL_law_602 ?_
        obtain ⟨g_77, h⟩ := gsplit h
        refine va_sld C.hx C.hb hX hbl hbA hS g_77 dL_law_603 ?_
        refine lv_aload_n C.hx C.hb dL_law_604 rfl (lv_at hl 0 rfl) ?_
        refine lv_iload_n C.hx C.hb dL_law_605 rfl (lv_at hl 3 rfl) ?_
        refine lv_iconst (v := (2 : Int32)) C.hx C.hb dL_law_606 (by decide) ?_
        refine lv_iadd C.hx C.hb dL_law_607 ?_
        obtain ⟨g_78, h⟩ := gsplit h
        refine va_sld C.hx C.hb hX hbl hbA hS g_78 dL_law_608 ?_
        obtain ⟨r_79, e_79, h⟩ := gbind h
        refine lCall (wd := dW cI cZ a1) (Ad := dAd a1) (As := [.int (xs ((x3 + (1 : Int32)).toNatClampNeg)), .int (xs ((x3 + (2 : Int32)).toNatClampNeg))]) (rest := []) C hml hl.1 hS hAd (mX5_about hDd e_79) k_381 k_382 k_383 k_29 k_384 hdX5_about ⟨by show 1 + 1 ≤ 2048; omega, by show 8 + (3 + 11) + 21 ≤ 84000; omega⟩ hPd 0 5 rfl rfl rfl rfl rfl (Nat.le_of_ble_eq_true rfl) dL_law_609 ⟨Nat.le_refl _, Nat.le_refl _⟩ (fun H locs hPd hP2 hS => ?_)
        have hPr := hP2 _ hPr (xr _)
        refine lv_aload_n C.hx C.hb dL_law_612 rfl (lv_at hl 2 rfl) ?_
        refine lv_aload_n C.hx C.hb dL_law_613 rfl (lv_at hl 0 rfl) ?_
        refine lv_iload_n C.hx C.hb dL_law_614 rfl (lv_at hl 3 rfl) ?_
        refine lv_iconst (v := (1 : Int32)) C.hx C.hb dL_law_615 (by decide) ?_
        refine lv_iadd C.hx C.hb dL_law_616 ?_
        refine va_sld C.hx C.hb hX hbl hbA hS g_77 dL_law_617 ?_
        refine lv_aload_n C.hx C.hb dL_law_618 rfl (lv_at hl 0 rfl) ?_
        refine lv_iload_n C.hx C.hb dL_law_619 rfl (lv_at hl 3 rfl) ?_
        refine lv_iconst (v := (2 : Int32)) C.hx C.hb dL_law_620 (by decide) ?_
        refine lv_iadd C.hx C.hb dL_law_621 ?_
        refine va_sld C.hx C.hb hX hbl hbA hS g_78 dL_law_622 ?_
        obtain ⟨r_80, e_80, h⟩ := gbind h
        refine lCall (wd := rW cI cZ a2) (Ad := rAd a2) (As := [.int (xs ((x3 + (1 : Int32)).toNatClampNeg)), .int (xs ((x3 + (2 : Int32)).toNatClampNeg))]) (rest := [.int r_79]) C hml hl.1 hS hAr (mX6_about hDr e_80) k_629 k_630 k_631 k_36 k_632 hdX6_about ⟨by show 2 + 1 ≤ 2048; omega, by show 8 + (3 + 11) + 43 ≤ 84000; omega⟩ hPr 0 6 rfl rfl rfl rfl rfl (Nat.le_of_ble_eq_true rfl) dL_law_623 ⟨Nat.le_refl _, Nat.le_refl _⟩ (fun H locs hPr hP2 hS => ?_)
        have hPd := hP2 _ hPd (xd _)
        refine lv_icmp_eq (tgt := 710) C.hx C.hb dL_law_626 (by decide) (fun c_81 => ?_) (fun c_81 => ?_)
        · have h := gpos c_81 h
          refine lv_iinc (v := (x3 + (6 : Int32))) (lv' := [(3, .int (x3 + (6 : Int32))), (0, .ref b), (1, .ref (a1 0)), (2, .ref (a2 0))]) C.hx C.hb dL_law_710 hl (k := 3) rfl rfl (by decide) rfl (fun ls hl => ?_)
          refine lv_goto (tgt := 18) C.hx C.hb dL_law_713 (by decide) ?_
          exact ih σ τ (x3 + (6 : Int32)) _ _ ls (lv_sub hl [1, 2, 3, 0] rfl) hPd hPr hS h
        · have h := gneg c_81 h
          refine lv_iconst (v := (0 : Int32)) C.hx C.hb dL_law_629 (by decide) ?_
          exact absurd h (by decide)
      have h := gneg s_14 h
      by_cases s_15 : ((xs (x3.toNatClampNeg)) &&& (31 : Int32)) = (15 : Int32)
      · have h := gpos s_15 h
        refine lv_tableIn (tgt := 631) (off := 598) C.hx C.hb dL_law_33 (by rw [s_15]; decide) (by rw [s_15]; decide) (by rw [s_15]; rfl) (by decide) ?_
        refine lv_aload_n C.hx C.hb dL_law_631 rfl (lv_at hl 1 rfl) ?_
        refine lv_aload_n C.hx C.hb dL_law_632 rfl (lv_at hl 0 rfl) ?_
        refine lv_iload_n C.hx C.hb dL_law_633 rfl (lv_at hl 3 rfl) ?_
        refine lv_iconst (v := (1 : Int32)) C.hx C.hb dL_law_634 (by decide) ?_
        refine lv_iadd C.hx C.hb dL_law_635 ?_
        obtain ⟨g_82, h⟩ := gsplit h
        refine va_sld C.hx C.hb hX hbl hbA hS g_82 dL_law_636 ?_
        refine lv_aload_n C.hx C.hb dL_law_637 rfl (lv_at hl 0 rfl) ?_
        refine lv_iload_n C.hx C.hb dL_law_638 rfl (lv_at hl 3 rfl) ?_
        refine lv_iconst (v := (2 : Int32)) C.hx C.hb dL_law_639 (by decide) ?_
        refine lv_iadd C.hx C.hb dL_law_640 ?_
        obtain ⟨g_83, h⟩ := gsplit h
        refine va_sld C.hx C.hb hX hbl hbA hS g_83 dL_law_641 ?_
        obtain ⟨r_84, e_84, h⟩ := gbind h
        refine lCall (wd := dW cI cZ a1) (Ad := dAd a1) (As := [.int (xs ((x3 + (1 : Int32)).toNatClampNeg)), .int (xs ((x3 + (2 : Int32)).toNatClampNeg))]) (rest := []) C hml hl.1 hS hAd (mX5_aboutThing hDd e_84) k_385 k_386 k_387 k_29 k_388 hdX5_aboutThing ⟨by show 1 + 1 ≤ 2048; omega, by show 8 + (3 + 11) + 21 ≤ 84000; omega⟩ hPd 0 5 rfl rfl rfl rfl rfl (Nat.le_of_ble_eq_true rfl) dL_law_642 ⟨Nat.le_refl _, Nat.le_refl _⟩ (fun H locs hPd hP2 hS => ?_)
        have hPr := hP2 _ hPr (xr _)
        refine lv_aload_n C.hx C.hb dL_law_645 rfl (lv_at hl 2 rfl) ?_
        refine lv_aload_n C.hx C.hb dL_law_646 rfl (lv_at hl 0 rfl) ?_
        refine lv_iload_n C.hx C.hb dL_law_647 rfl (lv_at hl 3 rfl) ?_
        refine lv_iconst (v := (1 : Int32)) C.hx C.hb dL_law_648 (by decide) ?_
        refine lv_iadd C.hx C.hb dL_law_649 ?_
        refine va_sld C.hx C.hb hX hbl hbA hS g_82 dL_law_650 ?_
        refine lv_aload_n C.hx C.hb dL_law_651 rfl (lv_at hl 0 rfl) ?_
        refine lv_iload_n C.hx C.hb dL_law_652 rfl (lv_at hl 3 rfl) ?_
        refine lv_iconst (v := (2 : Int32)) C.hx C.hb dL_law_653 (by decide) ?_
        refine lv_iadd C.hx C.hb dL_law_654 ?_
        refine va_sld C.hx C.hb hX hbl hbA hS g_83 dL_law_655 ?_
        obtain ⟨r_85, e_85, h⟩ := gbind h
        refine lCall (wd := rW cI cZ a2) (Ad := rAd a2) (As := [.int (xs ((x3 + (1 : Int32)).toNatClampNeg)), .int (xs ((x3 + (2 : Int32)).toNatClampNeg))]) (rest := [.int r_84]) C hml hl.1 hS hAr (mX6_aboutThing hDr e_85) k_633 k_634 k_635 k_36 k_636 hdX6_aboutThing ⟨by show 2 + 1 ≤ 2048; omega, by show 8 + (3 + 11) + 43 ≤ 84000; omega⟩ hPr 0 6 rfl rfl rfl rfl rfl (Nat.le_of_ble_eq_true rfl) dL_law_656 ⟨Nat.le_refl _, Nat.le_refl _⟩ (fun H locs hPr hP2 hS => ?_)
        have hPd := hP2 _ hPd (xd _)
        refine lv_icmp_eq (tgt := 710) C.hx C.hb dL_law_659 (by decide) (fun c_86 => ?_) (fun c_86 => ?_)
        · have h := gpos c_86 h
          refine lv_iinc (v := (x3 + (6 : Int32))) (lv' := [(3, .int (x3 + (6 : Int32))), (0, .ref b), (1, .ref (a1 0)), (2, .ref (a2 0))]) C.hx C.hb dL_law_710 hl (k := 3) rfl rfl (by decide) rfl (fun ls hl => ?_)
          refine lv_goto (tgt := 18) C.hx C.hb dL_law_713 (by decide) ?_
          exact ih σ τ (x3 + (6 : Int32)) _ _ ls (lv_sub hl [1, 2, 3, 0] rfl) hPd hPr hS h
        · have h := gneg c_86 h
          refine lv_iconst (v := (0 : Int32)) C.hx C.hb dL_law_662 (by decide) ?_
          exact absurd h (by decide)
      have h := gneg s_15 h
      by_cases s_16 : ((xs (x3.toNatClampNeg)) &&& (31 : Int32)) = (16 : Int32)
      · have h := gpos s_16 h
        refine lv_tableIn (tgt := 664) (off := 631) C.hx C.hb dL_law_33 (by rw [s_16]; decide) (by rw [s_16]; decide) (by rw [s_16]; rfl) (by decide) ?_
        refine lv_aload_n C.hx C.hb dL_law_664 rfl (lv_at hl 1 rfl) ?_
        refine lv_aload_n C.hx C.hb dL_law_665 rfl (lv_at hl 0 rfl) ?_
        refine lv_iload_n C.hx C.hb dL_law_666 rfl (lv_at hl 3 rfl) ?_
        refine lv_iconst (v := (1 : Int32)) C.hx C.hb dL_law_667 (by decide) ?_
        refine lv_iadd C.hx C.hb dL_law_668 ?_
        obtain ⟨g_87, h⟩ := gsplit h
        refine va_sld C.hx C.hb hX hbl hbA hS g_87 dL_law_669 ?_
        obtain ⟨r_88, e_88, h⟩ := gbind h
        refine lCall (wd := dW cI cZ a1) (Ad := dAd a1) (As := [.int (xs ((x3 + (1 : Int32)).toNatClampNeg))]) (rest := []) C hml hl.1 hS hAd (mX5_order hDd e_88) k_389 k_390 k_391 k_29 k_392 hdX5_order ⟨by show 0 + 1 ≤ 2048; omega, by show 8 + (2 + 11) + 0 ≤ 84000; omega⟩ hPd 0 5 rfl rfl rfl rfl rfl (Nat.le_of_ble_eq_true rfl) dL_law_670 ⟨Nat.le_refl _, Nat.le_refl _⟩ (fun H locs hPd hP2 hS => ?_)
        have hPr := hP2 _ hPr (xr _)
        refine lv_aload_n C.hx C.hb dL_law_673 rfl (lv_at hl 2 rfl) ?_
        refine lv_aload_n C.hx C.hb dL_law_674 rfl (lv_at hl 0 rfl) ?_
        refine lv_iload_n C.hx C.hb dL_law_675 rfl (lv_at hl 3 rfl) ?_
        refine lv_iconst (v := (1 : Int32)) C.hx C.hb dL_law_676 (by decide) ?_
        refine lv_iadd C.hx C.hb dL_law_677 ?_
        refine va_sld C.hx C.hb hX hbl hbA hS g_87 dL_law_678 ?_
        obtain ⟨r_89, e_89, h⟩ := gbind h
        refine lCall (wd := rW cI cZ a2) (Ad := rAd a2) (As := [.int (xs ((x3 + (1 : Int32)).toNatClampNeg))]) (rest := [.int r_88]) C hml hl.1 hS hAr (mX6_order hDr e_89) k_637 k_638 k_639 k_36 k_640 hdX6_order ⟨by show 1 + 1 ≤ 2048; omega, by show 8 + (2 + 11) + 22 ≤ 84000; omega⟩ hPr 0 6 rfl rfl rfl rfl rfl (Nat.le_of_ble_eq_true rfl) dL_law_679 ⟨Nat.le_refl _, Nat.le_refl _⟩ (fun H locs hPr hP2 hS => ?_)
        have hPd := hP2 _ hPd (xd _)
        refine lv_icmp_eq (tgt := 710) C.hx C.hb dL_law_682 (by decide) (fun c_90 => ?_) (fun c_90 => ?_)
        · have h := gpos c_90 h
          refine lv_iinc (v := (x3 + (6 : Int32))) (lv' := [(3, .int (x3 + (6 : Int32))), (0, .ref b), (1, .ref (a1 0)), (2, .ref (a2 0))]) C.hx C.hb dL_law_710 hl (k := 3) rfl rfl (by decide) rfl (fun ls hl => ?_)
          refine lv_goto (tgt := 18) C.hx C.hb dL_law_713 (by decide) ?_
          exact ih σ τ (x3 + (6 : Int32)) _ _ ls (lv_sub hl [1, 2, 3, 0] rfl) hPd hPr hS h
        · have h := gneg c_90 h
          refine lv_iconst (v := (0 : Int32)) C.hx C.hb dL_law_685 (by decide) ?_
          exact absurd h (by decide)
      have h := gneg s_16 h
      by_cases s_17 : ((xs (x3.toNatClampNeg)) &&& (31 : Int32)) = (17 : Int32)
      · have h := gpos s_17 h
        refine lv_tableIn (tgt := 687) (off := 654) C.hx C.hb dL_law_33 (by rw [s_17]; decide) (by rw [s_17]; decide) (by rw [s_17]; rfl) (by decide) ?_
        refine lv_aload_n C.hx C.hb dL_law_687 rfl (lv_at hl 1 rfl) ?_
        refine lv_aload_n C.hx C.hb dL_law_688 rfl (lv_at hl 0 rfl) ?_
        refine lv_iload_n C.hx C.hb dL_law_689 rfl (lv_at hl 3 rfl) ?_
        refine lv_iconst (v := (1 : Int32)) C.hx C.hb dL_law_690 (by decide) ?_
        refine lv_iadd C.hx C.hb dL_law_691 ?_
        obtain ⟨g_91, h⟩ := gsplit h
        refine va_sld C.hx C.hb hX hbl hbA hS g_91 dL_law_692 ?_
        obtain ⟨r_92, e_92, h⟩ := gbind h
        refine lCall (wd := dW cI cZ a1) (Ad := dAd a1) (As := [.int (xs ((x3 + (1 : Int32)).toNatClampNeg))]) (rest := []) C hml hl.1 hS hAd (mX5_count hDd e_92) k_393 k_394 k_395 k_29 k_396 hdX5_count ⟨by show 0 + 1 ≤ 2048; omega, by show 8 + (2 + 11) + 0 ≤ 84000; omega⟩ hPd 0 5 rfl rfl rfl rfl rfl (Nat.le_of_ble_eq_true rfl) dL_law_693 ⟨Nat.le_refl _, Nat.le_refl _⟩ (fun H locs hPd hP2 hS => ?_)
        have hPr := hP2 _ hPr (xr _)
        refine lv_aload_n C.hx C.hb dL_law_696 rfl (lv_at hl 2 rfl) ?_
        refine lv_aload_n C.hx C.hb dL_law_697 rfl (lv_at hl 0 rfl) ?_
        refine lv_iload_n C.hx C.hb dL_law_698 rfl (lv_at hl 3 rfl) ?_
        refine lv_iconst (v := (1 : Int32)) C.hx C.hb dL_law_699 (by decide) ?_
        refine lv_iadd C.hx C.hb dL_law_700 ?_
        refine va_sld C.hx C.hb hX hbl hbA hS g_91 dL_law_701 ?_
        obtain ⟨r_93, e_93, h⟩ := gbind h
        refine lCall (wd := rW cI cZ a2) (Ad := rAd a2) (As := [.int (xs ((x3 + (1 : Int32)).toNatClampNeg))]) (rest := [.int r_92]) C hml hl.1 hS hAr (mX6_count hDr e_93) k_641 k_642 k_643 k_36 k_644 hdX6_count ⟨by show 0 + 1 ≤ 2048; omega, by show 8 + (2 + 11) + 0 ≤ 84000; omega⟩ hPr 0 6 rfl rfl rfl rfl rfl (Nat.le_of_ble_eq_true rfl) dL_law_702 ⟨Nat.le_refl _, Nat.le_refl _⟩ (fun H locs hPr hP2 hS => ?_)
        have hPd := hP2 _ hPd (xd _)
        refine lv_icmp_eq (tgt := 710) C.hx C.hb dL_law_705 (by decide) (fun c_94 => ?_) (fun c_94 => ?_)
        · have h := gpos c_94 h
          refine lv_iinc (v := (x3 + (6 : Int32))) (lv' := [(3, .int (x3 + (6 : Int32))), (0, .ref b), (1, .ref (a1 0)), (2, .ref (a2 0))]) C.hx C.hb dL_law_710 hl (k := 3) rfl rfl (by decide) rfl (fun ls hl => ?_)
          refine lv_goto (tgt := 18) C.hx C.hb dL_law_713 (by decide) ?_
          exact ih σ τ (x3 + (6 : Int32)) _ _ ls (lv_sub hl [1, 2, 3, 0] rfl) hPd hPr hS h
        · have h := gneg c_94 h
          refine lv_iconst (v := (0 : Int32)) C.hx C.hb dL_law_708 (by decide) ?_
          exact absurd h (by decide)
      have h := gneg s_17 h
      have t_0 : (((xs (x3.toNatClampNeg)) &&& (31 : Int32))).toInt ≠ 0 := sw_ne (by decide) s_0
      have t_1 : (((xs (x3.toNatClampNeg)) &&& (31 : Int32))).toInt ≠ 1 := sw_ne (by decide) s_1
      have t_2 : (((xs (x3.toNatClampNeg)) &&& (31 : Int32))).toInt ≠ 2 := sw_ne (by decide) s_2
      have t_3 : (((xs (x3.toNatClampNeg)) &&& (31 : Int32))).toInt ≠ 3 := sw_ne (by decide) s_3
      have t_4 : (((xs (x3.toNatClampNeg)) &&& (31 : Int32))).toInt ≠ 4 := sw_ne (by decide) s_4
      have t_5 : (((xs (x3.toNatClampNeg)) &&& (31 : Int32))).toInt ≠ 5 := sw_ne (by decide) s_5
      have t_6 : (((xs (x3.toNatClampNeg)) &&& (31 : Int32))).toInt ≠ 6 := sw_ne (by decide) s_6
      have t_7 : (((xs (x3.toNatClampNeg)) &&& (31 : Int32))).toInt ≠ 7 := sw_ne (by decide) s_7
      have t_8 : (((xs (x3.toNatClampNeg)) &&& (31 : Int32))).toInt ≠ 8 := sw_ne (by decide) s_8
      have t_9 : (((xs (x3.toNatClampNeg)) &&& (31 : Int32))).toInt ≠ 9 := sw_ne (by decide) s_9
      have t_10 : (((xs (x3.toNatClampNeg)) &&& (31 : Int32))).toInt ≠ 10 := sw_ne (by decide) s_10
      have t_11 : (((xs (x3.toNatClampNeg)) &&& (31 : Int32))).toInt ≠ 11 := sw_ne (by decide) s_11
      have t_12 : (((xs (x3.toNatClampNeg)) &&& (31 : Int32))).toInt ≠ 12 := sw_ne (by decide) s_12
      have t_13 : (((xs (x3.toNatClampNeg)) &&& (31 : Int32))).toInt ≠ 13 := sw_ne (by decide) s_13
      have t_14 : (((xs (x3.toNatClampNeg)) &&& (31 : Int32))).toInt ≠ 14 := sw_ne (by decide) s_14
      have t_15 : (((xs (x3.toNatClampNeg)) &&& (31 : Int32))).toInt ≠ 15 := sw_ne (by decide) s_15
      have t_16 : (((xs (x3.toNatClampNeg)) &&& (31 : Int32))).toInt ≠ 16 := sw_ne (by decide) s_16
      have t_17 : (((xs (x3.toNatClampNeg)) &&& (31 : Int32))).toInt ≠ 17 := sw_ne (by decide) s_17
      refine lv_tableOut (tgt := 710) C.hx C.hb dL_law_33 (by omega) (by decide) ?_
      refine lv_iinc (v := (x3 + (6 : Int32))) (lv' := [(3, .int (x3 + (6 : Int32))), (0, .ref b), (1, .ref (a1 0)), (2, .ref (a2 0))]) C.hx C.hb dL_law_710 hl (k := 3) rfl rfl (by decide) rfl (fun ls hl => ?_)
      refine lv_goto (tgt := 18) C.hx C.hb dL_law_713 (by decide) ?_
      exact ih σ τ (x3 + (6 : Int32)) _ _ ls (lv_sub hl [1, 2, 3, 0] rfl) hPd hPr hS h
theorem arr_known {ty : FieldType} {args : Array Value} {s : State} (hp : ∀ C, ty ≠ .object C) (h : (Cond.arrayClass ty).before args s = true) : ∃ cA : ClassId, ArrOfT s cA ty ∧ va_RA s cA ty := by
  obtain ⟨cA, kA, comp, h1, h2, h3⟩ := Cond.arrayClass_spec h
  refine ⟨cA, fun n z => ⟨fun k h => (by cases h), kA, h2, comp, h3⟩, ?_⟩
  cases ty with
  | object C => exact absurd rfl (hp C)
  | _ => exact h1
set_option maxHeartbeats 8000000 in
set_option maxRecDepth 100000 in
/-- the walk of the law, out of what its pure function answers -/
theorem whole_open (pure : ∀ (L : Nat) (xs : Nat → Int32), L ≤ 3072 → ∃ fu n : Nat, sLaw fu xs L n dS0 rS0 0 = some 1) {p : Program} {e : Env} {s : State} {m : MethodId} {below : List Frame} {meth : Method} {c : Code} (l : Launch) {b L : Nat} {xs : Nat → Int32} (hL : L ≤ 3072) (C0 : lw_At p s m meth c b L xs) : W p l e room_1 s m #[Value.ref b] below meth c s.heap [] 0 0 (lw_Z below #[Value.ref b] s) (entryFrame m ([Value.ref b] : List Value).toArray 4) := by
  obtain ⟨hx, hb, hr, hml, hown, hts0, hX, hbl, hlocks, hgv⟩ := id C0
  have hts : ∀ w ∈ lw_good, w.before #[Value.ref b] s = true := fun w h => hts0 w (good_in h)
  have hA : ∀ q : Nat, s.heap.size ≤ q → (fun q : Nat => s.heap.size ≤ q) q := fun _ h => h
  have hbA : ¬ (fun q : Nat => s.heap.size ≤ q) b := Nat.not_le.mpr hbl
  obtain ⟨c0, iS0, hKn0⟩ := u_known (C := RX0) (T := TX0) (N := 6) (n := 6) hts iX0 (hts _ k_46)
  obtain ⟨c1, iS1, hKn1⟩ := u_known (C := RX1) (T := TX1) (N := 8) (n := 8) hts iX1 (hts _ k_77)
  obtain ⟨c2, iS2, hKn2⟩ := u_known (C := RX2) (T := TX2) (N := 6) (n := 6) hts iX2 (hts _ k_120)
  obtain ⟨c3, iS3, hKn3⟩ := u_known (C := RX3) (T := TX3) (N := 2) (n := 2) hts iX3 (hts _ k_170)
  obtain ⟨c4, iS4, hKn4⟩ := u_known (C := RX4) (T := TX4) (N := 3) (n := 3) hts iX4 (hts _ k_151)
  obtain ⟨c5, iS5, hKn5⟩ := u_known (C := RX5) (T := TX5) (N := 7) (n := 7) hts iX5 (hts _ k_38)
  obtain ⟨c6, iS6, hKn6⟩ := u_known (C := RX6) (T := TX6) (N := 33) (n := 33) hts iX6 (hts _ k_398)
  obtain ⟨dC, dI, hKc⟩ : ∃ (dC : Nat → ClassId) (dI : Nat → Nat → Nat), ∀ (k : Nat) (q : vw_C), vwCl[k]? = some q → u_Kn s q.1 q.2.1 q.2.2 (dC k) (dI k) := by
    refine ⟨fun k => match k with | 0 => c0 | 1 => c1 | 2 => c2 | 3 => c3 | 4 => c4 | 5 => c5 | _ => c6, fun k => match k with | 0 => iS0 | 1 => iS1 | 2 => iS2 | 3 => iS3 | 4 => iS4 | 5 => iS5 | _ => iS6, ?_⟩
    intro k q hq
    match k, hq with
    | 0, hq => cases hq; exact hKn0
    | 1, hq => cases hq; exact hKn1
    | 2, hq => cases hq; exact hKn2
    | 3, hq => cases hq; exact hKn3
    | 4, hq => cases hq; exact hKn4
    | 5, hq => cases hq; exact hKn5
    | 6, hq => cases hq; exact hKn6
    | k + 7, hq => simp [vwCl] at hq
  obtain ⟨cI, hI1, hI2⟩ := arr_known (ty := .int) (fun C => by intro h; cases h) (hts _ k_75)
  obtain ⟨cZ, hZ1, hZ2⟩ := arr_known (ty := .boolean) (fun C => by intro h; cases h) (hts _ k_118)
  have hK : va_K (dC, dI) vwCl [(cI, .int), (cZ, .boolean)] s := by
    refine ⟨hKc, fun k q h => ?_⟩
    match k, h with
    | 0, h => cases h; exact ⟨hI1, hI2⟩
    | 1, h => cases h; exact ⟨hZ1, hZ2⟩
    | k + 2, h => simp at h
  have hN : va_Nw nl_slot s := va_Nw.of rfl (hts0 _ (List.mem_of_getElem? (i := 259) rfl))
  have hNs : ∀ w ∈ nl_all, va_Nw w s := by
    intro w hw
    have hw0 := hw
    simp only [nl_all, List.mem_cons, List.not_mem_nil, or_false] at hw
    rcases hw with rfl | rfl | rfl | rfl
    · exact va_Nw.of rfl (hts0 _ (List.mem_of_getElem? (i := 47) rfl))
    · exact va_Nw.of rfl (hts0 _ (List.mem_of_getElem? (i := 121) rfl))
    · exact va_Nw.of rfl (hts0 _ (List.mem_of_getElem? (i := 152) rfl))
    · exact va_Nw.of rfl (hts0 _ (List.mem_of_getElem? (i := 171) rfl))
  have C : Cx RL cL_law (dC, dI) cI cZ p s m #[Value.ref b] c := ⟨hx, hb, hown, hts, hK, hN⟩
  have hS : va_S (fun q : Nat => s.heap.size ≤ q) s.heap s.heap [] := va_S.rf
  have hP : va_P (dC, dI) vwCl [] s.heap := fun k q h => by simp at h
  have hD : va_D (fun q : Nat => s.heap.size ≤ q) [] := ⟨fun i j p q h => by simp at h, fun k q h => by simp at h⟩
  have hl := lv_entry ([.ref b]) (n := 4) (Nat.le_of_ble_eq_true rfl)
  rw [lg_entry_eq]
  generalize (lg_sl ([.ref b]) ++ List.replicate (4 - (lg_sl ([.ref b])).length) Slot.unset).toArray = ls at hl ⊢
  have hl : lv_has ls 4 [(0, .ref b)] := hl
  refine gx_new C hP hD hS hA (ci := 5) (fs := [.null, .null, .null, .null, .null, .null, .null]) (X := RX5) (T := TX5) (N := 7) rfl iX5 tyX5 tyX5_ok k_37 k_38 k_29 (fun j hj => by rcases (show j = 0 ∨ j = 1 ∨ j = 2 ∨ j = 3 ∨ j = 4 ∨ j = 5 ∨ j = 6 by omega) with rfl | rfl | rfl | rfl | rfl | rfl | rfl <;> rfl) (Nat.le_of_ble_eq_true rfl) (Nat.le_of_ble_eq_true rfl) dL_law_0 (fun q1 H hP hD hS => ?_)
  have hP : va_P (dC, dI) vwCl [(q1, .inr (5, [.null, .null, .null, .null, .null, .null, .null]))] H := hP
  have hD : va_D (fun q : Nat => s.heap.size ≤ q) [(q1, .inr (5, [.null, .null, .null, .null, .null, .null, .null]))] := hD
  refine lv_dup C.hx C.hb dL_law_3 rfl ?_
  refine cCall (wr := []) C hP hD hS hA 0 [] rfl rfl (by decide) (by decide) (cRunI C hNs hml hl.1 hP (fun sz => nX5_init sz) k_39 k_40 k_29 k_41 rfl (by decide +kernel) ⟨Nat.le_of_ble_eq_true rfl, Nat.le_of_ble_eq_true rfl⟩ (Nat.le_of_ble_eq_true rfl) dL_law_4 ⟨Nat.le_of_ble_eq_true rfl, Nat.le_of_ble_eq_true rfl⟩) (fun u1 H locs hP hD hS => ?_)
  have hP : va_P (dC, dI) vwCl (dW cI cZ (aOf q1 u1) dS0) H := hP
  have hD : va_D (fun q : Nat => s.heap.size ≤ q) (dW cI cZ (aOf q1 u1) dS0) := hD
  refine lv_astore_n (lv' := [(1, .ref q1), (0, .ref b)]) C.hx C.hb dL_law_7 rfl hl (by decide) rfl (fun ls hl => ?_)
  refine gx_new C hP hD hS hA (ci := 6) (fs := [.int 0, .null, .null, .null, .null, .null, .int 0, .null, .null, .null, .null, .null, .null, .null, .int 0, .null, .null, .null, .null, .null, .int 0, .null, .null, .int 0, .null, .int 0, .null, .null, .null, .null, .null, .int 0, .null]) (X := RX6) (T := TX6) (N := 33) rfl iX6 tyX6 tyX6_ok k_397 k_398 k_36 (fun j hj => by rcases (show j = 0 ∨ j = 1 ∨ j = 2 ∨ j = 3 ∨ j = 4 ∨ j = 5 ∨ j = 6 ∨ j = 7 ∨ j = 8 ∨ j = 9 ∨ j = 10 ∨ j = 11 ∨ j = 12 ∨ j = 13 ∨ j = 14 ∨ j = 15 ∨ j = 16 ∨ j = 17 ∨ j = 18 ∨ j = 19 ∨ j = 20 ∨ j = 21 ∨ j = 22 ∨ j = 23 ∨ j = 24 ∨ j = 25 ∨ j = 26 ∨ j = 27 ∨ j = 28 ∨ j = 29 ∨ j = 30 ∨ j = 31 ∨ j = 32 by omega) with rfl | rfl | rfl | rfl | rfl | rfl | rfl | rfl | rfl | rfl | rfl | rfl | rfl | rfl | rfl | rfl | rfl | rfl | rfl | rfl | rfl | rfl | rfl | rfl | rfl | rfl | rfl | rfl | rfl | rfl | rfl | rfl | rfl <;> rfl) (Nat.le_of_ble_eq_true rfl) (Nat.le_of_ble_eq_true rfl) dL_law_8 (fun q2 H hP hD hS => ?_)
  refine lv_dup C.hx C.hb dL_law_11 rfl ?_
  have hPc := hP.sub (ws' := [(q2, .inr (6, [.int 0, .null, .null, .null, .null, .null, .int 0, .null, .null, .null, .null, .null, .null, .null, .int 0, .null, .null, .null, .null, .null, .int 0, .null, .null, .int 0, .null, .int 0, .null, .null, .null, .null, .null, .int 0, .null]))]) [29] rfl
  refine cCall (wr := dW cI cZ (aOf q1 u1) dS0) C hP hD hS hA 29 [0, 1, 2, 3, 4, 5, 6, 7, 8, 9, 10, 11, 12, 13, 14, 15, 16, 17, 18, 19, 20, 21, 22, 23, 24, 25, 26, 27, 28] rfl rfl (by decide) (by decide) (cRunI C hNs hml hl.1 hPc (fun sz => nX6_init sz) k_399 k_400 k_36 k_401 rfl (by decide +kernel) ⟨Nat.le_of_ble_eq_true rfl, Nat.le_of_ble_eq_true rfl⟩ (Nat.le_of_ble_eq_true rfl) dL_law_12 ⟨Nat.le_of_ble_eq_true rfl, Nat.le_of_ble_eq_true rfl⟩) (fun u2 H locs hP hD hS => ?_)
  refine lv_astore_n (lv' := [(2, .ref q2), (1, .ref q1), (0, .ref b)]) C.hx C.hb dL_law_15 rfl hl (by decide) rfl (fun ls hl => ?_)
  refine lv_iconst (v := 0) C.hx C.hb dL_law_16 (by decide) ?_
  refine lv_istore_n (lv' := [(3, .int 0), (2, .ref q2), (1, .ref q1), (0, .ref b)]) C.hx C.hb dL_law_17 rfl hl (by decide) rfl (fun ls hl => ?_)
  have hP : va_P (dC, dI) vwCl (dW cI cZ (aOf q1 u1) dS0 ++ rW cI cZ (aOf q2 u2) rS0) H := hP
  have hD : va_D (fun q : Nat => s.heap.size ≤ q) (dW cI cZ (aOf q1 u1) dS0 ++ rW cI cZ (aOf q2 u2) rS0) := hD
  refine W.widen (k := 600000) (n := 7302250) (Nat.le_of_ble_eq_true rfl) (Nat.le_of_ble_eq_true rfl) ?_
  obtain ⟨fu, n, hpure⟩ := pure L xs hL
  have hD1 : ∀ σ, va_D (fun q : Nat => s.heap.size ≤ q) (dW cI cZ (aOf q1 u1) σ) := fun σ => va_D_same (w := dW cI cZ (aOf q1 u1) dS0) rfl (va_D_left hD)
  have hD2 : ∀ σ, va_D (fun q : Nat => s.heap.size ≤ q) (rW cI cZ (aOf q2 u2) σ) := fun σ => va_D_same (w := rW cI cZ (aOf q2 u2) rS0) rfl (va_D_right hD)
  have hap := va_D_apart hD
  refine law_loop (a1 := aOf q1 u1) (a2 := aOf q2 u2) (fu := fu) C hml hr hlocks hX hbl hbA (fun σ => va_D_own (hD1 σ)) (fun σ => va_D_own (hD2 σ)) (fun q hq => ?_) (fun q hq => ?_) (fun σ k q hk hq => ?_) (fun σ k q hk hq => ?_) n dS0 rS0 0 H locs ls (lv_sub hl [3, 2, 1, 0] rfl) (va_P_left hP) (va_P_right hP) hS hpure
  · obtain ⟨i, x, h1, h2⟩ := mem_fst (w := dW cI cZ (aOf q1 u1) dS0) hq
    have := (hD1 dS0).2 i x h1
    rw [h2] at this
    exact this
  · obtain ⟨i, x, h1, h2⟩ := mem_fst (w := rW cI cZ (aOf q2 u2) rS0) hq
    have := (hD2 rS0).2 i x h1
    rw [h2] at this
    exact this
  · obtain ⟨i, x, h1, h2⟩ := mem_fst (w := dW cI cZ (aOf q1 u1) dS0) hq
    have h3 : q.1 ∈ (rW cI cZ (aOf q2 u2) rS0).map Prod.fst := (List.mem_map.mpr ⟨q, List.mem_of_getElem? hk, rfl⟩ : q.1 ∈ (rW cI cZ (aOf q2 u2) σ).map Prod.fst)
    obtain ⟨j, z, h4, h5⟩ := mem_fst (w := rW cI cZ (aOf q2 u2) rS0) h3
    exact hap i j x z h1 h4 (h2.trans h5.symm)
  · obtain ⟨i, x, h1, h2⟩ := mem_fst (w := rW cI cZ (aOf q2 u2) rS0) hq
    have h3 : q.1 ∈ (dW cI cZ (aOf q1 u1) dS0).map Prod.fst := (List.mem_map.mpr ⟨q, List.mem_of_getElem? hk, rfl⟩ : q.1 ∈ (dW cI cZ (aOf q1 u1) σ).map Prod.fst)
    obtain ⟨j, z, h4, h5⟩ := mem_fst (w := dW cI cZ (aOf q1 u1) dS0) h3
    exact hap j i z x h4 h1 (h5.trans h2.symm)
