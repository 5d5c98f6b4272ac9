/-! the words of the tables that stay, as ONE list for every method -/
def lw_good : List Cond := lw_tbl.filter goodWord
theorem in_good {w : Cond} (h : w ∈ lw_tbl) (hg : goodWord w = true) : w ∈ lw_good := List.mem_filter.mpr ⟨h, hg⟩
theorem good_in {w : Cond} (h : w ∈ lw_good) : w ∈ lw_tbl := (List.mem_filter.mp h).1
theorem good_ok {w : Cond} (h : w ∈ lw_good) : (w.onTables && w.keeps) = true ∨ ∃ ty, w = .arrayClass ty := good_of_word (List.mem_filter.mp h).2
def nl_slot : Cond := .methodLinkNest RX1 44 yX5_slot RX5
/-- the pure state: the arrays by cell and place, the int fields by number -/
abbrev MS : Type := (Nat → Nat → Int32) × (Nat → Int32)
def sA (σ : MS) (k i : Nat) (x : Int32) : MS := (va_up σ.1 k (upd (σ.1 k) i x), σ.2)
def sZ (σ : MS) (k : Nat) (x : Int32) : MS := (σ.1, va_up σ.2 k x)
abbrev gi (i : Int32) (n : Nat) : Prop := ¬ (i < 0 ∨ n ≤ i.toNatClampNeg)
theorem gpos {α : Type} {c : Prop} [Decidable c] {a b : Option α} {r : α} (hc : c) (h : (if c then a else b) = some r) : a = some r := by rwa [if_pos hc] at h
theorem gneg {α : Type} {c : Prop} [Decidable c] {a b : Option α} {r : α} (hc : ¬ c) (h : (if c then a else b) = some r) : b = some r := by rwa [if_neg hc] at h
theorem gsplit {α : Type} {c : Prop} [Decidable c] {a : Option α} {r : α} (h : (if c then a else none) = some r) : c ∧ a = some r := by
  by_cases hc : c
  · exact ⟨hc, gpos hc h⟩
  · rw [if_neg hc] at h; cases h
theorem gbind {α β : Type} {o : Option α} {f : α → Option β} {r : β} (h : o.bind f = some r) : ∃ q, o = some q ∧ f q = some r := by
  cases o with
  | none => cases h
  | some q => exact ⟨q, rfl, h⟩
/-- what stays the same all through a method -/
def Cx (own : String) (cc : ByteArray) (D : va_G) (cI cZ : ClassId) (p : Program) (s : State) (m : MethodId) (args : Array Value) (c : Code) : Prop :=
  p.tables.exec = Jvm.exec ∧ c.code = cc ∧ s.vm.findClass own = some m.cls ∧ (∀ w ∈ lw_good, w.before args s = true) ∧ va_K D vwCl [(cI, .int), (cZ, .boolean)] s ∧ va_Nw nl_slot s
section CX
variable {own : String} {cc : ByteArray} {D : va_G} {cI cZ : ClassId} {p : Program} {s : State} {m : MethodId} {args : Array Value} {c : Code}
theorem Cx.hx (C : Cx own cc D cI cZ p s m args c) : p.tables.exec = Jvm.exec := C.1
theorem Cx.hb (C : Cx own cc D cI cZ p s m args c) : c.code = cc := C.2.1
theorem Cx.hown (C : Cx own cc D cI cZ p s m args c) : s.vm.findClass own = some m.cls := C.2.2.1
theorem Cx.hts (C : Cx own cc D cI cZ p s m args c) : ∀ w ∈ lw_good, w.before args s = true := C.2.2.2.1
theorem Cx.hK (C : Cx own cc D cI cZ p s m args c) : va_K D vwCl [(cI, .int), (cZ, .boolean)] s := C.2.2.2.2.1
theorem Cx.hN (C : Cx own cc D cI cZ p s m args c) : va_Nw nl_slot s := C.2.2.2.2.2
end CX
/-- a contract: on the world of σ with these arguments the method answers r, and the world is that of σ' -/
def gPre (wd : MS → va_W) (D : va_G) (cI cZ : ClassId) (av : List Value) (σ : MS) : Array Value → State → Prop := va_Pc av (fun U => va_P D vwCl (wd σ) U.heap ∧ va_K D vwCl [(cI, .int), (cZ, .boolean)] U ∧ va_Nw nl_slot U)
def gQi (wd : MS → va_W) (Ad : Nat → Prop) (D : va_G) (r : Int32) (σ' : MS) : Array Value → State → Outcome → State → Prop := va_Qi (fun (x : Int32) (_ : Unit) => x = r) (fun _ t => va_P D vwCl (wd σ') t.heap) Ad
def gQv (wd : MS → va_W) (Ad : Nat → Prop) (D : va_G) (σ' : MS) : Array Value → State → Outcome → State → Prop := va_Qv (fun (_ : Unit) => True) (fun _ t => va_P D vwCl (wd σ') t.heap) Ad
def gRm (f n : Nat) : Room := { frames := f, cells := 0, slots := 0, locals := n }
def gMet (wd : MS → va_W) (Ad : Nat → Prop) (l : Launch) (D : va_G) (cI cZ : ClassId) (y : MethodName) (cc : ByteArray) (n : Nat) (ret : Option FieldType) (f k : Nat) (av : List Value) (σ : MS) (r : Int32) (σ' : MS) : Prop :=
  Met l y (.code y cc n ret :: lw_good) (gRm f k) (gPre wd D cI cZ av σ) (gQi wd Ad D r σ') 0 0 Ad
def gMetV (wd : MS → va_W) (Ad : Nat → Prop) (l : Launch) (D : va_G) (cI cZ : ClassId) (y : MethodName) (cc : ByteArray) (n : Nat) (f k : Nat) (av : List Value) (σ : MS) (σ' : MS) : Prop :=
  Met l y (.code y cc n none :: lw_good) (gRm f k) (gPre wd D cI cZ av σ) (gQv wd Ad D σ') 0 0 Ad
theorem gPre_blind {wd : MS → va_W} {D : va_G} {cI cZ : ClassId} {av : List Value} {σ : MS} : FrameBlind (gPre wd D cI cZ av σ) := by
  intro a U g mk q
  obtain ⟨q0, q1, q2, q3⟩ := q
  exact ⟨q0, q1, va_K.moved (u := U) (U := U.calling g mk a) (Vm.Alike.refl U.vm) q2, va_Nw.same rfl (u := U) rfl q3⟩
theorem gGood {y : MethodName} {cc : ByteArray} {n : Nat} {ret : Option FieldType} {big : List Cond} (hbig : ∀ w ∈ lw_good, w ∈ big) (hy : Cond.code y cc n ret ∈ lw_good) : GoodIn big (Cond.code y cc n ret :: lw_good) := by
  intro w hw
  rcases List.mem_cons.mp hw with h | h
  · subst h
    exact ⟨hbig _ hy, good_ok hy⟩
  · exact ⟨hbig _ h, good_ok h⟩
theorem gEnt {wd : MS → va_W} {Ad : Nat → Prop} {l : Launch} {D : va_G} {cI cZ : ClassId} {y : MethodName} {cc : ByteArray} {n : Nat} {ret : Option FieldType} {f k : Nat} {av : List Value} {σ : MS} {Qc : Array Value → State → Outcome → State → Prop} (hy : plainName y.cls = true) (hn : (lg_sl av).length ≤ n)
    (body : ∀ (p : Program) (e : Env) (s : State) (m : MethodId) (below : List Frame) (meth : Method) (c : Code) (ls : Array Slot), Cx y.cls cc D cI cZ p s m av.toArray c → c.maxLocals = n → meth.sig.returnType = ret → meth.locks = false → va_P D vwCl (wd σ) s.heap → lv_has ls n (lv_args 0 av) →
      W p l e (gRm f k) s m av.toArray below meth c s.heap [] 0 0 (MQ below Qc av.toArray s 0 0 Ad) (F0 m 0 ls [])) : Met l y (.code y cc n ret :: lw_good) (gRm f k) (gPre wd D cI cZ av σ) Qc 0 0 Ad := by
  refine Met.ofW (cc := cc) (maxL := n) (ret := ret) hy rfl ?_
  intro p e s m args below meth c s₁ B hml hv
  obtain ⟨rfl, hP, hK, hN⟩ := hv
  have hts := atoms_spec (ws := .code y cc n ret :: lw_good) B.pre
  have hl := lv_entry av (n := n) hn
  rw [lg_entry_eq]
  exact body p e s m below meth c _ ⟨B.exec, B.bytes, findClass_of_methodNamed B.named, fun w h => hts w (List.mem_cons_of_mem _ h), hK, hN⟩ hml B.returns B.notSynchronized hP hl
section GW
variable {own : String} {cc : ByteArray} {D : va_G} {cI cZ : ClassId} {p : Program} {l : Launch} {e : Env} {R : Room} {s : State} {m : MethodId} {args : Array Value} {below : List Frame} {meth : Method} {c : Code} {H : Heap} {locs : List Loc} {cells slots : Nat} {Q : State → Prop} {pc : Nat} {ls : Array Slot} {rest : List Value} {H0 : Heap} {Ad : Nat → Prop} {ws : va_W} {a : Nat}
theorem gx_get (C : Cx own cc D cI cZ p s m args c) (hP : va_P D vwCl ws H) {X : String} {T : u_T} {N ci index : Nat} {fs : List Value} (q0 : Nat) (he : ws[q0]? = some (a, .inr (ci, fs))) (hc : vwCl[ci]? = some (X, T, N)) (hin : ∀ w ∈ u_ws X T N, w ∈ lw_good) (k : Nat) (hk : k < N) (hlink : Cond.fieldLink own index (T k).1 (T k).2.1 (T k).2.2.1 ∈ lw_good) {v : Value} (hv : fs[k]? = some v) (hdg : decode cc pc = .ok (.getfield index, 3))
    (kk : W p l e R s m args below meth c H locs cells slots Q (F0 m (pc + 3) ls (v :: rest))) : W p l e R s m args below meth c H locs cells slots Q (F0 m pc ls (.ref a :: rest)) :=
  va_get C.hx C.hb C.hts hin C.hown C.hK hP q0 he hc k hk (C.hts _ hlink) (fun _ h => h) hv hdg kk
theorem gx_put (C : Cx own cc D cI cZ p s m args c) (hP : va_P D vwCl ws H) (hD : va_D Ad ws) (hS : va_S Ad H0 H locs) {X : String} {T : u_T} {N ci index : Nat} {fs : List Value} (q0 : Nat) (he : ws[q0]? = some (a, .inr (ci, fs))) (hc : vwCl[ci]? = some (X, T, N)) (hin : ∀ w ∈ u_ws X T N, w ∈ lw_good) (ty0 : Nat → FieldType) (hty : ∀ k, k < N → parseFieldDescriptor (T k).2.2.1 = some (ty0 k)) (hnm : ∀ a, a < N → ∀ b, b < N → a ≠ b → (T a).2.1 ≠ (T b).2.1) (k : Nat) (hk : k < N) (hlink : Cond.fieldLink own index (T k).1 (T k).2.1 (T k).2.2.1 ∈ lw_good) (hfin : (T k).2.2.2 = false) (hd : parseFieldDescriptor (T k).2.2.1 = some .int) {x : Int32} (hl : k < fs.length) (hdg : decode cc pc = .ok (.putfield index, 3))
    (kk : ∀ (H1 : Heap) (locs1 : List Loc), va_P D vwCl (ws.set q0 (a, .inr (ci, fs.set k (.int x)))) H1 → va_S Ad H0 H1 locs1 → W p l e R s m args below meth c H1 locs1 cells slots Q (F0 m (pc + 3) ls rest)) : W p l e R s m args below meth c H locs cells slots Q (F0 m pc ls (.int x :: .ref a :: rest)) :=
  va_put (ty := .int) C.hx C.hb C.hts hin ty0 hty hnm C.hown C.hK hP hD hS q0 he hc k hk (C.hts _ hlink) (fun _ h => h) hfin hd rfl rfl hl hdg (fun H1 locs1 h1 _ h3 => kk H1 locs1 h1 h3)
variable {wd : MS → va_W} {σ' : MS}
theorem gRetI {r : Int32} (C : Cx own cc D cI cZ p s m args c) (hr : meth.sig.returnType = some .int) (hlocks : meth.locks = false) (hP : va_P D vwCl (wd σ') H) (hS : va_S Ad s.heap H locs) (hdg : decode cc pc = .ok (.ireturn, 1)) : W p l e R s m args below meth c H locs 0 0 (MQ below (gQi wd Ad D r σ') args s 0 0 Ad) (F0 m pc ls [.int r]) :=
  W.iret C.hx C.hb hr (fun t ht _ => ⟨⟨r, (), rfl, rfl, (ht.symm ▸ hP : va_P D vwCl (wd σ') t.heap)⟩, hS.F ht⟩) hS.2.2 hdg hlocks
theorem gRetZ {r : Int32} (C : Cx own cc D cI cZ p s m args c) (hr : meth.sig.returnType = some .boolean) (hlocks : meth.locks = false) (hn : vp_nar .boolean r = r) (hP : va_P D vwCl (wd σ') H) (hS : va_S Ad s.heap H locs) (hdg : decode cc pc = .ok (.ireturn, 1)) : W p l e R s m args below meth c H locs 0 0 (MQ below (gQi wd Ad D r σ') args s 0 0 Ad) (F0 m pc ls [.int r]) :=
  W.zret C.hx C.hb hr (by have h : narrow .boolean (.int r) = .int (vp_nar .boolean r) := rfl
                          rw [h, hn]) (fun t ht _ => ⟨⟨r, (), rfl, rfl, (ht.symm ▸ hP : va_P D vwCl (wd σ') t.heap)⟩, hS.F ht⟩) hS.2.2 hdg hlocks
theorem gRetV (C : Cx own cc D cI cZ p s m args c) (hr : meth.sig.returnType = none) (hlocks : meth.locks = false) (hP : va_P D vwCl (wd σ') H) (hS : va_S Ad s.heap H locs) (hdg : decode cc pc = .ok (.return_, 1)) : W p l e R s m args below meth c H locs 0 0 (MQ below (gQv wd Ad D σ') args s 0 0 Ad) (F0 m pc ls []) :=
  W.vret C.hx C.hb hr (fun t ht _ => ⟨⟨(), rfl, trivial, (ht.symm ▸ hP : va_P D vwCl (wd σ') t.heap)⟩, hS.F ht⟩) hS.2.2 hdg hlocks
variable {σ : MS} {y : MethodName} {bytes : ByteArray} {maxL nL n index f k : Nat} {ret : Option FieldType} {X : String} {b : Addr} {As : List Value} {r : Int32} {Qw : Array Value → State → Outcome → State → Prop}
/-- a virtual call within one world -/
theorem gRunV (C : Cx own cc D cI cZ p s m args c) (hml : c.maxLocals = nL) (hsz : ls.size = nL) (hM : Met l y (.code y bytes maxL ret :: lw_good) (gRm f k) (gPre wd D cI cZ (.ref b :: As) σ) Qw 0 0 Ad)
    (h1 : Cond.methodLink own index y ∈ lw_good) (h2 : Cond.instanceMethod y ∈ lw_good) (h3 : Cond.selects X y y ∈ lw_good) (h4 : Cond.initialized X ∈ lw_good) (h5 : Cond.code y bytes maxL ret ∈ lw_good)
    (hd : y.cls = X ∧ y.cls ≠ "java/lang/invoke/MethodHandle" ∧ y.cls ≠ "java/lang/invoke/VarHandle" ∧ (parseMethodDescriptor y.desc).map (fun d => d.parameters.length) = some n) (hR : f + 1 ≤ R.frames ∧ 8 + (maxL + 11) + k ≤ R.locals)
    (hP : va_P D vwCl (wd σ) H) {q0 ci : Nat} {q : vw_C} {fs : List Value} (hc : vwCl[ci]? = some q) (hq : q.1 = X) (he : (wd σ)[q0]? = some (b, .inr (ci, fs))) (hn : As.length = n) (hW : ((rest.map fun v => v.category).sum ≤ 8)) (hdg : decode cc pc = .ok (.invokevirtual index, 3)) (hf : cells ≤ R.cells ∧ slots ≤ R.slots) :
    va_Run p l e R s m args below meth c H locs cells slots 0 0 (F0 m pc ls (As.reverse ++ .ref b :: rest)) rest (Qw (Value.ref b :: As).toArray) Ad := by
  refine va_runV (C := X) (As := As) (rest := rest) (nL := nL) ⟨C.hx, C.hb, hml, C.hown, C.hts⟩ hM (cwV n C.hts ?_ rfl rfl rfl hd hR) ⟨gPre_blind, ?_, ?_⟩ rfl hn hsz rfl (lv_room hW) hdg hf
  · intro w hw
    rcases List.mem_append.mp hw with h | h
    · simp only [List.mem_cons, List.not_mem_nil, or_false] at h
      rcases h with h | h | h | h <;> subst h
      · exact ⟨h1, good_ok h1⟩
      · exact ⟨h2, good_ok h2⟩
      · exact ⟨h3, good_ok h3⟩
      · exact ⟨h4, good_ok h4⟩
    · exact gGood (fun _ h => h) h5 w h
  · have := va_recv C.hK hP hc he
    rwa [hq] at this
  · intro U hU hW
    exact ⟨rfl, by rw [hU]; exact hP, va_K.moved hW.alike C.hK, va_Nw.warmM hW C.hN⟩
theorem gCallV (C : Cx own cc D cI cZ p s m args c) (hml : c.maxLocals = nL) (hsz : ls.size = nL) (hS : va_S Ad H0 H locs) (hM : gMet wd Ad l D cI cZ y bytes maxL ret f k (.ref b :: As) σ r σ')
    (h1 : Cond.methodLink own index y ∈ lw_good) (h2 : Cond.instanceMethod y ∈ lw_good) (h3 : Cond.selects X y y ∈ lw_good) (h4 : Cond.initialized X ∈ lw_good) (h5 : Cond.code y bytes maxL ret ∈ lw_good)
    (hd : y.cls = X ∧ y.cls ≠ "java/lang/invoke/MethodHandle" ∧ y.cls ≠ "java/lang/invoke/VarHandle" ∧ (parseMethodDescriptor y.desc).map (fun d => d.parameters.length) = some n) (hR : f + 1 ≤ R.frames ∧ 8 + (maxL + 11) + k ≤ R.locals)
    (hP : va_P D vwCl (wd σ) H) (q0 ci : Nat) {q : vw_C} {fs : List Value} (hc : vwCl[ci]? = some q) (hq : q.1 = X) (he : (wd σ)[q0]? = some (b, .inr (ci, fs))) {st : List Value} (hst : st = As.reverse ++ .ref b :: rest) (hn : As.length = n) (hW : ((rest.map fun v => v.category).sum ≤ 8)) (hdg : decode cc pc = .ok (.invokevirtual index, 3)) (hf : cells ≤ R.cells ∧ slots ≤ R.slots)
    (kk : ∀ (H1 : Heap) (locs1 : List Loc), va_P D vwCl (wd σ') H1 → va_S Ad H0 H1 locs1 → W p l e R s m args below meth c H1 locs1 cells slots Q (F0 m (pc + 3) ls (.int r :: rest))) : W p l e R s m args below meth c H locs cells slots Q (F0 m pc ls st) := by
  subst hst
  refine va_calli (A1 := Ad) (gRunV C hml hsz hM h1 h2 h3 h4 h5 hd hR hP hc hq he hn hW hdg hf) hS (fun q _ h => h) (fun q h => h) (fun r1 u t H1 locs1 ht hvm hw hB hz1 hk1 hS1 => ?_)
  subst hw
  exact kk H1 locs1 (ht ▸ (hB : va_P D vwCl (wd σ') t.heap)) hS1
theorem gCallVv (C : Cx own cc D cI cZ p s m args c) (hml : c.maxLocals = nL) (hsz : ls.size = nL) (hS : va_S Ad H0 H locs) (hM : gMetV wd Ad l D cI cZ y bytes maxL f k (.ref b :: As) σ σ')
    (h1 : Cond.methodLink own index y ∈ lw_good) (h2 : Cond.instanceMethod y ∈ lw_good) (h3 : Cond.selects X y y ∈ lw_good) (h4 : Cond.initialized X ∈ lw_good) (h5 : Cond.code y bytes maxL none ∈ lw_good)
    (hd : y.cls = X ∧ y.cls ≠ "java/lang/invoke/MethodHandle" ∧ y.cls ≠ "java/lang/invoke/VarHandle" ∧ (parseMethodDescriptor y.desc).map (fun d => d.parameters.length) = some n) (hR : f + 1 ≤ R.frames ∧ 8 + (maxL + 11) + k ≤ R.locals)
    (hP : va_P D vwCl (wd σ) H) (q0 ci : Nat) {q : vw_C} {fs : List Value} (hc : vwCl[ci]? = some q) (hq : q.1 = X) (he : (wd σ)[q0]? = some (b, .inr (ci, fs))) {st : List Value} (hst : st = As.reverse ++ .ref b :: rest) (hn : As.length = n) (hW : ((rest.map fun v => v.category).sum ≤ 8)) (hdg : decode cc pc = .ok (.invokevirtual index, 3)) (hf : cells ≤ R.cells ∧ slots ≤ R.slots)
    (kk : ∀ (H1 : Heap) (locs1 : List Loc), va_P D vwCl (wd σ') H1 → va_S Ad H0 H1 locs1 → W p l e R s m args below meth c H1 locs1 cells slots Q (F0 m (pc + 3) ls rest)) : W p l e R s m args below meth c H locs cells slots Q (F0 m pc ls st) := by
  subst hst
  refine va_callv (A1 := Ad) (gRunV C hml hsz hM h1 h2 h3 h4 h5 hd hR hP hc hq he hn hW hdg hf) hS (fun q _ h => h) (fun q h => h) (fun u t H1 locs1 ht hvm hw hB hz1 hk1 hS1 => ?_)
  exact kk H1 locs1 (ht ▸ (hB : va_P D vwCl (wd σ') t.heap)) hS1
/-- a static call of one's own class -/
theorem gCallS (C : Cx own cc D cI cZ p s m args c) (hml : c.maxLocals = nL) (hsz : ls.size = nL) (hS : va_S Ad H0 H locs) (hM : gMet wd Ad l D cI cZ y bytes maxL ret f k As σ r σ')
    (h1 : Cond.methodLink own index y ∈ lw_good) (h2 : Cond.static y ∈ lw_good) (h4 : Cond.initialized own ∈ lw_good) (h5 : Cond.code y bytes maxL ret ∈ lw_good)
    (hd : y.cls = own ∧ y.cls ≠ "java/lang/invoke/MethodHandle" ∧ y.cls ≠ "java/lang/invoke/VarHandle" ∧ (parseMethodDescriptor y.desc).map (fun d => d.parameters.length) = some n) (hR : f + 1 ≤ R.frames ∧ 8 + (maxL + 11) + k ≤ R.locals)
    (hP : va_P D vwCl (wd σ) H) {st : List Value} (hst : st = As.reverse ++ rest) (hn : As.length = n) (hW : ((rest.map fun v => v.category).sum ≤ 8)) (hdg : decode cc pc = .ok (.invokestatic index, 3)) (hf : cells ≤ R.cells ∧ slots ≤ R.slots)
    (kk : ∀ (H1 : Heap) (locs1 : List Loc), va_P D vwCl (wd σ') H1 → va_S Ad H0 H1 locs1 → W p l e R s m args below meth c H1 locs1 cells slots Q (F0 m (pc + 3) ls (.int r :: rest))) : W p l e R s m args below meth c H locs cells slots Q (F0 m pc ls st) := by
  subst hst
  refine va_calli (A1 := Ad) (va_runS (As := As) (rest := rest) (nL := nL) ⟨C.hx, C.hb, hml, C.hown, C.hts⟩ hM (cwS n C.hts ?_ rfl rfl rfl hd hR) ⟨gPre_blind, ?_⟩ rfl hn hsz rfl (lv_room hW) hdg hf) hS (fun q _ h => h) (fun q h => h) (fun r1 u t H1 locs1 ht hvm hw hB hz1 hk1 hS1 => ?_)
  · intro w hw
    rcases List.mem_append.mp hw with h | h
    · simp only [List.mem_cons, List.not_mem_nil, or_false] at h
      rcases h with h | h | h <;> subst h
      · exact ⟨h1, good_ok h1⟩
      · exact ⟨h2, good_ok h2⟩
      · exact ⟨h4, good_ok h4⟩
    · exact gGood (fun _ h => h) h5 w h
  · intro U hU hW
    exact ⟨rfl, by rw [hU]; exact hP, va_K.moved hW.alike C.hK, va_Nw.warmM hW C.hN⟩
  · subst hw
    exact kk H1 locs1 (ht ▸ (hB : va_P D vwCl (wd σ') t.heap)) hS1
/-- the one static call of a nest mate -/
theorem gCallN (C : Cx RX1 cc D cI cZ p s m args c) (hml : c.maxLocals = nL) (hsz : ls.size = nL) (hS : va_S Ad H0 H locs) (hM : gMet wd Ad l D cI cZ yX5_slot bytes maxL ret f k As σ r σ')
    (h2 : Cond.static yX5_slot ∈ lw_good) (h4 : Cond.initialized RX5 ∈ lw_good) (h5 : Cond.code yX5_slot bytes maxL ret ∈ lw_good) (hn : As.length = 2) (hR : f + 1 ≤ R.frames ∧ 8 + (maxL + 11) + k ≤ R.locals)
    (hP : va_P D vwCl (wd σ) H) {st : List Value} (hst : st = As.reverse ++ rest) (hW : ((rest.map fun v => v.category).sum ≤ 8)) (hdg : decode cc pc = .ok (.invokestatic 44, 3)) (hf : cells ≤ R.cells ∧ slots ≤ R.slots)
    (kk : ∀ (H1 : Heap) (locs1 : List Loc), va_P D vwCl (wd σ') H1 → va_S Ad H0 H1 locs1 → W p l e R s m args below meth c H1 locs1 cells slots Q (F0 m (pc + 3) ls (.int r :: rest))) : W p l e R s m args below meth c H locs cells slots Q (F0 m pc ls st) := by
  subst hst
  refine va_calli (A1 := Ad) (va_runSN (As := As) (rest := rest) (nL := nL) (host := RX5) ⟨C.hx, C.hb, hml, C.hown, C.hts⟩ hM ⟨va_cnB 2 C.hts (gGood (fun _ h => h) h5) rfl rfl rfl C.hN (C.hts _ h4) (by decide +kernel) hR, C.hts _ h2, trivial⟩ ⟨gPre_blind, ?_⟩ rfl hn hsz rfl (lv_room hW) hdg hf) hS (fun q _ h => h) (fun q h => h) (fun r1 u t H1 locs1 ht hvm hw hB hz1 hk1 hS1 => ?_)
  · intro U hU hW
    exact ⟨rfl, by rw [hU]; exact hP, va_K.moved hW.alike C.hK, va_Nw.warmM hW C.hN⟩
  · subst hw
    exact kk H1 locs1 (ht ▸ (hB : va_P D vwCl (wd σ') t.heap)) hS1
end GW
/-- switches -/
theorem sw_ne {x v : Int32} {k : Int} (hk : v.toInt = k) (h : ¬ x = v) : x.toInt ≠ k := fun e => h (Int32.toInt_inj.mp (e.trans hk.symm))
theorem sw_lk2 {v0 v1 o0 o1 d x : Int} (h0 : x ≠ v0) (h1 : x ≠ v1) : Op.lookupswitch.offset [(v0, o0), (v1, o1)] d x = d := by
  simp [Op.lookupswitch.offset, Ne.symm h0, Ne.symm h1, h0, h1]
theorem iX0 : ∀ w ∈ u_ws RX0 TX0 6, w ∈ lw_good := by decide +kernel
theorem iX1 : ∀ w ∈ u_ws RX1 TX1 8, w ∈ lw_good := by decide +kernel
theorem iX2 : ∀ w ∈ u_ws RX2 TX2 6, w ∈ lw_good := by decide +kernel
theorem iX3 : ∀ w ∈ u_ws RX3 TX3 2, w ∈ lw_good := by decide +kernel
theorem iX4 : ∀ w ∈ u_ws RX4 TX4 3, w ∈ lw_good := by decide +kernel
theorem iX5 : ∀ w ∈ u_ws RX5 TX5 7, w ∈ lw_good := by decide +kernel
theorem iX6 : ∀ w ∈ u_ws RX6 TX6 33, w ∈ lw_good := by decide +kernel
theorem k_0 : Cond.selects "ModuleLoaders" ⟨"ModuleLoaders", "ask", "(III)I"⟩ ⟨"ModuleLoaders", "ask", "(III)I"⟩ ∈ lw_good := in_good (List.mem_of_getElem? (i := 0) rfl) rfl
theorem k_1 : Cond.selects "ModuleLoaders" ⟨"ModuleLoaders", "askLibrary", "(III)I"⟩ ⟨"ModuleLoaders", "askLibrary", "(III)I"⟩ ∈ lw_good := in_good (List.mem_of_getElem? (i := 1) rfl) rfl
theorem k_2 : Cond.selects "ModuleLoaders" ⟨"ModuleLoaders", "make", "(IIII)I"⟩ ⟨"ModuleLoaders", "make", "(IIII)I"⟩ ∈ lw_good := in_good (List.mem_of_getElem? (i := 2) rfl) rfl
theorem k_3 : Cond.selects "ModuleLoaders" ⟨"ModuleLoaders", "failureAhead", "(III)I"⟩ ⟨"ModuleLoaders", "failureAhead", "(III)I"⟩ ∈ lw_good := in_good (List.mem_of_getElem? (i := 3) rfl) rfl
theorem k_4 : Cond.selects "ModuleLoaders" ⟨"ModuleLoaders", "stand", "(IIII)I"⟩ ⟨"ModuleLoaders", "stand", "(IIII)I"⟩ ∈ lw_good := in_good (List.mem_of_getElem? (i := 4) rfl) rfl
theorem k_5 : Cond.selects "ModuleLoaders" ⟨"ModuleLoaders", "beginFrom", "(I)I"⟩ ⟨"ModuleLoaders", "beginFrom", "(I)I"⟩ ∈ lw_good := in_good (List.mem_of_getElem? (i := 5) rfl) rfl
theorem k_6 : Cond.selects "ModuleLoaders" ⟨"ModuleLoaders", "comeTo", "(I)I"⟩ ⟨"ModuleLoaders", "comeTo", "(I)I"⟩ ∈ lw_good := in_good (List.mem_of_getElem? (i := 6) rfl) rfl
theorem k_7 : Cond.selects "ModuleLoaders" ⟨"ModuleLoaders", "goOn", "(I)I"⟩ ⟨"ModuleLoaders", "goOn", "(I)I"⟩ ∈ lw_good := in_good (List.mem_of_getElem? (i := 7) rfl) rfl
theorem k_8 : Cond.selects "ModuleLoaders" ⟨"ModuleLoaders", "comeToNeed", "(I)I"⟩ ⟨"ModuleLoaders", "comeToNeed", "(I)I"⟩ ∈ lw_good := in_good (List.mem_of_getElem? (i := 8) rfl) rfl
theorem k_9 : Cond.selects "ModuleLoaders" ⟨"ModuleLoaders", "beginItself", "(I)I"⟩ ⟨"ModuleLoaders", "beginItself", "(I)I"⟩ ∈ lw_good := in_good (List.mem_of_getElem? (i := 9) rfl) rfl
theorem k_10 : Cond.selects "ModuleLoaders" ⟨"ModuleLoaders", "markHeld", "()V"⟩ ⟨"ModuleLoaders", "markHeld", "()V"⟩ ∈ lw_good := in_good (List.mem_of_getElem? (i := 10) rfl) rfl
theorem k_11 : Cond.selects "ModuleLoaders" ⟨"ModuleLoaders", "markHeldBy", "(I)V"⟩ ⟨"ModuleLoaders", "markHeldBy", "(I)V"⟩ ∈ lw_good := in_good (List.mem_of_getElem? (i := 11) rfl) rfl
theorem k_12 : Cond.selects "ModuleLoadersModel" ⟨"ModuleLoadersModel", "isLoader", "(I)Z"⟩ ⟨"ModuleLoadersModel", "isLoader", "(I)Z"⟩ ∈ lw_good := in_good (List.mem_of_getElem? (i := 12) rfl) rfl
theorem k_13 : Cond.selects "ModuleLoadersModel" ⟨"ModuleLoadersModel", "isFile", "(I)Z"⟩ ⟨"ModuleLoadersModel", "isFile", "(I)Z"⟩ ∈ lw_good := in_good (List.mem_of_getElem? (i := 13) rfl) rfl
theorem k_14 : Cond.selects "ModuleLoadersModel" ⟨"ModuleLoadersModel", "does", "(IIIZ)I"⟩ ⟨"ModuleLoadersModel", "does", "(IIIZ)I"⟩ ∈ lw_good := in_good (List.mem_of_getElem? (i := 14) rfl) rfl
theorem k_15 : Cond.selects "ModuleLoadersModel" ⟨"ModuleLoadersModel", "push", "(IIIZ)V"⟩ ⟨"ModuleLoadersModel", "push", "(IIIZ)V"⟩ ∈ lw_good := in_good (List.mem_of_getElem? (i := 15) rfl) rfl
theorem k_16 : Cond.selects "ModuleLoadersModel" ⟨"ModuleLoadersModel", "runs", "()I"⟩ ⟨"ModuleLoadersModel", "runs", "()I"⟩ ∈ lw_good := in_good (List.mem_of_getElem? (i := 16) rfl) rfl
theorem k_17 : Cond.selects "ModuleLoadersModel" ⟨"ModuleLoadersModel", "asks", "(II)V"⟩ ⟨"ModuleLoadersModel", "asks", "(II)V"⟩ ∈ lw_good := in_good (List.mem_of_getElem? (i := 17) rfl) rfl
theorem k_18 : Cond.selects "ModuleLoadersModel" ⟨"ModuleLoadersModel", "gives", "(I)V"⟩ ⟨"ModuleLoadersModel", "gives", "(I)V"⟩ ∈ lw_good := in_good (List.mem_of_getElem? (i := 18) rfl) rfl
theorem k_19 : Cond.selects "ModuleLoadersModel" ⟨"ModuleLoadersModel", "asksAbove", "(III)V"⟩ ⟨"ModuleLoadersModel", "asksAbove", "(III)V"⟩ ∈ lw_good := in_good (List.mem_of_getElem? (i := 19) rfl) rfl
theorem k_20 : Cond.selects "ModuleLoadersModel" ⟨"ModuleLoadersModel", "keeps", "(I)V"⟩ ⟨"ModuleLoadersModel", "keeps", "(I)V"⟩ ∈ lw_good := in_good (List.mem_of_getElem? (i := 20) rfl) rfl
theorem k_21 : Cond.selects "ModuleLoadersModel" ⟨"ModuleLoadersModel", "makes", "(III)V"⟩ ⟨"ModuleLoadersModel", "makes", "(III)V"⟩ ∈ lw_good := in_good (List.mem_of_getElem? (i := 21) rfl) rfl
theorem k_22 : Cond.selects "ModuleLoadersModel" ⟨"ModuleLoadersModel", "against", "(III)I"⟩ ⟨"ModuleLoadersModel", "against", "(III)I"⟩ ∈ lw_good := in_good (List.mem_of_getElem? (i := 22) rfl) rfl
theorem k_23 : Cond.selects "ModuleLoadersModel" ⟨"ModuleLoadersModel", "stands", "(III)V"⟩ ⟨"ModuleLoadersModel", "stands", "(III)V"⟩ ∈ lw_good := in_good (List.mem_of_getElem? (i := 23) rfl) rfl
theorem k_24 : Cond.selects "ModuleLoadersModel" ⟨"ModuleLoadersModel", "begins", "(II)V"⟩ ⟨"ModuleLoadersModel", "begins", "(II)V"⟩ ∈ lw_good := in_good (List.mem_of_getElem? (i := 24) rfl) rfl
theorem k_25 : Cond.selects "ModuleLoadersModel" ⟨"ModuleLoadersModel", "isModule", "(I)Z"⟩ ⟨"ModuleLoadersModel", "isModule", "(I)Z"⟩ ∈ lw_good := in_good (List.mem_of_getElem? (i := 25) rfl) rfl
theorem k_26 : Cond.selects "ModuleLoadersModel" ⟨"ModuleLoadersModel", "isThing", "(I)Z"⟩ ⟨"ModuleLoadersModel", "isThing", "(I)Z"⟩ ∈ lw_good := in_good (List.mem_of_getElem? (i := 26) rfl) rfl
theorem k_27 : Cond.selects "ModuleLoadersModel" ⟨"ModuleLoadersModel", "holds", "()V"⟩ ⟨"ModuleLoadersModel", "holds", "()V"⟩ ∈ lw_good := in_good (List.mem_of_getElem? (i := 27) rfl) rfl
theorem k_29 : Cond.initialized "ModuleLoaders" ∈ lw_good := in_good (List.mem_of_getElem? (i := 29) rfl) rfl
theorem k_30 : Cond.initialized "ModuleLoaders$Files" ∈ lw_good := in_good (List.mem_of_getElem? (i := 30) rfl) rfl
theorem k_31 : Cond.initialized "ModuleLoaders$Loaders" ∈ lw_good := in_good (List.mem_of_getElem? (i := 31) rfl) rfl
theorem k_32 : Cond.initialized "java/util/Arrays" ∈ lw_good := in_good (List.mem_of_getElem? (i := 32) rfl) rfl
theorem k_33 : Cond.initialized "ModuleLoaders$Modules" ∈ lw_good := in_good (List.mem_of_getElem? (i := 33) rfl) rfl
theorem k_34 : Cond.initialized "ModuleLoaders$Things" ∈ lw_good := in_good (List.mem_of_getElem? (i := 34) rfl) rfl
theorem k_35 : Cond.initialized "ModuleLoaders$Row" ∈ lw_good := in_good (List.mem_of_getElem? (i := 35) rfl) rfl
theorem k_36 : Cond.initialized "ModuleLoadersModel" ∈ lw_good := in_good (List.mem_of_getElem? (i := 36) rfl) rfl
theorem k_37 : Cond.classLink "ModuleLoadersLaw" 7 "ModuleLoaders" ∈ lw_good := in_good (List.mem_of_getElem? (i := 37) rfl) rfl
theorem k_38 : Cond.instantiable "ModuleLoaders" 7 ∈ lw_good := in_good (List.mem_of_getElem? (i := 38) rfl) rfl
theorem k_39 : Cond.methodLink "ModuleLoadersLaw" 9 ⟨"ModuleLoaders", "<init>", "()V"⟩ ∈ lw_good := in_good (List.mem_of_getElem? (i := 39) rfl) rfl
theorem k_40 : Cond.instanceMethod ⟨"ModuleLoaders", "<init>", "()V"⟩ ∈ lw_good := in_good (List.mem_of_getElem? (i := 40) rfl) rfl
theorem k_41 : Cond.code ⟨"ModuleLoaders", "<init>", "()V"⟩ prog_1_method_1_code 1 none ∈ lw_good := in_good (List.mem_of_getElem? (i := 41) rfl) rfl
theorem k_42 : Cond.methodLink "ModuleLoaders" 3 ⟨"java/lang/Object", "<init>", "()V"⟩ ∈ lw_good := in_good (List.mem_of_getElem? (i := 42) rfl) rfl
theorem k_43 : Cond.instanceMethod ⟨"java/lang/Object", "<init>", "()V"⟩ ∈ lw_good := in_good (List.mem_of_getElem? (i := 43) rfl) rfl
theorem k_44 : Cond.code ⟨"java/lang/Object", "<init>", "()V"⟩ object_method_1_code 1 none ∈ lw_good := in_good (List.mem_of_getElem? (i := 44) rfl) rfl
theorem k_45 : Cond.classLink "ModuleLoaders" 9 "ModuleLoaders$Files" ∈ lw_good := in_good (List.mem_of_getElem? (i := 45) rfl) rfl
theorem k_46 : Cond.instantiable "ModuleLoaders$Files" 6 ∈ lw_good := in_good (List.mem_of_getElem? (i := 46) rfl) rfl
theorem k_48 : Cond.instanceMethod ⟨"ModuleLoaders$Files", "<init>", "()V"⟩ ∈ lw_good := in_good (List.mem_of_getElem? (i := 48) rfl) rfl
theorem k_49 : Cond.code ⟨"ModuleLoaders$Files", "<init>", "()V"⟩ prog_2_method_1_code 1 none ∈ lw_good := in_good (List.mem_of_getElem? (i := 49) rfl) rfl
theorem k_50 : Cond.methodLink "ModuleLoaders$Files" 3 ⟨"java/lang/Object", "<init>", "()V"⟩ ∈ lw_good := in_good (List.mem_of_getElem? (i := 50) rfl) rfl
theorem k_51 : Cond.fieldLink "ModuleLoaders$Files" 9 "ModuleLoaders$Files" "inner" "[I" ∈ lw_good := in_good (List.mem_of_getElem? (i := 51) rfl) rfl
theorem k_52 : Cond.fieldLink "ModuleLoaders" 176 "ModuleLoaders$Files" "inner" "[I" ∈ lw_good := in_good (List.mem_of_getElem? (i := 52) rfl) rfl
theorem k_53 : Cond.fieldLink "ModuleLoaders$Files" 15 "ModuleLoaders$Files" "content" "[I" ∈ lw_good := in_good (List.mem_of_getElem? (i := 53) rfl) rfl
theorem k_54 : Cond.fieldLink "ModuleLoaders" 141 "ModuleLoaders$Files" "content" "[I" ∈ lw_good := in_good (List.mem_of_getElem? (i := 54) rfl) rfl
theorem k_55 : Cond.fieldLink "ModuleLoaders$Files" 18 "ModuleLoaders$Files" "parent" "[I" ∈ lw_good := in_good (List.mem_of_getElem? (i := 55) rfl) rfl
theorem k_56 : Cond.fieldLink "ModuleLoaders" 169 "ModuleLoaders$Files" "parent" "[I" ∈ lw_good := in_good (List.mem_of_getElem? (i := 56) rfl) rfl
theorem k_57 : Cond.fieldLink "ModuleLoaders$Files" 21 "ModuleLoaders$Files" "need" "[I" ∈ lw_good := in_good (List.mem_of_getElem? (i := 57) rfl) rfl
theorem k_58 : Cond.fieldLink "ModuleLoaders" 199 "ModuleLoaders$Files" "need" "[I" ∈ lw_good := in_good (List.mem_of_getElem? (i := 58) rfl) rfl
theorem k_59 : Cond.fieldLink "ModuleLoaders$Files" 24 "ModuleLoaders$Files" "flags" "[I" ∈ lw_good := in_good (List.mem_of_getElem? (i := 59) rfl) rfl
theorem k_60 : Cond.fieldLink "ModuleLoaders$Files" 27 "ModuleLoaders$Files" "size" "I" ∈ lw_good := in_good (List.mem_of_getElem? (i := 60) rfl) rfl
theorem k_61 : Cond.fieldLink "ModuleLoaders" 151 "ModuleLoaders$Files" "size" "I" ∈ lw_good := in_good (List.mem_of_getElem? (i := 61) rfl) rfl
theorem k_75 : Cond.arrayClass .int ∈ lw_good := in_good (List.mem_of_getElem? (i := 75) rfl) rfl
theorem k_76 : Cond.classLink "ModuleLoaders" 16 "ModuleLoaders$Loaders" ∈ lw_good := in_good (List.mem_of_getElem? (i := 76) rfl) rfl
theorem k_77 : Cond.instantiable "ModuleLoaders$Loaders" 8 ∈ lw_good := in_good (List.mem_of_getElem? (i := 77) rfl) rfl
theorem k_78 : Cond.methodLink "ModuleLoaders" 18 ⟨"ModuleLoaders$Loaders", "<init>", "()V"⟩ ∈ lw_good := in_good (List.mem_of_getElem? (i := 78) rfl) rfl
theorem k_79 : Cond.instanceMethod ⟨"ModuleLoaders$Loaders", "<init>", "()V"⟩ ∈ lw_good := in_good (List.mem_of_getElem? (i := 79) rfl) rfl
theorem k_80 : Cond.code ⟨"ModuleLoaders$Loaders", "<init>", "()V"⟩ prog_3_method_1_code 1 none ∈ lw_good := in_good (List.mem_of_getElem? (i := 80) rfl) rfl
theorem k_81 : Cond.methodLink "ModuleLoaders$Loaders" 3 ⟨"java/lang/Object", "<init>", "()V"⟩ ∈ lw_good := in_good (List.mem_of_getElem? (i := 81) rfl) rfl
theorem k_82 : Cond.methodLink "ModuleLoaders$Loaders" 38 ⟨"java/util/Arrays", "fill", "([II)V"⟩ ∈ lw_good := in_good (List.mem_of_getElem? (i := 82) rfl) rfl
theorem k_83 : Cond.static ⟨"java/util/Arrays", "fill", "([II)V"⟩ ∈ lw_good := in_good (List.mem_of_getElem? (i := 83) rfl) rfl
theorem k_84 : Cond.code ⟨"java/util/Arrays", "fill", "([II)V"⟩ prog_9_method_103_code 4 none ∈ lw_good := in_good (List.mem_of_getElem? (i := 84) rfl) rfl
theorem k_85 : Cond.fieldLink "ModuleLoaders$Loaders" 9 "ModuleLoaders$Loaders" "library" "[I" ∈ lw_good := in_good (List.mem_of_getElem? (i := 85) rfl) rfl
theorem k_86 : Cond.fieldLink "ModuleLoaders" 160 "ModuleLoaders$Loaders" "library" "[I" ∈ lw_good := in_good (List.mem_of_getElem? (i := 86) rfl) rfl
theorem k_87 : Cond.fieldLink "ModuleLoaders$Loaders" 15 "ModuleLoaders$Loaders" "ownFirst" "[Z" ∈ lw_good := in_good (List.mem_of_getElem? (i := 87) rfl) rfl
theorem k_88 : Cond.fieldLink "ModuleLoaders" 154 "ModuleLoaders$Loaders" "ownFirst" "[Z" ∈ lw_good := in_good (List.mem_of_getElem? (i := 88) rfl) rfl
theorem k_89 : Cond.fieldLink "ModuleLoaders$Loaders" 19 "ModuleLoaders$Loaders" "gone" "[Z" ∈ lw_good := in_good (List.mem_of_getElem? (i := 89) rfl) rfl
theorem k_90 : Cond.fieldLink "ModuleLoaders" 68 "ModuleLoaders$Loaders" "gone" "[Z" ∈ lw_good := in_good (List.mem_of_getElem? (i := 90) rfl) rfl
theorem k_91 : Cond.fieldLink "ModuleLoaders$Loaders" 22 "ModuleLoaders$Loaders" "shelf" "[I" ∈ lw_good := in_good (List.mem_of_getElem? (i := 91) rfl) rfl
theorem k_92 : Cond.fieldLink "ModuleLoaders" 75 "ModuleLoaders$Loaders" "shelf" "[I" ∈ lw_good := in_good (List.mem_of_getElem? (i := 92) rfl) rfl
theorem k_93 : Cond.fieldLink "ModuleLoaders$Loaders" 25 "ModuleLoaders$Loaders" "made" "[I" ∈ lw_good := in_good (List.mem_of_getElem? (i := 93) rfl) rfl
theorem k_94 : Cond.fieldLink "ModuleLoaders" 87 "ModuleLoaders$Loaders" "made" "[I" ∈ lw_good := in_good (List.mem_of_getElem? (i := 94) rfl) rfl
theorem k_95 : Cond.fieldLink "ModuleLoaders$Loaders" 28 "ModuleLoaders$Loaders" "given" "[I" ∈ lw_good := in_good (List.mem_of_getElem? (i := 95) rfl) rfl
theorem k_96 : Cond.fieldLink "ModuleLoaders" 163 "ModuleLoaders$Loaders" "given" "[I" ∈ lw_good := in_good (List.mem_of_getElem? (i := 96) rfl) rfl
theorem k_97 : Cond.fieldLink "ModuleLoaders$Loaders" 31 "ModuleLoaders$Loaders" "making" "[Z" ∈ lw_good := in_good (List.mem_of_getElem? (i := 97) rfl) rfl
theorem k_98 : Cond.fieldLink "ModuleLoaders" 173 "ModuleLoaders$Loaders" "making" "[Z" ∈ lw_good := in_good (List.mem_of_getElem? (i := 98) rfl) rfl
theorem k_99 : Cond.fieldLink "ModuleLoaders$Loaders" 34 "ModuleLoaders$Loaders" "size" "I" ∈ lw_good := in_good (List.mem_of_getElem? (i := 99) rfl) rfl
theorem k_100 : Cond.fieldLink "ModuleLoaders" 152 "ModuleLoaders$Loaders" "size" "I" ∈ lw_good := in_good (List.mem_of_getElem? (i := 100) rfl) rfl
theorem k_118 : Cond.arrayClass .boolean ∈ lw_good := in_good (List.mem_of_getElem? (i := 118) rfl) rfl
theorem k_119 : Cond.classLink "ModuleLoaders" 23 "ModuleLoaders$Modules" ∈ lw_good := in_good (List.mem_of_getElem? (i := 119) rfl) rfl
theorem k_120 : Cond.instantiable "ModuleLoaders$Modules" 6 ∈ lw_good := in_good (List.mem_of_getElem? (i := 120) rfl) rfl
theorem k_122 : Cond.instanceMethod ⟨"ModuleLoaders$Modules", "<init>", "()V"⟩ ∈ lw_good := in_good (List.mem_of_getElem? (i := 122) rfl) rfl
theorem k_123 : Cond.code ⟨"ModuleLoaders$Modules", "<init>", "()V"⟩ prog_4_method_1_code 1 none ∈ lw_good := in_good (List.mem_of_getElem? (i := 123) rfl) rfl
theorem k_124 : Cond.methodLink "ModuleLoaders$Modules" 3 ⟨"java/lang/Object", "<init>", "()V"⟩ ∈ lw_good := in_good (List.mem_of_getElem? (i := 124) rfl) rfl
theorem k_125 : Cond.fieldLink "ModuleLoaders$Modules" 9 "ModuleLoaders$Modules" "maker" "[I" ∈ lw_good := in_good (List.mem_of_getElem? (i := 125) rfl) rfl
theorem k_126 : Cond.fieldLink "ModuleLoaders" 98 "ModuleLoaders$Modules" "maker" "[I" ∈ lw_good := in_good (List.mem_of_getElem? (i := 126) rfl) rfl
theorem k_127 : Cond.fieldLink "ModuleLoaders$Modules" 15 "ModuleLoaders$Modules" "name" "[I" ∈ lw_good := in_good (List.mem_of_getElem? (i := 127) rfl) rfl
theorem k_128 : Cond.fieldLink "ModuleLoaders" 132 "ModuleLoaders$Modules" "name" "[I" ∈ lw_good := in_good (List.mem_of_getElem? (i := 128) rfl) rfl
theorem k_129 : Cond.fieldLink "ModuleLoaders$Modules" 18 "ModuleLoaders$Modules" "file" "[I" ∈ lw_good := in_good (List.mem_of_getElem? (i := 129) rfl) rfl
theorem k_130 : Cond.fieldLink "ModuleLoaders" 144 "ModuleLoaders$Modules" "file" "[I" ∈ lw_good := in_good (List.mem_of_getElem? (i := 130) rfl) rfl
theorem k_131 : Cond.fieldLink "ModuleLoaders$Modules" 21 "ModuleLoaders$Modules" "parent" "[I" ∈ lw_good := in_good (List.mem_of_getElem? (i := 131) rfl) rfl
theorem k_132 : Cond.fieldLink "ModuleLoaders" 135 "ModuleLoaders$Modules" "parent" "[I" ∈ lw_good := in_good (List.mem_of_getElem? (i := 132) rfl) rfl
theorem k_133 : Cond.fieldLink "ModuleLoaders$Modules" 24 "ModuleLoaders$Modules" "state" "[I" ∈ lw_good := in_good (List.mem_of_getElem? (i := 133) rfl) rfl
theorem k_134 : Cond.fieldLink "ModuleLoaders" 138 "ModuleLoaders$Modules" "state" "[I" ∈ lw_good := in_good (List.mem_of_getElem? (i := 134) rfl) rfl
theorem k_135 : Cond.fieldLink "ModuleLoaders$Modules" 27 "ModuleLoaders$Modules" "size" "I" ∈ lw_good := in_good (List.mem_of_getElem? (i := 135) rfl) rfl
theorem k_136 : Cond.fieldLink "ModuleLoaders" 128 "ModuleLoaders$Modules" "size" "I" ∈ lw_good := in_good (List.mem_of_getElem? (i := 136) rfl) rfl
theorem k_150 : Cond.classLink "ModuleLoaders" 30 "ModuleLoaders$Things" ∈ lw_good := in_good (List.mem_of_getElem? (i := 150) rfl) rfl
theorem k_151 : Cond.instantiable "ModuleLoaders$Things" 3 ∈ lw_good := in_good (List.mem_of_getElem? (i := 151) rfl) rfl
theorem k_153 : Cond.instanceMethod ⟨"ModuleLoaders$Things", "<init>", "()V"⟩ ∈ lw_good := in_good (List.mem_of_getElem? (i := 153) rfl) rfl
theorem k_154 : Cond.code ⟨"ModuleLoaders$Things", "<init>", "()V"⟩ prog_6_method_1_code 1 none ∈ lw_good := in_good (List.mem_of_getElem? (i := 154) rfl) rfl
theorem k_155 : Cond.methodLink "ModuleLoaders$Things" 3 ⟨"java/lang/Object", "<init>", "()V"⟩ ∈ lw_good := in_good (List.mem_of_getElem? (i := 155) rfl) rfl
theorem k_156 : Cond.fieldLink "ModuleLoaders$Things" 9 "ModuleLoaders$Things" "kind" "[I" ∈ lw_good := in_good (List.mem_of_getElem? (i := 156) rfl) rfl
theorem k_157 : Cond.fieldLink "ModuleLoaders" 115 "ModuleLoaders$Things" "kind" "[I" ∈ lw_good := in_good (List.mem_of_getElem? (i := 157) rfl) rfl
theorem k_158 : Cond.fieldLink "ModuleLoaders$Things" 15 "ModuleLoaders$Things" "dropped" "[Z" ∈ lw_good := in_good (List.mem_of_getElem? (i := 158) rfl) rfl
theorem k_159 : Cond.fieldLink "ModuleLoaders" 112 "ModuleLoaders$Things" "dropped" "[Z" ∈ lw_good := in_good (List.mem_of_getElem? (i := 159) rfl) rfl
theorem k_160 : Cond.fieldLink "ModuleLoaders$Things" 19 "ModuleLoaders$Things" "size" "I" ∈ lw_good := in_good (List.mem_of_getElem? (i := 160) rfl) rfl
theorem k_161 : Cond.fieldLink "ModuleLoaders" 153 "ModuleLoaders$Things" "size" "I" ∈ lw_good := in_good (List.mem_of_getElem? (i := 161) rfl) rfl
theorem k_169 : Cond.classLink "ModuleLoaders" 37 "ModuleLoaders$Row" ∈ lw_good := in_good (List.mem_of_getElem? (i := 169) rfl) rfl
theorem k_170 : Cond.instantiable "ModuleLoaders$Row" 2 ∈ lw_good := in_good (List.mem_of_getElem? (i := 170) rfl) rfl
theorem k_172 : Cond.instanceMethod ⟨"ModuleLoaders$Row", "<init>", "()V"⟩ ∈ lw_good := in_good (List.mem_of_getElem? (i := 172) rfl) rfl
theorem k_173 : Cond.code ⟨"ModuleLoaders$Row", "<init>", "()V"⟩ prog_5_method_1_code 1 none ∈ lw_good := in_good (List.mem_of_getElem? (i := 173) rfl) rfl
theorem k_174 : Cond.methodLink "ModuleLoaders$Row" 3 ⟨"java/lang/Object", "<init>", "()V"⟩ ∈ lw_good := in_good (List.mem_of_getElem? (i := 174) rfl) rfl
theorem k_175 : Cond.fieldLink "ModuleLoaders$Row" 9 "ModuleLoaders$Row" "items" "[I" ∈ lw_good := in_good (List.mem_of_getElem? (i := 175) rfl) rfl
theorem k_176 : Cond.fieldLink "ModuleLoaders" 148 "ModuleLoaders$Row" "items" "[I" ∈ lw_good := in_good (List.mem_of_getElem? (i := 176) rfl) rfl
theorem k_177 : Cond.fieldLink "ModuleLoaders$Row" 15 "ModuleLoaders$Row" "size" "I" ∈ lw_good := in_good (List.mem_of_getElem? (i := 177) rfl) rfl
theorem k_178 : Cond.fieldLink "ModuleLoaders" 147 "ModuleLoaders$Row" "size" "I" ∈ lw_good := in_good (List.mem_of_getElem? (i := 178) rfl) rfl
theorem k_184 : Cond.fieldLink "ModuleLoaders" 12 "ModuleLoaders" "files" "LModuleLoaders$Files;" ∈ lw_good := in_good (List.mem_of_getElem? (i := 184) rfl) rfl
theorem k_185 : Cond.fieldLink "ModuleLoaders" 19 "ModuleLoaders" "loaders" "LModuleLoaders$Loaders;" ∈ lw_good := in_good (List.mem_of_getElem? (i := 185) rfl) rfl
theorem k_186 : Cond.fieldLink "ModuleLoaders" 26 "ModuleLoaders" "modules" "LModuleLoaders$Modules;" ∈ lw_good := in_good (List.mem_of_getElem? (i := 186) rfl) rfl
theorem k_187 : Cond.fieldLink "ModuleLoaders" 33 "ModuleLoaders" "things" "LModuleLoaders$Things;" ∈ lw_good := in_good (List.mem_of_getElem? (i := 187) rfl) rfl
theorem k_188 : Cond.fieldLink "ModuleLoaders" 40 "ModuleLoaders" "theOrder" "LModuleLoaders$Row;" ∈ lw_good := in_good (List.mem_of_getElem? (i := 188) rfl) rfl
theorem k_189 : Cond.fieldLink "ModuleLoaders" 44 "ModuleLoaders" "beginning" "LModuleLoaders$Row;" ∈ lw_good := in_good (List.mem_of_getElem? (i := 189) rfl) rfl
theorem k_190 : Cond.fieldLink "ModuleLoaders" 47 "ModuleLoaders" "heldModules" "[Z" ∈ lw_good := in_good (List.mem_of_getElem? (i := 190) rfl) rfl
theorem k_206 : Cond.methodLink "ModuleLoadersLaw" 13 ⟨"ModuleLoaders", "file", "(IIIII)I"⟩ ∈ lw_good := in_good (List.mem_of_getElem? (i := 206) rfl) rfl
theorem k_207 : Cond.instanceMethod ⟨"ModuleLoaders", "file", "(IIIII)I"⟩ ∈ lw_good := in_good (List.mem_of_getElem? (i := 207) rfl) rfl
theorem k_208 : Cond.selects "ModuleLoaders" ⟨"ModuleLoaders", "file", "(IIIII)I"⟩ ⟨"ModuleLoaders", "file", "(IIIII)I"⟩ ∈ lw_good := in_good (List.mem_of_getElem? (i := 208) rfl) rfl
theorem k_209 : Cond.code ⟨"ModuleLoaders", "file", "(IIIII)I"⟩ prog_1_method_2_code 6 (some .int) ∈ lw_good := in_good (List.mem_of_getElem? (i := 209) rfl) rfl
theorem k_210 : Cond.methodLink "ModuleLoaders" 51 ⟨"ModuleLoaders", "isName", "(I)Z"⟩ ∈ lw_good := in_good (List.mem_of_getElem? (i := 210) rfl) rfl
theorem k_211 : Cond.static ⟨"ModuleLoaders", "isName", "(I)Z"⟩ ∈ lw_good := in_good (List.mem_of_getElem? (i := 211) rfl) rfl
theorem k_212 : Cond.code ⟨"ModuleLoaders", "isName", "(I)Z"⟩ prog_1_method_20_code 1 (some .boolean) ∈ lw_good := in_good (List.mem_of_getElem? (i := 212) rfl) rfl
theorem k_213 : Cond.methodLink "ModuleLoaders" 55 ⟨"ModuleLoaders", "isNameOrNone", "(I)Z"⟩ ∈ lw_good := in_good (List.mem_of_getElem? (i := 213) rfl) rfl
theorem k_214 : Cond.static ⟨"ModuleLoaders", "isNameOrNone", "(I)Z"⟩ ∈ lw_good := in_good (List.mem_of_getElem? (i := 214) rfl) rfl
theorem k_215 : Cond.code ⟨"ModuleLoaders", "isNameOrNone", "(I)Z"⟩ prog_1_method_21_code 1 (some .boolean) ∈ lw_good := in_good (List.mem_of_getElem? (i := 215) rfl) rfl
theorem k_216 : Cond.methodLink "ModuleLoaders" 58 ⟨"ModuleLoaders$Files", "add", "(IIIII)I"⟩ ∈ lw_good := in_good (List.mem_of_getElem? (i := 216) rfl) rfl
theorem k_217 : Cond.instanceMethod ⟨"ModuleLoaders$Files", "add", "(IIIII)I"⟩ ∈ lw_good := in_good (List.mem_of_getElem? (i := 217) rfl) rfl
theorem k_218 : Cond.selects "ModuleLoaders$Files" ⟨"ModuleLoaders$Files", "add", "(IIIII)I"⟩ ⟨"ModuleLoaders$Files", "add", "(IIIII)I"⟩ ∈ lw_good := in_good (List.mem_of_getElem? (i := 218) rfl) rfl
theorem k_219 : Cond.code ⟨"ModuleLoaders$Files", "add", "(IIIII)I"⟩ prog_2_method_4_code 6 (some .int) ∈ lw_good := in_good (List.mem_of_getElem? (i := 219) rfl) rfl
theorem k_220 : Cond.methodLink "ModuleLoadersLaw" 18 ⟨"ModuleLoaders", "loader", "(IZ)I"⟩ ∈ lw_good := in_good (List.mem_of_getElem? (i := 220) rfl) rfl
theorem k_221 : Cond.instanceMethod ⟨"ModuleLoaders", "loader", "(IZ)I"⟩ ∈ lw_good := in_good (List.mem_of_getElem? (i := 221) rfl) rfl
theorem k_222 : Cond.selects "ModuleLoaders" ⟨"ModuleLoaders", "loader", "(IZ)I"⟩ ⟨"ModuleLoaders", "loader", "(IZ)I"⟩ ∈ lw_good := in_good (List.mem_of_getElem? (i := 222) rfl) rfl
theorem k_223 : Cond.code ⟨"ModuleLoaders", "loader", "(IZ)I"⟩ prog_1_method_3_code 3 (some .int) ∈ lw_good := in_good (List.mem_of_getElem? (i := 223) rfl) rfl
theorem k_224 : Cond.methodLink "ModuleLoaders" 62 ⟨"ModuleLoaders$Loaders", "has", "(I)Z"⟩ ∈ lw_good := in_good (List.mem_of_getElem? (i := 224) rfl) rfl
theorem k_225 : Cond.instanceMethod ⟨"ModuleLoaders$Loaders", "has", "(I)Z"⟩ ∈ lw_good := in_good (List.mem_of_getElem? (i := 225) rfl) rfl
theorem k_226 : Cond.selects "ModuleLoaders$Loaders" ⟨"ModuleLoaders$Loaders", "has", "(I)Z"⟩ ⟨"ModuleLoaders$Loaders", "has", "(I)Z"⟩ ∈ lw_good := in_good (List.mem_of_getElem? (i := 226) rfl) rfl
theorem k_227 : Cond.code ⟨"ModuleLoaders$Loaders", "has", "(I)Z"⟩ prog_3_method_2_code 2 (some .boolean) ∈ lw_good := in_good (List.mem_of_getElem? (i := 227) rfl) rfl
theorem k_228 : Cond.methodLink "ModuleLoaders" 65 ⟨"ModuleLoaders$Loaders", "isProgram", "(I)Z"⟩ ∈ lw_good := in_good (List.mem_of_getElem? (i := 228) rfl) rfl
theorem k_229 : Cond.instanceMethod ⟨"ModuleLoaders$Loaders", "isProgram", "(I)Z"⟩ ∈ lw_good := in_good (List.mem_of_getElem? (i := 229) rfl) rfl
theorem k_230 : Cond.selects "ModuleLoaders$Loaders" ⟨"ModuleLoaders$Loaders", "isProgram", "(I)Z"⟩ ⟨"ModuleLoaders$Loaders", "isProgram", "(I)Z"⟩ ∈ lw_good := in_good (List.mem_of_getElem? (i := 230) rfl) rfl
theorem k_231 : Cond.code ⟨"ModuleLoaders$Loaders", "isProgram", "(I)Z"⟩ prog_3_method_3_code 2 (some .boolean) ∈ lw_good := in_good (List.mem_of_getElem? (i := 231) rfl) rfl
theorem k_232 : Cond.methodLink "ModuleLoaders" 71 ⟨"ModuleLoaders$Loaders", "add", "(IZ)I"⟩ ∈ lw_good := in_good (List.mem_of_getElem? (i := 232) rfl) rfl
theorem k_233 : Cond.instanceMethod ⟨"ModuleLoaders$Loaders", "add", "(IZ)I"⟩ ∈ lw_good := in_good (List.mem_of_getElem? (i := 233) rfl) rfl
theorem k_234 : Cond.selects "ModuleLoaders$Loaders" ⟨"ModuleLoaders$Loaders", "add", "(IZ)I"⟩ ⟨"ModuleLoaders$Loaders", "add", "(IZ)I"⟩ ∈ lw_good := in_good (List.mem_of_getElem? (i := 234) rfl) rfl
theorem k_235 : Cond.code ⟨"ModuleLoaders$Loaders", "add", "(IZ)I"⟩ prog_3_method_4_code 3 (some .int) ∈ lw_good := in_good (List.mem_of_getElem? (i := 235) rfl) rfl
theorem k_236 : Cond.methodLink "ModuleLoadersLaw" 23 ⟨"ModuleLoaders", "put", "(III)I"⟩ ∈ lw_good := in_good (List.mem_of_getElem? (i := 236) rfl) rfl
theorem k_237 : Cond.instanceMethod ⟨"ModuleLoaders", "put", "(III)I"⟩ ∈ lw_good := in_good (List.mem_of_getElem? (i := 237) rfl) rfl
theorem k_238 : Cond.selects "ModuleLoaders" ⟨"ModuleLoaders", "put", "(III)I"⟩ ⟨"ModuleLoaders", "put", "(III)I"⟩ ∈ lw_good := in_good (List.mem_of_getElem? (i := 238) rfl) rfl
theorem k_239 : Cond.code ⟨"ModuleLoaders", "put", "(III)I"⟩ prog_1_method_4_code 4 (some .int) ∈ lw_good := in_good (List.mem_of_getElem? (i := 239) rfl) rfl
theorem k_240 : Cond.methodLink "ModuleLoaders" 74 ⟨"ModuleLoaders$Files", "has", "(I)Z"⟩ ∈ lw_good := in_good (List.mem_of_getElem? (i := 240) rfl) rfl
theorem k_241 : Cond.instanceMethod ⟨"ModuleLoaders$Files", "has", "(I)Z"⟩ ∈ lw_good := in_good (List.mem_of_getElem? (i := 241) rfl) rfl
theorem k_242 : Cond.selects "ModuleLoaders$Files" ⟨"ModuleLoaders$Files", "has", "(I)Z"⟩ ⟨"ModuleLoaders$Files", "has", "(I)Z"⟩ ∈ lw_good := in_good (List.mem_of_getElem? (i := 242) rfl) rfl
theorem k_243 : Cond.code ⟨"ModuleLoaders$Files", "has", "(I)Z"⟩ prog_2_method_2_code 2 (some .boolean) ∈ lw_good := in_good (List.mem_of_getElem? (i := 243) rfl) rfl
theorem k_244 : Cond.methodLink "ModuleLoaders" 79 ⟨"ModuleLoaders", "slot", "(II)I"⟩ ∈ lw_good := in_good (List.mem_of_getElem? (i := 244) rfl) rfl
theorem k_245 : Cond.static ⟨"ModuleLoaders", "slot", "(II)I"⟩ ∈ lw_good := in_good (List.mem_of_getElem? (i := 245) rfl) rfl
theorem k_246 : Cond.code ⟨"ModuleLoaders", "slot", "(II)I"⟩ prog_1_method_22_code 2 (some .int) ∈ lw_good := in_good (List.mem_of_getElem? (i := 246) rfl) rfl
theorem k_247 : Cond.methodLink "ModuleLoadersLaw" 28 ⟨"ModuleLoaders", "load", "(II)I"⟩ ∈ lw_good := in_good (List.mem_of_getElem? (i := 247) rfl) rfl
theorem k_248 : Cond.instanceMethod ⟨"ModuleLoaders", "load", "(II)I"⟩ ∈ lw_good := in_good (List.mem_of_getElem? (i := 248) rfl) rfl
theorem k_249 : Cond.selects "ModuleLoaders" ⟨"ModuleLoaders", "load", "(II)I"⟩ ⟨"ModuleLoaders", "load", "(II)I"⟩ ∈ lw_good := in_good (List.mem_of_getElem? (i := 249) rfl) rfl
theorem k_250 : Cond.code ⟨"ModuleLoaders", "load", "(II)I"⟩ prog_1_method_5_code 3 (some .int) ∈ lw_good := in_good (List.mem_of_getElem? (i := 250) rfl) rfl
theorem k_251 : Cond.methodLink "ModuleLoaders" 83 ⟨"ModuleLoaders", "ask", "(III)I"⟩ ∈ lw_good := in_good (List.mem_of_getElem? (i := 251) rfl) rfl
theorem k_253 : Cond.instanceMethod ⟨"ModuleLoaders", "ask", "(III)I"⟩ ∈ lw_good := in_good (List.mem_of_getElem? (i := 253) rfl) rfl
theorem k_254 : Cond.code ⟨"ModuleLoaders", "ask", "(III)I"⟩ prog_1_method_23_code 8 (some .int) ∈ lw_good := in_good (List.mem_of_getElem? (i := 254) rfl) rfl
theorem k_255 : Cond.methodLink "ModuleLoaders" 94 ⟨"ModuleLoaders$Loaders", "madeOrGiven", "(II)I"⟩ ∈ lw_good := in_good (List.mem_of_getElem? (i := 255) rfl) rfl
theorem k_256 : Cond.instanceMethod ⟨"ModuleLoaders$Loaders", "madeOrGiven", "(II)I"⟩ ∈ lw_good := in_good (List.mem_of_getElem? (i := 256) rfl) rfl
theorem k_257 : Cond.selects "ModuleLoaders$Loaders" ⟨"ModuleLoaders$Loaders", "madeOrGiven", "(II)I"⟩ ⟨"ModuleLoaders$Loaders", "madeOrGiven", "(II)I"⟩ ∈ lw_good := in_good (List.mem_of_getElem? (i := 257) rfl) rfl
theorem k_258 : Cond.code ⟨"ModuleLoaders$Loaders", "madeOrGiven", "(II)I"⟩ prog_3_method_5_code 4 (some .int) ∈ lw_good := in_good (List.mem_of_getElem? (i := 258) rfl) rfl
theorem k_260 : Cond.methodLink "ModuleLoaders" 157 ⟨"ModuleLoaders", "askLibrary", "(III)I"⟩ ∈ lw_good := in_good (List.mem_of_getElem? (i := 260) rfl) rfl
theorem k_262 : Cond.instanceMethod ⟨"ModuleLoaders", "askLibrary", "(III)I"⟩ ∈ lw_good := in_good (List.mem_of_getElem? (i := 262) rfl) rfl
theorem k_263 : Cond.code ⟨"ModuleLoaders", "askLibrary", "(III)I"⟩ prog_1_method_24_code 5 (some .int) ∈ lw_good := in_good (List.mem_of_getElem? (i := 263) rfl) rfl
theorem k_264 : Cond.methodLink "ModuleLoaders" 90 ⟨"ModuleLoaders", "make", "(IIII)I"⟩ ∈ lw_good := in_good (List.mem_of_getElem? (i := 264) rfl) rfl
theorem k_266 : Cond.instanceMethod ⟨"ModuleLoaders", "make", "(IIII)I"⟩ ∈ lw_good := in_good (List.mem_of_getElem? (i := 266) rfl) rfl
theorem k_267 : Cond.code ⟨"ModuleLoaders", "make", "(IIII)I"⟩ prog_1_method_25_code 10 (some .int) ∈ lw_good := in_good (List.mem_of_getElem? (i := 267) rfl) rfl
theorem k_268 : Cond.methodLink "ModuleLoaders" 166 ⟨"ModuleLoaders", "failureAhead", "(III)I"⟩ ∈ lw_good := in_good (List.mem_of_getElem? (i := 268) rfl) rfl
theorem k_270 : Cond.instanceMethod ⟨"ModuleLoaders", "failureAhead", "(III)I"⟩ ∈ lw_good := in_good (List.mem_of_getElem? (i := 270) rfl) rfl
theorem k_271 : Cond.code ⟨"ModuleLoaders", "failureAhead", "(III)I"⟩ prog_1_method_26_code 4 (some .int) ∈ lw_good := in_good (List.mem_of_getElem? (i := 271) rfl) rfl
theorem k_272 : Cond.methodLink "ModuleLoaders" 179 ⟨"ModuleLoaders$Files", "hasFlag", "(II)Z"⟩ ∈ lw_good := in_good (List.mem_of_getElem? (i := 272) rfl) rfl
theorem k_273 : Cond.instanceMethod ⟨"ModuleLoaders$Files", "hasFlag", "(II)Z"⟩ ∈ lw_good := in_good (List.mem_of_getElem? (i := 273) rfl) rfl
theorem k_274 : Cond.selects "ModuleLoaders$Files" ⟨"ModuleLoaders$Files", "hasFlag", "(II)Z"⟩ ⟨"ModuleLoaders$Files", "hasFlag", "(II)Z"⟩ ∈ lw_good := in_good (List.mem_of_getElem? (i := 274) rfl) rfl
theorem k_275 : Cond.code ⟨"ModuleLoaders$Files", "hasFlag", "(II)Z"⟩ prog_2_method_3_code 3 (some .boolean) ∈ lw_good := in_good (List.mem_of_getElem? (i := 275) rfl) rfl
theorem k_276 : Cond.methodLink "ModuleLoaders" 170 ⟨"ModuleLoaders", "stand", "(IIII)I"⟩ ∈ lw_good := in_good (List.mem_of_getElem? (i := 276) rfl) rfl
theorem k_278 : Cond.instanceMethod ⟨"ModuleLoaders", "stand", "(IIII)I"⟩ ∈ lw_good := in_good (List.mem_of_getElem? (i := 278) rfl) rfl
theorem k_279 : Cond.code ⟨"ModuleLoaders", "stand", "(IIII)I"⟩ prog_1_method_27_code 6 (some .int) ∈ lw_good := in_good (List.mem_of_getElem? (i := 279) rfl) rfl
theorem k_280 : Cond.methodLink "ModuleLoaders" 182 ⟨"ModuleLoaders$Modules", "add", "(IIII)I"⟩ ∈ lw_good := in_good (List.mem_of_getElem? (i := 280) rfl) rfl
theorem k_281 : Cond.instanceMethod ⟨"ModuleLoaders$Modules", "add", "(IIII)I"⟩ ∈ lw_good := in_good (List.mem_of_getElem? (i := 281) rfl) rfl
theorem k_282 : Cond.selects "ModuleLoaders$Modules" ⟨"ModuleLoaders$Modules", "add", "(IIII)I"⟩ ⟨"ModuleLoaders$Modules", "add", "(IIII)I"⟩ ∈ lw_good := in_good (List.mem_of_getElem? (i := 282) rfl) rfl
theorem k_283 : Cond.code ⟨"ModuleLoaders$Modules", "add", "(IIII)I"⟩ prog_4_method_3_code 5 (some .int) ∈ lw_good := in_good (List.mem_of_getElem? (i := 283) rfl) rfl
theorem k_284 : Cond.methodLink "ModuleLoadersLaw" 33 ⟨"ModuleLoaders", "define", "(III)I"⟩ ∈ lw_good := in_good (List.mem_of_getElem? (i := 284) rfl) rfl
theorem k_285 : Cond.instanceMethod ⟨"ModuleLoaders", "define", "(III)I"⟩ ∈ lw_good := in_good (List.mem_of_getElem? (i := 285) rfl) rfl
theorem k_286 : Cond.selects "ModuleLoaders" ⟨"ModuleLoaders", "define", "(III)I"⟩ ⟨"ModuleLoaders", "define", "(III)I"⟩ ∈ lw_good := in_good (List.mem_of_getElem? (i := 286) rfl) rfl
theorem k_287 : Cond.code ⟨"ModuleLoaders", "define", "(III)I"⟩ prog_1_method_6_code 4 (some .int) ∈ lw_good := in_good (List.mem_of_getElem? (i := 287) rfl) rfl
theorem k_288 : Cond.methodLink "ModuleLoadersLaw" 37 ⟨"ModuleLoaders", "anew", "(III)I"⟩ ∈ lw_good := in_good (List.mem_of_getElem? (i := 288) rfl) rfl
theorem k_289 : Cond.instanceMethod ⟨"ModuleLoaders", "anew", "(III)I"⟩ ∈ lw_good := in_good (List.mem_of_getElem? (i := 289) rfl) rfl
theorem k_290 : Cond.selects "ModuleLoaders" ⟨"ModuleLoaders", "anew", "(III)I"⟩ ⟨"ModuleLoaders", "anew", "(III)I"⟩ ∈ lw_good := in_good (List.mem_of_getElem? (i := 290) rfl) rfl
theorem k_291 : Cond.code ⟨"ModuleLoaders", "anew", "(III)I"⟩ prog_1_method_7_code 4 (some .int) ∈ lw_good := in_good (List.mem_of_getElem? (i := 291) rfl) rfl
theorem k_292 : Cond.methodLink "ModuleLoadersLaw" 41 ⟨"ModuleLoaders", "known", "(II)I"⟩ ∈ lw_good := in_good (List.mem_of_getElem? (i := 292) rfl) rfl
theorem k_293 : Cond.instanceMethod ⟨"ModuleLoaders", "known", "(II)I"⟩ ∈ lw_good := in_good (List.mem_of_getElem? (i := 293) rfl) rfl
theorem k_294 : Cond.selects "ModuleLoaders" ⟨"ModuleLoaders", "known", "(II)I"⟩ ⟨"ModuleLoaders", "known", "(II)I"⟩ ∈ lw_good := in_good (List.mem_of_getElem? (i := 294) rfl) rfl
theorem k_295 : Cond.code ⟨"ModuleLoaders", "known", "(II)I"⟩ prog_1_method_8_code 3 (some .int) ∈ lw_good := in_good (List.mem_of_getElem? (i := 295) rfl) rfl
theorem k_296 : Cond.methodLink "ModuleLoadersLaw" 45 ⟨"ModuleLoaders", "begin", "(I)I"⟩ ∈ lw_good := in_good (List.mem_of_getElem? (i := 296) rfl) rfl
theorem k_297 : Cond.instanceMethod ⟨"ModuleLoaders", "begin", "(I)I"⟩ ∈ lw_good := in_good (List.mem_of_getElem? (i := 297) rfl) rfl
theorem k_298 : Cond.selects "ModuleLoaders" ⟨"ModuleLoaders", "begin", "(I)I"⟩ ⟨"ModuleLoaders", "begin", "(I)I"⟩ ∈ lw_good := in_good (List.mem_of_getElem? (i := 298) rfl) rfl
theorem k_299 : Cond.code ⟨"ModuleLoaders", "begin", "(I)I"⟩ prog_1_method_9_code 2 (some .int) ∈ lw_good := in_good (List.mem_of_getElem? (i := 299) rfl) rfl
theorem k_300 : Cond.methodLink "ModuleLoaders" 97 ⟨"ModuleLoaders$Modules", "has", "(I)Z"⟩ ∈ lw_good := in_good (List.mem_of_getElem? (i := 300) rfl) rfl
theorem k_301 : Cond.instanceMethod ⟨"ModuleLoaders$Modules", "has", "(I)Z"⟩ ∈ lw_good := in_good (List.mem_of_getElem? (i := 301) rfl) rfl
theorem k_302 : Cond.selects "ModuleLoaders$Modules" ⟨"ModuleLoaders$Modules", "has", "(I)Z"⟩ ⟨"ModuleLoaders$Modules", "has", "(I)Z"⟩ ∈ lw_good := in_good (List.mem_of_getElem? (i := 302) rfl) rfl
theorem k_303 : Cond.code ⟨"ModuleLoaders$Modules", "has", "(I)Z"⟩ prog_4_method_2_code 2 (some .boolean) ∈ lw_good := in_good (List.mem_of_getElem? (i := 303) rfl) rfl
theorem k_304 : Cond.methodLink "ModuleLoaders" 101 ⟨"ModuleLoaders", "beginFrom", "(I)I"⟩ ∈ lw_good := in_good (List.mem_of_getElem? (i := 304) rfl) rfl
theorem k_306 : Cond.instanceMethod ⟨"ModuleLoaders", "beginFrom", "(I)I"⟩ ∈ lw_good := in_good (List.mem_of_getElem? (i := 306) rfl) rfl
theorem k_307 : Cond.code ⟨"ModuleLoaders", "beginFrom", "(I)I"⟩ prog_1_method_28_code 4 (some .int) ∈ lw_good := in_good (List.mem_of_getElem? (i := 307) rfl) rfl
theorem k_308 : Cond.methodLink "ModuleLoaders" 184 ⟨"ModuleLoaders", "comeTo", "(I)I"⟩ ∈ lw_good := in_good (List.mem_of_getElem? (i := 308) rfl) rfl
theorem k_310 : Cond.instanceMethod ⟨"ModuleLoaders", "comeTo", "(I)I"⟩ ∈ lw_good := in_good (List.mem_of_getElem? (i := 310) rfl) rfl
theorem k_311 : Cond.code ⟨"ModuleLoaders", "comeTo", "(I)I"⟩ prog_1_method_29_code 3 (some .int) ∈ lw_good := in_good (List.mem_of_getElem? (i := 311) rfl) rfl
theorem k_312 : Cond.methodLink "ModuleLoaders" 190 ⟨"ModuleLoaders$Row", "add", "(I)V"⟩ ∈ lw_good := in_good (List.mem_of_getElem? (i := 312) rfl) rfl
theorem k_313 : Cond.instanceMethod ⟨"ModuleLoaders$Row", "add", "(I)V"⟩ ∈ lw_good := in_good (List.mem_of_getElem? (i := 313) rfl) rfl
theorem k_314 : Cond.selects "ModuleLoaders$Row" ⟨"ModuleLoaders$Row", "add", "(I)V"⟩ ⟨"ModuleLoaders$Row", "add", "(I)V"⟩ ∈ lw_good := in_good (List.mem_of_getElem? (i := 314) rfl) rfl
theorem k_315 : Cond.code ⟨"ModuleLoaders$Row", "add", "(I)V"⟩ prog_5_method_2_code 2 none ∈ lw_good := in_good (List.mem_of_getElem? (i := 315) rfl) rfl
theorem k_316 : Cond.methodLink "ModuleLoaders" 187 ⟨"ModuleLoaders", "goOn", "(I)I"⟩ ∈ lw_good := in_good (List.mem_of_getElem? (i := 316) rfl) rfl
theorem k_318 : Cond.instanceMethod ⟨"ModuleLoaders", "goOn", "(I)I"⟩ ∈ lw_good := in_good (List.mem_of_getElem? (i := 318) rfl) rfl
theorem k_319 : Cond.code ⟨"ModuleLoaders", "goOn", "(I)I"⟩ prog_1_method_30_code 2 (some .int) ∈ lw_good := in_good (List.mem_of_getElem? (i := 319) rfl) rfl
theorem k_320 : Cond.methodLink "ModuleLoaders" 193 ⟨"ModuleLoaders", "comeToNeed", "(I)I"⟩ ∈ lw_good := in_good (List.mem_of_getElem? (i := 320) rfl) rfl
theorem k_322 : Cond.instanceMethod ⟨"ModuleLoaders", "comeToNeed", "(I)I"⟩ ∈ lw_good := in_good (List.mem_of_getElem? (i := 322) rfl) rfl
theorem k_323 : Cond.code ⟨"ModuleLoaders", "comeToNeed", "(I)I"⟩ prog_1_method_31_code 4 (some .int) ∈ lw_good := in_good (List.mem_of_getElem? (i := 323) rfl) rfl
theorem k_324 : Cond.methodLink "ModuleLoaders" 196 ⟨"ModuleLoaders", "beginItself", "(I)I"⟩ ∈ lw_good := in_good (List.mem_of_getElem? (i := 324) rfl) rfl
theorem k_326 : Cond.instanceMethod ⟨"ModuleLoaders", "beginItself", "(I)I"⟩ ∈ lw_good := in_good (List.mem_of_getElem? (i := 326) rfl) rfl
theorem k_327 : Cond.code ⟨"ModuleLoaders", "beginItself", "(I)I"⟩ prog_1_method_32_code 3 (some .int) ∈ lw_good := in_good (List.mem_of_getElem? (i := 327) rfl) rfl
theorem k_328 : Cond.methodLink "ModuleLoadersLaw" 50 ⟨"ModuleLoaders", "thing", "(I)I"⟩ ∈ lw_good := in_good (List.mem_of_getElem? (i := 328) rfl) rfl
theorem k_329 : Cond.instanceMethod ⟨"ModuleLoaders", "thing", "(I)I"⟩ ∈ lw_good := in_good (List.mem_of_getElem? (i := 329) rfl) rfl
theorem k_330 : Cond.selects "ModuleLoaders" ⟨"ModuleLoaders", "thing", "(I)I"⟩ ⟨"ModuleLoaders", "thing", "(I)I"⟩ ∈ lw_good := in_good (List.mem_of_getElem? (i := 330) rfl) rfl
theorem k_331 : Cond.code ⟨"ModuleLoaders", "thing", "(I)I"⟩ prog_1_method_10_code 3 (some .int) ∈ lw_good := in_good (List.mem_of_getElem? (i := 331) rfl) rfl
theorem k_332 : Cond.methodLink "ModuleLoaders" 105 ⟨"ModuleLoaders$Things", "areFull", "()Z"⟩ ∈ lw_good := in_good (List.mem_of_getElem? (i := 332) rfl) rfl
theorem k_333 : Cond.instanceMethod ⟨"ModuleLoaders$Things", "areFull", "()Z"⟩ ∈ lw_good := in_good (List.mem_of_getElem? (i := 333) rfl) rfl
theorem k_334 : Cond.selects "ModuleLoaders$Things" ⟨"ModuleLoaders$Things", "areFull", "()Z"⟩ ⟨"ModuleLoaders$Things", "areFull", "()Z"⟩ ∈ lw_good := in_good (List.mem_of_getElem? (i := 334) rfl) rfl
theorem k_335 : Cond.code ⟨"ModuleLoaders$Things", "areFull", "()Z"⟩ prog_6_method_3_code 1 (some .boolean) ∈ lw_good := in_good (List.mem_of_getElem? (i := 335) rfl) rfl
theorem k_336 : Cond.methodLink "ModuleLoaders" 109 ⟨"ModuleLoaders$Things", "add", "(I)I"⟩ ∈ lw_good := in_good (List.mem_of_getElem? (i := 336) rfl) rfl
theorem k_337 : Cond.instanceMethod ⟨"ModuleLoaders$Things", "add", "(I)I"⟩ ∈ lw_good := in_good (List.mem_of_getElem? (i := 337) rfl) rfl
theorem k_338 : Cond.selects "ModuleLoaders$Things" ⟨"ModuleLoaders$Things", "add", "(I)I"⟩ ⟨"ModuleLoaders$Things", "add", "(I)I"⟩ ∈ lw_good := in_good (List.mem_of_getElem? (i := 338) rfl) rfl
theorem k_339 : Cond.code ⟨"ModuleLoaders$Things", "add", "(I)I"⟩ prog_6_method_4_code 2 (some .int) ∈ lw_good := in_good (List.mem_of_getElem? (i := 339) rfl) rfl
theorem k_340 : Cond.methodLink "ModuleLoaders$Things" 23 ⟨"ModuleLoaders$Things", "areFull", "()Z"⟩ ∈ lw_good := in_good (List.mem_of_getElem? (i := 340) rfl) rfl
theorem k_341 : Cond.methodLink "ModuleLoadersLaw" 54 ⟨"ModuleLoaders", "cast", "(II)I"⟩ ∈ lw_good := in_good (List.mem_of_getElem? (i := 341) rfl) rfl
theorem k_342 : Cond.instanceMethod ⟨"ModuleLoaders", "cast", "(II)I"⟩ ∈ lw_good := in_good (List.mem_of_getElem? (i := 342) rfl) rfl
theorem k_343 : Cond.selects "ModuleLoaders" ⟨"ModuleLoaders", "cast", "(II)I"⟩ ⟨"ModuleLoaders", "cast", "(II)I"⟩ ∈ lw_good := in_good (List.mem_of_getElem? (i := 343) rfl) rfl
theorem k_344 : Cond.code ⟨"ModuleLoaders", "cast", "(II)I"⟩ prog_1_method_11_code 3 (some .int) ∈ lw_good := in_good (List.mem_of_getElem? (i := 344) rfl) rfl
theorem k_345 : Cond.methodLink "ModuleLoaders" 111 ⟨"ModuleLoaders$Things", "has", "(I)Z"⟩ ∈ lw_good := in_good (List.mem_of_getElem? (i := 345) rfl) rfl
theorem k_346 : Cond.instanceMethod ⟨"ModuleLoaders$Things", "has", "(I)Z"⟩ ∈ lw_good := in_good (List.mem_of_getElem? (i := 346) rfl) rfl
theorem k_347 : Cond.selects "ModuleLoaders$Things" ⟨"ModuleLoaders$Things", "has", "(I)Z"⟩ ⟨"ModuleLoaders$Things", "has", "(I)Z"⟩ ∈ lw_good := in_good (List.mem_of_getElem? (i := 347) rfl) rfl
theorem k_348 : Cond.code ⟨"ModuleLoaders$Things", "has", "(I)Z"⟩ prog_6_method_2_code 2 (some .boolean) ∈ lw_good := in_good (List.mem_of_getElem? (i := 348) rfl) rfl
theorem k_349 : Cond.methodLink "ModuleLoaders" 118 ⟨"ModuleLoaders$Modules", "isOrDescends", "(II)Z"⟩ ∈ lw_good := in_good (List.mem_of_getElem? (i := 349) rfl) rfl
theorem k_350 : Cond.instanceMethod ⟨"ModuleLoaders$Modules", "isOrDescends", "(II)Z"⟩ ∈ lw_good := in_good (List.mem_of_getElem? (i := 350) rfl) rfl
theorem k_351 : Cond.selects "ModuleLoaders$Modules" ⟨"ModuleLoaders$Modules", "isOrDescends", "(II)Z"⟩ ⟨"ModuleLoaders$Modules", "isOrDescends", "(II)Z"⟩ ∈ lw_good := in_good (List.mem_of_getElem? (i := 351) rfl) rfl
theorem k_352 : Cond.code ⟨"ModuleLoaders$Modules", "isOrDescends", "(II)Z"⟩ prog_4_method_4_code 5 (some .boolean) ∈ lw_good := in_good (List.mem_of_getElem? (i := 352) rfl) rfl
theorem k_353 : Cond.methodLink "ModuleLoadersLaw" 58 ⟨"ModuleLoaders", "drop", "(I)I"⟩ ∈ lw_good := in_good (List.mem_of_getElem? (i := 353) rfl) rfl
theorem k_354 : Cond.instanceMethod ⟨"ModuleLoaders", "drop", "(I)I"⟩ ∈ lw_good := in_good (List.mem_of_getElem? (i := 354) rfl) rfl
theorem k_355 : Cond.selects "ModuleLoaders" ⟨"ModuleLoaders", "drop", "(I)I"⟩ ⟨"ModuleLoaders", "drop", "(I)I"⟩ ∈ lw_good := in_good (List.mem_of_getElem? (i := 355) rfl) rfl
theorem k_356 : Cond.code ⟨"ModuleLoaders", "drop", "(I)I"⟩ prog_1_method_12_code 2 (some .int) ∈ lw_good := in_good (List.mem_of_getElem? (i := 356) rfl) rfl
theorem k_357 : Cond.methodLink "ModuleLoadersLaw" 62 ⟨"ModuleLoaders", "letGo", "(I)I"⟩ ∈ lw_good := in_good (List.mem_of_getElem? (i := 357) rfl) rfl
theorem k_358 : Cond.instanceMethod ⟨"ModuleLoaders", "letGo", "(I)I"⟩ ∈ lw_good := in_good (List.mem_of_getElem? (i := 358) rfl) rfl
theorem k_359 : Cond.selects "ModuleLoaders" ⟨"ModuleLoaders", "letGo", "(I)I"⟩ ⟨"ModuleLoaders", "letGo", "(I)I"⟩ ∈ lw_good := in_good (List.mem_of_getElem? (i := 359) rfl) rfl
theorem k_360 : Cond.code ⟨"ModuleLoaders", "letGo", "(I)I"⟩ prog_1_method_13_code 2 (some .int) ∈ lw_good := in_good (List.mem_of_getElem? (i := 360) rfl) rfl
theorem k_361 : Cond.methodLink "ModuleLoaders" 122 ⟨"ModuleLoaders$Loaders", "hasLiveProgram", "(I)Z"⟩ ∈ lw_good := in_good (List.mem_of_getElem? (i := 361) rfl) rfl
theorem k_362 : Cond.instanceMethod ⟨"ModuleLoaders$Loaders", "hasLiveProgram", "(I)Z"⟩ ∈ lw_good := in_good (List.mem_of_getElem? (i := 362) rfl) rfl
theorem k_363 : Cond.selects "ModuleLoaders$Loaders" ⟨"ModuleLoaders$Loaders", "hasLiveProgram", "(I)Z"⟩ ⟨"ModuleLoaders$Loaders", "hasLiveProgram", "(I)Z"⟩ ∈ lw_good := in_good (List.mem_of_getElem? (i := 363) rfl) rfl
theorem k_364 : Cond.code ⟨"ModuleLoaders$Loaders", "hasLiveProgram", "(I)Z"⟩ prog_3_method_6_code 3 (some .boolean) ∈ lw_good := in_good (List.mem_of_getElem? (i := 364) rfl) rfl
theorem k_365 : Cond.methodLink "ModuleLoadersLaw" 66 ⟨"ModuleLoaders", "held", "(I)I"⟩ ∈ lw_good := in_good (List.mem_of_getElem? (i := 365) rfl) rfl
theorem k_366 : Cond.instanceMethod ⟨"ModuleLoaders", "held", "(I)I"⟩ ∈ lw_good := in_good (List.mem_of_getElem? (i := 366) rfl) rfl
theorem k_367 : Cond.selects "ModuleLoaders" ⟨"ModuleLoaders", "held", "(I)I"⟩ ⟨"ModuleLoaders", "held", "(I)I"⟩ ∈ lw_good := in_good (List.mem_of_getElem? (i := 367) rfl) rfl
theorem k_368 : Cond.code ⟨"ModuleLoaders", "held", "(I)I"⟩ prog_1_method_14_code 4 (some .int) ∈ lw_good := in_good (List.mem_of_getElem? (i := 368) rfl) rfl
theorem k_369 : Cond.methodLink "ModuleLoaders" 125 ⟨"ModuleLoaders", "markHeld", "()V"⟩ ∈ lw_good := in_good (List.mem_of_getElem? (i := 369) rfl) rfl
theorem k_371 : Cond.instanceMethod ⟨"ModuleLoaders", "markHeld", "()V"⟩ ∈ lw_good := in_good (List.mem_of_getElem? (i := 371) rfl) rfl
theorem k_372 : Cond.code ⟨"ModuleLoaders", "markHeld", "()V"⟩ prog_1_method_33_code 2 none ∈ lw_good := in_good (List.mem_of_getElem? (i := 372) rfl) rfl
theorem k_373 : Cond.methodLink "ModuleLoaders" 202 ⟨"ModuleLoaders", "markHeldBy", "(I)V"⟩ ∈ lw_good := in_good (List.mem_of_getElem? (i := 373) rfl) rfl
theorem k_375 : Cond.instanceMethod ⟨"ModuleLoaders", "markHeldBy", "(I)V"⟩ ∈ lw_good := in_good (List.mem_of_getElem? (i := 375) rfl) rfl
theorem k_376 : Cond.code ⟨"ModuleLoaders", "markHeldBy", "(I)V"⟩ prog_1_method_34_code 5 none ∈ lw_good := in_good (List.mem_of_getElem? (i := 376) rfl) rfl
theorem k_377 : Cond.methodLink "ModuleLoadersLaw" 70 ⟨"ModuleLoaders", "isHeld", "(I)I"⟩ ∈ lw_good := in_good (List.mem_of_getElem? (i := 377) rfl) rfl
theorem k_378 : Cond.instanceMethod ⟨"ModuleLoaders", "isHeld", "(I)I"⟩ ∈ lw_good := in_good (List.mem_of_getElem? (i := 378) rfl) rfl
theorem k_379 : Cond.selects "ModuleLoaders" ⟨"ModuleLoaders", "isHeld", "(I)I"⟩ ⟨"ModuleLoaders", "isHeld", "(I)I"⟩ ∈ lw_good := in_good (List.mem_of_getElem? (i := 379) rfl) rfl
theorem k_380 : Cond.code ⟨"ModuleLoaders", "isHeld", "(I)I"⟩ prog_1_method_15_code 2 (some .int) ∈ lw_good := in_good (List.mem_of_getElem? (i := 380) rfl) rfl
theorem k_381 : Cond.methodLink "ModuleLoadersLaw" 74 ⟨"ModuleLoaders", "about", "(II)I"⟩ ∈ lw_good := in_good (List.mem_of_getElem? (i := 381) rfl) rfl
theorem k_382 : Cond.instanceMethod ⟨"ModuleLoaders", "about", "(II)I"⟩ ∈ lw_good := in_good (List.mem_of_getElem? (i := 382) rfl) rfl
theorem k_383 : Cond.selects "ModuleLoaders" ⟨"ModuleLoaders", "about", "(II)I"⟩ ⟨"ModuleLoaders", "about", "(II)I"⟩ ∈ lw_good := in_good (List.mem_of_getElem? (i := 383) rfl) rfl
theorem k_384 : Cond.code ⟨"ModuleLoaders", "about", "(II)I"⟩ prog_1_method_16_code 3 (some .int) ∈ lw_good := in_good (List.mem_of_getElem? (i := 384) rfl) rfl
theorem k_385 : Cond.methodLink "ModuleLoadersLaw" 78 ⟨"ModuleLoaders", "aboutThing", "(II)I"⟩ ∈ lw_good := in_good (List.mem_of_getElem? (i := 385) rfl) rfl
theorem k_386 : Cond.instanceMethod ⟨"ModuleLoaders", "aboutThing", "(II)I"⟩ ∈ lw_good := in_good (List.mem_of_getElem? (i := 386) rfl) rfl
theorem k_387 : Cond.selects "ModuleLoaders" ⟨"ModuleLoaders", "aboutThing", "(II)I"⟩ ⟨"ModuleLoaders", "aboutThing", "(II)I"⟩ ∈ lw_good := in_good (List.mem_of_getElem? (i := 387) rfl) rfl
theorem k_388 : Cond.code ⟨"ModuleLoaders", "aboutThing", "(II)I"⟩ prog_1_method_17_code 3 (some .int) ∈ lw_good := in_good (List.mem_of_getElem? (i := 388) rfl) rfl
theorem k_389 : Cond.methodLink "ModuleLoadersLaw" 82 ⟨"ModuleLoaders", "order", "(I)I"⟩ ∈ lw_good := in_good (List.mem_of_getElem? (i := 389) rfl) rfl
theorem k_390 : Cond.instanceMethod ⟨"ModuleLoaders", "order", "(I)I"⟩ ∈ lw_good := in_good (List.mem_of_getElem? (i := 390) rfl) rfl
theorem k_391 : Cond.selects "ModuleLoaders" ⟨"ModuleLoaders", "order", "(I)I"⟩ ⟨"ModuleLoaders", "order", "(I)I"⟩ ∈ lw_good := in_good (List.mem_of_getElem? (i := 391) rfl) rfl
theorem k_392 : Cond.code ⟨"ModuleLoaders", "order", "(I)I"⟩ prog_1_method_18_code 2 (some .int) ∈ lw_good := in_good (List.mem_of_getElem? (i := 392) rfl) rfl
theorem k_393 : Cond.methodLink "ModuleLoadersLaw" 86 ⟨"ModuleLoaders", "count", "(I)I"⟩ ∈ lw_good := in_good (List.mem_of_getElem? (i := 393) rfl) rfl
theorem k_394 : Cond.instanceMethod ⟨"ModuleLoaders", "count", "(I)I"⟩ ∈ lw_good := in_good (List.mem_of_getElem? (i := 394) rfl) rfl
theorem k_395 : Cond.selects "ModuleLoaders" ⟨"ModuleLoaders", "count", "(I)I"⟩ ⟨"ModuleLoaders", "count", "(I)I"⟩ ∈ lw_good := in_good (List.mem_of_getElem? (i := 395) rfl) rfl
theorem k_396 : Cond.code ⟨"ModuleLoaders", "count", "(I)I"⟩ prog_1_method_19_code 2 (some .int) ∈ lw_good := in_good (List.mem_of_getElem? (i := 396) rfl) rfl
theorem k_397 : Cond.classLink "ModuleLoadersLaw" 10 "ModuleLoadersModel" ∈ lw_good := in_good (List.mem_of_getElem? (i := 397) rfl) rfl
theorem k_398 : Cond.instantiable "ModuleLoadersModel" 33 ∈ lw_good := in_good (List.mem_of_getElem? (i := 398) rfl) rfl
theorem k_399 : Cond.methodLink "ModuleLoadersLaw" 12 ⟨"ModuleLoadersModel", "<init>", "()V"⟩ ∈ lw_good := in_good (List.mem_of_getElem? (i := 399) rfl) rfl
theorem k_400 : Cond.instanceMethod ⟨"ModuleLoadersModel", "<init>", "()V"⟩ ∈ lw_good := in_good (List.mem_of_getElem? (i := 400) rfl) rfl
set_option maxRecDepth 20000 in
theorem k_401 : Cond.code ⟨"ModuleLoadersModel", "<init>", "()V"⟩ prog_8_method_1_code 1 none ∈ lw_good := in_good (List.mem_of_getElem? (i := 401) rfl) rfl
set_option maxRecDepth 20000 in
theorem k_402 : Cond.methodLink "ModuleLoadersModel" 1 ⟨"java/lang/Object", "<init>", "()V"⟩ ∈ lw_good := in_good (List.mem_of_getElem? (i := 402) rfl) rfl
set_option maxRecDepth 20000 in
theorem k_403 : Cond.fieldLink "ModuleLoadersModel" 97 "ModuleLoadersModel" "files" "I" ∈ lw_good := in_good (List.mem_of_getElem? (i := 403) rfl) rfl
set_option maxRecDepth 20000 in
theorem k_404 : Cond.fieldLink "ModuleLoadersModel" 7 "ModuleLoadersModel" "inner" "[I" ∈ lw_good := in_good (List.mem_of_getElem? (i := 404) rfl) rfl
set_option maxRecDepth 20000 in
theorem k_405 : Cond.fieldLink "ModuleLoadersModel" 13 "ModuleLoadersModel" "content" "[I" ∈ lw_good := in_good (List.mem_of_getElem? (i := 405) rfl) rfl
set_option maxRecDepth 20000 in
theorem k_406 : Cond.fieldLink "ModuleLoadersModel" 16 "ModuleLoadersModel" "parentName" "[I" ∈ lw_good := in_good (List.mem_of_getElem? (i := 406) rfl) rfl
set_option maxRecDepth 20000 in
theorem k_407 : Cond.fieldLink "ModuleLoadersModel" 19 "ModuleLoadersModel" "needName" "[I" ∈ lw_good := in_good (List.mem_of_getElem? (i := 407) rfl) rfl
set_option maxRecDepth 20000 in
theorem k_408 : Cond.fieldLink "ModuleLoadersModel" 22 "ModuleLoadersModel" "flags" "[I" ∈ lw_good := in_good (List.mem_of_getElem? (i := 408) rfl) rfl
set_option maxRecDepth 20000 in
theorem k_409 : Cond.fieldLink "ModuleLoadersModel" 93 "ModuleLoadersModel" "loaders" "I" ∈ lw_good := in_good (List.mem_of_getElem? (i := 409) rfl) rfl
set_option maxRecDepth 20000 in
theorem k_410 : Cond.fieldLink "ModuleLoadersModel" 25 "ModuleLoadersModel" "above" "[I" ∈ lw_good := in_good (List.mem_of_getElem? (i := 410) rfl) rfl
set_option maxRecDepth 20000 in
theorem k_411 : Cond.fieldLink "ModuleLoadersModel" 28 "ModuleLoadersModel" "ownFirst" "[Z" ∈ lw_good := in_good (List.mem_of_getElem? (i := 411) rfl) rfl
set_option maxRecDepth 20000 in
theorem k_412 : Cond.fieldLink "ModuleLoadersModel" 32 "ModuleLoadersModel" "isGone" "[Z" ∈ lw_good := in_good (List.mem_of_getElem? (i := 412) rfl) rfl
set_option maxRecDepth 20000 in
theorem k_413 : Cond.fieldLink "ModuleLoadersModel" 35 "ModuleLoadersModel" "shelf" "[I" ∈ lw_good := in_good (List.mem_of_getElem? (i := 413) rfl) rfl
set_option maxRecDepth 20000 in
theorem k_414 : Cond.fieldLink "ModuleLoadersModel" 38 "ModuleLoadersModel" "made" "[I" ∈ lw_good := in_good (List.mem_of_getElem? (i := 414) rfl) rfl
set_option maxRecDepth 20000 in
theorem k_415 : Cond.fieldLink "ModuleLoadersModel" 41 "ModuleLoadersModel" "given" "[I" ∈ lw_good := in_good (List.mem_of_getElem? (i := 415) rfl) rfl
set_option maxRecDepth 20000 in
theorem k_416 : Cond.fieldLink "ModuleLoadersModel" 44 "ModuleLoadersModel" "isMaking" "[Z" ∈ lw_good := in_good (List.mem_of_getElem? (i := 416) rfl) rfl
set_option maxRecDepth 20000 in
theorem k_417 : Cond.fieldLink "ModuleLoadersModel" 100 "ModuleLoadersModel" "modules" "I" ∈ lw_good := in_good (List.mem_of_getElem? (i := 417) rfl) rfl
set_option maxRecDepth 20000 in
theorem k_418 : Cond.fieldLink "ModuleLoadersModel" 47 "ModuleLoadersModel" "loaderOf" "[I" ∈ lw_good := in_good (List.mem_of_getElem? (i := 418) rfl) rfl
set_option maxRecDepth 20000 in
theorem k_419 : Cond.fieldLink "ModuleLoadersModel" 50 "ModuleLoadersModel" "nameOf" "[I" ∈ lw_good := in_good (List.mem_of_getElem? (i := 419) rfl) rfl
set_option maxRecDepth 20000 in
theorem k_420 : Cond.fieldLink "ModuleLoadersModel" 53 "ModuleLoadersModel" "parentOf" "[I" ∈ lw_good := in_good (List.mem_of_getElem? (i := 420) rfl) rfl
set_option maxRecDepth 20000 in
theorem k_421 : Cond.fieldLink "ModuleLoadersModel" 56 "ModuleLoadersModel" "fileOf" "[I" ∈ lw_good := in_good (List.mem_of_getElem? (i := 421) rfl) rfl
set_option maxRecDepth 20000 in
theorem k_422 : Cond.fieldLink "ModuleLoadersModel" 59 "ModuleLoadersModel" "state" "[I" ∈ lw_good := in_good (List.mem_of_getElem? (i := 422) rfl) rfl
set_option maxRecDepth 20000 in
theorem k_423 : Cond.fieldLink "ModuleLoadersModel" 103 "ModuleLoadersModel" "things" "I" ∈ lw_good := in_good (List.mem_of_getElem? (i := 423) rfl) rfl
set_option maxRecDepth 20000 in
theorem k_424 : Cond.fieldLink "ModuleLoadersModel" 62 "ModuleLoadersModel" "thingOf" "[I" ∈ lw_good := in_good (List.mem_of_getElem? (i := 424) rfl) rfl
set_option maxRecDepth 20000 in
theorem k_425 : Cond.fieldLink "ModuleLoadersModel" 65 "ModuleLoadersModel" "isDropped" "[Z" ∈ lw_good := in_good (List.mem_of_getElem? (i := 425) rfl) rfl
set_option maxRecDepth 20000 in
theorem k_426 : Cond.fieldLink "ModuleLoadersModel" 154 "ModuleLoadersModel" "ordered" "I" ∈ lw_good := in_good (List.mem_of_getElem? (i := 426) rfl) rfl
set_option maxRecDepth 20000 in
theorem k_427 : Cond.fieldLink "ModuleLoadersModel" 68 "ModuleLoadersModel" "orders" "[I" ∈ lw_good := in_good (List.mem_of_getElem? (i := 427) rfl) rfl
set_option maxRecDepth 20000 in
theorem k_428 : Cond.fieldLink "ModuleLoadersModel" 116 "ModuleLoadersModel" "deep" "I" ∈ lw_good := in_good (List.mem_of_getElem? (i := 428) rfl) rfl
set_option maxRecDepth 20000 in
theorem k_429 : Cond.fieldLink "ModuleLoadersModel" 71 "ModuleLoadersModel" "what" "[I" ∈ lw_good := in_good (List.mem_of_getElem? (i := 429) rfl) rfl
set_option maxRecDepth 20000 in
theorem k_430 : Cond.fieldLink "ModuleLoadersModel" 74 "ModuleLoadersModel" "stage" "[I" ∈ lw_good := in_good (List.mem_of_getElem? (i := 430) rfl) rfl
set_option maxRecDepth 20000 in
theorem k_431 : Cond.fieldLink "ModuleLoadersModel" 77 "ModuleLoadersModel" "place" "[I" ∈ lw_good := in_good (List.mem_of_getElem? (i := 431) rfl) rfl
set_option maxRecDepth 20000 in
theorem k_432 : Cond.fieldLink "ModuleLoadersModel" 80 "ModuleLoadersModel" "paper" "[I" ∈ lw_good := in_good (List.mem_of_getElem? (i := 432) rfl) rfl
set_option maxRecDepth 20000 in
theorem k_433 : Cond.fieldLink "ModuleLoadersModel" 83 "ModuleLoadersModel" "isAnew" "[Z" ∈ lw_good := in_good (List.mem_of_getElem? (i := 433) rfl) rfl
set_option maxRecDepth 20000 in
theorem k_434 : Cond.fieldLink "ModuleLoadersModel" 119 "ModuleLoadersModel" "gave" "I" ∈ lw_good := in_good (List.mem_of_getElem? (i := 434) rfl) rfl
set_option maxRecDepth 20000 in
theorem k_435 : Cond.fieldLink "ModuleLoadersModel" 86 "ModuleLoadersModel" "isKept" "[Z" ∈ lw_good := in_good (List.mem_of_getElem? (i := 435) rfl) rfl
set_option maxRecDepth 20000 in
theorem k_503 : Cond.methodLink "ModuleLoadersLaw" 17 ⟨"ModuleLoadersModel", "file", "(IIIII)I"⟩ ∈ lw_good := in_good (List.mem_of_getElem? (i := 503) rfl) rfl
set_option maxRecDepth 20000 in
theorem k_504 : Cond.instanceMethod ⟨"ModuleLoadersModel", "file", "(IIIII)I"⟩ ∈ lw_good := in_good (List.mem_of_getElem? (i := 504) rfl) rfl
set_option maxRecDepth 20000 in
theorem k_505 : Cond.selects "ModuleLoadersModel" ⟨"ModuleLoadersModel", "file", "(IIIII)I"⟩ ⟨"ModuleLoadersModel", "file", "(IIIII)I"⟩ ∈ lw_good := in_good (List.mem_of_getElem? (i := 505) rfl) rfl
set_option maxRecDepth 20000 in
theorem k_506 : Cond.code ⟨"ModuleLoadersModel", "file", "(IIIII)I"⟩ prog_8_method_9_code 6 (some .int) ∈ lw_good := in_good (List.mem_of_getElem? (i := 506) rfl) rfl
set_option maxRecDepth 20000 in
theorem k_507 : Cond.methodLink "ModuleLoadersModel" 106 ⟨"ModuleLoadersModel", "isName", "(I)Z"⟩ ∈ lw_good := in_good (List.mem_of_getElem? (i := 507) rfl) rfl
set_option maxRecDepth 20000 in
theorem k_508 : Cond.static ⟨"ModuleLoadersModel", "isName", "(I)Z"⟩ ∈ lw_good := in_good (List.mem_of_getElem? (i := 508) rfl) rfl
set_option maxRecDepth 20000 in
theorem k_509 : Cond.code ⟨"ModuleLoadersModel", "isName", "(I)Z"⟩ prog_8_method_4_code 1 (some .boolean) ∈ lw_good := in_good (List.mem_of_getElem? (i := 509) rfl) rfl
set_option maxRecDepth 20000 in
theorem k_510 : Cond.methodLink "ModuleLoadersModel" 89 ⟨"ModuleLoadersModel", "in", "(III)Z"⟩ ∈ lw_good := in_good (List.mem_of_getElem? (i := 510) rfl) rfl
set_option maxRecDepth 20000 in
theorem k_511 : Cond.static ⟨"ModuleLoadersModel", "in", "(III)Z"⟩ ∈ lw_good := in_good (List.mem_of_getElem? (i := 511) rfl) rfl
set_option maxRecDepth 20000 in
theorem k_512 : Cond.code ⟨"ModuleLoadersModel", "in", "(III)Z"⟩ prog_8_method_3_code 3 (some .boolean) ∈ lw_good := in_good (List.mem_of_getElem? (i := 512) rfl) rfl
set_option maxRecDepth 20000 in
theorem k_513 : Cond.methodLink "ModuleLoadersLaw" 22 ⟨"ModuleLoadersModel", "loader", "(IZ)I"⟩ ∈ lw_good := in_good (List.mem_of_getElem? (i := 513) rfl) rfl
set_option maxRecDepth 20000 in
theorem k_514 : Cond.instanceMethod ⟨"ModuleLoadersModel", "loader", "(IZ)I"⟩ ∈ lw_good := in_good (List.mem_of_getElem? (i := 514) rfl) rfl
set_option maxRecDepth 20000 in
theorem k_515 : Cond.selects "ModuleLoadersModel" ⟨"ModuleLoadersModel", "loader", "(IZ)I"⟩ ⟨"ModuleLoadersModel", "loader", "(IZ)I"⟩ ∈ lw_good := in_good (List.mem_of_getElem? (i := 515) rfl) rfl
set_option maxRecDepth 20000 in
theorem k_516 : Cond.code ⟨"ModuleLoadersModel", "loader", "(IZ)I"⟩ prog_8_method_10_code 4 (some .int) ∈ lw_good := in_good (List.mem_of_getElem? (i := 516) rfl) rfl
set_option maxRecDepth 20000 in
theorem k_517 : Cond.methodLink "ModuleLoadersModel" 110 ⟨"ModuleLoadersModel", "isLoader", "(I)Z"⟩ ∈ lw_good := in_good (List.mem_of_getElem? (i := 517) rfl) rfl
set_option maxRecDepth 20000 in
theorem k_519 : Cond.instanceMethod ⟨"ModuleLoadersModel", "isLoader", "(I)Z"⟩ ∈ lw_good := in_good (List.mem_of_getElem? (i := 519) rfl) rfl
set_option maxRecDepth 20000 in
theorem k_520 : Cond.code ⟨"ModuleLoadersModel", "isLoader", "(I)Z"⟩ prog_8_method_5_code 2 (some .boolean) ∈ lw_good := in_good (List.mem_of_getElem? (i := 520) rfl) rfl
set_option maxRecDepth 20000 in
theorem k_521 : Cond.methodLink "ModuleLoadersLaw" 27 ⟨"ModuleLoadersModel", "put", "(III)I"⟩ ∈ lw_good := in_good (List.mem_of_getElem? (i := 521) rfl) rfl
set_option maxRecDepth 20000 in
theorem k_522 : Cond.instanceMethod ⟨"ModuleLoadersModel", "put", "(III)I"⟩ ∈ lw_good := in_good (List.mem_of_getElem? (i := 522) rfl) rfl
set_option maxRecDepth 20000 in
theorem k_523 : Cond.selects "ModuleLoadersModel" ⟨"ModuleLoadersModel", "put", "(III)I"⟩ ⟨"ModuleLoadersModel", "put", "(III)I"⟩ ∈ lw_good := in_good (List.mem_of_getElem? (i := 523) rfl) rfl
set_option maxRecDepth 20000 in
theorem k_524 : Cond.code ⟨"ModuleLoadersModel", "put", "(III)I"⟩ prog_8_method_11_code 4 (some .int) ∈ lw_good := in_good (List.mem_of_getElem? (i := 524) rfl) rfl
set_option maxRecDepth 20000 in
theorem k_525 : Cond.methodLink "ModuleLoadersModel" 113 ⟨"ModuleLoadersModel", "isFile", "(I)Z"⟩ ∈ lw_good := in_good (List.mem_of_getElem? (i := 525) rfl) rfl
set_option maxRecDepth 20000 in
theorem k_527 : Cond.instanceMethod ⟨"ModuleLoadersModel", "isFile", "(I)Z"⟩ ∈ lw_good := in_good (List.mem_of_getElem? (i := 527) rfl) rfl
set_option maxRecDepth 20000 in
theorem k_528 : Cond.code ⟨"ModuleLoadersModel", "isFile", "(I)Z"⟩ prog_8_method_6_code 2 (some .boolean) ∈ lw_good := in_good (List.mem_of_getElem? (i := 528) rfl) rfl
set_option maxRecDepth 20000 in
theorem k_529 : Cond.methodLink "ModuleLoadersLaw" 32 ⟨"ModuleLoadersModel", "load", "(II)I"⟩ ∈ lw_good := in_good (List.mem_of_getElem? (i := 529) rfl) rfl
set_option maxRecDepth 20000 in
theorem k_530 : Cond.instanceMethod ⟨"ModuleLoadersModel", "load", "(II)I"⟩ ∈ lw_good := in_good (List.mem_of_getElem? (i := 530) rfl) rfl
set_option maxRecDepth 20000 in
theorem k_531 : Cond.selects "ModuleLoadersModel" ⟨"ModuleLoadersModel", "load", "(II)I"⟩ ⟨"ModuleLoadersModel", "load", "(II)I"⟩ ∈ lw_good := in_good (List.mem_of_getElem? (i := 531) rfl) rfl
set_option maxRecDepth 20000 in
theorem k_532 : Cond.code ⟨"ModuleLoadersModel", "load", "(II)I"⟩ prog_8_method_23_code 3 (some .int) ∈ lw_good := in_good (List.mem_of_getElem? (i := 532) rfl) rfl
set_option maxRecDepth 20000 in
theorem k_533 : Cond.methodLink "ModuleLoadersModel" 161 ⟨"ModuleLoadersModel", "does", "(IIIZ)I"⟩ ∈ lw_good := in_good (List.mem_of_getElem? (i := 533) rfl) rfl
set_option maxRecDepth 20000 in
theorem k_535 : Cond.instanceMethod ⟨"ModuleLoadersModel", "does", "(IIIZ)I"⟩ ∈ lw_good := in_good (List.mem_of_getElem? (i := 535) rfl) rfl
set_option maxRecDepth 20000 in
theorem k_536 : Cond.code ⟨"ModuleLoadersModel", "does", "(IIIZ)I"⟩ prog_8_method_22_code 6 (some .int) ∈ lw_good := in_good (List.mem_of_getElem? (i := 536) rfl) rfl
set_option maxRecDepth 20000 in
theorem k_537 : Cond.methodLink "ModuleLoadersModel" 133 ⟨"ModuleLoadersModel", "push", "(IIIZ)V"⟩ ∈ lw_good := in_good (List.mem_of_getElem? (i := 537) rfl) rfl
set_option maxRecDepth 20000 in
theorem k_539 : Cond.instanceMethod ⟨"ModuleLoadersModel", "push", "(IIIZ)V"⟩ ∈ lw_good := in_good (List.mem_of_getElem? (i := 539) rfl) rfl
set_option maxRecDepth 20000 in
theorem k_540 : Cond.code ⟨"ModuleLoadersModel", "push", "(IIIZ)V"⟩ prog_8_method_12_code 5 none ∈ lw_good := in_good (List.mem_of_getElem? (i := 540) rfl) rfl
set_option maxRecDepth 20000 in
theorem k_541 : Cond.methodLink "ModuleLoadersModel" 157 ⟨"ModuleLoadersModel", "runs", "()I"⟩ ∈ lw_good := in_good (List.mem_of_getElem? (i := 541) rfl) rfl
set_option maxRecDepth 20000 in
theorem k_543 : Cond.instanceMethod ⟨"ModuleLoadersModel", "runs", "()I"⟩ ∈ lw_good := in_good (List.mem_of_getElem? (i := 543) rfl) rfl
set_option maxRecDepth 20000 in
theorem k_544 : Cond.code ⟨"ModuleLoadersModel", "runs", "()I"⟩ prog_8_method_14_code 2 (some .int) ∈ lw_good := in_good (List.mem_of_getElem? (i := 544) rfl) rfl
set_option maxRecDepth 20000 in
theorem k_545 : Cond.methodLink "ModuleLoadersModel" 122 ⟨"ModuleLoadersModel", "asks", "(II)V"⟩ ∈ lw_good := in_good (List.mem_of_getElem? (i := 545) rfl) rfl
set_option maxRecDepth 20000 in
theorem k_547 : Cond.instanceMethod ⟨"ModuleLoadersModel", "asks", "(II)V"⟩ ∈ lw_good := in_good (List.mem_of_getElem? (i := 547) rfl) rfl
set_option maxRecDepth 20000 in
theorem k_548 : Cond.code ⟨"ModuleLoadersModel", "asks", "(II)V"⟩ prog_8_method_16_code 5 none ∈ lw_good := in_good (List.mem_of_getElem? (i := 548) rfl) rfl
set_option maxRecDepth 20000 in
theorem k_549 : Cond.methodLink "ModuleLoadersModel" 137 ⟨"ModuleLoadersModel", "gives", "(I)V"⟩ ∈ lw_good := in_good (List.mem_of_getElem? (i := 549) rfl) rfl
set_option maxRecDepth 20000 in
theorem k_551 : Cond.instanceMethod ⟨"ModuleLoadersModel", "gives", "(I)V"⟩ ∈ lw_good := in_good (List.mem_of_getElem? (i := 551) rfl) rfl
set_option maxRecDepth 20000 in
theorem k_552 : Cond.code ⟨"ModuleLoadersModel", "gives", "(I)V"⟩ prog_8_method_13_code 2 none ∈ lw_good := in_good (List.mem_of_getElem? (i := 552) rfl) rfl
set_option maxRecDepth 20000 in
theorem k_553 : Cond.methodLink "ModuleLoadersModel" 141 ⟨"ModuleLoadersModel", "asksAbove", "(III)V"⟩ ∈ lw_good := in_good (List.mem_of_getElem? (i := 553) rfl) rfl
set_option maxRecDepth 20000 in
theorem k_555 : Cond.instanceMethod ⟨"ModuleLoadersModel", "asksAbove", "(III)V"⟩ ∈ lw_good := in_good (List.mem_of_getElem? (i := 555) rfl) rfl
set_option maxRecDepth 20000 in
theorem k_556 : Cond.code ⟨"ModuleLoadersModel", "asksAbove", "(III)V"⟩ prog_8_method_15_code 4 none ∈ lw_good := in_good (List.mem_of_getElem? (i := 556) rfl) rfl
set_option maxRecDepth 20000 in
theorem k_557 : Cond.methodLink "ModuleLoadersModel" 144 ⟨"ModuleLoadersModel", "keeps", "(I)V"⟩ ∈ lw_good := in_good (List.mem_of_getElem? (i := 557) rfl) rfl
set_option maxRecDepth 20000 in
theorem k_559 : Cond.instanceMethod ⟨"ModuleLoadersModel", "keeps", "(I)V"⟩ ∈ lw_good := in_good (List.mem_of_getElem? (i := 559) rfl) rfl
set_option maxRecDepth 20000 in
theorem k_560 : Cond.code ⟨"ModuleLoadersModel", "keeps", "(I)V"⟩ prog_8_method_17_code 2 none ∈ lw_good := in_good (List.mem_of_getElem? (i := 560) rfl) rfl
set_option maxRecDepth 20000 in
theorem k_561 : Cond.methodLink "ModuleLoadersModel" 126 ⟨"ModuleLoadersModel", "makes", "(III)V"⟩ ∈ lw_good := in_good (List.mem_of_getElem? (i := 561) rfl) rfl
set_option maxRecDepth 20000 in
theorem k_563 : Cond.instanceMethod ⟨"ModuleLoadersModel", "makes", "(III)V"⟩ ∈ lw_good := in_good (List.mem_of_getElem? (i := 563) rfl) rfl
set_option maxRecDepth 20000 in
theorem k_564 : Cond.code ⟨"ModuleLoadersModel", "makes", "(III)V"⟩ prog_8_method_19_code 5 none ∈ lw_good := in_good (List.mem_of_getElem? (i := 564) rfl) rfl
set_option maxRecDepth 20000 in
theorem k_565 : Cond.methodLink "ModuleLoadersModel" 147 ⟨"ModuleLoadersModel", "against", "(III)I"⟩ ∈ lw_good := in_good (List.mem_of_getElem? (i := 565) rfl) rfl
set_option maxRecDepth 20000 in
theorem k_567 : Cond.instanceMethod ⟨"ModuleLoadersModel", "against", "(III)I"⟩ ∈ lw_good := in_good (List.mem_of_getElem? (i := 567) rfl) rfl
set_option maxRecDepth 20000 in
theorem k_568 : Cond.code ⟨"ModuleLoadersModel", "against", "(III)I"⟩ prog_8_method_18_code 6 (some .int) ∈ lw_good := in_good (List.mem_of_getElem? (i := 568) rfl) rfl
set_option maxRecDepth 20000 in
theorem k_569 : Cond.methodLink "ModuleLoadersModel" 151 ⟨"ModuleLoadersModel", "stands", "(III)V"⟩ ∈ lw_good := in_good (List.mem_of_getElem? (i := 569) rfl) rfl
set_option maxRecDepth 20000 in
theorem k_571 : Cond.instanceMethod ⟨"ModuleLoadersModel", "stands", "(III)V"⟩ ∈ lw_good := in_good (List.mem_of_getElem? (i := 571) rfl) rfl
set_option maxRecDepth 20000 in
theorem k_572 : Cond.code ⟨"ModuleLoadersModel", "stands", "(III)V"⟩ prog_8_method_20_code 4 none ∈ lw_good := in_good (List.mem_of_getElem? (i := 572) rfl) rfl
set_option maxRecDepth 20000 in
theorem k_573 : Cond.methodLink "ModuleLoadersModel" 130 ⟨"ModuleLoadersModel", "begins", "(II)V"⟩ ∈ lw_good := in_good (List.mem_of_getElem? (i := 573) rfl) rfl
set_option maxRecDepth 20000 in
theorem k_575 : Cond.instanceMethod ⟨"ModuleLoadersModel", "begins", "(II)V"⟩ ∈ lw_good := in_good (List.mem_of_getElem? (i := 575) rfl) rfl
set_option maxRecDepth 20000 in
theorem k_576 : Cond.code ⟨"ModuleLoadersModel", "begins", "(II)V"⟩ prog_8_method_21_code 4 none ∈ lw_good := in_good (List.mem_of_getElem? (i := 576) rfl) rfl
set_option maxRecDepth 20000 in
theorem k_577 : Cond.methodLink "ModuleLoadersLaw" 36 ⟨"ModuleLoadersModel", "define", "(III)I"⟩ ∈ lw_good := in_good (List.mem_of_getElem? (i := 577) rfl) rfl
set_option maxRecDepth 20000 in
theorem k_578 : Cond.instanceMethod ⟨"ModuleLoadersModel", "define", "(III)I"⟩ ∈ lw_good := in_good (List.mem_of_getElem? (i := 578) rfl) rfl
set_option maxRecDepth 20000 in
theorem k_579 : Cond.selects "ModuleLoadersModel" ⟨"ModuleLoadersModel", "define", "(III)I"⟩ ⟨"ModuleLoadersModel", "define", "(III)I"⟩ ∈ lw_good := in_good (List.mem_of_getElem? (i := 579) rfl) rfl
set_option maxRecDepth 20000 in
theorem k_580 : Cond.code ⟨"ModuleLoadersModel", "define", "(III)I"⟩ prog_8_method_24_code 4 (some .int) ∈ lw_good := in_good (List.mem_of_getElem? (i := 580) rfl) rfl
set_option maxRecDepth 20000 in
theorem k_581 : Cond.methodLink "ModuleLoadersLaw" 40 ⟨"ModuleLoadersModel", "anew", "(III)I"⟩ ∈ lw_good := in_good (List.mem_of_getElem? (i := 581) rfl) rfl
set_option maxRecDepth 20000 in
theorem k_582 : Cond.instanceMethod ⟨"ModuleLoadersModel", "anew", "(III)I"⟩ ∈ lw_good := in_good (List.mem_of_getElem? (i := 582) rfl) rfl
set_option maxRecDepth 20000 in
theorem k_583 : Cond.selects "ModuleLoadersModel" ⟨"ModuleLoadersModel", "anew", "(III)I"⟩ ⟨"ModuleLoadersModel", "anew", "(III)I"⟩ ∈ lw_good := in_good (List.mem_of_getElem? (i := 583) rfl) rfl
set_option maxRecDepth 20000 in
theorem k_584 : Cond.code ⟨"ModuleLoadersModel", "anew", "(III)I"⟩ prog_8_method_25_code 5 (some .int) ∈ lw_good := in_good (List.mem_of_getElem? (i := 584) rfl) rfl
set_option maxRecDepth 20000 in
theorem k_585 : Cond.methodLink "ModuleLoadersLaw" 44 ⟨"ModuleLoadersModel", "known", "(II)I"⟩ ∈ lw_good := in_good (List.mem_of_getElem? (i := 585) rfl) rfl
set_option maxRecDepth 20000 in
theorem k_586 : Cond.instanceMethod ⟨"ModuleLoadersModel", "known", "(II)I"⟩ ∈ lw_good := in_good (List.mem_of_getElem? (i := 586) rfl) rfl
set_option maxRecDepth 20000 in
theorem k_587 : Cond.selects "ModuleLoadersModel" ⟨"ModuleLoadersModel", "known", "(II)I"⟩ ⟨"ModuleLoadersModel", "known", "(II)I"⟩ ∈ lw_good := in_good (List.mem_of_getElem? (i := 587) rfl) rfl
set_option maxRecDepth 20000 in
theorem k_588 : Cond.code ⟨"ModuleLoadersModel", "known", "(II)I"⟩ prog_8_method_26_code 4 (some .int) ∈ lw_good := in_good (List.mem_of_getElem? (i := 588) rfl) rfl
set_option maxRecDepth 20000 in
theorem k_589 : Cond.methodLink "ModuleLoadersLaw" 49 ⟨"ModuleLoadersModel", "begin", "(I)I"⟩ ∈ lw_good := in_good (List.mem_of_getElem? (i := 589) rfl) rfl
set_option maxRecDepth 20000 in
theorem k_590 : Cond.instanceMethod ⟨"ModuleLoadersModel", "begin", "(I)I"⟩ ∈ lw_good := in_good (List.mem_of_getElem? (i := 590) rfl) rfl
set_option maxRecDepth 20000 in
theorem k_591 : Cond.selects "ModuleLoadersModel" ⟨"ModuleLoadersModel", "begin", "(I)I"⟩ ⟨"ModuleLoadersModel", "begin", "(I)I"⟩ ∈ lw_good := in_good (List.mem_of_getElem? (i := 591) rfl) rfl
set_option maxRecDepth 20000 in
theorem k_592 : Cond.code ⟨"ModuleLoadersModel", "begin", "(I)I"⟩ prog_8_method_27_code 3 (some .int) ∈ lw_good := in_good (List.mem_of_getElem? (i := 592) rfl) rfl
set_option maxRecDepth 20000 in
theorem k_593 : Cond.methodLink "ModuleLoadersModel" 165 ⟨"ModuleLoadersModel", "isModule", "(I)Z"⟩ ∈ lw_good := in_good (List.mem_of_getElem? (i := 593) rfl) rfl
set_option maxRecDepth 20000 in
theorem k_595 : Cond.instanceMethod ⟨"ModuleLoadersModel", "isModule", "(I)Z"⟩ ∈ lw_good := in_good (List.mem_of_getElem? (i := 595) rfl) rfl
set_option maxRecDepth 20000 in
theorem k_596 : Cond.code ⟨"ModuleLoadersModel", "isModule", "(I)Z"⟩ prog_8_method_7_code 2 (some .boolean) ∈ lw_good := in_good (List.mem_of_getElem? (i := 596) rfl) rfl
set_option maxRecDepth 20000 in
theorem k_597 : Cond.methodLink "ModuleLoadersLaw" 53 ⟨"ModuleLoadersModel", "thing", "(I)I"⟩ ∈ lw_good := in_good (List.mem_of_getElem? (i := 597) rfl) rfl
set_option maxRecDepth 20000 in
theorem k_598 : Cond.instanceMethod ⟨"ModuleLoadersModel", "thing", "(I)I"⟩ ∈ lw_good := in_good (List.mem_of_getElem? (i := 598) rfl) rfl
set_option maxRecDepth 20000 in
theorem k_599 : Cond.selects "ModuleLoadersModel" ⟨"ModuleLoadersModel", "thing", "(I)I"⟩ ⟨"ModuleLoadersModel", "thing", "(I)I"⟩ ∈ lw_good := in_good (List.mem_of_getElem? (i := 599) rfl) rfl
set_option maxRecDepth 20000 in
theorem k_600 : Cond.code ⟨"ModuleLoadersModel", "thing", "(I)I"⟩ prog_8_method_28_code 3 (some .int) ∈ lw_good := in_good (List.mem_of_getElem? (i := 600) rfl) rfl
set_option maxRecDepth 20000 in
theorem k_601 : Cond.methodLink "ModuleLoadersLaw" 57 ⟨"ModuleLoadersModel", "cast", "(II)I"⟩ ∈ lw_good := in_good (List.mem_of_getElem? (i := 601) rfl) rfl
set_option maxRecDepth 20000 in
theorem k_602 : Cond.instanceMethod ⟨"ModuleLoadersModel", "cast", "(II)I"⟩ ∈ lw_good := in_good (List.mem_of_getElem? (i := 602) rfl) rfl
set_option maxRecDepth 20000 in
theorem k_603 : Cond.selects "ModuleLoadersModel" ⟨"ModuleLoadersModel", "cast", "(II)I"⟩ ⟨"ModuleLoadersModel", "cast", "(II)I"⟩ ∈ lw_good := in_good (List.mem_of_getElem? (i := 603) rfl) rfl
set_option maxRecDepth 20000 in
theorem k_604 : Cond.code ⟨"ModuleLoadersModel", "cast", "(II)I"⟩ prog_8_method_29_code 4 (some .int) ∈ lw_good := in_good (List.mem_of_getElem? (i := 604) rfl) rfl
set_option maxRecDepth 20000 in
theorem k_605 : Cond.methodLink "ModuleLoadersModel" 168 ⟨"ModuleLoadersModel", "isThing", "(I)Z"⟩ ∈ lw_good := in_good (List.mem_of_getElem? (i := 605) rfl) rfl
set_option maxRecDepth 20000 in
theorem k_607 : Cond.instanceMethod ⟨"ModuleLoadersModel", "isThing", "(I)Z"⟩ ∈ lw_good := in_good (List.mem_of_getElem? (i := 607) rfl) rfl
set_option maxRecDepth 20000 in
theorem k_608 : Cond.code ⟨"ModuleLoadersModel", "isThing", "(I)Z"⟩ prog_8_method_8_code 2 (some .boolean) ∈ lw_good := in_good (List.mem_of_getElem? (i := 608) rfl) rfl
set_option maxRecDepth 20000 in
theorem k_609 : Cond.methodLink "ModuleLoadersLaw" 61 ⟨"ModuleLoadersModel", "drop", "(I)I"⟩ ∈ lw_good := in_good (List.mem_of_getElem? (i := 609) rfl) rfl
set_option maxRecDepth 20000 in
theorem k_610 : Cond.instanceMethod ⟨"ModuleLoadersModel", "drop", "(I)I"⟩ ∈ lw_good := in_good (List.mem_of_getElem? (i := 610) rfl) rfl
set_option maxRecDepth 20000 in
theorem k_611 : Cond.selects "ModuleLoadersModel" ⟨"ModuleLoadersModel", "drop", "(I)I"⟩ ⟨"ModuleLoadersModel", "drop", "(I)I"⟩ ∈ lw_good := in_good (List.mem_of_getElem? (i := 611) rfl) rfl
set_option maxRecDepth 20000 in
theorem k_612 : Cond.code ⟨"ModuleLoadersModel", "drop", "(I)I"⟩ prog_8_method_30_code 2 (some .int) ∈ lw_good := in_good (List.mem_of_getElem? (i := 612) rfl) rfl
set_option maxRecDepth 20000 in
theorem k_613 : Cond.methodLink "ModuleLoadersLaw" 65 ⟨"ModuleLoadersModel", "letGo", "(I)I"⟩ ∈ lw_good := in_good (List.mem_of_getElem? (i := 613) rfl) rfl
set_option maxRecDepth 20000 in
theorem k_614 : Cond.instanceMethod ⟨"ModuleLoadersModel", "letGo", "(I)I"⟩ ∈ lw_good := in_good (List.mem_of_getElem? (i := 614) rfl) rfl
set_option maxRecDepth 20000 in
theorem k_615 : Cond.selects "ModuleLoadersModel" ⟨"ModuleLoadersModel", "letGo", "(I)I"⟩ ⟨"ModuleLoadersModel", "letGo", "(I)I"⟩ ∈ lw_good := in_good (List.mem_of_getElem? (i := 615) rfl) rfl
set_option maxRecDepth 20000 in
theorem k_616 : Cond.code ⟨"ModuleLoadersModel", "letGo", "(I)I"⟩ prog_8_method_31_code 4 (some .int) ∈ lw_good := in_good (List.mem_of_getElem? (i := 616) rfl) rfl
set_option maxRecDepth 20000 in
theorem k_617 : Cond.methodLink "ModuleLoadersLaw" 69 ⟨"ModuleLoadersModel", "held", "(I)I"⟩ ∈ lw_good := in_good (List.mem_of_getElem? (i := 617) rfl) rfl
set_option maxRecDepth 20000 in
theorem k_618 : Cond.instanceMethod ⟨"ModuleLoadersModel", "held", "(I)I"⟩ ∈ lw_good := in_good (List.mem_of_getElem? (i := 618) rfl) rfl
set_option maxRecDepth 20000 in
theorem k_619 : Cond.selects "ModuleLoadersModel" ⟨"ModuleLoadersModel", "held", "(I)I"⟩ ⟨"ModuleLoadersModel", "held", "(I)I"⟩ ∈ lw_good := in_good (List.mem_of_getElem? (i := 619) rfl) rfl
set_option maxRecDepth 20000 in
theorem k_620 : Cond.code ⟨"ModuleLoadersModel", "held", "(I)I"⟩ prog_8_method_33_code 4 (some .int) ∈ lw_good := in_good (List.mem_of_getElem? (i := 620) rfl) rfl
set_option maxRecDepth 20000 in
theorem k_621 : Cond.methodLink "ModuleLoadersModel" 171 ⟨"ModuleLoadersModel", "holds", "()V"⟩ ∈ lw_good := in_good (List.mem_of_getElem? (i := 621) rfl) rfl
set_option maxRecDepth 20000 in
theorem k_623 : Cond.instanceMethod ⟨"ModuleLoadersModel", "holds", "()V"⟩ ∈ lw_good := in_good (List.mem_of_getElem? (i := 623) rfl) rfl
set_option maxRecDepth 20000 in
theorem k_624 : Cond.code ⟨"ModuleLoadersModel", "holds", "()V"⟩ prog_8_method_32_code 2 none ∈ lw_good := in_good (List.mem_of_getElem? (i := 624) rfl) rfl
set_option maxRecDepth 20000 in
theorem k_625 : Cond.methodLink "ModuleLoadersLaw" 73 ⟨"ModuleLoadersModel", "isHeld", "(I)I"⟩ ∈ lw_good := in_good (List.mem_of_getElem? (i := 625) rfl) rfl
set_option maxRecDepth 20000 in
theorem k_626 : Cond.instanceMethod ⟨"ModuleLoadersModel", "isHeld", "(I)I"⟩ ∈ lw_good := in_good (List.mem_of_getElem? (i := 626) rfl) rfl
set_option maxRecDepth 20000 in
theorem k_627 : Cond.selects "ModuleLoadersModel" ⟨"ModuleLoadersModel", "isHeld", "(I)I"⟩ ⟨"ModuleLoadersModel", "isHeld", "(I)I"⟩ ∈ lw_good := in_good (List.mem_of_getElem? (i := 627) rfl) rfl
set_option maxRecDepth 20000 in
theorem k_628 : Cond.code ⟨"ModuleLoadersModel", "isHeld", "(I)I"⟩ prog_8_method_34_code 2 (some .int) ∈ lw_good := in_good (List.mem_of_getElem? (i := 628) rfl) rfl
set_option maxRecDepth 20000 in
theorem k_629 : Cond.methodLink "ModuleLoadersLaw" 77 ⟨"ModuleLoadersModel", "about", "(II)I"⟩ ∈ lw_good := in_good (List.mem_of_getElem? (i := 629) rfl) rfl
set_option maxRecDepth 20000 in
theorem k_630 : Cond.instanceMethod ⟨"ModuleLoadersModel", "about", "(II)I"⟩ ∈ lw_good := in_good (List.mem_of_getElem? (i := 630) rfl) rfl
set_option maxRecDepth 20000 in
theorem k_631 : Cond.selects "ModuleLoadersModel" ⟨"ModuleLoadersModel", "about", "(II)I"⟩ ⟨"ModuleLoadersModel", "about", "(II)I"⟩ ∈ lw_good := in_good (List.mem_of_getElem? (i := 631) rfl) rfl
set_option maxRecDepth 20000 in
theorem k_632 : Cond.code ⟨"ModuleLoadersModel", "about", "(II)I"⟩ prog_8_method_35_code 3 (some .int) ∈ lw_good := in_good (List.mem_of_getElem? (i := 632) rfl) rfl
set_option maxRecDepth 20000 in
theorem k_633 : Cond.methodLink "ModuleLoadersLaw" 81 ⟨"ModuleLoadersModel", "aboutThing", "(II)I"⟩ ∈ lw_good := in_good (List.mem_of_getElem? (i := 633) rfl) rfl
set_option maxRecDepth 20000 in
theorem k_634 : Cond.instanceMethod ⟨"ModuleLoadersModel", "aboutThing", "(II)I"⟩ ∈ lw_good := in_good (List.mem_of_getElem? (i := 634) rfl) rfl
set_option maxRecDepth 20000 in
theorem k_635 : Cond.selects "ModuleLoadersModel" ⟨"ModuleLoadersModel", "aboutThing", "(II)I"⟩ ⟨"ModuleLoadersModel", "aboutThing", "(II)I"⟩ ∈ lw_good := in_good (List.mem_of_getElem? (i := 635) rfl) rfl
set_option maxRecDepth 20000 in
theorem k_636 : Cond.code ⟨"ModuleLoadersModel", "aboutThing", "(II)I"⟩ prog_8_method_36_code 3 (some .int) ∈ lw_good := in_good (List.mem_of_getElem? (i := 636) rfl) rfl
set_option maxRecDepth 20000 in
theorem k_637 : Cond.methodLink "ModuleLoadersLaw" 85 ⟨"ModuleLoadersModel", "order", "(I)I"⟩ ∈ lw_good := in_good (List.mem_of_getElem? (i := 637) rfl) rfl
set_option maxRecDepth 20000 in
theorem k_638 : Cond.instanceMethod ⟨"ModuleLoadersModel", "order", "(I)I"⟩ ∈ lw_good := in_good (List.mem_of_getElem? (i := 638) rfl) rfl
set_option maxRecDepth 20000 in
theorem k_639 : Cond.selects "ModuleLoadersModel" ⟨"ModuleLoadersModel", "order", "(I)I"⟩ ⟨"ModuleLoadersModel", "order", "(I)I"⟩ ∈ lw_good := in_good (List.mem_of_getElem? (i := 639) rfl) rfl
set_option maxRecDepth 20000 in
theorem k_640 : Cond.code ⟨"ModuleLoadersModel", "order", "(I)I"⟩ prog_8_method_37_code 2 (some .int) ∈ lw_good := in_good (List.mem_of_getElem? (i := 640) rfl) rfl
set_option maxRecDepth 20000 in
theorem k_641 : Cond.methodLink "ModuleLoadersLaw" 89 ⟨"ModuleLoadersModel", "count", "(I)I"⟩ ∈ lw_good := in_good (List.mem_of_getElem? (i := 641) rfl) rfl
set_option maxRecDepth 20000 in
theorem k_642 : Cond.instanceMethod ⟨"ModuleLoadersModel", "count", "(I)I"⟩ ∈ lw_good := in_good (List.mem_of_getElem? (i := 642) rfl) rfl
set_option maxRecDepth 20000 in
theorem k_643 : Cond.selects "ModuleLoadersModel" ⟨"ModuleLoadersModel", "count", "(I)I"⟩ ⟨"ModuleLoadersModel", "count", "(I)I"⟩ ∈ lw_good := in_good (List.mem_of_getElem? (i := 643) rfl) rfl
set_option maxRecDepth 20000 in
theorem k_644 : Cond.code ⟨"ModuleLoadersModel", "count", "(I)I"⟩ prog_8_method_38_code 2 (some .int) ∈ lw_good := in_good (List.mem_of_getElem? (i := 644) rfl) rfl
theorem hdX1_madeOrGiven : yX1_madeOrGiven.cls = RX1 ∧ yX1_madeOrGiven.cls ≠ "java/lang/invoke/MethodHandle" ∧ yX1_madeOrGiven.cls ≠ "java/lang/invoke/VarHandle" ∧ (parseMethodDescriptor yX1_madeOrGiven.desc).map (fun d => d.parameters.length) = some 2 := by decide +kernel
theorem hdX1_isProgram : yX1_isProgram.cls = RX1 ∧ yX1_isProgram.cls ≠ "java/lang/invoke/MethodHandle" ∧ yX1_isProgram.cls ≠ "java/lang/invoke/VarHandle" ∧ (parseMethodDescriptor yX1_isProgram.desc).map (fun d => d.parameters.length) = some 1 := by decide +kernel
theorem hdX5_slot : yX5_slot.cls = RX5 ∧ yX5_slot.cls ≠ "java/lang/invoke/MethodHandle" ∧ yX5_slot.cls ≠ "java/lang/invoke/VarHandle" ∧ (parseMethodDescriptor yX5_slot.desc).map (fun d => d.parameters.length) = some 2 := by decide +kernel
theorem hdX5_make : yX5_make.cls = RX5 ∧ yX5_make.cls ≠ "java/lang/invoke/MethodHandle" ∧ yX5_make.cls ≠ "java/lang/invoke/VarHandle" ∧ (parseMethodDescriptor yX5_make.desc).map (fun d => d.parameters.length) = some 4 := by decide +kernel
theorem hdX5_askLibrary : yX5_askLibrary.cls = RX5 ∧ yX5_askLibrary.cls ≠ "java/lang/invoke/MethodHandle" ∧ yX5_askLibrary.cls ≠ "java/lang/invoke/VarHandle" ∧ (parseMethodDescriptor yX5_askLibrary.desc).map (fun d => d.parameters.length) = some 3 := by decide +kernel
theorem hdX5_ask : yX5_ask.cls = RX5 ∧ yX5_ask.cls ≠ "java/lang/invoke/MethodHandle" ∧ yX5_ask.cls ≠ "java/lang/invoke/VarHandle" ∧ (parseMethodDescriptor yX5_ask.desc).map (fun d => d.parameters.length) = some 3 := by decide +kernel
theorem hdX0_hasFlag : yX0_hasFlag.cls = RX0 ∧ yX0_hasFlag.cls ≠ "java/lang/invoke/MethodHandle" ∧ yX0_hasFlag.cls ≠ "java/lang/invoke/VarHandle" ∧ (parseMethodDescriptor yX0_hasFlag.desc).map (fun d => d.parameters.length) = some 2 := by decide +kernel
theorem hdX5_failureAhead : yX5_failureAhead.cls = RX5 ∧ yX5_failureAhead.cls ≠ "java/lang/invoke/MethodHandle" ∧ yX5_failureAhead.cls ≠ "java/lang/invoke/VarHandle" ∧ (parseMethodDescriptor yX5_failureAhead.desc).map (fun d => d.parameters.length) = some 3 := by decide +kernel
theorem hdX2_add : yX2_add.cls = RX2 ∧ yX2_add.cls ≠ "java/lang/invoke/MethodHandle" ∧ yX2_add.cls ≠ "java/lang/invoke/VarHandle" ∧ (parseMethodDescriptor yX2_add.desc).map (fun d => d.parameters.length) = some 4 := by decide +kernel
theorem hdX5_stand : yX5_stand.cls = RX5 ∧ yX5_stand.cls ≠ "java/lang/invoke/MethodHandle" ∧ yX5_stand.cls ≠ "java/lang/invoke/VarHandle" ∧ (parseMethodDescriptor yX5_stand.desc).map (fun d => d.parameters.length) = some 4 := by decide +kernel
theorem hdX5_isName : yX5_isName.cls = RX5 ∧ yX5_isName.cls ≠ "java/lang/invoke/MethodHandle" ∧ yX5_isName.cls ≠ "java/lang/invoke/VarHandle" ∧ (parseMethodDescriptor yX5_isName.desc).map (fun d => d.parameters.length) = some 1 := by decide +kernel
theorem hdX5_isNameOrNone : yX5_isNameOrNone.cls = RX5 ∧ yX5_isNameOrNone.cls ≠ "java/lang/invoke/MethodHandle" ∧ yX5_isNameOrNone.cls ≠ "java/lang/invoke/VarHandle" ∧ (parseMethodDescriptor yX5_isNameOrNone.desc).map (fun d => d.parameters.length) = some 1 := by decide +kernel
theorem hdX0_add : yX0_add.cls = RX0 ∧ yX0_add.cls ≠ "java/lang/invoke/MethodHandle" ∧ yX0_add.cls ≠ "java/lang/invoke/VarHandle" ∧ (parseMethodDescriptor yX0_add.desc).map (fun d => d.parameters.length) = some 5 := by decide +kernel
theorem hdX1_add : yX1_add.cls = RX1 ∧ yX1_add.cls ≠ "java/lang/invoke/MethodHandle" ∧ yX1_add.cls ≠ "java/lang/invoke/VarHandle" ∧ (parseMethodDescriptor yX1_add.desc).map (fun d => d.parameters.length) = some 2 := by decide +kernel
theorem hdX1_has : yX1_has.cls = RX1 ∧ yX1_has.cls ≠ "java/lang/invoke/MethodHandle" ∧ yX1_has.cls ≠ "java/lang/invoke/VarHandle" ∧ (parseMethodDescriptor yX1_has.desc).map (fun d => d.parameters.length) = some 1 := by decide +kernel
theorem hdX0_has : yX0_has.cls = RX0 ∧ yX0_has.cls ≠ "java/lang/invoke/MethodHandle" ∧ yX0_has.cls ≠ "java/lang/invoke/VarHandle" ∧ (parseMethodDescriptor yX0_has.desc).map (fun d => d.parameters.length) = some 1 := by decide +kernel
theorem hdX2_has : yX2_has.cls = RX2 ∧ yX2_has.cls ≠ "java/lang/invoke/MethodHandle" ∧ yX2_has.cls ≠ "java/lang/invoke/VarHandle" ∧ (parseMethodDescriptor yX2_has.desc).map (fun d => d.parameters.length) = some 1 := by decide +kernel
theorem hdX3_add : yX3_add.cls = RX3 ∧ yX3_add.cls ≠ "java/lang/invoke/MethodHandle" ∧ yX3_add.cls ≠ "java/lang/invoke/VarHandle" ∧ (parseMethodDescriptor yX3_add.desc).map (fun d => d.parameters.length) = some 1 := by decide +kernel
theorem hdX5_comeTo : yX5_comeTo.cls = RX5 ∧ yX5_comeTo.cls ≠ "java/lang/invoke/MethodHandle" ∧ yX5_comeTo.cls ≠ "java/lang/invoke/VarHandle" ∧ (parseMethodDescriptor yX5_comeTo.desc).map (fun d => d.parameters.length) = some 1 := by decide +kernel
theorem hdX5_comeToNeed : yX5_comeToNeed.cls = RX5 ∧ yX5_comeToNeed.cls ≠ "java/lang/invoke/MethodHandle" ∧ yX5_comeToNeed.cls ≠ "java/lang/invoke/VarHandle" ∧ (parseMethodDescriptor yX5_comeToNeed.desc).map (fun d => d.parameters.length) = some 1 := by decide +kernel
theorem hdX5_beginItself : yX5_beginItself.cls = RX5 ∧ yX5_beginItself.cls ≠ "java/lang/invoke/MethodHandle" ∧ yX5_beginItself.cls ≠ "java/lang/invoke/VarHandle" ∧ (parseMethodDescriptor yX5_beginItself.desc).map (fun d => d.parameters.length) = some 1 := by decide +kernel
theorem hdX5_goOn : yX5_goOn.cls = RX5 ∧ yX5_goOn.cls ≠ "java/lang/invoke/MethodHandle" ∧ yX5_goOn.cls ≠ "java/lang/invoke/VarHandle" ∧ (parseMethodDescriptor yX5_goOn.desc).map (fun d => d.parameters.length) = some 1 := by decide +kernel
theorem hdX5_beginFrom : yX5_beginFrom.cls = RX5 ∧ yX5_beginFrom.cls ≠ "java/lang/invoke/MethodHandle" ∧ yX5_beginFrom.cls ≠ "java/lang/invoke/VarHandle" ∧ (parseMethodDescriptor yX5_beginFrom.desc).map (fun d => d.parameters.length) = some 1 := by decide +kernel
theorem hdX4_areFull : yX4_areFull.cls = RX4 ∧ yX4_areFull.cls ≠ "java/lang/invoke/MethodHandle" ∧ yX4_areFull.cls ≠ "java/lang/invoke/VarHandle" ∧ (parseMethodDescriptor yX4_areFull.desc).map (fun d => d.parameters.length) = some 0 := by decide +kernel
theorem hdX4_add : yX4_add.cls = RX4 ∧ yX4_add.cls ≠ "java/lang/invoke/MethodHandle" ∧ yX4_add.cls ≠ "java/lang/invoke/VarHandle" ∧ (parseMethodDescriptor yX4_add.desc).map (fun d => d.parameters.length) = some 1 := by decide +kernel
theorem hdX4_has : yX4_has.cls = RX4 ∧ yX4_has.cls ≠ "java/lang/invoke/MethodHandle" ∧ yX4_has.cls ≠ "java/lang/invoke/VarHandle" ∧ (parseMethodDescriptor yX4_has.desc).map (fun d => d.parameters.length) = some 1 := by decide +kernel
theorem hdX2_isOrDescends : yX2_isOrDescends.cls = RX2 ∧ yX2_isOrDescends.cls ≠ "java/lang/invoke/MethodHandle" ∧ yX2_isOrDescends.cls ≠ "java/lang/invoke/VarHandle" ∧ (parseMethodDescriptor yX2_isOrDescends.desc).map (fun d => d.parameters.length) = some 2 := by decide +kernel
theorem hdX1_hasLiveProgram : yX1_hasLiveProgram.cls = RX1 ∧ yX1_hasLiveProgram.cls ≠ "java/lang/invoke/MethodHandle" ∧ yX1_hasLiveProgram.cls ≠ "java/lang/invoke/VarHandle" ∧ (parseMethodDescriptor yX1_hasLiveProgram.desc).map (fun d => d.parameters.length) = some 1 := by decide +kernel
theorem hdX5_markHeldBy : yX5_markHeldBy.cls = RX5 ∧ yX5_markHeldBy.cls ≠ "java/lang/invoke/MethodHandle" ∧ yX5_markHeldBy.cls ≠ "java/lang/invoke/VarHandle" ∧ (parseMethodDescriptor yX5_markHeldBy.desc).map (fun d => d.parameters.length) = some 1 := by decide +kernel
theorem hdX5_markHeld : yX5_markHeld.cls = RX5 ∧ yX5_markHeld.cls ≠ "java/lang/invoke/MethodHandle" ∧ yX5_markHeld.cls ≠ "java/lang/invoke/VarHandle" ∧ (parseMethodDescriptor yX5_markHeld.desc).map (fun d => d.parameters.length) = some 0 := by decide +kernel
theorem hdX6_in : yX6_in.cls = RX6 ∧ yX6_in.cls ≠ "java/lang/invoke/MethodHandle" ∧ yX6_in.cls ≠ "java/lang/invoke/VarHandle" ∧ (parseMethodDescriptor yX6_in.desc).map (fun d => d.parameters.length) = some 3 := by decide +kernel
theorem hdX6_isName : yX6_isName.cls = RX6 ∧ yX6_isName.cls ≠ "java/lang/invoke/MethodHandle" ∧ yX6_isName.cls ≠ "java/lang/invoke/VarHandle" ∧ (parseMethodDescriptor yX6_isName.desc).map (fun d => d.parameters.length) = some 1 := by decide +kernel
theorem hdX6_isLoader : yX6_isLoader.cls = RX6 ∧ yX6_isLoader.cls ≠ "java/lang/invoke/MethodHandle" ∧ yX6_isLoader.cls ≠ "java/lang/invoke/VarHandle" ∧ (parseMethodDescriptor yX6_isLoader.desc).map (fun d => d.parameters.length) = some 1 := by decide +kernel
theorem hdX6_isFile : yX6_isFile.cls = RX6 ∧ yX6_isFile.cls ≠ "java/lang/invoke/MethodHandle" ∧ yX6_isFile.cls ≠ "java/lang/invoke/VarHandle" ∧ (parseMethodDescriptor yX6_isFile.desc).map (fun d => d.parameters.length) = some 1 := by decide +kernel
theorem hdX6_push : yX6_push.cls = RX6 ∧ yX6_push.cls ≠ "java/lang/invoke/MethodHandle" ∧ yX6_push.cls ≠ "java/lang/invoke/VarHandle" ∧ (parseMethodDescriptor yX6_push.desc).map (fun d => d.parameters.length) = some 4 := by decide +kernel
theorem hdX6_gives : yX6_gives.cls = RX6 ∧ yX6_gives.cls ≠ "java/lang/invoke/MethodHandle" ∧ yX6_gives.cls ≠ "java/lang/invoke/VarHandle" ∧ (parseMethodDescriptor yX6_gives.desc).map (fun d => d.parameters.length) = some 1 := by decide +kernel
theorem hdX6_keeps : yX6_keeps.cls = RX6 ∧ yX6_keeps.cls ≠ "java/lang/invoke/MethodHandle" ∧ yX6_keeps.cls ≠ "java/lang/invoke/VarHandle" ∧ (parseMethodDescriptor yX6_keeps.desc).map (fun d => d.parameters.length) = some 1 := by decide +kernel
theorem hdX6_asksAbove : yX6_asksAbove.cls = RX6 ∧ yX6_asksAbove.cls ≠ "java/lang/invoke/MethodHandle" ∧ yX6_asksAbove.cls ≠ "java/lang/invoke/VarHandle" ∧ (parseMethodDescriptor yX6_asksAbove.desc).map (fun d => d.parameters.length) = some 3 := by decide +kernel
theorem hdX6_asks : yX6_asks.cls = RX6 ∧ yX6_asks.cls ≠ "java/lang/invoke/MethodHandle" ∧ yX6_asks.cls ≠ "java/lang/invoke/VarHandle" ∧ (parseMethodDescriptor yX6_asks.desc).map (fun d => d.parameters.length) = some 2 := by decide +kernel
theorem hdX6_stands : yX6_stands.cls = RX6 ∧ yX6_stands.cls ≠ "java/lang/invoke/MethodHandle" ∧ yX6_stands.cls ≠ "java/lang/invoke/VarHandle" ∧ (parseMethodDescriptor yX6_stands.desc).map (fun d => d.parameters.length) = some 3 := by decide +kernel
theorem hdX6_against : yX6_against.cls = RX6 ∧ yX6_against.cls ≠ "java/lang/invoke/MethodHandle" ∧ yX6_against.cls ≠ "java/lang/invoke/VarHandle" ∧ (parseMethodDescriptor yX6_against.desc).map (fun d => d.parameters.length) = some 3 := by decide +kernel
theorem hdX6_makes : yX6_makes.cls = RX6 ∧ yX6_makes.cls ≠ "java/lang/invoke/MethodHandle" ∧ yX6_makes.cls ≠ "java/lang/invoke/VarHandle" ∧ (parseMethodDescriptor yX6_makes.desc).map (fun d => d.parameters.length) = some 3 := by decide +kernel
theorem hdX6_begins : yX6_begins.cls = RX6 ∧ yX6_begins.cls ≠ "java/lang/invoke/MethodHandle" ∧ yX6_begins.cls ≠ "java/lang/invoke/VarHandle" ∧ (parseMethodDescriptor yX6_begins.desc).map (fun d => d.parameters.length) = some 2 := by decide +kernel
theorem hdX6_runs : yX6_runs.cls = RX6 ∧ yX6_runs.cls ≠ "java/lang/invoke/MethodHandle" ∧ yX6_runs.cls ≠ "java/lang/invoke/VarHandle" ∧ (parseMethodDescriptor yX6_runs.desc).map (fun d => d.parameters.length) = some 0 := by decide +kernel
theorem hdX6_does : yX6_does.cls = RX6 ∧ yX6_does.cls ≠ "java/lang/invoke/MethodHandle" ∧ yX6_does.cls ≠ "java/lang/invoke/VarHandle" ∧ (parseMethodDescriptor yX6_does.desc).map (fun d => d.parameters.length) = some 4 := by decide +kernel
theorem hdX6_isModule : yX6_isModule.cls = RX6 ∧ yX6_isModule.cls ≠ "java/lang/invoke/MethodHandle" ∧ yX6_isModule.cls ≠ "java/lang/invoke/VarHandle" ∧ (parseMethodDescriptor yX6_isModule.desc).map (fun d => d.parameters.length) = some 1 := by decide +kernel
theorem hdX6_isThing : yX6_isThing.cls = RX6 ∧ yX6_isThing.cls ≠ "java/lang/invoke/MethodHandle" ∧ yX6_isThing.cls ≠ "java/lang/invoke/VarHandle" ∧ (parseMethodDescriptor yX6_isThing.desc).map (fun d => d.parameters.length) = some 1 := by decide +kernel
theorem hdX6_holds : yX6_holds.cls = RX6 ∧ yX6_holds.cls ≠ "java/lang/invoke/MethodHandle" ∧ yX6_holds.cls ≠ "java/lang/invoke/VarHandle" ∧ (parseMethodDescriptor yX6_holds.desc).map (fun d => d.parameters.length) = some 0 := by decide +kernel
theorem hdX5_file : yX5_file.cls = RX5 ∧ yX5_file.cls ≠ "java/lang/invoke/MethodHandle" ∧ yX5_file.cls ≠ "java/lang/invoke/VarHandle" ∧ (parseMethodDescriptor yX5_file.desc).map (fun d => d.parameters.length) = some 5 := by decide +kernel
theorem hdX6_file : yX6_file.cls = RX6 ∧ yX6_file.cls ≠ "java/lang/invoke/MethodHandle" ∧ yX6_file.cls ≠ "java/lang/invoke/VarHandle" ∧ (parseMethodDescriptor yX6_file.desc).map (fun d => d.parameters.length) = some 5 := by decide +kernel
theorem hdX5_loader : yX5_loader.cls = RX5 ∧ yX5_loader.cls ≠ "java/lang/invoke/MethodHandle" ∧ yX5_loader.cls ≠ "java/lang/invoke/VarHandle" ∧ (parseMethodDescriptor yX5_loader.desc).map (fun d => d.parameters.length) = some 2 := by decide +kernel
theorem hdX6_loader : yX6_loader.cls = RX6 ∧ yX6_loader.cls ≠ "java/lang/invoke/MethodHandle" ∧ yX6_loader.cls ≠ "java/lang/invoke/VarHandle" ∧ (parseMethodDescriptor yX6_loader.desc).map (fun d => d.parameters.length) = some 2 := by decide +kernel
theorem hdX5_put : yX5_put.cls = RX5 ∧ yX5_put.cls ≠ "java/lang/invoke/MethodHandle" ∧ yX5_put.cls ≠ "java/lang/invoke/VarHandle" ∧ (parseMethodDescriptor yX5_put.desc).map (fun d => d.parameters.length) = some 3 := by decide +kernel
theorem hdX6_put : yX6_put.cls = RX6 ∧ yX6_put.cls ≠ "java/lang/invoke/MethodHandle" ∧ yX6_put.cls ≠ "java/lang/invoke/VarHandle" ∧ (parseMethodDescriptor yX6_put.desc).map (fun d => d.parameters.length) = some 3 := by decide +kernel
theorem hdX5_load : yX5_load.cls = RX5 ∧ yX5_load.cls ≠ "java/lang/invoke/MethodHandle" ∧ yX5_load.cls ≠ "java/lang/invoke/VarHandle" ∧ (parseMethodDescriptor yX5_load.desc).map (fun d => d.parameters.length) = some 2 := by decide +kernel
theorem hdX6_load : yX6_load.cls = RX6 ∧ yX6_load.cls ≠ "java/lang/invoke/MethodHandle" ∧ yX6_load.cls ≠ "java/lang/invoke/VarHandle" ∧ (parseMethodDescriptor yX6_load.desc).map (fun d => d.parameters.length) = some 2 := by decide +kernel
theorem hdX5_define : yX5_define.cls = RX5 ∧ yX5_define.cls ≠ "java/lang/invoke/MethodHandle" ∧ yX5_define.cls ≠ "java/lang/invoke/VarHandle" ∧ (parseMethodDescriptor yX5_define.desc).map (fun d => d.parameters.length) = some 3 := by decide +kernel
theorem hdX6_define : yX6_define.cls = RX6 ∧ yX6_define.cls ≠ "java/lang/invoke/MethodHandle" ∧ yX6_define.cls ≠ "java/lang/invoke/VarHandle" ∧ (parseMethodDescriptor yX6_define.desc).map (fun d => d.parameters.length) = some 3 := by decide +kernel
theorem hdX5_anew : yX5_anew.cls = RX5 ∧ yX5_anew.cls ≠ "java/lang/invoke/MethodHandle" ∧ yX5_anew.cls ≠ "java/lang/invoke/VarHandle" ∧ (parseMethodDescriptor yX5_anew.desc).map (fun d => d.parameters.length) = some 3 := by decide +kernel
theorem hdX6_anew : yX6_anew.cls = RX6 ∧ yX6_anew.cls ≠ "java/lang/invoke/MethodHandle" ∧ yX6_anew.cls ≠ "java/lang/invoke/VarHandle" ∧ (parseMethodDescriptor yX6_anew.desc).map (fun d => d.parameters.length) = some 3 := by decide +kernel
theorem hdX5_known : yX5_known.cls = RX5 ∧ yX5_known.cls ≠ "java/lang/invoke/MethodHandle" ∧ yX5_known.cls ≠ "java/lang/invoke/VarHandle" ∧ (parseMethodDescriptor yX5_known.desc).map (fun d => d.parameters.length) = some 2 := by decide +kernel
theorem hdX6_known : yX6_known.cls = RX6 ∧ yX6_known.cls ≠ "java/lang/invoke/MethodHandle" ∧ yX6_known.cls ≠ "java/lang/invoke/VarHandle" ∧ (parseMethodDescriptor yX6_known.desc).map (fun d => d.parameters.length) = some 2 := by decide +kernel
theorem hdX5_begin : yX5_begin.cls = RX5 ∧ yX5_begin.cls ≠ "java/lang/invoke/MethodHandle" ∧ yX5_begin.cls ≠ "java/lang/invoke/VarHandle" ∧ (parseMethodDescriptor yX5_begin.desc).map (fun d => d.parameters.length) = some 1 := by decide +kernel
theorem hdX6_begin : yX6_begin.cls = RX6 ∧ yX6_begin.cls ≠ "java/lang/invoke/MethodHandle" ∧ yX6_begin.cls ≠ "java/lang/invoke/VarHandle" ∧ (parseMethodDescriptor yX6_begin.desc).map (fun d => d.parameters.length) = some 1 := by decide +kernel
theorem hdX5_thing : yX5_thing.cls = RX5 ∧ yX5_thing.cls ≠ "java/lang/invoke/MethodHandle" ∧ yX5_thing.cls ≠ "java/lang/invoke/VarHandle" ∧ (parseMethodDescriptor yX5_thing.desc).map (fun d => d.parameters.length) = some 1 := by decide +kernel
theorem hdX6_thing : yX6_thing.cls = RX6 ∧ yX6_thing.cls ≠ "java/lang/invoke/MethodHandle" ∧ yX6_thing.cls ≠ "java/lang/invoke/VarHandle" ∧ (parseMethodDescriptor yX6_thing.desc).map (fun d => d.parameters.length) = some 1 := by decide +kernel
theorem hdX5_cast : yX5_cast.cls = RX5 ∧ yX5_cast.cls ≠ "java/lang/invoke/MethodHandle" ∧ yX5_cast.cls ≠ "java/lang/invoke/VarHandle" ∧ (parseMethodDescriptor yX5_cast.desc).map (fun d => d.parameters.length) = some 2 := by decide +kernel
theorem hdX6_cast : yX6_cast.cls = RX6 ∧ yX6_cast.cls ≠ "java/lang/invoke/MethodHandle" ∧ yX6_cast.cls ≠ "java/lang/invoke/VarHandle" ∧ (parseMethodDescriptor yX6_cast.desc).map (fun d => d.parameters.length) = some 2 := by decide +kernel
theorem hdX5_drop : yX5_drop.cls = RX5 ∧ yX5_drop.cls ≠ "java/lang/invoke/MethodHandle" ∧ yX5_drop.cls ≠ "java/lang/invoke/VarHandle" ∧ (parseMethodDescriptor yX5_drop.desc).map (fun d => d.parameters.length) = some 1 := by decide +kernel
theorem hdX6_drop : yX6_drop.cls = RX6 ∧ yX6_drop.cls ≠ "java/lang/invoke/MethodHandle" ∧ yX6_drop.cls ≠ "java/lang/invoke/VarHandle" ∧ (parseMethodDescriptor yX6_drop.desc).map (fun d => d.parameters.length) = some 1 := by decide +kernel
theorem hdX5_letGo : yX5_letGo.cls = RX5 ∧ yX5_letGo.cls ≠ "java/lang/invoke/MethodHandle" ∧ yX5_letGo.cls ≠ "java/lang/invoke/VarHandle" ∧ (parseMethodDescriptor yX5_letGo.desc).map (fun d => d.parameters.length) = some 1 := by decide +kernel
theorem hdX6_letGo : yX6_letGo.cls = RX6 ∧ yX6_letGo.cls ≠ "java/lang/invoke/MethodHandle" ∧ yX6_letGo.cls ≠ "java/lang/invoke/VarHandle" ∧ (parseMethodDescriptor yX6_letGo.desc).map (fun d => d.parameters.length) = some 1 := by decide +kernel
theorem hdX5_held : yX5_held.cls = RX5 ∧ yX5_held.cls ≠ "java/lang/invoke/MethodHandle" ∧ yX5_held.cls ≠ "java/lang/invoke/VarHandle" ∧ (parseMethodDescriptor yX5_held.desc).map (fun d => d.parameters.length) = some 1 := by decide +kernel
theorem hdX6_held : yX6_held.cls = RX6 ∧ yX6_held.cls ≠ "java/lang/invoke/MethodHandle" ∧ yX6_held.cls ≠ "java/lang/invoke/VarHandle" ∧ (parseMethodDescriptor yX6_held.desc).map (fun d => d.parameters.length) = some 1 := by decide +kernel
theorem hdX5_isHeld : yX5_isHeld.cls = RX5 ∧ yX5_isHeld.cls ≠ "java/lang/invoke/MethodHandle" ∧ yX5_isHeld.cls ≠ "java/lang/invoke/VarHandle" ∧ (parseMethodDescriptor yX5_isHeld.desc).map (fun d => d.parameters.length) = some 1 := by decide +kernel
theorem hdX6_isHeld : yX6_isHeld.cls = RX6 ∧ yX6_isHeld.cls ≠ "java/lang/invoke/MethodHandle" ∧ yX6_isHeld.cls ≠ "java/lang/invoke/VarHandle" ∧ (parseMethodDescriptor yX6_isHeld.desc).map (fun d => d.parameters.length) = some 1 := by decide +kernel
theorem hdX5_about : yX5_about.cls = RX5 ∧ yX5_about.cls ≠ "java/lang/invoke/MethodHandle" ∧ yX5_about.cls ≠ "java/lang/invoke/VarHandle" ∧ (parseMethodDescriptor yX5_about.desc).map (fun d => d.parameters.length) = some 2 := by decide +kernel
theorem hdX6_about : yX6_about.cls = RX6 ∧ yX6_about.cls ≠ "java/lang/invoke/MethodHandle" ∧ yX6_about.cls ≠ "java/lang/invoke/VarHandle" ∧ (parseMethodDescriptor yX6_about.desc).map (fun d => d.parameters.length) = some 2 := by decide +kernel
theorem hdX5_aboutThing : yX5_aboutThing.cls = RX5 ∧ yX5_aboutThing.cls ≠ "java/lang/invoke/MethodHandle" ∧ yX5_aboutThing.cls ≠ "java/lang/invoke/VarHandle" ∧ (parseMethodDescriptor yX5_aboutThing.desc).map (fun d => d.parameters.length) = some 2 := by decide +kernel
theorem hdX6_aboutThing : yX6_aboutThing.cls = RX6 ∧ yX6_aboutThing.cls ≠ "java/lang/invoke/MethodHandle" ∧ yX6_aboutThing.cls ≠ "java/lang/invoke/VarHandle" ∧ (parseMethodDescriptor yX6_aboutThing.desc).map (fun d => d.parameters.length) = some 2 := by decide +kernel
theorem hdX5_order : yX5_order.cls = RX5 ∧ yX5_order.cls ≠ "java/lang/invoke/MethodHandle" ∧ yX5_order.cls ≠ "java/lang/invoke/VarHandle" ∧ (parseMethodDescriptor yX5_order.desc).map (fun d => d.parameters.length) = some 1 := by decide +kernel
theorem hdX6_order : yX6_order.cls = RX6 ∧ yX6_order.cls ≠ "java/lang/invoke/MethodHandle" ∧ yX6_order.cls ≠ "java/lang/invoke/VarHandle" ∧ (parseMethodDescriptor yX6_order.desc).map (fun d => d.parameters.length) = some 1 := by decide +kernel
theorem hdX5_count : yX5_count.cls = RX5 ∧ yX5_count.cls ≠ "java/lang/invoke/MethodHandle" ∧ yX5_count.cls ≠ "java/lang/invoke/VarHandle" ∧ (parseMethodDescriptor yX5_count.desc).map (fun d => d.parameters.length) = some 1 := by decide +kernel
theorem hdX6_count : yX6_count.cls = RX6 ∧ yX6_count.cls ≠ "java/lang/invoke/MethodHandle" ∧ yX6_count.cls ≠ "java/lang/invoke/VarHandle" ∧ (parseMethodDescriptor yX6_count.desc).map (fun d => d.parameters.length) = some 1 := by decide +kernel
