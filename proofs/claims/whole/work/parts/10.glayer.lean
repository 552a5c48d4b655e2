/-! G: contracts over one world that is a list of cells; the rows of calls, fields and arrays with the walk's fixed facts bundled -/
def gTys (cy : Nat → ClassId) : List (ClassId × FieldType) := [(cy 0, .int), (cy 1, .char), (cy 2, .long), (cy 3, .double)]
def gPre (D : va_G) (cy : Nat → ClassId) (w : va_W) (sz : Nat) (U : State) : Prop := U.heap.size = sz ∧ va_P D vwCl w U.heap ∧ va_K D vwCl (gTys cy) U ∧ va_D (fun _ => True) w
def gPost {S : Type} (D : va_G) (w : va_W) (sz : Nat) (wf : S → va_W) (u : S) (t : State) : Prop := va_P D vwCl (wf u) t.heap ∧ va_D (va_A w sz) (wf u)
/-- the world at hand, since the heap H0, nothing written outside A -/
def gw (D : va_G) (A : Nat → Prop) (H0 : Heap) (w : va_W) (H : Heap) (locs : List Loc) : Prop := va_P D vwCl w H ∧ va_D A w ∧ va_S A H0 H locs
/-- the walk's fixed facts -/
def gX (p : Program) (s : State) (m : MethodId) (args : Array Value) (meth : Method) (c : Code) (cc : ByteArray) (own : String) (nL : Nat) (Ts : List Cond) (D : va_G) (cy : Nat → ClassId) (A : Nat → Prop) : Prop :=
  p.tables.exec = Jvm.exec ∧ c.code = cc ∧ meth.locks = false ∧ c.maxLocals = nL ∧ s.vm.findClass own = some m.cls ∧ (∀ w ∈ Ts, w.before args s = true) ∧ va_K D vwCl (gTys cy) s ∧ ∀ q : Nat, s.heap.size ≤ q → A q
/-- what is decided of a callee once -/
def gY (y : MethodName) (own : String) (bytes : ByteArray) (maxL : Nat) (ret : Option FieldType) (ws : List Cond) (n : Nat) : Prop := (∃ ws', ws = Cond.code y bytes maxL ret :: ws') ∧ y.cls = own ∧ y.cls ≠ "java/lang/invoke/MethodHandle" ∧ y.cls ≠ "java/lang/invoke/VarHandle" ∧ (parseMethodDescriptor y.desc).map (fun d => d.parameters.length) = some n
theorem gfree {A : Nat → Prop} {w : va_W} {H0 H : Heap} {locs : List Loc} (hD : va_D A w) (hS : va_S A H0 H locs) (hA : ∀ q : Nat, H0.size ≤ q → A q) : ∀ q, va_A w H.size q → A q := by
  intro q h
  rcases h with ⟨k, e, h⟩ | h
  · exact hD.2 k (q, e) h
  · exact hA q (Nat.le_trans hS.1 h)
theorem gblind {av : List Value} {D : va_G} {cy : Nat → ClassId} {w : va_W} {sz : Nat} : FrameBlind (va_Pc av (gPre D cy w sz)) := fun a U g mk q => by
  obtain ⟨q0, q1, qP, qK, qD⟩ := q
  exact ⟨q0, q1, qP, va_K.moved (u := U) (U := U.calling g mk a) (Vm.Alike.refl U.vm) qK, qD⟩
/-- the universal loop -/
def lp {S R : Type} (step : S → S ⊕ R) (d : R) : Nat → S → R
  | 0, _ => d
  | n + 1, s => match step s with
    | .inl s' => lp step d n s'
    | .inr r => r
theorem lp_l {S R : Type} {step : S → S ⊕ R} {d : R} {n : Nat} {s s' : S} (h : step s = .inl s') : lp step d (n + 1) s = lp step d n s' := by simp only [lp, h]
theorem lp_r {S R : Type} {step : S → S ⊕ R} {d : R} {n : Nat} {s : S} {r : R} (h : step s = .inr r) : lp step d (n + 1) s = r := by simp only [lp, h]
/-- a loop is safe: each turn is, and it ends -/
def lpS {S R : Type} (step : S → S ⊕ R) (safe : S → Prop) : Nat → S → Prop
  | 0, _ => False
  | n + 1, s => safe s ∧ ∀ s', step s = .inl s' → lpS step safe n s'
/-- a counter below its bound: the distance falls -/
theorem up_dec {i b : Int32} (h : ¬ b ≤ i) : (b.toInt - (i + 1).toInt).toNat < (b.toInt - i.toInt).toNat := by
  have h1 : i.toInt < b.toInt := by
    rcases Int.lt_or_le i.toInt b.toInt with q | q
    · exact q
    · exact absurd (Int32.le_iff_toInt_le.mpr q) h
  have hb := b.toInt_lt
  have hi := i.le_toInt
  have e : (i + 1).toInt = i.toInt + 1 := by
    rw [Int32.toInt_add, show (1 : Int32).toInt = 1 from rfl]
    exact Int.bmod_eq_of_le (by omega) (by omega)
  omega
theorem up_dec' {i b : Int32} (h : i < b) : (b.toInt - (i + 1).toInt).toNat < (b.toInt - i.toInt).toNat := up_dec (by
  intro q
  have h1 := Int32.lt_iff_toInt_lt.mp h
  have h2 := Int32.le_iff_toInt_le.mp q
  omega)
/-- a counter above its bound, downwards -/
theorem dn_dec {i b : Int32} (h : ¬ i ≤ b) : ((i + (-1)).toInt - b.toInt).toNat < (i.toInt - b.toInt).toNat := by
  have h1 : b.toInt < i.toInt := by
    rcases Int.lt_or_le b.toInt i.toInt with q | q
    · exact q
    · exact absurd (Int32.le_iff_toInt_le.mpr q) h
  have hb := b.le_toInt
  have hi := i.toInt_lt
  have e : (i + (-1)).toInt = i.toInt - 1 := by
    rw [Int32.toInt_add, show (-1 : Int32).toInt = -1 from rfl]
    exact Int.bmod_eq_of_le (by omega) (by omega)
  omega

/-- a contract: from a world w, with these arguments, it answers r (int) and leaves the world wf u, with P r u -/
def GMi {S : Type} (l : Launch) (y : MethodName) (ws : List Cond) (rm : Room) (D : va_G) (cy : Nat → ClassId) (av : List Value) (w : va_W) (P : Int32 → S → Prop) (wf : S → va_W) : Prop := ∀ sz, Met l y ws rm (va_Pc av (gPre D cy w sz)) (va_Qi P (gPost D w sz wf) (va_A w sz)) 0 0 (va_A w sz)
/-- a contract: from a world w, with these arguments, it answers r (long) and leaves the world wf u, with P r u -/
def GMl {S : Type} (l : Launch) (y : MethodName) (ws : List Cond) (rm : Room) (D : va_G) (cy : Nat → ClassId) (av : List Value) (w : va_W) (P : Int64 → S → Prop) (wf : S → va_W) : Prop := ∀ sz, Met l y ws rm (va_Pc av (gPre D cy w sz)) (va_Ql P (gPost D w sz wf) (va_A w sz)) 0 0 (va_A w sz)
/-- a contract: from a world w, with these arguments, it answers r (double) and leaves the world wf u, with P r u -/
def GMd {S : Type} (l : Launch) (y : MethodName) (ws : List Cond) (rm : Room) (D : va_G) (cy : Nat → ClassId) (av : List Value) (w : va_W) (P : UInt64 → S → Prop) (wf : S → va_W) : Prop := ∀ sz, Met l y ws rm (va_Pc av (gPre D cy w sz)) (va_Qd P (gPost D w sz wf) (va_A w sz)) 0 0 (va_A w sz)
/-- the same without an answer -/
def GMv {S : Type} (l : Launch) (y : MethodName) (ws : List Cond) (rm : Room) (D : va_G) (cy : Nat → ClassId) (av : List Value) (w : va_W) (P : S → Prop) (wf : S → va_W) : Prop := ∀ sz, Met l y ws rm (va_Pc av (gPre D cy w sz)) (va_Qv P (gPost D w sz wf) (va_A w sz)) 0 0 (va_A w sz)

theorem GMi.intro {S : Type} {l : Launch} {y : MethodName} {ws ws' : List Cond} {rm : Room} {D : va_G} {cy : Nat → ClassId} {av : List Value} {w : va_W} {P : Int32 → S → Prop} {wf : S → va_W} (cc : ByteArray) (maxL : Nat) (own : String) (hy : plainName y.cls = true) (hown : y.cls = own) (hw : ws = Cond.code y cc maxL (some .int) :: ws') (hent : (lg_sl av).length ≤ maxL)
    (body : ∀ (p : Program) (e : Env) (s : State) (m : MethodId) (args : Array Value) (below : List Frame) (meth : Method) (c : Code) (A : Nat → Prop) (Q : State → Prop) (ls : Array Slot), gX p s m args meth c cc own maxL ws D cy A → (∀ (pc : Nat) (r : Int32) (u : S) (H : Heap) (locs : List Loc) (ls : Array Slot), decode cc pc = .ok (.ireturn, 1) → P r u → gw D A s.heap (wf u) H locs → W p l e rm s m args below meth c H locs 0 0 Q (F0 m pc ls [.int r])) → lv_has ls maxL (lv_args 0 av) → gw D A s.heap w s.heap [] → W p l e rm s m args below meth c s.heap [] 0 0 Q (F0 m 0 ls [])) : GMi l y ws rm D cy av w P wf := by
  intro sz
  refine Met.ofW (cc := cc) (maxL := maxL) (ret := (some .int)) hy hw ?_
  intro p e s m args below meth c s₁ B hml hv
  obtain ⟨rfl, hsz, hP, hK, hD0⟩ := hv
  subst hsz
  have hD := hD0.self (sz := s.heap.size)
  have hl := lv_entry av (n := maxL) hent
  rw [lg_entry_eq]
  generalize (lg_sl av ++ List.replicate (maxL - (lg_sl av).length) Slot.unset).toArray = ls at hl ⊢
  refine body p e s m _ below meth c (va_A w s.heap.size) _ ls ⟨B.exec, B.bytes, B.notSynchronized, hml, hown ▸ findClass_of_methodNamed B.named, atoms_spec (ws := ws) B.pre, hK, fun q h => Or.inr h⟩ ?_ hl ⟨hP, hD, va_S.rf⟩
  intro pc r u H locs ls hdg hp hw9
  exact W.iret B.exec B.bytes B.returns (fun t ht hW => ⟨⟨r, u, rfl, hp, by rw [ht]; exact hw9.1, hw9.2.1⟩, hw9.2.2.F ht⟩) hw9.2.2.2.2 hdg B.notSynchronized

theorem GMz.intro {S : Type} {l : Launch} {y : MethodName} {ws ws' : List Cond} {rm : Room} {D : va_G} {cy : Nat → ClassId} {av : List Value} {w : va_W} {P : Int32 → S → Prop} {wf : S → va_W} (cc : ByteArray) (maxL : Nat) (own : String) (hy : plainName y.cls = true) (hown : y.cls = own) (hw : ws = Cond.code y cc maxL (some .boolean) :: ws') (hent : (lg_sl av).length ≤ maxL)
    (body : ∀ (p : Program) (e : Env) (s : State) (m : MethodId) (args : Array Value) (below : List Frame) (meth : Method) (c : Code) (A : Nat → Prop) (Q : State → Prop) (ls : Array Slot), gX p s m args meth c cc own maxL ws D cy A → (∀ (pc : Nat) (r : Int32) (u : S) (H : Heap) (locs : List Loc) (ls : Array Slot), decode cc pc = .ok (.ireturn, 1) → (r = 0 ∨ r = 1) → P r u → gw D A s.heap (wf u) H locs → W p l e rm s m args below meth c H locs 0 0 Q (F0 m pc ls [.int r])) → lv_has ls maxL (lv_args 0 av) → gw D A s.heap w s.heap [] → W p l e rm s m args below meth c s.heap [] 0 0 Q (F0 m 0 ls [])) : GMi l y ws rm D cy av w P wf := by
  intro sz
  refine Met.ofW (cc := cc) (maxL := maxL) (ret := (some .boolean)) hy hw ?_
  intro p e s m args below meth c s₁ B hml hv
  obtain ⟨rfl, hsz, hP, hK, hD0⟩ := hv
  subst hsz
  have hD := hD0.self (sz := s.heap.size)
  have hl := lv_entry av (n := maxL) hent
  rw [lg_entry_eq]
  generalize (lg_sl av ++ List.replicate (maxL - (lg_sl av).length) Slot.unset).toArray = ls at hl ⊢
  refine body p e s m _ below meth c (va_A w s.heap.size) _ ls ⟨B.exec, B.bytes, B.notSynchronized, hml, hown ▸ findClass_of_methodNamed B.named, atoms_spec (ws := ws) B.pre, hK, fun q h => Or.inr h⟩ ?_ hl ⟨hP, hD, va_S.rf⟩
  intro pc r u H locs ls hdg hz hp hw9
  exact W.zret B.exec B.bytes B.returns (by rcases hz with rfl | rfl <;> rfl) (fun t ht hW => ⟨⟨r, u, rfl, hp, by rw [ht]; exact hw9.1, hw9.2.1⟩, hw9.2.2.F ht⟩) hw9.2.2.2.2 hdg B.notSynchronized

theorem GMl.intro {S : Type} {l : Launch} {y : MethodName} {ws ws' : List Cond} {rm : Room} {D : va_G} {cy : Nat → ClassId} {av : List Value} {w : va_W} {P : Int64 → S → Prop} {wf : S → va_W} (cc : ByteArray) (maxL : Nat) (own : String) (hy : plainName y.cls = true) (hown : y.cls = own) (hw : ws = Cond.code y cc maxL (some .long) :: ws') (hent : (lg_sl av).length ≤ maxL)
    (body : ∀ (p : Program) (e : Env) (s : State) (m : MethodId) (args : Array Value) (below : List Frame) (meth : Method) (c : Code) (A : Nat → Prop) (Q : State → Prop) (ls : Array Slot), gX p s m args meth c cc own maxL ws D cy A → (∀ (pc : Nat) (r : Int64) (u : S) (H : Heap) (locs : List Loc) (ls : Array Slot), decode cc pc = .ok (.lreturn, 1) → P r u → gw D A s.heap (wf u) H locs → W p l e rm s m args below meth c H locs 0 0 Q (F0 m pc ls [.long r])) → lv_has ls maxL (lv_args 0 av) → gw D A s.heap w s.heap [] → W p l e rm s m args below meth c s.heap [] 0 0 Q (F0 m 0 ls [])) : GMl l y ws rm D cy av w P wf := by
  intro sz
  refine Met.ofW (cc := cc) (maxL := maxL) (ret := (some .long)) hy hw ?_
  intro p e s m args below meth c s₁ B hml hv
  obtain ⟨rfl, hsz, hP, hK, hD0⟩ := hv
  subst hsz
  have hD := hD0.self (sz := s.heap.size)
  have hl := lv_entry av (n := maxL) hent
  rw [lg_entry_eq]
  generalize (lg_sl av ++ List.replicate (maxL - (lg_sl av).length) Slot.unset).toArray = ls at hl ⊢
  refine body p e s m _ below meth c (va_A w s.heap.size) _ ls ⟨B.exec, B.bytes, B.notSynchronized, hml, hown ▸ findClass_of_methodNamed B.named, atoms_spec (ws := ws) B.pre, hK, fun q h => Or.inr h⟩ ?_ hl ⟨hP, hD, va_S.rf⟩
  intro pc r u H locs ls hdg hp hw9
  exact W.lret B.exec B.bytes B.returns (fun t ht hW => ⟨⟨r, u, rfl, hp, by rw [ht]; exact hw9.1, hw9.2.1⟩, hw9.2.2.F ht⟩) hw9.2.2.2.2 hdg B.notSynchronized

theorem GMd.intro {S : Type} {l : Launch} {y : MethodName} {ws ws' : List Cond} {rm : Room} {D : va_G} {cy : Nat → ClassId} {av : List Value} {w : va_W} {P : UInt64 → S → Prop} {wf : S → va_W} (cc : ByteArray) (maxL : Nat) (own : String) (hy : plainName y.cls = true) (hown : y.cls = own) (hw : ws = Cond.code y cc maxL (some .double) :: ws') (hent : (lg_sl av).length ≤ maxL)
    (body : ∀ (p : Program) (e : Env) (s : State) (m : MethodId) (args : Array Value) (below : List Frame) (meth : Method) (c : Code) (A : Nat → Prop) (Q : State → Prop) (ls : Array Slot), gX p s m args meth c cc own maxL ws D cy A → (∀ (pc : Nat) (r : UInt64) (u : S) (H : Heap) (locs : List Loc) (ls : Array Slot), decode cc pc = .ok (.dreturn, 1) → P r u → gw D A s.heap (wf u) H locs → W p l e rm s m args below meth c H locs 0 0 Q (F0 m pc ls [.double r])) → lv_has ls maxL (lv_args 0 av) → gw D A s.heap w s.heap [] → W p l e rm s m args below meth c s.heap [] 0 0 Q (F0 m 0 ls [])) : GMd l y ws rm D cy av w P wf := by
  intro sz
  refine Met.ofW (cc := cc) (maxL := maxL) (ret := (some .double)) hy hw ?_
  intro p e s m args below meth c s₁ B hml hv
  obtain ⟨rfl, hsz, hP, hK, hD0⟩ := hv
  subst hsz
  have hD := hD0.self (sz := s.heap.size)
  have hl := lv_entry av (n := maxL) hent
  rw [lg_entry_eq]
  generalize (lg_sl av ++ List.replicate (maxL - (lg_sl av).length) Slot.unset).toArray = ls at hl ⊢
  refine body p e s m _ below meth c (va_A w s.heap.size) _ ls ⟨B.exec, B.bytes, B.notSynchronized, hml, hown ▸ findClass_of_methodNamed B.named, atoms_spec (ws := ws) B.pre, hK, fun q h => Or.inr h⟩ ?_ hl ⟨hP, hD, va_S.rf⟩
  intro pc r u H locs ls hdg hp hw9
  exact W.dret B.exec B.bytes B.returns (fun t ht hW => ⟨⟨r, u, rfl, hp, by rw [ht]; exact hw9.1, hw9.2.1⟩, hw9.2.2.F ht⟩) hw9.2.2.2.2 hdg B.notSynchronized

theorem GMv.intro {S : Type} {l : Launch} {y : MethodName} {ws ws' : List Cond} {rm : Room} {D : va_G} {cy : Nat → ClassId} {av : List Value} {w : va_W} {P : S → Prop} {wf : S → va_W} (cc : ByteArray) (maxL : Nat) (own : String) (hy : plainName y.cls = true) (hown : y.cls = own) (hw : ws = Cond.code y cc maxL none :: ws') (hent : (lg_sl av).length ≤ maxL)
    (body : ∀ (p : Program) (e : Env) (s : State) (m : MethodId) (args : Array Value) (below : List Frame) (meth : Method) (c : Code) (A : Nat → Prop) (Q : State → Prop) (ls : Array Slot), gX p s m args meth c cc own maxL ws D cy A → (∀ (pc : Nat) (u : S) (H : Heap) (locs : List Loc) (ls : Array Slot), decode cc pc = .ok (.return_, 1) → P u → gw D A s.heap (wf u) H locs → W p l e rm s m args below meth c H locs 0 0 Q (F0 m pc ls [])) → lv_has ls maxL (lv_args 0 av) → gw D A s.heap w s.heap [] → W p l e rm s m args below meth c s.heap [] 0 0 Q (F0 m 0 ls [])) : GMv l y ws rm D cy av w P wf := by
  intro sz
  refine Met.ofW (cc := cc) (maxL := maxL) (ret := none) hy hw ?_
  intro p e s m args below meth c s₁ B hml hv
  obtain ⟨rfl, hsz, hP, hK, hD0⟩ := hv
  subst hsz
  have hD := hD0.self (sz := s.heap.size)
  have hl := lv_entry av (n := maxL) hent
  rw [lg_entry_eq]
  generalize (lg_sl av ++ List.replicate (maxL - (lg_sl av).length) Slot.unset).toArray = ls at hl ⊢
  refine body p e s m _ below meth c (va_A w s.heap.size) _ ls ⟨B.exec, B.bytes, B.notSynchronized, hml, hown ▸ findClass_of_methodNamed B.named, atoms_spec (ws := ws) B.pre, hK, fun q h => Or.inr h⟩ ?_ hl ⟨hP, hD, va_S.rf⟩
  intro pc u H locs ls hdg hp hw9
  exact W.vret B.exec B.bytes B.returns (fun t ht hW => ⟨⟨u, rfl, hp, by rw [ht]; exact hw9.1, hw9.2.1⟩, hw9.2.2.F ht⟩) hw9.2.2.2.2 hdg B.notSynchronized

section GR
variable {p : Program} {l : Launch} {e : Env} {R : Room} {s : State} {m : MethodId} {args : Array Value} {below : List Frame} {meth : Method} {c : Code} {H : Heap} {locs : List Loc} {cells slots : Nat} {Q : State → Prop}
variable {cc : ByteArray} {pc : Nat} {ls : Array Slot} {rest : List Value} {own : String} {nL : Nat} {Ts : List Cond} {D : va_G} {cy : Nat → ClassId} {A : Nat → Prop} {w : va_W} {a : Nat}

theorem gcV_i {S : Type} {y : MethodName} {ws : List Cond} {rm : Room} {b : Nat} {As st0 : List Value} {P : Int32 → S → Prop} {wf : S → va_W} {bytes : ByteArray} {maxL n index : Nat} {ret : Option FieldType} {C : String} {ci : Nat} {T : u_T} {N : Nat} {fs : List Value} {lv : List (Nat × Value)} (X : gX p s m args meth c cc own nL Ts D cy A) (hM : GMi l y ws rm D cy (.ref b :: As) w P wf) (F : gY y C bytes maxL ret ws n) (hG : GoodIn Ts (wsV own index C y ws))
    (hrm : rm.cells = 0 ∧ rm.slots = 0 ∧ rm.frames + 1 ≤ R.frames ∧ 8 + (maxL + 11) + rm.locals ≤ R.locals) (q0 : Nat) (he : w[q0]? = some (b, .inr (ci, fs))) (hc : vwCl[ci]? = some (C, T, N)) (hn : As.length = n) (hl : lv_has ls nL lv) (hst : st0 = As.reverse ++ .ref b :: rest) (hcat : (rest.map fun v => v.category).sum ≤ 8) (hdg : decode cc pc = .ok (.invokevirtual index, 3)) (hcs : cells ≤ R.cells ∧ slots ≤ R.slots) (hw : gw D A s.heap w H locs)
    (kk : ∀ (r : Int32) (u : S) (H1 : Heap) (locs1 : List Loc), P r u → gw D A s.heap (wf u) H1 locs1 → W p l e R s m args below meth c H1 locs1 cells slots Q (F0 m (pc + 3) ls (.int r :: rest))) : W p l e R s m args below meth c H locs cells slots Q (F0 m pc ls st0) := by
  obtain ⟨hx, hb, hlk, hml, hown, hts, hK, hA⟩ := X
  obtain ⟨hP, hD, hS⟩ := hw
  obtain ⟨⟨ws', hws⟩, hd⟩ := F
  have hF : ∀ q, va_A w H.size q → A q := gfree hD hS hA
  have hr := va_runV (R := R) (below := below) (e := e) (H := H) (locs := locs) (cells := cells) (slots := slots) (meth := meth) (As := As) (rest := rest) (g := F0 m pc ls st0) ⟨hx, hb, hml, hown, hts⟩ (hM H.size) (cwV (R := R) n hts hG hws hrm.1 hrm.2.1 hd hrm.2.2) ⟨gblind, va_recv hK hP hc he, fun U hU hW => ⟨rfl, by rw [hU], by rw [hU]; exact hP, va_K.moved hW.alike hK, hD.weaken (fun _ _ _ _ => trivial)⟩⟩ rfl hn hl.1 hst (lv_room hcat) hdg hcs
  refine va_calli hr hS (fun q _ h => hF q h) hF (fun r u t H1 locs1 ht hvm hp hB hz hk hS1 => ?_)
  exact kk r u H1 locs1 hp ⟨by rw [← ht]; exact hB.1, hB.2.weaken (fun k q _ h => hF q.1 h), hS1⟩
theorem gcS_i {S : Type} {y : MethodName} {ws : List Cond} {rm : Room} {As st0 : List Value} {P : Int32 → S → Prop} {wf : S → va_W} {bytes : ByteArray} {maxL n index : Nat} {ret : Option FieldType} {C : String} {lv : List (Nat × Value)} (X : gX p s m args meth c cc own nL Ts D cy A) (hM : GMi l y ws rm D cy As w P wf) (F : gY y C bytes maxL ret ws n) (hG : GoodIn Ts (va_wsS own index y ws))
    (hrm : rm.cells = 0 ∧ rm.slots = 0 ∧ rm.frames + 1 ≤ R.frames ∧ 8 + (maxL + 11) + rm.locals ≤ R.locals) (hn : As.length = n) (hl : lv_has ls nL lv) (hst : st0 = As.reverse ++ rest) (hcat : (rest.map fun v => v.category).sum ≤ 8) (hdg : decode cc pc = .ok (.invokestatic index, 3)) (hcs : cells ≤ R.cells ∧ slots ≤ R.slots) (hw : gw D A s.heap w H locs)
    (kk : ∀ (r : Int32) (u : S) (H1 : Heap) (locs1 : List Loc), P r u → gw D A s.heap (wf u) H1 locs1 → W p l e R s m args below meth c H1 locs1 cells slots Q (F0 m (pc + 3) ls (.int r :: rest))) : W p l e R s m args below meth c H locs cells slots Q (F0 m pc ls st0) := by
  obtain ⟨hx, hb, hlk, hml, hown, hts, hK, hA⟩ := X
  obtain ⟨hP, hD, hS⟩ := hw
  obtain ⟨⟨ws', hws⟩, hd⟩ := F
  have hF : ∀ q, va_A w H.size q → A q := gfree hD hS hA
  have hr := va_runS (R := R) (below := below) (e := e) (H := H) (locs := locs) (cells := cells) (slots := slots) (meth := meth) (As := As) (rest := rest) (g := F0 m pc ls st0) ⟨hx, hb, hml, hown, hts⟩ (hM H.size) (va_cwS (R := R) n hts hG hws hrm.1 hrm.2.1 hd.2 hrm.2.2) ⟨gblind, fun U hU hW => ⟨rfl, by rw [hU], by rw [hU]; exact hP, va_K.moved hW.alike hK, hD.weaken (fun _ _ _ _ => trivial)⟩⟩ rfl hn hl.1 hst (lv_room hcat) hdg hcs
  refine va_calli hr hS (fun q _ h => hF q h) hF (fun r u t H1 locs1 ht hvm hp hB hz hk hS1 => ?_)
  exact kk r u H1 locs1 hp ⟨by rw [← ht]; exact hB.1, hB.2.weaken (fun k q _ h => hF q.1 h), hS1⟩

theorem gcV_l {S : Type} {y : MethodName} {ws : List Cond} {rm : Room} {b : Nat} {As st0 : List Value} {P : Int64 → S → Prop} {wf : S → va_W} {bytes : ByteArray} {maxL n index : Nat} {ret : Option FieldType} {C : String} {ci : Nat} {T : u_T} {N : Nat} {fs : List Value} {lv : List (Nat × Value)} (X : gX p s m args meth c cc own nL Ts D cy A) (hM : GMl l y ws rm D cy (.ref b :: As) w P wf) (F : gY y C bytes maxL ret ws n) (hG : GoodIn Ts (wsV own index C y ws))
    (hrm : rm.cells = 0 ∧ rm.slots = 0 ∧ rm.frames + 1 ≤ R.frames ∧ 8 + (maxL + 11) + rm.locals ≤ R.locals) (q0 : Nat) (he : w[q0]? = some (b, .inr (ci, fs))) (hc : vwCl[ci]? = some (C, T, N)) (hn : As.length = n) (hl : lv_has ls nL lv) (hst : st0 = As.reverse ++ .ref b :: rest) (hcat : (rest.map fun v => v.category).sum ≤ 8) (hdg : decode cc pc = .ok (.invokevirtual index, 3)) (hcs : cells ≤ R.cells ∧ slots ≤ R.slots) (hw : gw D A s.heap w H locs)
    (kk : ∀ (r : Int64) (u : S) (H1 : Heap) (locs1 : List Loc), P r u → gw D A s.heap (wf u) H1 locs1 → W p l e R s m args below meth c H1 locs1 cells slots Q (F0 m (pc + 3) ls (.long r :: rest))) : W p l e R s m args below meth c H locs cells slots Q (F0 m pc ls st0) := by
  obtain ⟨hx, hb, hlk, hml, hown, hts, hK, hA⟩ := X
  obtain ⟨hP, hD, hS⟩ := hw
  obtain ⟨⟨ws', hws⟩, hd⟩ := F
  have hF : ∀ q, va_A w H.size q → A q := gfree hD hS hA
  have hr := va_runV (R := R) (below := below) (e := e) (H := H) (locs := locs) (cells := cells) (slots := slots) (meth := meth) (As := As) (rest := rest) (g := F0 m pc ls st0) ⟨hx, hb, hml, hown, hts⟩ (hM H.size) (cwV (R := R) n hts hG hws hrm.1 hrm.2.1 hd hrm.2.2) ⟨gblind, va_recv hK hP hc he, fun U hU hW => ⟨rfl, by rw [hU], by rw [hU]; exact hP, va_K.moved hW.alike hK, hD.weaken (fun _ _ _ _ => trivial)⟩⟩ rfl hn hl.1 hst (lv_room hcat) hdg hcs
  refine va_calll hr hS (fun q _ h => hF q h) hF (fun r u t H1 locs1 ht hvm hp hB hz hk hS1 => ?_)
  exact kk r u H1 locs1 hp ⟨by rw [← ht]; exact hB.1, hB.2.weaken (fun k q _ h => hF q.1 h), hS1⟩
theorem gcS_l {S : Type} {y : MethodName} {ws : List Cond} {rm : Room} {As st0 : List Value} {P : Int64 → S → Prop} {wf : S → va_W} {bytes : ByteArray} {maxL n index : Nat} {ret : Option FieldType} {C : String} {lv : List (Nat × Value)} (X : gX p s m args meth c cc own nL Ts D cy A) (hM : GMl l y ws rm D cy As w P wf) (F : gY y C bytes maxL ret ws n) (hG : GoodIn Ts (va_wsS own index y ws))
    (hrm : rm.cells = 0 ∧ rm.slots = 0 ∧ rm.frames + 1 ≤ R.frames ∧ 8 + (maxL + 11) + rm.locals ≤ R.locals) (hn : As.length = n) (hl : lv_has ls nL lv) (hst : st0 = As.reverse ++ rest) (hcat : (rest.map fun v => v.category).sum ≤ 8) (hdg : decode cc pc = .ok (.invokestatic index, 3)) (hcs : cells ≤ R.cells ∧ slots ≤ R.slots) (hw : gw D A s.heap w H locs)
    (kk : ∀ (r : Int64) (u : S) (H1 : Heap) (locs1 : List Loc), P r u → gw D A s.heap (wf u) H1 locs1 → W p l e R s m args below meth c H1 locs1 cells slots Q (F0 m (pc + 3) ls (.long r :: rest))) : W p l e R s m args below meth c H locs cells slots Q (F0 m pc ls st0) := by
  obtain ⟨hx, hb, hlk, hml, hown, hts, hK, hA⟩ := X
  obtain ⟨hP, hD, hS⟩ := hw
  obtain ⟨⟨ws', hws⟩, hd⟩ := F
  have hF : ∀ q, va_A w H.size q → A q := gfree hD hS hA
  have hr := va_runS (R := R) (below := below) (e := e) (H := H) (locs := locs) (cells := cells) (slots := slots) (meth := meth) (As := As) (rest := rest) (g := F0 m pc ls st0) ⟨hx, hb, hml, hown, hts⟩ (hM H.size) (va_cwS (R := R) n hts hG hws hrm.1 hrm.2.1 hd.2 hrm.2.2) ⟨gblind, fun U hU hW => ⟨rfl, by rw [hU], by rw [hU]; exact hP, va_K.moved hW.alike hK, hD.weaken (fun _ _ _ _ => trivial)⟩⟩ rfl hn hl.1 hst (lv_room hcat) hdg hcs
  refine va_calll hr hS (fun q _ h => hF q h) hF (fun r u t H1 locs1 ht hvm hp hB hz hk hS1 => ?_)
  exact kk r u H1 locs1 hp ⟨by rw [← ht]; exact hB.1, hB.2.weaken (fun k q _ h => hF q.1 h), hS1⟩

theorem gcV_d {S : Type} {y : MethodName} {ws : List Cond} {rm : Room} {b : Nat} {As st0 : List Value} {P : UInt64 → S → Prop} {wf : S → va_W} {bytes : ByteArray} {maxL n index : Nat} {ret : Option FieldType} {C : String} {ci : Nat} {T : u_T} {N : Nat} {fs : List Value} {lv : List (Nat × Value)} (X : gX p s m args meth c cc own nL Ts D cy A) (hM : GMd l y ws rm D cy (.ref b :: As) w P wf) (F : gY y C bytes maxL ret ws n) (hG : GoodIn Ts (wsV own index C y ws))
    (hrm : rm.cells = 0 ∧ rm.slots = 0 ∧ rm.frames + 1 ≤ R.frames ∧ 8 + (maxL + 11) + rm.locals ≤ R.locals) (q0 : Nat) (he : w[q0]? = some (b, .inr (ci, fs))) (hc : vwCl[ci]? = some (C, T, N)) (hn : As.length = n) (hl : lv_has ls nL lv) (hst : st0 = As.reverse ++ .ref b :: rest) (hcat : (rest.map fun v => v.category).sum ≤ 8) (hdg : decode cc pc = .ok (.invokevirtual index, 3)) (hcs : cells ≤ R.cells ∧ slots ≤ R.slots) (hw : gw D A s.heap w H locs)
    (kk : ∀ (r : UInt64) (u : S) (H1 : Heap) (locs1 : List Loc), P r u → gw D A s.heap (wf u) H1 locs1 → W p l e R s m args below meth c H1 locs1 cells slots Q (F0 m (pc + 3) ls (.double r :: rest))) : W p l e R s m args below meth c H locs cells slots Q (F0 m pc ls st0) := by
  obtain ⟨hx, hb, hlk, hml, hown, hts, hK, hA⟩ := X
  obtain ⟨hP, hD, hS⟩ := hw
  obtain ⟨⟨ws', hws⟩, hd⟩ := F
  have hF : ∀ q, va_A w H.size q → A q := gfree hD hS hA
  have hr := va_runV (R := R) (below := below) (e := e) (H := H) (locs := locs) (cells := cells) (slots := slots) (meth := meth) (As := As) (rest := rest) (g := F0 m pc ls st0) ⟨hx, hb, hml, hown, hts⟩ (hM H.size) (cwV (R := R) n hts hG hws hrm.1 hrm.2.1 hd hrm.2.2) ⟨gblind, va_recv hK hP hc he, fun U hU hW => ⟨rfl, by rw [hU], by rw [hU]; exact hP, va_K.moved hW.alike hK, hD.weaken (fun _ _ _ _ => trivial)⟩⟩ rfl hn hl.1 hst (lv_room hcat) hdg hcs
  refine va_calld hr hS (fun q _ h => hF q h) hF (fun r u t H1 locs1 ht hvm hp hB hz hk hS1 => ?_)
  exact kk r u H1 locs1 hp ⟨by rw [← ht]; exact hB.1, hB.2.weaken (fun k q _ h => hF q.1 h), hS1⟩
theorem gcS_d {S : Type} {y : MethodName} {ws : List Cond} {rm : Room} {As st0 : List Value} {P : UInt64 → S → Prop} {wf : S → va_W} {bytes : ByteArray} {maxL n index : Nat} {ret : Option FieldType} {C : String} {lv : List (Nat × Value)} (X : gX p s m args meth c cc own nL Ts D cy A) (hM : GMd l y ws rm D cy As w P wf) (F : gY y C bytes maxL ret ws n) (hG : GoodIn Ts (va_wsS own index y ws))
    (hrm : rm.cells = 0 ∧ rm.slots = 0 ∧ rm.frames + 1 ≤ R.frames ∧ 8 + (maxL + 11) + rm.locals ≤ R.locals) (hn : As.length = n) (hl : lv_has ls nL lv) (hst : st0 = As.reverse ++ rest) (hcat : (rest.map fun v => v.category).sum ≤ 8) (hdg : decode cc pc = .ok (.invokestatic index, 3)) (hcs : cells ≤ R.cells ∧ slots ≤ R.slots) (hw : gw D A s.heap w H locs)
    (kk : ∀ (r : UInt64) (u : S) (H1 : Heap) (locs1 : List Loc), P r u → gw D A s.heap (wf u) H1 locs1 → W p l e R s m args below meth c H1 locs1 cells slots Q (F0 m (pc + 3) ls (.double r :: rest))) : W p l e R s m args below meth c H locs cells slots Q (F0 m pc ls st0) := by
  obtain ⟨hx, hb, hlk, hml, hown, hts, hK, hA⟩ := X
  obtain ⟨hP, hD, hS⟩ := hw
  obtain ⟨⟨ws', hws⟩, hd⟩ := F
  have hF : ∀ q, va_A w H.size q → A q := gfree hD hS hA
  have hr := va_runS (R := R) (below := below) (e := e) (H := H) (locs := locs) (cells := cells) (slots := slots) (meth := meth) (As := As) (rest := rest) (g := F0 m pc ls st0) ⟨hx, hb, hml, hown, hts⟩ (hM H.size) (va_cwS (R := R) n hts hG hws hrm.1 hrm.2.1 hd.2 hrm.2.2) ⟨gblind, fun U hU hW => ⟨rfl, by rw [hU], by rw [hU]; exact hP, va_K.moved hW.alike hK, hD.weaken (fun _ _ _ _ => trivial)⟩⟩ rfl hn hl.1 hst (lv_room hcat) hdg hcs
  refine va_calld hr hS (fun q _ h => hF q h) hF (fun r u t H1 locs1 ht hvm hp hB hz hk hS1 => ?_)
  exact kk r u H1 locs1 hp ⟨by rw [← ht]; exact hB.1, hB.2.weaken (fun k q _ h => hF q.1 h), hS1⟩

theorem gcV_v {S : Type} {y : MethodName} {ws : List Cond} {rm : Room} {b : Nat} {As st0 : List Value} {P : S → Prop} {wf : S → va_W} {bytes : ByteArray} {maxL n index : Nat} {ret : Option FieldType} {C : String} {ci : Nat} {T : u_T} {N : Nat} {fs : List Value} {lv : List (Nat × Value)} (X : gX p s m args meth c cc own nL Ts D cy A) (hM : GMv l y ws rm D cy (.ref b :: As) w P wf) (F : gY y C bytes maxL ret ws n) (hG : GoodIn Ts (wsV own index C y ws))
    (hrm : rm.cells = 0 ∧ rm.slots = 0 ∧ rm.frames + 1 ≤ R.frames ∧ 8 + (maxL + 11) + rm.locals ≤ R.locals) (q0 : Nat) (he : w[q0]? = some (b, .inr (ci, fs))) (hc : vwCl[ci]? = some (C, T, N)) (hn : As.length = n) (hl : lv_has ls nL lv) (hst : st0 = As.reverse ++ .ref b :: rest) (hcat : (rest.map fun v => v.category).sum ≤ 8) (hdg : decode cc pc = .ok (.invokevirtual index, 3)) (hcs : cells ≤ R.cells ∧ slots ≤ R.slots) (hw : gw D A s.heap w H locs)
    (kk : ∀ (u : S) (H1 : Heap) (locs1 : List Loc), P u → gw D A s.heap (wf u) H1 locs1 → W p l e R s m args below meth c H1 locs1 cells slots Q (F0 m (pc + 3) ls rest)) : W p l e R s m args below meth c H locs cells slots Q (F0 m pc ls st0) := by
  obtain ⟨hx, hb, hlk, hml, hown, hts, hK, hA⟩ := X
  obtain ⟨hP, hD, hS⟩ := hw
  obtain ⟨⟨ws', hws⟩, hd⟩ := F
  have hF : ∀ q, va_A w H.size q → A q := gfree hD hS hA
  have hr := va_runV (R := R) (below := below) (e := e) (H := H) (locs := locs) (cells := cells) (slots := slots) (meth := meth) (As := As) (rest := rest) (g := F0 m pc ls st0) ⟨hx, hb, hml, hown, hts⟩ (hM H.size) (cwV (R := R) n hts hG hws hrm.1 hrm.2.1 hd hrm.2.2) ⟨gblind, va_recv hK hP hc he, fun U hU hW => ⟨rfl, by rw [hU], by rw [hU]; exact hP, va_K.moved hW.alike hK, hD.weaken (fun _ _ _ _ => trivial)⟩⟩ rfl hn hl.1 hst (lv_room hcat) hdg hcs
  refine va_callv hr hS (fun q _ h => hF q h) hF (fun u t H1 locs1 ht hvm hp hB hz hk hS1 => ?_)
  exact kk u H1 locs1 hp ⟨by rw [← ht]; exact hB.1, hB.2.weaken (fun k q _ h => hF q.1 h), hS1⟩
theorem gcS_v {S : Type} {y : MethodName} {ws : List Cond} {rm : Room} {As st0 : List Value} {P : S → Prop} {wf : S → va_W} {bytes : ByteArray} {maxL n index : Nat} {ret : Option FieldType} {C : String} {lv : List (Nat × Value)} (X : gX p s m args meth c cc own nL Ts D cy A) (hM : GMv l y ws rm D cy As w P wf) (F : gY y C bytes maxL ret ws n) (hG : GoodIn Ts (va_wsS own index y ws))
    (hrm : rm.cells = 0 ∧ rm.slots = 0 ∧ rm.frames + 1 ≤ R.frames ∧ 8 + (maxL + 11) + rm.locals ≤ R.locals) (hn : As.length = n) (hl : lv_has ls nL lv) (hst : st0 = As.reverse ++ rest) (hcat : (rest.map fun v => v.category).sum ≤ 8) (hdg : decode cc pc = .ok (.invokestatic index, 3)) (hcs : cells ≤ R.cells ∧ slots ≤ R.slots) (hw : gw D A s.heap w H locs)
    (kk : ∀ (u : S) (H1 : Heap) (locs1 : List Loc), P u → gw D A s.heap (wf u) H1 locs1 → W p l e R s m args below meth c H1 locs1 cells slots Q (F0 m (pc + 3) ls rest)) : W p l e R s m args below meth c H locs cells slots Q (F0 m pc ls st0) := by
  obtain ⟨hx, hb, hlk, hml, hown, hts, hK, hA⟩ := X
  obtain ⟨hP, hD, hS⟩ := hw
  obtain ⟨⟨ws', hws⟩, hd⟩ := F
  have hF : ∀ q, va_A w H.size q → A q := gfree hD hS hA
  have hr := va_runS (R := R) (below := below) (e := e) (H := H) (locs := locs) (cells := cells) (slots := slots) (meth := meth) (As := As) (rest := rest) (g := F0 m pc ls st0) ⟨hx, hb, hml, hown, hts⟩ (hM H.size) (va_cwS (R := R) n hts hG hws hrm.1 hrm.2.1 hd.2 hrm.2.2) ⟨gblind, fun U hU hW => ⟨rfl, by rw [hU], by rw [hU]; exact hP, va_K.moved hW.alike hK, hD.weaken (fun _ _ _ _ => trivial)⟩⟩ rfl hn hl.1 hst (lv_room hcat) hdg hcs
  refine va_callv hr hS (fun q _ h => hF q h) hF (fun u t H1 locs1 ht hvm hp hB hz hk hS1 => ?_)
  exact kk u H1 locs1 hp ⟨by rw [← ht]; exact hB.1, hB.2.weaken (fun k q _ h => hF q.1 h), hS1⟩

theorem g_get {C : String} {T : u_T} {N ci index : Nat} {ref : String} (X : gX p s m args meth c cc own nL Ts D cy A) (hin : ∀ w ∈ u_ws C T N, w ∈ Ts) (hw : gw D A s.heap w H locs) (q0 : Nat) {fs : List Value} (he : w[q0]? = some (a, .inr (ci, fs))) (hc : vwCl[ci]? = some (C, T, N)) (k : Nat) (hk : k < N) (hlink : Cond.fieldLink own index ref (T k).2.1 (T k).2.2.1 ∈ Ts) (href : ref = (T k).1) {v : Value} (hv : fs[k]? = some v) (hdg : decode cc pc = .ok (.getfield index, 3))
    (kk : W p l e R s m args below meth c H locs cells slots Q (F0 m (pc + 3) ls (v :: rest))) : W p l e R s m args below meth c H locs cells slots Q (F0 m pc ls (.ref a :: rest)) := by
  subst href
  exact va_get X.1 X.2.1 X.2.2.2.2.2.1 hin X.2.2.2.2.1 X.2.2.2.2.2.2.1 hw.1 q0 he hc k hk (X.2.2.2.2.2.1 _ hlink) (fun _ h => h) hv hdg kk
theorem g_put {C : String} {T : u_T} {N ci index : Nat} {ref : String} (X : gX p s m args meth c cc own nL Ts D cy A) (hin : ∀ w ∈ u_ws C T N, w ∈ Ts) (ty0 : Nat → FieldType) (hty : ∀ k, k < N → parseFieldDescriptor (T k).2.2.1 = some (ty0 k)) (hnm : ∀ a, a < N → ∀ b, b < N → a ≠ b → (T a).2.1 ≠ (T b).2.1) (hw : gw D A s.heap w H locs) (q0 : Nat) {fs : List Value} (he : w[q0]? = some (a, .inr (ci, fs))) (hc : vwCl[ci]? = some (C, T, N)) (k : Nat) (hk : k < N) (hlink : Cond.fieldLink own index ref (T k).2.1 (T k).2.2.1 ∈ Ts) (href : ref = (T k).1) (hfin : (T k).2.2.2 = false) {v : Value} (hn : narrow (ty0 k) v = v) (hfit : fits (ty0 k) v = true) (hl : k < fs.length) {w' : va_W} (hset : w.set q0 (a, .inr (ci, fs.set k v)) = w')
    (hdg : decode cc pc = .ok (.putfield index, 3)) (kk : ∀ (H1 : Heap) (locs1 : List Loc), gw D A s.heap w' H1 locs1 → W p l e R s m args below meth c H1 locs1 cells slots Q (F0 m (pc + 3) ls rest)) : W p l e R s m args below meth c H locs cells slots Q (F0 m pc ls (v :: .ref a :: rest)) := by
  subst href
  subst hset
  exact va_put X.1 X.2.1 X.2.2.2.2.2.1 hin ty0 hty hnm X.2.2.2.2.1 X.2.2.2.2.2.2.1 hw.1 hw.2.1 hw.2.2 q0 he hc k hk (X.2.2.2.2.2.1 _ hlink) (fun _ h => h) hfin (hty k hk) hn hfit hl hdg (fun H1 locs1 h1 h2 h3 => kk H1 locs1 ⟨h1, h2, h3⟩)
theorem g_iald (X : gX p s m args meth c cc own nL Ts D cy A) (hw : gw D A s.heap w H locs) (q0 : Nat) {n : Nat} {f : Nat → Int32} (ha : w[q0]? = some (a, .inl (cy 0, n, .inl f))) {i : Int32} (hin : vp_in i n) (hdg : decode cc pc = .ok (.iaload, 1))
    (kk : W p l e R s m args below meth c H locs cells slots Q (F0 m (pc + 1) ls (.int (f i.toNatClampNeg) :: rest))) : W p l e R s m args below meth c H locs cells slots Q (F0 m pc ls (.int i :: .ref a :: rest)) :=
  va_iald X.1 X.2.1 X.2.2.2.2.2.2.1 hw.1 q0 0 ha rfl hin hdg kk
theorem g_cald (X : gX p s m args meth c cc own nL Ts D cy A) (hw : gw D A s.heap w H locs) (q0 : Nat) {n : Nat} {f : Nat → Int32} (ha : w[q0]? = some (a, .inl (cy 1, n, .inl f))) {i : Int32} (hin : vp_in i n) (hdg : decode cc pc = .ok (.caload, 1))
    (kk : W p l e R s m args below meth c H locs cells slots Q (F0 m (pc + 1) ls (.int (f i.toNatClampNeg) :: rest))) : W p l e R s m args below meth c H locs cells slots Q (F0 m pc ls (.int i :: .ref a :: rest)) :=
  va_cald X.1 X.2.1 X.2.2.2.2.2.2.1 hw.1 q0 1 ha rfl hin hdg kk
theorem g_iast (X : gX p s m args meth c cc own nL Ts D cy A) (hw : gw D A s.heap w H locs) (q0 : Nat) {n : Nat} {f : Nat → Int32} (ha : w[q0]? = some (a, .inl (cy 0, n, .inl f))) {i x : Int32} (hin : vp_in i n) {w' : va_W} (hset : w.set q0 (a, .inl (cy 0, n, .inl (upd f i.toNatClampNeg x))) = w') (hdg : decode cc pc = .ok (.iastore, 1))
    (kk : ∀ (H1 : Heap) (locs1 : List Loc), gw D A s.heap w' H1 locs1 → W p l e R s m args below meth c H1 locs1 cells slots Q (F0 m (pc + 1) ls rest)) : W p l e R s m args below meth c H locs cells slots Q (F0 m pc ls (.int x :: .int i :: .ref a :: rest)) := by
  subst hset
  exact va_iast X.1 X.2.1 X.2.2.2.2.2.2.1 hw.1 hw.2.1 hw.2.2 q0 0 ha rfl hin hdg (fun H1 locs1 h1 h2 h3 => kk H1 locs1 ⟨h1, h2, h3⟩)
theorem g_cast (X : gX p s m args meth c cc own nL Ts D cy A) (hw : gw D A s.heap w H locs) (q0 : Nat) {n : Nat} {f : Nat → Int32} (ha : w[q0]? = some (a, .inl (cy 1, n, .inl f))) {i x : Int32} (hin : vp_in i n) {w' : va_W} (hset : w.set q0 (a, .inl (cy 1, n, .inl (upd f i.toNatClampNeg (vp_nar .char x)))) = w') (hdg : decode cc pc = .ok (.castore, 1))
    (kk : ∀ (H1 : Heap) (locs1 : List Loc), gw D A s.heap w' H1 locs1 → W p l e R s m args below meth c H1 locs1 cells slots Q (F0 m (pc + 1) ls rest)) : W p l e R s m args below meth c H locs cells slots Q (F0 m pc ls (.int x :: .int i :: .ref a :: rest)) := by
  subst hset
  exact va_cast X.1 X.2.1 X.2.2.2.2.2.2.1 hw.1 hw.2.1 hw.2.2 q0 1 ha rfl hin hdg (fun H1 locs1 h1 h2 h3 => kk H1 locs1 ⟨h1, h2, h3⟩)
theorem g_alen (X : gX p s m args meth c cc own nL Ts D cy A) (hw : gw D A s.heap w H locs) (q0 : Nat) {x : vp_A} (ha : w[q0]? = some (a, .inl (cy 0, x))) {v : Int32} (hv : Int32.ofNat x.1 = v) (hdg : decode cc pc = .ok (.arraylength, 1))
    (kk : W p l e R s m args below meth c H locs cells slots Q (F0 m (pc + 1) ls (.int v :: rest))) : W p l e R s m args below meth c H locs cells slots Q (F0 m pc ls (.ref a :: rest)) :=
  va_alen X.1 X.2.1 X.2.2.2.2.2.2.1 hw.1 q0 0 ha (ty := .int) rfl hv hdg kk
end GR
