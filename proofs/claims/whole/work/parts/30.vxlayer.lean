/-! GX: contracts of methods that may throw. The start says besides: the two statics that a Throwable reads, the texts -/
def gStr (ss : Nat → Nat) (U : State) : Prop := vk_R RX6 259 "no such key" (ss 0) U ∧ vk_R RX6 261 "out of range" (ss 1) U ∧ vk_R RX6 86 "no more records can be kept" (ss 2) U ∧ vk_R RX6 271 "no such burst" (ss 3) U ∧ vk_R RX6 265 "there is none" (ss 4) U ∧ vk_R RX6 273 "the burst is closed" (ss 5) U ∧ vk_R RX6 178 "no burst of the key" (ss 6) U ∧ vk_R RX6 204 "no such firing" (ss 7) U ∧ vk_R RX6 224 "the input is full" (ss 8) U ∧ vk_R RX6 238 "the input is not a text" (ss 9) U ∧ vk_R RX6 245 "an entry cannot be carried out" (ss 10) U ∧ vk_R RX6 257 "nothing was saved" (ss 11) U
def gWd (U : State) : Prop := va_Nw (.declares (Bundle.initS "java/lang/RuntimeException")) U ∧ va_Nw (.declares (Bundle.initS "java/lang/Exception")) U ∧ va_Nw (.declares (Bundle.initS "java/lang/Throwable")) U ∧ va_Nw (.castable "java/lang/IndexOutOfBoundsException" "java/lang/IndexOutOfBoundsException") U ∧ va_Nw (.castable "java/lang/IllegalArgumentException" "java/lang/IllegalArgumentException") U ∧ va_Nw (.castable "java/lang/IllegalStateException" "java/lang/IllegalStateException") U ∧ va_Nw (.castable "java/util/NoSuchElementException" "java/util/NoSuchElementException") U ∧ va_Nw (.castable "java/lang/ArithmeticException" "java/lang/ArithmeticException") U ∧ va_Nc "java/lang/IllegalArgumentException" "java/lang/IndexOutOfBoundsException" U ∧ va_Nc "java/lang/IllegalStateException" "java/lang/IndexOutOfBoundsException" U ∧ va_Nc "java/lang/IllegalStateException" "java/lang/IllegalArgumentException" U ∧ va_Nc "java/util/NoSuchElementException" "java/lang/IndexOutOfBoundsException" U ∧ va_Nc "java/util/NoSuchElementException" "java/lang/IllegalArgumentException" U ∧ va_Nc "java/lang/ArithmeticException" "java/lang/IndexOutOfBoundsException" U
theorem gWd.warm {s U : State} (hW : s.WarmedH U.vm) (h : gWd s) : gWd U := by
  obtain ⟨h0, h1, h2, h3, h4, h5, h6, h7, h8, h9, h10, h11, h12, h13⟩ := h
  exact ⟨h0.warmD hW, h1.warmD hW, h2.warmD hW, h3.warmC hW, h4.warmC hW, h5.warmC hW, h6.warmC hW, h7.warmC hW, h8.moved hW.alike, h9.moved hW.alike, h10.moved hW.alike, h11.moved hW.alike, h12.moved hW.alike, h13.moved hW.alike⟩
theorem gWd.same {u U : State} (hv : u.vm = U.vm) (h : gWd u) : gWd U := by
  obtain ⟨h0, h1, h2, h3, h4, h5, h6, h7, h8, h9, h10, h11, h12, h13⟩ := h
  exact ⟨h0.same rfl hv, h1.same rfl hv, h2.same rfl hv, h3.same rfl hv, h4.same rfl hv, h5.same rfl hv, h6.same rfl hv, h7.same rfl hv, h8.moved (by rw [hv]; exact Vm.Alike.refl _), h9.moved (by rw [hv]; exact Vm.Alike.refl _), h10.moved (by rw [hv]; exact Vm.Alike.refl _), h11.moved (by rw [hv]; exact Vm.Alike.refl _), h12.moved (by rw [hv]; exact Vm.Alike.refl _), h13.moved (by rw [hv]; exact Vm.Alike.refl _)⟩
def gBIO : List Cond := [.declares (Bundle.initS "java/lang/RuntimeException"), .declares (Bundle.initS "java/lang/Exception"), .declares (Bundle.initS "java/lang/Throwable"), .castable "java/lang/IndexOutOfBoundsException" "java/lang/IndexOutOfBoundsException"]
theorem gBIO_of {args : Array Value} {s : State} (h : gWd s) : ∀ w ∈ gBIO, w.before args s = true := by
  obtain ⟨h0, h1, h2, h3, h4, h5, h6, h7, h8, h9, h10, h11, h12, h13⟩ := h
  exact vx_c (h0.use rfl) (vx_c (h1.use rfl) (vx_c (h2.use rfl) (vx_c (h3.use rfl) vx_n)))
def gBIA : List Cond := [.declares (Bundle.initS "java/lang/RuntimeException"), .declares (Bundle.initS "java/lang/Exception"), .declares (Bundle.initS "java/lang/Throwable"), .castable "java/lang/IllegalArgumentException" "java/lang/IllegalArgumentException"]
theorem gBIA_of {args : Array Value} {s : State} (h : gWd s) : ∀ w ∈ gBIA, w.before args s = true := by
  obtain ⟨h0, h1, h2, h3, h4, h5, h6, h7, h8, h9, h10, h11, h12, h13⟩ := h
  exact vx_c (h0.use rfl) (vx_c (h1.use rfl) (vx_c (h2.use rfl) (vx_c (h4.use rfl) vx_n)))
def gBIS : List Cond := [.declares (Bundle.initS "java/lang/RuntimeException"), .declares (Bundle.initS "java/lang/Exception"), .declares (Bundle.initS "java/lang/Throwable"), .castable "java/lang/IllegalStateException" "java/lang/IllegalStateException"]
theorem gBIS_of {args : Array Value} {s : State} (h : gWd s) : ∀ w ∈ gBIS, w.before args s = true := by
  obtain ⟨h0, h1, h2, h3, h4, h5, h6, h7, h8, h9, h10, h11, h12, h13⟩ := h
  exact vx_c (h0.use rfl) (vx_c (h1.use rfl) (vx_c (h2.use rfl) (vx_c (h5.use rfl) vx_n)))
def gBNS : List Cond := [.declares (Bundle.initS "java/lang/RuntimeException"), .declares (Bundle.initS "java/lang/Exception"), .declares (Bundle.initS "java/lang/Throwable"), .castable "java/util/NoSuchElementException" "java/util/NoSuchElementException"]
theorem gBNS_of {args : Array Value} {s : State} (h : gWd s) : ∀ w ∈ gBNS, w.before args s = true := by
  obtain ⟨h0, h1, h2, h3, h4, h5, h6, h7, h8, h9, h10, h11, h12, h13⟩ := h
  exact vx_c (h0.use rfl) (vx_c (h1.use rfl) (vx_c (h2.use rfl) (vx_c (h6.use rfl) vx_n)))
def gBAE : List Cond := [.declares (Bundle.initS "java/lang/RuntimeException"), .declares (Bundle.initS "java/lang/Exception"), .declares (Bundle.initS "java/lang/Throwable"), .castable "java/lang/ArithmeticException" "java/lang/ArithmeticException"]
theorem gBAE_of {args : Array Value} {s : State} (h : gWd s) : ∀ w ∈ gBAE, w.before args s = true := by
  obtain ⟨h0, h1, h2, h3, h4, h5, h6, h7, h8, h9, h10, h11, h12, h13⟩ := h
  exact vx_c (h0.use rfl) (vx_c (h1.use rfl) (vx_c (h2.use rfl) (vx_c (h7.use rfl) vx_n)))

def gEnv (ss : Nat → Nat) (A : Nat → Prop) (U : State) (H : Heap) : Prop := vx_Zq Bundle.tN "UNASSIGNED_STACK" Bundle.steD A U H ∧ vx_Zq Bundle.tN "SUPPRESSED_SENTINEL" Bundle.listD A U H ∧ gStr ss U ∧ gWd U
def gPreX (D : va_G) (cy : Nat → ClassId) (ss : Nat → Nat) (w : va_W) (sz : Nat) (U : State) : Prop := gPre D cy w sz U ∧ gEnv ss (va_A w sz) U U.heap
theorem gStr.same {ss : Nat → Nat} {u U : State} (hv : U.vm = u.vm) (h : gStr ss u) : gStr ss U := by
  obtain ⟨h0, h1, h2, h3, h4, h5, h6, h7, h8, h9, h10, h11⟩ := h
  exact ⟨vk_R.same hv h0, vk_R.same hv h1, vk_R.same hv h2, vk_R.same hv h3, vk_R.same hv h4, vk_R.same hv h5, vk_R.same hv h6, vk_R.same hv h7, vk_R.same hv h8, vk_R.same hv h9, vk_R.same hv h10, vk_R.same hv h11⟩
theorem gStr.warm {ss : Nat → Nat} {s U : State} (hW : s.WarmedH U.vm) (h : gStr ss s) : gStr ss U := by
  obtain ⟨h0, h1, h2, h3, h4, h5, h6, h7, h8, h9, h10, h11⟩ := h
  exact ⟨vk_R.warm hW h0, vk_R.warm hW h1, vk_R.warm hW h2, vk_R.warm hW h3, vk_R.warm hW h4, vk_R.warm hW h5, vk_R.warm hW h6, vk_R.warm hW h7, vk_R.warm hW h8, vk_R.warm hW h9, vk_R.warm hW h10, vk_R.warm hW h11⟩
theorem gEnv.at {ss : Nat → Nat} {A B : Nat → Prop} {s U : State} {H : Heap} {locs : List Loc} (h : gEnv ss A s s.heap) (hS : va_S A s.heap H locs) (hAB : ∀ q, B q → A q) (hU : U.heap = H) (hW : s.WarmedH U.vm) : gEnv ss B U U.heap := by
  rw [hU]
  exact ⟨((h.1.kept hS.2.1).narrow hAB).moved hW.alike, ((h.2.1.kept hS.2.1).narrow hAB).moved hW.alike, h.2.2.1.warm hW, h.2.2.2.warm hW⟩
theorem gblindX {av : List Value} {D : va_G} {cy : Nat → ClassId} {ss : Nat → Nat} {w : va_W} {sz : Nat} : FrameBlind (va_Pc av (gPreX D cy ss w sz)) := fun a U g mk q => by
  obtain ⟨q0, q1, q2, q3, q4, q5⟩ := q
  obtain ⟨e1, e2⟩ := gblind (av := av) (D := D) (cy := cy) (w := w) (sz := sz) a U g mk ⟨q0, q1⟩
  exact ⟨e1, e2, vx_Zq.moved (u := U) (U := U.calling g mk a) (Vm.Alike.refl U.vm) q2, vx_Zq.moved (u := U) (U := U.calling g mk a) (Vm.Alike.refl U.vm) q3, gStr.same (u := U) (U := U.calling g mk a) rfl q4, gWd.same (u := U) (U := U.calling g mk a) rfl q5⟩
def gPX {S : Type} (D : va_G) (w : va_W) (sz : Nat) (PX : String → S → Prop) (wf : S → va_W) : String → State → State → Prop := vx_X (fun (_ : S) => True) (fun E u t => PX E u ∧ gPost D w sz wf u t) (va_A w sz)

def GXi {S : Type} (l : Launch) (y : MethodName) (ws : List Cond) (rm : Room) (D : va_G) (cy : Nat → ClassId) (ss : Nat → Nat) (av : List Value) (w : va_W) (P : Int32 → S → Prop) (wf : S → va_W) (PX : String → S → Prop) (mc ms : Nat) : Prop := ∀ sz, vx_Met l y ws rm (va_Pc av (gPreX D cy ss w sz)) (va_Qi P (gPost D w sz wf) (va_A w sz)) (gPX D w sz PX wf) mc ms (va_A w sz)
def GXl {S : Type} (l : Launch) (y : MethodName) (ws : List Cond) (rm : Room) (D : va_G) (cy : Nat → ClassId) (ss : Nat → Nat) (av : List Value) (w : va_W) (P : Int64 → S → Prop) (wf : S → va_W) (PX : String → S → Prop) (mc ms : Nat) : Prop := ∀ sz, vx_Met l y ws rm (va_Pc av (gPreX D cy ss w sz)) (va_Ql P (gPost D w sz wf) (va_A w sz)) (gPX D w sz PX wf) mc ms (va_A w sz)
def GXd {S : Type} (l : Launch) (y : MethodName) (ws : List Cond) (rm : Room) (D : va_G) (cy : Nat → ClassId) (ss : Nat → Nat) (av : List Value) (w : va_W) (P : UInt64 → S → Prop) (wf : S → va_W) (PX : String → S → Prop) (mc ms : Nat) : Prop := ∀ sz, vx_Met l y ws rm (va_Pc av (gPreX D cy ss w sz)) (va_Qd P (gPost D w sz wf) (va_A w sz)) (gPX D w sz PX wf) mc ms (va_A w sz)
def GXv {S : Type} (l : Launch) (y : MethodName) (ws : List Cond) (rm : Room) (D : va_G) (cy : Nat → ClassId) (ss : Nat → Nat) (av : List Value) (w : va_W) (P : S → Prop) (wf : S → va_W) (PX : String → S → Prop) (mc ms : Nat) : Prop := ∀ sz, vx_Met l y ws rm (va_Pc av (gPreX D cy ss w sz)) (va_Qv P (gPost D w sz wf) (va_A w sz)) (gPX D w sz PX wf) mc ms (va_A w sz)
theorem GXi.intro {S : Type} {l : Launch} {y : MethodName} {ws ws' : List Cond} {rm : Room} {D : va_G} {cy : Nat → ClassId} {ss : Nat → Nat} {av : List Value} {w : va_W} {P : Int32 → S → Prop} {wf : S → va_W} {PX : String → S → Prop} {mc ms : Nat} (cc : ByteArray) (maxL : Nat) (own : String) (hy : plainName y.cls = true) (hown : y.cls = own) (hw : ws = Cond.code y cc maxL (some .int) :: ws') (hent : (lg_sl av).length ≤ maxL)
    (body : ∀ (p : Program) (e : Env) (s : State) (m : MethodId) (args : Array Value) (below : List Frame) (meth : Method) (c : Code) (A : Nat → Prop) (Q : State → Prop) (ls : Array Slot), gX p s m args meth c cc own maxL ws D cy A → gEnv ss A s s.heap → (∀ x ∈ c.exceptionTable.toList, False) →
      (∀ (pc : Nat) (r : Int32) (u : S) (H : Heap) (locs : List Loc) (ls : Array Slot) (k n : Nat), decode cc pc = .ok (.ireturn, 1) → P r u → gw D A s.heap (wf u) H locs → k ≤ mc → n ≤ ms → W p l e rm s m args below meth c H locs k n Q (F0 m pc ls [.int r])) →
      (∀ (pc : Nat) (E : String) (u : S) (H : Heap) (locs : List Loc) (ls : Array Slot) (rest : List Value) (k n : Nat), (∀ (Qc : Array Value → State → Outcome → State → Prop) (XC : String → State → State → Prop) (mc ms : Nat) (free : Addr → Prop), (∀ t : State, s.vm.Alike t.vm → H.size ≤ t.heap.size → (∀ q : Nat, q < H.size → t.heap[q]? = H[q]?) → XC E s t) → (∀ z ∈ locs, free z.base) → k + 1 ≤ mc → n + 6 ≤ ms → W p l e rm s m args below meth c H locs k n (vx_MQ below Qc XC args s mc ms free) (F0 m pc ls rest)) → PX E u → gw D A s.heap (wf u) H locs → k + 1 ≤ mc → n + 6 ≤ ms → W p l e rm s m args below meth c H locs k n Q (F0 m pc ls rest)) →
      (∀ (pc : Nat) (E : String) (ce : Cell) (q : Addr) (u : S) (H : Heap) (locs : List Loc) (ls : Array Slot) (rest : List Value) (k n : Nat), H[q]? = some ce → ce.vm = .none → s.vm.findClass E = some ce.cls → PX E u → gw D A s.heap (wf u) H locs → k ≤ mc → n ≤ ms → vx_W p l e rm s m args below meth c H locs k n Q (F0 m pc ls rest) q) →
      lv_has ls maxL (lv_args 0 av) → gw D A s.heap w s.heap [] → W p l e rm s m args below meth c s.heap [] 0 0 Q (F0 m 0 ls [])) : GXi l y ws rm D cy ss av w P wf PX mc ms := by
  intro sz
  refine vx_ofW (cc := cc) (maxL := maxL) (ret := (some .int)) hy hw ?_
  intro p e s m args below meth c s₁ B hml hnt hv
  obtain ⟨rfl, ⟨hsz, hP, hK, hD0⟩, hE⟩ := hv
  subst hsz
  have hD := hD0.self (sz := s.heap.size)
  have hl := lv_entry av (n := maxL) hent
  rw [lg_entry_eq]
  generalize (lg_sl av ++ List.replicate (maxL - (lg_sl av).length) Slot.unset).toArray = ls at hl ⊢
  refine body p e s m _ below meth c (va_A w s.heap.size) _ ls ⟨B.exec, B.bytes, B.notSynchronized, hml, hown ▸ findClass_of_methodNamed B.named, atoms_spec (ws := ws) B.pre, hK, fun q h => Or.inr h⟩ hE hnt ?_ ?_ ?_ hl ⟨hP, hD, va_S.rf⟩
  · intro pc r u H locs ls k n hdg hp hw9 hk hn
    refine vx_ret (W.widen hk hn ?_)
    exact W.iret B.exec B.bytes B.returns (fun t ht hW => ⟨⟨r, u, rfl, hp, by rw [ht]; exact hw9.1, hw9.2.1⟩, hw9.2.2.F ht⟩) hw9.2.2.2.2 hdg B.notSynchronized
  · intro pc E u H locs ls rest k n hthr hp hw9 hk hn
    refine hthr _ _ _ _ _ (fun t hal hsz hkeep => ⟨u, trivial, ⟨hp, hw9.1.kept (fun j q hj => hkeep _ (hw9.1 j q hj).lt), hw9.2.1⟩, Nat.le_trans hw9.2.2.1 hsz, fun q hq hA => ?_⟩) hw9.2.2.2.2 hk hn
    rw [hkeep q (Nat.lt_of_lt_of_le hq hw9.2.2.1)]
    exact hw9.2.2.2.1 q hq hA
  · intro pc E ce q u H locs ls rest k n hce hcv hcl hp hw9 hk hn
    exact vx_out (fun x hx => (hnt x hx).elim) B.notSynchronized hce hcv hcl (fun t ht hal => ⟨u, trivial, ⟨hp, by rw [ht]; exact hw9.1, hw9.2.1⟩, hw9.2.2.F ht⟩) hw9.2.2.2.2 hk hn

theorem GXz.intro {S : Type} {l : Launch} {y : MethodName} {ws ws' : List Cond} {rm : Room} {D : va_G} {cy : Nat → ClassId} {ss : Nat → Nat} {av : List Value} {w : va_W} {P : Int32 → S → Prop} {wf : S → va_W} {PX : String → S → Prop} {mc ms : Nat} (cc : ByteArray) (maxL : Nat) (own : String) (hy : plainName y.cls = true) (hown : y.cls = own) (hw : ws = Cond.code y cc maxL (some .boolean) :: ws') (hent : (lg_sl av).length ≤ maxL)
    (body : ∀ (p : Program) (e : Env) (s : State) (m : MethodId) (args : Array Value) (below : List Frame) (meth : Method) (c : Code) (A : Nat → Prop) (Q : State → Prop) (ls : Array Slot), gX p s m args meth c cc own maxL ws D cy A → gEnv ss A s s.heap → (∀ x ∈ c.exceptionTable.toList, False) →
      (∀ (pc : Nat) (r : Int32) (u : S) (H : Heap) (locs : List Loc) (ls : Array Slot) (k n : Nat), decode cc pc = .ok (.ireturn, 1) → (r = 0 ∨ r = 1) → P r u → gw D A s.heap (wf u) H locs → k ≤ mc → n ≤ ms → W p l e rm s m args below meth c H locs k n Q (F0 m pc ls [.int r])) →
      (∀ (pc : Nat) (E : String) (u : S) (H : Heap) (locs : List Loc) (ls : Array Slot) (rest : List Value) (k n : Nat), (∀ (Qc : Array Value → State → Outcome → State → Prop) (XC : String → State → State → Prop) (mc ms : Nat) (free : Addr → Prop), (∀ t : State, s.vm.Alike t.vm → H.size ≤ t.heap.size → (∀ q : Nat, q < H.size → t.heap[q]? = H[q]?) → XC E s t) → (∀ z ∈ locs, free z.base) → k + 1 ≤ mc → n + 6 ≤ ms → W p l e rm s m args below meth c H locs k n (vx_MQ below Qc XC args s mc ms free) (F0 m pc ls rest)) → PX E u → gw D A s.heap (wf u) H locs → k + 1 ≤ mc → n + 6 ≤ ms → W p l e rm s m args below meth c H locs k n Q (F0 m pc ls rest)) →
      (∀ (pc : Nat) (E : String) (ce : Cell) (q : Addr) (u : S) (H : Heap) (locs : List Loc) (ls : Array Slot) (rest : List Value) (k n : Nat), H[q]? = some ce → ce.vm = .none → s.vm.findClass E = some ce.cls → PX E u → gw D A s.heap (wf u) H locs → k ≤ mc → n ≤ ms → vx_W p l e rm s m args below meth c H locs k n Q (F0 m pc ls rest) q) →
      lv_has ls maxL (lv_args 0 av) → gw D A s.heap w s.heap [] → W p l e rm s m args below meth c s.heap [] 0 0 Q (F0 m 0 ls [])) : GXi l y ws rm D cy ss av w P wf PX mc ms := by
  intro sz
  refine vx_ofW (cc := cc) (maxL := maxL) (ret := (some .boolean)) hy hw ?_
  intro p e s m args below meth c s₁ B hml hnt hv
  obtain ⟨rfl, ⟨hsz, hP, hK, hD0⟩, hE⟩ := hv
  subst hsz
  have hD := hD0.self (sz := s.heap.size)
  have hl := lv_entry av (n := maxL) hent
  rw [lg_entry_eq]
  generalize (lg_sl av ++ List.replicate (maxL - (lg_sl av).length) Slot.unset).toArray = ls at hl ⊢
  refine body p e s m _ below meth c (va_A w s.heap.size) _ ls ⟨B.exec, B.bytes, B.notSynchronized, hml, hown ▸ findClass_of_methodNamed B.named, atoms_spec (ws := ws) B.pre, hK, fun q h => Or.inr h⟩ hE hnt ?_ ?_ ?_ hl ⟨hP, hD, va_S.rf⟩
  · intro pc r u H locs ls k n hdg hz hp hw9 hk hn
    refine vx_ret (W.widen hk hn ?_)
    exact W.zret B.exec B.bytes B.returns (by rcases hz with rfl | rfl <;> rfl) (fun t ht hW => ⟨⟨r, u, rfl, hp, by rw [ht]; exact hw9.1, hw9.2.1⟩, hw9.2.2.F ht⟩) hw9.2.2.2.2 hdg B.notSynchronized
  · intro pc E u H locs ls rest k n hthr hp hw9 hk hn
    refine hthr _ _ _ _ _ (fun t hal hsz hkeep => ⟨u, trivial, ⟨hp, hw9.1.kept (fun j q hj => hkeep _ (hw9.1 j q hj).lt), hw9.2.1⟩, Nat.le_trans hw9.2.2.1 hsz, fun q hq hA => ?_⟩) hw9.2.2.2.2 hk hn
    rw [hkeep q (Nat.lt_of_lt_of_le hq hw9.2.2.1)]
    exact hw9.2.2.2.1 q hq hA
  · intro pc E ce q u H locs ls rest k n hce hcv hcl hp hw9 hk hn
    exact vx_out (fun x hx => (hnt x hx).elim) B.notSynchronized hce hcv hcl (fun t ht hal => ⟨u, trivial, ⟨hp, by rw [ht]; exact hw9.1, hw9.2.1⟩, hw9.2.2.F ht⟩) hw9.2.2.2.2 hk hn

theorem GXd.intro {S : Type} {l : Launch} {y : MethodName} {ws ws' : List Cond} {rm : Room} {D : va_G} {cy : Nat → ClassId} {ss : Nat → Nat} {av : List Value} {w : va_W} {P : UInt64 → S → Prop} {wf : S → va_W} {PX : String → S → Prop} {mc ms : Nat} (cc : ByteArray) (maxL : Nat) (own : String) (hy : plainName y.cls = true) (hown : y.cls = own) (hw : ws = Cond.code y cc maxL (some .double) :: ws') (hent : (lg_sl av).length ≤ maxL)
    (body : ∀ (p : Program) (e : Env) (s : State) (m : MethodId) (args : Array Value) (below : List Frame) (meth : Method) (c : Code) (A : Nat → Prop) (Q : State → Prop) (ls : Array Slot), gX p s m args meth c cc own maxL ws D cy A → gEnv ss A s s.heap → (∀ x ∈ c.exceptionTable.toList, False) →
      (∀ (pc : Nat) (r : UInt64) (u : S) (H : Heap) (locs : List Loc) (ls : Array Slot) (k n : Nat), decode cc pc = .ok (.dreturn, 1) → P r u → gw D A s.heap (wf u) H locs → k ≤ mc → n ≤ ms → W p l e rm s m args below meth c H locs k n Q (F0 m pc ls [.double r])) →
      (∀ (pc : Nat) (E : String) (u : S) (H : Heap) (locs : List Loc) (ls : Array Slot) (rest : List Value) (k n : Nat), (∀ (Qc : Array Value → State → Outcome → State → Prop) (XC : String → State → State → Prop) (mc ms : Nat) (free : Addr → Prop), (∀ t : State, s.vm.Alike t.vm → H.size ≤ t.heap.size → (∀ q : Nat, q < H.size → t.heap[q]? = H[q]?) → XC E s t) → (∀ z ∈ locs, free z.base) → k + 1 ≤ mc → n + 6 ≤ ms → W p l e rm s m args below meth c H locs k n (vx_MQ below Qc XC args s mc ms free) (F0 m pc ls rest)) → PX E u → gw D A s.heap (wf u) H locs → k + 1 ≤ mc → n + 6 ≤ ms → W p l e rm s m args below meth c H locs k n Q (F0 m pc ls rest)) →
      (∀ (pc : Nat) (E : String) (ce : Cell) (q : Addr) (u : S) (H : Heap) (locs : List Loc) (ls : Array Slot) (rest : List Value) (k n : Nat), H[q]? = some ce → ce.vm = .none → s.vm.findClass E = some ce.cls → PX E u → gw D A s.heap (wf u) H locs → k ≤ mc → n ≤ ms → vx_W p l e rm s m args below meth c H locs k n Q (F0 m pc ls rest) q) →
      lv_has ls maxL (lv_args 0 av) → gw D A s.heap w s.heap [] → W p l e rm s m args below meth c s.heap [] 0 0 Q (F0 m 0 ls [])) : GXd l y ws rm D cy ss av w P wf PX mc ms := by
  intro sz
  refine vx_ofW (cc := cc) (maxL := maxL) (ret := (some .double)) hy hw ?_
  intro p e s m args below meth c s₁ B hml hnt hv
  obtain ⟨rfl, ⟨hsz, hP, hK, hD0⟩, hE⟩ := hv
  subst hsz
  have hD := hD0.self (sz := s.heap.size)
  have hl := lv_entry av (n := maxL) hent
  rw [lg_entry_eq]
  generalize (lg_sl av ++ List.replicate (maxL - (lg_sl av).length) Slot.unset).toArray = ls at hl ⊢
  refine body p e s m _ below meth c (va_A w s.heap.size) _ ls ⟨B.exec, B.bytes, B.notSynchronized, hml, hown ▸ findClass_of_methodNamed B.named, atoms_spec (ws := ws) B.pre, hK, fun q h => Or.inr h⟩ hE hnt ?_ ?_ ?_ hl ⟨hP, hD, va_S.rf⟩
  · intro pc r u H locs ls k n hdg hp hw9 hk hn
    refine vx_ret (W.widen hk hn ?_)
    exact W.dret B.exec B.bytes B.returns (fun t ht hW => ⟨⟨r, u, rfl, hp, by rw [ht]; exact hw9.1, hw9.2.1⟩, hw9.2.2.F ht⟩) hw9.2.2.2.2 hdg B.notSynchronized
  · intro pc E u H locs ls rest k n hthr hp hw9 hk hn
    refine hthr _ _ _ _ _ (fun t hal hsz hkeep => ⟨u, trivial, ⟨hp, hw9.1.kept (fun j q hj => hkeep _ (hw9.1 j q hj).lt), hw9.2.1⟩, Nat.le_trans hw9.2.2.1 hsz, fun q hq hA => ?_⟩) hw9.2.2.2.2 hk hn
    rw [hkeep q (Nat.lt_of_lt_of_le hq hw9.2.2.1)]
    exact hw9.2.2.2.1 q hq hA
  · intro pc E ce q u H locs ls rest k n hce hcv hcl hp hw9 hk hn
    exact vx_out (fun x hx => (hnt x hx).elim) B.notSynchronized hce hcv hcl (fun t ht hal => ⟨u, trivial, ⟨hp, by rw [ht]; exact hw9.1, hw9.2.1⟩, hw9.2.2.F ht⟩) hw9.2.2.2.2 hk hn

theorem GXv.intro {S : Type} {l : Launch} {y : MethodName} {ws ws' : List Cond} {rm : Room} {D : va_G} {cy : Nat → ClassId} {ss : Nat → Nat} {av : List Value} {w : va_W} {P : S → Prop} {wf : S → va_W} {PX : String → S → Prop} {mc ms : Nat} (cc : ByteArray) (maxL : Nat) (own : String) (hy : plainName y.cls = true) (hown : y.cls = own) (hw : ws = Cond.code y cc maxL none :: ws') (hent : (lg_sl av).length ≤ maxL)
    (body : ∀ (p : Program) (e : Env) (s : State) (m : MethodId) (args : Array Value) (below : List Frame) (meth : Method) (c : Code) (A : Nat → Prop) (Q : State → Prop) (ls : Array Slot), gX p s m args meth c cc own maxL ws D cy A → gEnv ss A s s.heap → (∀ x ∈ c.exceptionTable.toList, False) →
      (∀ (pc : Nat) (u : S) (H : Heap) (locs : List Loc) (ls : Array Slot) (k n : Nat), decode cc pc = .ok (.return_, 1) → P u → gw D A s.heap (wf u) H locs → k ≤ mc → n ≤ ms → W p l e rm s m args below meth c H locs k n Q (F0 m pc ls [])) →
      (∀ (pc : Nat) (E : String) (u : S) (H : Heap) (locs : List Loc) (ls : Array Slot) (rest : List Value) (k n : Nat), (∀ (Qc : Array Value → State → Outcome → State → Prop) (XC : String → State → State → Prop) (mc ms : Nat) (free : Addr → Prop), (∀ t : State, s.vm.Alike t.vm → H.size ≤ t.heap.size → (∀ q : Nat, q < H.size → t.heap[q]? = H[q]?) → XC E s t) → (∀ z ∈ locs, free z.base) → k + 1 ≤ mc → n + 6 ≤ ms → W p l e rm s m args below meth c H locs k n (vx_MQ below Qc XC args s mc ms free) (F0 m pc ls rest)) → PX E u → gw D A s.heap (wf u) H locs → k + 1 ≤ mc → n + 6 ≤ ms → W p l e rm s m args below meth c H locs k n Q (F0 m pc ls rest)) →
      (∀ (pc : Nat) (E : String) (ce : Cell) (q : Addr) (u : S) (H : Heap) (locs : List Loc) (ls : Array Slot) (rest : List Value) (k n : Nat), H[q]? = some ce → ce.vm = .none → s.vm.findClass E = some ce.cls → PX E u → gw D A s.heap (wf u) H locs → k ≤ mc → n ≤ ms → vx_W p l e rm s m args below meth c H locs k n Q (F0 m pc ls rest) q) →
      lv_has ls maxL (lv_args 0 av) → gw D A s.heap w s.heap [] → W p l e rm s m args below meth c s.heap [] 0 0 Q (F0 m 0 ls [])) : GXv l y ws rm D cy ss av w P wf PX mc ms := by
  intro sz
  refine vx_ofW (cc := cc) (maxL := maxL) (ret := none) hy hw ?_
  intro p e s m args below meth c s₁ B hml hnt hv
  obtain ⟨rfl, ⟨hsz, hP, hK, hD0⟩, hE⟩ := hv
  subst hsz
  have hD := hD0.self (sz := s.heap.size)
  have hl := lv_entry av (n := maxL) hent
  rw [lg_entry_eq]
  generalize (lg_sl av ++ List.replicate (maxL - (lg_sl av).length) Slot.unset).toArray = ls at hl ⊢
  refine body p e s m _ below meth c (va_A w s.heap.size) _ ls ⟨B.exec, B.bytes, B.notSynchronized, hml, hown ▸ findClass_of_methodNamed B.named, atoms_spec (ws := ws) B.pre, hK, fun q h => Or.inr h⟩ hE hnt ?_ ?_ ?_ hl ⟨hP, hD, va_S.rf⟩
  · intro pc u H locs ls k n hdg hp hw9 hk hn
    refine vx_ret (W.widen hk hn ?_)
    exact W.vret B.exec B.bytes B.returns (fun t ht hW => ⟨⟨u, rfl, hp, by rw [ht]; exact hw9.1, hw9.2.1⟩, hw9.2.2.F ht⟩) hw9.2.2.2.2 hdg B.notSynchronized
  · intro pc E u H locs ls rest k n hthr hp hw9 hk hn
    refine hthr _ _ _ _ _ (fun t hal hsz hkeep => ⟨u, trivial, ⟨hp, hw9.1.kept (fun j q hj => hkeep _ (hw9.1 j q hj).lt), hw9.2.1⟩, Nat.le_trans hw9.2.2.1 hsz, fun q hq hA => ?_⟩) hw9.2.2.2.2 hk hn
    rw [hkeep q (Nat.lt_of_lt_of_le hq hw9.2.2.1)]
    exact hw9.2.2.2.1 q hq hA
  · intro pc E ce q u H locs ls rest k n hce hcv hcl hp hw9 hk hn
    exact vx_out (fun x hx => (hnt x hx).elim) B.notSynchronized hce hcv hcl (fun t ht hal => ⟨u, trivial, ⟨hp, by rw [ht]; exact hw9.1, hw9.2.1⟩, hw9.2.2.F ht⟩) hw9.2.2.2.2 hk hn

section GXR
variable {p : Program} {l : Launch} {e : Env} {R : Room} {s : State} {m : MethodId} {args : Array Value} {below : List Frame} {meth : Method} {c : Code} {H : Heap} {locs : List Loc} {cells slots : Nat} {Q : State → Prop}
variable {cc : ByteArray} {pc : Nat} {ls : Array Slot} {rest : List Value} {own : String} {nL : Nat} {Ts : List Cond} {D : va_G} {cy : Nat → ClassId} {ss : Nat → Nat} {A : Nat → Prop} {w : va_W} {a : Nat}

theorem gxV_i {S : Type} {y : MethodName} {ws : List Cond} {rm : Room} {b : Nat} {As st0 : List Value} {P : Int32 → S → Prop} {wf : S → va_W} {PX : String → S → Prop} {bytes : ByteArray} {maxL n index mc ms : Nat} {ret : Option FieldType} {C : String} {ci : Nat} {T : u_T} {N : Nat} {fs : List Value} {lv : List (Nat × Value)} (X : gX p s m args meth c cc own nL Ts D cy A) (hE : gEnv ss A s s.heap) (hM : GXi l y ws rm D cy ss (.ref b :: As) w P wf PX mc ms) (F : gY y C bytes maxL ret ws n) (hG : GoodIn Ts (wsV own index C y ws))
    (hrm : rm.cells = mc ∧ rm.slots = ms ∧ rm.frames + 1 ≤ R.frames ∧ 8 + (maxL + 11) + rm.locals ≤ R.locals) (q0 : Nat) (he : w[q0]? = some (b, .inr (ci, fs))) (hc : vwCl[ci]? = some (C, T, N)) (hn : As.length = n) (hl : lv_has ls nL lv) (hst : st0 = As.reverse ++ .ref b :: rest) (hcat : (rest.map fun v => v.category).sum ≤ 8) (hdg : decode cc pc = .ok (.invokevirtual index, 3)) (hcs : cells + mc ≤ R.cells ∧ slots + ms ≤ R.slots) (hw : gw D A s.heap w H locs)
    (kx : ∀ (E : String) (ce : Cell) (q9 : Addr) (u : S) (H1 : Heap) (locs1 : List Loc), PX E u → gw D A s.heap (wf u) H1 locs1 → H1[q9]? = some ce → ce.vm = .none → s.vm.findClass E = some ce.cls → vx_W p l e R s m args below meth c H1 locs1 (cells + mc) (slots + ms) Q (F0 m pc ls rest) q9)
    (kk : ∀ (r : Int32) (u : S) (H1 : Heap) (locs1 : List Loc), P r u → gw D A s.heap (wf u) H1 locs1 → W p l e R s m args below meth c H1 locs1 (cells + mc) (slots + ms) Q (F0 m (pc + 3) ls (.int r :: rest))) : W p l e R s m args below meth c H locs cells slots Q (F0 m pc ls st0) := by
  obtain ⟨hx, hb, hlk, hml, hown, hts, hK, hA⟩ := X
  obtain ⟨hP, hD, hS⟩ := hw
  obtain ⟨⟨ws', hws⟩, hd⟩ := F
  have hF : ∀ q, va_A w H.size q → A q := gfree hD hS hA
  have hr := vx_runV (R := R) (below := below) (e := e) (H := H) (locs := locs) (cells := cells) (slots := slots) (meth := meth) (As := As) (rest := rest) (g := F0 m pc ls st0) ⟨hx, hb, hml, hown, hts⟩ (hM H.size) (cwV (R := R) n hts hG hws hrm.1 hrm.2.1 hd hrm.2.2) ⟨gblindX, va_recv hK hP hc he, fun U hU hW => ⟨rfl, ⟨by rw [hU], by rw [hU]; exact hP, va_K.moved hW.alike hK, hD.weaken (fun _ _ _ _ => trivial)⟩, hE.at hS hF hU hW⟩⟩ rfl hn hl.1 hst (lv_room hcat) hdg hcs
  refine vx_calli hr hS (fun q _ h => hF q h) hF (fun q _ h => hF q h) (fun E ce q9 u t H1 locs1 ht hvm _ hB hz hk hS1 h1 h2 h3 => ?_) (fun r u t H1 locs1 ht hvm hp hB hz hk hS1 => ?_)
  · exact kx E ce q9 u H1 locs1 hB.1 ⟨by rw [← ht]; exact hB.2.1, hB.2.2.weaken (fun k q _ h => hF q.1 h), hS1⟩ h1 h2 h3
  · exact kk r u H1 locs1 hp ⟨by rw [← ht]; exact hB.1, hB.2.weaken (fun k q _ h => hF q.1 h), hS1⟩
theorem gxS_i {S : Type} {y : MethodName} {ws : List Cond} {rm : Room} {As st0 : List Value} {P : Int32 → S → Prop} {wf : S → va_W} {PX : String → S → Prop} {bytes : ByteArray} {maxL n index mc ms : Nat} {ret : Option FieldType} {C : String} {lv : List (Nat × Value)} (X : gX p s m args meth c cc own nL Ts D cy A) (hE : gEnv ss A s s.heap) (hM : GXi l y ws rm D cy ss As w P wf PX mc ms) (F : gY y C bytes maxL ret ws n) (hG : GoodIn Ts (va_wsS own index y ws))
    (hrm : rm.cells = mc ∧ rm.slots = ms ∧ rm.frames + 1 ≤ R.frames ∧ 8 + (maxL + 11) + rm.locals ≤ R.locals) (hn : As.length = n) (hl : lv_has ls nL lv) (hst : st0 = As.reverse ++ rest) (hcat : (rest.map fun v => v.category).sum ≤ 8) (hdg : decode cc pc = .ok (.invokestatic index, 3)) (hcs : cells + mc ≤ R.cells ∧ slots + ms ≤ R.slots) (hw : gw D A s.heap w H locs)
    (kx : ∀ (E : String) (ce : Cell) (q9 : Addr) (u : S) (H1 : Heap) (locs1 : List Loc), PX E u → gw D A s.heap (wf u) H1 locs1 → H1[q9]? = some ce → ce.vm = .none → s.vm.findClass E = some ce.cls → vx_W p l e R s m args below meth c H1 locs1 (cells + mc) (slots + ms) Q (F0 m pc ls rest) q9)
    (kk : ∀ (r : Int32) (u : S) (H1 : Heap) (locs1 : List Loc), P r u → gw D A s.heap (wf u) H1 locs1 → W p l e R s m args below meth c H1 locs1 (cells + mc) (slots + ms) Q (F0 m (pc + 3) ls (.int r :: rest))) : W p l e R s m args below meth c H locs cells slots Q (F0 m pc ls st0) := by
  obtain ⟨hx, hb, hlk, hml, hown, hts, hK, hA⟩ := X
  obtain ⟨hP, hD, hS⟩ := hw
  obtain ⟨⟨ws', hws⟩, hd⟩ := F
  have hF : ∀ q, va_A w H.size q → A q := gfree hD hS hA
  have hr := vx_runS (R := R) (below := below) (e := e) (H := H) (locs := locs) (cells := cells) (slots := slots) (meth := meth) (As := As) (rest := rest) (g := F0 m pc ls st0) ⟨hx, hb, hml, hown, hts⟩ (hM H.size) (va_cwS (R := R) n hts hG hws hrm.1 hrm.2.1 hd.2 hrm.2.2) ⟨gblindX, fun U hU hW => ⟨rfl, ⟨by rw [hU], by rw [hU]; exact hP, va_K.moved hW.alike hK, hD.weaken (fun _ _ _ _ => trivial)⟩, hE.at hS hF hU hW⟩⟩ rfl hn hl.1 hst (lv_room hcat) hdg hcs
  refine vx_calli hr hS (fun q _ h => hF q h) hF (fun q _ h => hF q h) (fun E ce q9 u t H1 locs1 ht hvm _ hB hz hk hS1 h1 h2 h3 => ?_) (fun r u t H1 locs1 ht hvm hp hB hz hk hS1 => ?_)
  · exact kx E ce q9 u H1 locs1 hB.1 ⟨by rw [← ht]; exact hB.2.1, hB.2.2.weaken (fun k q _ h => hF q.1 h), hS1⟩ h1 h2 h3
  · exact kk r u H1 locs1 hp ⟨by rw [← ht]; exact hB.1, hB.2.weaken (fun k q _ h => hF q.1 h), hS1⟩

theorem gxV_l {S : Type} {y : MethodName} {ws : List Cond} {rm : Room} {b : Nat} {As st0 : List Value} {P : Int64 → S → Prop} {wf : S → va_W} {PX : String → S → Prop} {bytes : ByteArray} {maxL n index mc ms : Nat} {ret : Option FieldType} {C : String} {ci : Nat} {T : u_T} {N : Nat} {fs : List Value} {lv : List (Nat × Value)} (X : gX p s m args meth c cc own nL Ts D cy A) (hE : gEnv ss A s s.heap) (hM : GXl l y ws rm D cy ss (.ref b :: As) w P wf PX mc ms) (F : gY y C bytes maxL ret ws n) (hG : GoodIn Ts (wsV own index C y ws))
    (hrm : rm.cells = mc ∧ rm.slots = ms ∧ rm.frames + 1 ≤ R.frames ∧ 8 + (maxL + 11) + rm.locals ≤ R.locals) (q0 : Nat) (he : w[q0]? = some (b, .inr (ci, fs))) (hc : vwCl[ci]? = some (C, T, N)) (hn : As.length = n) (hl : lv_has ls nL lv) (hst : st0 = As.reverse ++ .ref b :: rest) (hcat : (rest.map fun v => v.category).sum ≤ 8) (hdg : decode cc pc = .ok (.invokevirtual index, 3)) (hcs : cells + mc ≤ R.cells ∧ slots + ms ≤ R.slots) (hw : gw D A s.heap w H locs)
    (kx : ∀ (E : String) (ce : Cell) (q9 : Addr) (u : S) (H1 : Heap) (locs1 : List Loc), PX E u → gw D A s.heap (wf u) H1 locs1 → H1[q9]? = some ce → ce.vm = .none → s.vm.findClass E = some ce.cls → vx_W p l e R s m args below meth c H1 locs1 (cells + mc) (slots + ms) Q (F0 m pc ls rest) q9)
    (kk : ∀ (r : Int64) (u : S) (H1 : Heap) (locs1 : List Loc), P r u → gw D A s.heap (wf u) H1 locs1 → W p l e R s m args below meth c H1 locs1 (cells + mc) (slots + ms) Q (F0 m (pc + 3) ls (.long r :: rest))) : W p l e R s m args below meth c H locs cells slots Q (F0 m pc ls st0) := by
  obtain ⟨hx, hb, hlk, hml, hown, hts, hK, hA⟩ := X
  obtain ⟨hP, hD, hS⟩ := hw
  obtain ⟨⟨ws', hws⟩, hd⟩ := F
  have hF : ∀ q, va_A w H.size q → A q := gfree hD hS hA
  have hr := vx_runV (R := R) (below := below) (e := e) (H := H) (locs := locs) (cells := cells) (slots := slots) (meth := meth) (As := As) (rest := rest) (g := F0 m pc ls st0) ⟨hx, hb, hml, hown, hts⟩ (hM H.size) (cwV (R := R) n hts hG hws hrm.1 hrm.2.1 hd hrm.2.2) ⟨gblindX, va_recv hK hP hc he, fun U hU hW => ⟨rfl, ⟨by rw [hU], by rw [hU]; exact hP, va_K.moved hW.alike hK, hD.weaken (fun _ _ _ _ => trivial)⟩, hE.at hS hF hU hW⟩⟩ rfl hn hl.1 hst (lv_room hcat) hdg hcs
  refine vx_calll hr hS (fun q _ h => hF q h) hF (fun q _ h => hF q h) (fun E ce q9 u t H1 locs1 ht hvm _ hB hz hk hS1 h1 h2 h3 => ?_) (fun r u t H1 locs1 ht hvm hp hB hz hk hS1 => ?_)
  · exact kx E ce q9 u H1 locs1 hB.1 ⟨by rw [← ht]; exact hB.2.1, hB.2.2.weaken (fun k q _ h => hF q.1 h), hS1⟩ h1 h2 h3
  · exact kk r u H1 locs1 hp ⟨by rw [← ht]; exact hB.1, hB.2.weaken (fun k q _ h => hF q.1 h), hS1⟩
theorem gxS_l {S : Type} {y : MethodName} {ws : List Cond} {rm : Room} {As st0 : List Value} {P : Int64 → S → Prop} {wf : S → va_W} {PX : String → S → Prop} {bytes : ByteArray} {maxL n index mc ms : Nat} {ret : Option FieldType} {C : String} {lv : List (Nat × Value)} (X : gX p s m args meth c cc own nL Ts D cy A) (hE : gEnv ss A s s.heap) (hM : GXl l y ws rm D cy ss As w P wf PX mc ms) (F : gY y C bytes maxL ret ws n) (hG : GoodIn Ts (va_wsS own index y ws))
    (hrm : rm.cells = mc ∧ rm.slots = ms ∧ rm.frames + 1 ≤ R.frames ∧ 8 + (maxL + 11) + rm.locals ≤ R.locals) (hn : As.length = n) (hl : lv_has ls nL lv) (hst : st0 = As.reverse ++ rest) (hcat : (rest.map fun v => v.category).sum ≤ 8) (hdg : decode cc pc = .ok (.invokestatic index, 3)) (hcs : cells + mc ≤ R.cells ∧ slots + ms ≤ R.slots) (hw : gw D A s.heap w H locs)
    (kx : ∀ (E : String) (ce : Cell) (q9 : Addr) (u : S) (H1 : Heap) (locs1 : List Loc), PX E u → gw D A s.heap (wf u) H1 locs1 → H1[q9]? = some ce → ce.vm = .none → s.vm.findClass E = some ce.cls → vx_W p l e R s m args below meth c H1 locs1 (cells + mc) (slots + ms) Q (F0 m pc ls rest) q9)
    (kk : ∀ (r : Int64) (u : S) (H1 : Heap) (locs1 : List Loc), P r u → gw D A s.heap (wf u) H1 locs1 → W p l e R s m args below meth c H1 locs1 (cells + mc) (slots + ms) Q (F0 m (pc + 3) ls (.long r :: rest))) : W p l e R s m args below meth c H locs cells slots Q (F0 m pc ls st0) := by
  obtain ⟨hx, hb, hlk, hml, hown, hts, hK, hA⟩ := X
  obtain ⟨hP, hD, hS⟩ := hw
  obtain ⟨⟨ws', hws⟩, hd⟩ := F
  have hF : ∀ q, va_A w H.size q → A q := gfree hD hS hA
  have hr := vx_runS (R := R) (below := below) (e := e) (H := H) (locs := locs) (cells := cells) (slots := slots) (meth := meth) (As := As) (rest := rest) (g := F0 m pc ls st0) ⟨hx, hb, hml, hown, hts⟩ (hM H.size) (va_cwS (R := R) n hts hG hws hrm.1 hrm.2.1 hd.2 hrm.2.2) ⟨gblindX, fun U hU hW => ⟨rfl, ⟨by rw [hU], by rw [hU]; exact hP, va_K.moved hW.alike hK, hD.weaken (fun _ _ _ _ => trivial)⟩, hE.at hS hF hU hW⟩⟩ rfl hn hl.1 hst (lv_room hcat) hdg hcs
  refine vx_calll hr hS (fun q _ h => hF q h) hF (fun q _ h => hF q h) (fun E ce q9 u t H1 locs1 ht hvm _ hB hz hk hS1 h1 h2 h3 => ?_) (fun r u t H1 locs1 ht hvm hp hB hz hk hS1 => ?_)
  · exact kx E ce q9 u H1 locs1 hB.1 ⟨by rw [← ht]; exact hB.2.1, hB.2.2.weaken (fun k q _ h => hF q.1 h), hS1⟩ h1 h2 h3
  · exact kk r u H1 locs1 hp ⟨by rw [← ht]; exact hB.1, hB.2.weaken (fun k q _ h => hF q.1 h), hS1⟩

theorem gxV_d {S : Type} {y : MethodName} {ws : List Cond} {rm : Room} {b : Nat} {As st0 : List Value} {P : UInt64 → S → Prop} {wf : S → va_W} {PX : String → S → Prop} {bytes : ByteArray} {maxL n index mc ms : Nat} {ret : Option FieldType} {C : String} {ci : Nat} {T : u_T} {N : Nat} {fs : List Value} {lv : List (Nat × Value)} (X : gX p s m args meth c cc own nL Ts D cy A) (hE : gEnv ss A s s.heap) (hM : GXd l y ws rm D cy ss (.ref b :: As) w P wf PX mc ms) (F : gY y C bytes maxL ret ws n) (hG : GoodIn Ts (wsV own index C y ws))
    (hrm : rm.cells = mc ∧ rm.slots = ms ∧ rm.frames + 1 ≤ R.frames ∧ 8 + (maxL + 11) + rm.locals ≤ R.locals) (q0 : Nat) (he : w[q0]? = some (b, .inr (ci, fs))) (hc : vwCl[ci]? = some (C, T, N)) (hn : As.length = n) (hl : lv_has ls nL lv) (hst : st0 = As.reverse ++ .ref b :: rest) (hcat : (rest.map fun v => v.category).sum ≤ 8) (hdg : decode cc pc = .ok (.invokevirtual index, 3)) (hcs : cells + mc ≤ R.cells ∧ slots + ms ≤ R.slots) (hw : gw D A s.heap w H locs)
    (kx : ∀ (E : String) (ce : Cell) (q9 : Addr) (u : S) (H1 : Heap) (locs1 : List Loc), PX E u → gw D A s.heap (wf u) H1 locs1 → H1[q9]? = some ce → ce.vm = .none → s.vm.findClass E = some ce.cls → vx_W p l e R s m args below meth c H1 locs1 (cells + mc) (slots + ms) Q (F0 m pc ls rest) q9)
    (kk : ∀ (r : UInt64) (u : S) (H1 : Heap) (locs1 : List Loc), P r u → gw D A s.heap (wf u) H1 locs1 → W p l e R s m args below meth c H1 locs1 (cells + mc) (slots + ms) Q (F0 m (pc + 3) ls (.double r :: rest))) : W p l e R s m args below meth c H locs cells slots Q (F0 m pc ls st0) := by
  obtain ⟨hx, hb, hlk, hml, hown, hts, hK, hA⟩ := X
  obtain ⟨hP, hD, hS⟩ := hw
  obtain ⟨⟨ws', hws⟩, hd⟩ := F
  have hF : ∀ q, va_A w H.size q → A q := gfree hD hS hA
  have hr := vx_runV (R := R) (below := below) (e := e) (H := H) (locs := locs) (cells := cells) (slots := slots) (meth := meth) (As := As) (rest := rest) (g := F0 m pc ls st0) ⟨hx, hb, hml, hown, hts⟩ (hM H.size) (cwV (R := R) n hts hG hws hrm.1 hrm.2.1 hd hrm.2.2) ⟨gblindX, va_recv hK hP hc he, fun U hU hW => ⟨rfl, ⟨by rw [hU], by rw [hU]; exact hP, va_K.moved hW.alike hK, hD.weaken (fun _ _ _ _ => trivial)⟩, hE.at hS hF hU hW⟩⟩ rfl hn hl.1 hst (lv_room hcat) hdg hcs
  refine vx_calld hr hS (fun q _ h => hF q h) hF (fun q _ h => hF q h) (fun E ce q9 u t H1 locs1 ht hvm _ hB hz hk hS1 h1 h2 h3 => ?_) (fun r u t H1 locs1 ht hvm hp hB hz hk hS1 => ?_)
  · exact kx E ce q9 u H1 locs1 hB.1 ⟨by rw [← ht]; exact hB.2.1, hB.2.2.weaken (fun k q _ h => hF q.1 h), hS1⟩ h1 h2 h3
  · exact kk r u H1 locs1 hp ⟨by rw [← ht]; exact hB.1, hB.2.weaken (fun k q _ h => hF q.1 h), hS1⟩
theorem gxS_d {S : Type} {y : MethodName} {ws : List Cond} {rm : Room} {As st0 : List Value} {P : UInt64 → S → Prop} {wf : S → va_W} {PX : String → S → Prop} {bytes : ByteArray} {maxL n index mc ms : Nat} {ret : Option FieldType} {C : String} {lv : List (Nat × Value)} (X : gX p s m args meth c cc own nL Ts D cy A) (hE : gEnv ss A s s.heap) (hM : GXd l y ws rm D cy ss As w P wf PX mc ms) (F : gY y C bytes maxL ret ws n) (hG : GoodIn Ts (va_wsS own index y ws))
    (hrm : rm.cells = mc ∧ rm.slots = ms ∧ rm.frames + 1 ≤ R.frames ∧ 8 + (maxL + 11) + rm.locals ≤ R.locals) (hn : As.length = n) (hl : lv_has ls nL lv) (hst : st0 = As.reverse ++ rest) (hcat : (rest.map fun v => v.category).sum ≤ 8) (hdg : decode cc pc = .ok (.invokestatic index, 3)) (hcs : cells + mc ≤ R.cells ∧ slots + ms ≤ R.slots) (hw : gw D A s.heap w H locs)
    (kx : ∀ (E : String) (ce : Cell) (q9 : Addr) (u : S) (H1 : Heap) (locs1 : List Loc), PX E u → gw D A s.heap (wf u) H1 locs1 → H1[q9]? = some ce → ce.vm = .none → s.vm.findClass E = some ce.cls → vx_W p l e R s m args below meth c H1 locs1 (cells + mc) (slots + ms) Q (F0 m pc ls rest) q9)
    (kk : ∀ (r : UInt64) (u : S) (H1 : Heap) (locs1 : List Loc), P r u → gw D A s.heap (wf u) H1 locs1 → W p l e R s m args below meth c H1 locs1 (cells + mc) (slots + ms) Q (F0 m (pc + 3) ls (.double r :: rest))) : W p l e R s m args below meth c H locs cells slots Q (F0 m pc ls st0) := by
  obtain ⟨hx, hb, hlk, hml, hown, hts, hK, hA⟩ := X
  obtain ⟨hP, hD, hS⟩ := hw
  obtain ⟨⟨ws', hws⟩, hd⟩ := F
  have hF : ∀ q, va_A w H.size q → A q := gfree hD hS hA
  have hr := vx_runS (R := R) (below := below) (e := e) (H := H) (locs := locs) (cells := cells) (slots := slots) (meth := meth) (As := As) (rest := rest) (g := F0 m pc ls st0) ⟨hx, hb, hml, hown, hts⟩ (hM H.size) (va_cwS (R := R) n hts hG hws hrm.1 hrm.2.1 hd.2 hrm.2.2) ⟨gblindX, fun U hU hW => ⟨rfl, ⟨by rw [hU], by rw [hU]; exact hP, va_K.moved hW.alike hK, hD.weaken (fun _ _ _ _ => trivial)⟩, hE.at hS hF hU hW⟩⟩ rfl hn hl.1 hst (lv_room hcat) hdg hcs
  refine vx_calld hr hS (fun q _ h => hF q h) hF (fun q _ h => hF q h) (fun E ce q9 u t H1 locs1 ht hvm _ hB hz hk hS1 h1 h2 h3 => ?_) (fun r u t H1 locs1 ht hvm hp hB hz hk hS1 => ?_)
  · exact kx E ce q9 u H1 locs1 hB.1 ⟨by rw [← ht]; exact hB.2.1, hB.2.2.weaken (fun k q _ h => hF q.1 h), hS1⟩ h1 h2 h3
  · exact kk r u H1 locs1 hp ⟨by rw [← ht]; exact hB.1, hB.2.weaken (fun k q _ h => hF q.1 h), hS1⟩

theorem gxV_v {S : Type} {y : MethodName} {ws : List Cond} {rm : Room} {b : Nat} {As st0 : List Value} {P : S → Prop} {wf : S → va_W} {PX : String → S → Prop} {bytes : ByteArray} {maxL n index mc ms : Nat} {ret : Option FieldType} {C : String} {ci : Nat} {T : u_T} {N : Nat} {fs : List Value} {lv : List (Nat × Value)} (X : gX p s m args meth c cc own nL Ts D cy A) (hE : gEnv ss A s s.heap) (hM : GXv l y ws rm D cy ss (.ref b :: As) w P wf PX mc ms) (F : gY y C bytes maxL ret ws n) (hG : GoodIn Ts (wsV own index C y ws))
    (hrm : rm.cells = mc ∧ rm.slots = ms ∧ rm.frames + 1 ≤ R.frames ∧ 8 + (maxL + 11) + rm.locals ≤ R.locals) (q0 : Nat) (he : w[q0]? = some (b, .inr (ci, fs))) (hc : vwCl[ci]? = some (C, T, N)) (hn : As.length = n) (hl : lv_has ls nL lv) (hst : st0 = As.reverse ++ .ref b :: rest) (hcat : (rest.map fun v => v.category).sum ≤ 8) (hdg : decode cc pc = .ok (.invokevirtual index, 3)) (hcs : cells + mc ≤ R.cells ∧ slots + ms ≤ R.slots) (hw : gw D A s.heap w H locs)
    (kx : ∀ (E : String) (ce : Cell) (q9 : Addr) (u : S) (H1 : Heap) (locs1 : List Loc), PX E u → gw D A s.heap (wf u) H1 locs1 → H1[q9]? = some ce → ce.vm = .none → s.vm.findClass E = some ce.cls → vx_W p l e R s m args below meth c H1 locs1 (cells + mc) (slots + ms) Q (F0 m pc ls rest) q9)
    (kk : ∀ (u : S) (H1 : Heap) (locs1 : List Loc), P u → gw D A s.heap (wf u) H1 locs1 → W p l e R s m args below meth c H1 locs1 (cells + mc) (slots + ms) Q (F0 m (pc + 3) ls rest)) : W p l e R s m args below meth c H locs cells slots Q (F0 m pc ls st0) := by
  obtain ⟨hx, hb, hlk, hml, hown, hts, hK, hA⟩ := X
  obtain ⟨hP, hD, hS⟩ := hw
  obtain ⟨⟨ws', hws⟩, hd⟩ := F
  have hF : ∀ q, va_A w H.size q → A q := gfree hD hS hA
  have hr := vx_runV (R := R) (below := below) (e := e) (H := H) (locs := locs) (cells := cells) (slots := slots) (meth := meth) (As := As) (rest := rest) (g := F0 m pc ls st0) ⟨hx, hb, hml, hown, hts⟩ (hM H.size) (cwV (R := R) n hts hG hws hrm.1 hrm.2.1 hd hrm.2.2) ⟨gblindX, va_recv hK hP hc he, fun U hU hW => ⟨rfl, ⟨by rw [hU], by rw [hU]; exact hP, va_K.moved hW.alike hK, hD.weaken (fun _ _ _ _ => trivial)⟩, hE.at hS hF hU hW⟩⟩ rfl hn hl.1 hst (lv_room hcat) hdg hcs
  refine vx_callv hr hS (fun q _ h => hF q h) hF (fun q _ h => hF q h) (fun E ce q9 u t H1 locs1 ht hvm _ hB hz hk hS1 h1 h2 h3 => ?_) (fun u t H1 locs1 ht hvm hp hB hz hk hS1 => ?_)
  · exact kx E ce q9 u H1 locs1 hB.1 ⟨by rw [← ht]; exact hB.2.1, hB.2.2.weaken (fun k q _ h => hF q.1 h), hS1⟩ h1 h2 h3
  · exact kk u H1 locs1 hp ⟨by rw [← ht]; exact hB.1, hB.2.weaken (fun k q _ h => hF q.1 h), hS1⟩
theorem gxS_v {S : Type} {y : MethodName} {ws : List Cond} {rm : Room} {As st0 : List Value} {P : S → Prop} {wf : S → va_W} {PX : String → S → Prop} {bytes : ByteArray} {maxL n index mc ms : Nat} {ret : Option FieldType} {C : String} {lv : List (Nat × Value)} (X : gX p s m args meth c cc own nL Ts D cy A) (hE : gEnv ss A s s.heap) (hM : GXv l y ws rm D cy ss As w P wf PX mc ms) (F : gY y C bytes maxL ret ws n) (hG : GoodIn Ts (va_wsS own index y ws))
    (hrm : rm.cells = mc ∧ rm.slots = ms ∧ rm.frames + 1 ≤ R.frames ∧ 8 + (maxL + 11) + rm.locals ≤ R.locals) (hn : As.length = n) (hl : lv_has ls nL lv) (hst : st0 = As.reverse ++ rest) (hcat : (rest.map fun v => v.category).sum ≤ 8) (hdg : decode cc pc = .ok (.invokestatic index, 3)) (hcs : cells + mc ≤ R.cells ∧ slots + ms ≤ R.slots) (hw : gw D A s.heap w H locs)
    (kx : ∀ (E : String) (ce : Cell) (q9 : Addr) (u : S) (H1 : Heap) (locs1 : List Loc), PX E u → gw D A s.heap (wf u) H1 locs1 → H1[q9]? = some ce → ce.vm = .none → s.vm.findClass E = some ce.cls → vx_W p l e R s m args below meth c H1 locs1 (cells + mc) (slots + ms) Q (F0 m pc ls rest) q9)
    (kk : ∀ (u : S) (H1 : Heap) (locs1 : List Loc), P u → gw D A s.heap (wf u) H1 locs1 → W p l e R s m args below meth c H1 locs1 (cells + mc) (slots + ms) Q (F0 m (pc + 3) ls rest)) : W p l e R s m args below meth c H locs cells slots Q (F0 m pc ls st0) := by
  obtain ⟨hx, hb, hlk, hml, hown, hts, hK, hA⟩ := X
  obtain ⟨hP, hD, hS⟩ := hw
  obtain ⟨⟨ws', hws⟩, hd⟩ := F
  have hF : ∀ q, va_A w H.size q → A q := gfree hD hS hA
  have hr := vx_runS (R := R) (below := below) (e := e) (H := H) (locs := locs) (cells := cells) (slots := slots) (meth := meth) (As := As) (rest := rest) (g := F0 m pc ls st0) ⟨hx, hb, hml, hown, hts⟩ (hM H.size) (va_cwS (R := R) n hts hG hws hrm.1 hrm.2.1 hd.2 hrm.2.2) ⟨gblindX, fun U hU hW => ⟨rfl, ⟨by rw [hU], by rw [hU]; exact hP, va_K.moved hW.alike hK, hD.weaken (fun _ _ _ _ => trivial)⟩, hE.at hS hF hU hW⟩⟩ rfl hn hl.1 hst (lv_room hcat) hdg hcs
  refine vx_callv hr hS (fun q _ h => hF q h) hF (fun q _ h => hF q h) (fun E ce q9 u t H1 locs1 ht hvm _ hB hz hk hS1 h1 h2 h3 => ?_) (fun u t H1 locs1 ht hvm hp hB hz hk hS1 => ?_)
  · exact kx E ce q9 u H1 locs1 hB.1 ⟨by rw [← ht]; exact hB.2.1, hB.2.2.weaken (fun k q _ h => hF q.1 h), hS1⟩ h1 h2 h3
  · exact kk u H1 locs1 hp ⟨by rw [← ht]; exact hB.1, hB.2.weaken (fun k q _ h => hF q.1 h), hS1⟩

end GXR
