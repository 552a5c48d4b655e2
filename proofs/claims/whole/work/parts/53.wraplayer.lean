/-! the law's helpers: they call, and answer which exception came (0: none); what was answered lies in a row of one long (or double) -/
def wrK : List String → String → Int32
  | [], _ => 0
  | a :: t, E => if E = a then 1 else 1 + wrK t E
def wrC {α : Type} (L : List String) (v : String ⊕ α) : Int32 := match v with
  | .inr _ => 0
  | .inl E => wrK L E
def wrO {α β : Type} (up : (Nat → β) → Nat → β → (Nat → β)) (f : Nat → β) (cv : α → β) (v : String ⊕ α) : Nat → β := match v with
  | .inr r => up f 0 (cv r)
  | .inl _ => f
def GWi {S : Type} (l : Launch) (y : MethodName) (ws : List Cond) (rm : Room) (D : va_G) (cy : Nat → ClassId) (ss : Nat → Nat) (av : List Value) (w : va_W) (P : Int32 → S → Prop) (wf : S → va_W) (mc ms : Nat) : Prop := ∀ sz, Met l y ws rm (va_Pc av (gPreX D cy ss w sz)) (va_Qi P (gPost D w sz wf) (va_A w sz)) mc ms (va_A w sz)
def gYW (y : MethodName) (own : String) (bytes : ByteArray) (maxL : Nat) (hh : List (Nat × Nat × Nat × Nat)) (ws : List Cond) (n : Nat) : Prop := (∃ ws', ws = Cond.codeWith y bytes maxL (some .int) hh :: ws') ∧ y.cls = own ∧ y.cls ≠ "java/lang/invoke/MethodHandle" ∧ y.cls ≠ "java/lang/invoke/VarHandle" ∧ (parseMethodDescriptor y.desc).map (fun d => d.parameters.length) = some n
theorem GWi.intro {S : Type} {l : Launch} {y : MethodName} {ws ws' : List Cond} {rm : Room} {D : va_G} {cy : Nat → ClassId} {ss : Nat → Nat} {av : List Value} {w : va_W} {P : Int32 → S → Prop} {wf : S → va_W} {mc ms : Nat} (cc : ByteArray) (maxL : Nat) (own : String) (hh : List (Nat × Nat × Nat × Nat)) (hy : plainName y.cls = true) (hown : y.cls = own) (hw : ws = Cond.codeWith y cc maxL (some .int) hh :: ws') (hent : (lg_sl av).length ≤ maxL)
    (body : ∀ (p : Program) (e : Env) (s : State) (m : MethodId) (args : Array Value) (below : List Frame) (meth : Method) (c : Code) (A : Nat → Prop) (Q : State → Prop) (ls : Array Slot), gX p s m args meth c cc own maxL ws D cy A → gEnv ss A s s.heap → c.exceptionTable.toList = tableOf hh →
      (∀ (pc : Nat) (r : Int32) (u : S) (H : Heap) (locs : List Loc) (ls : Array Slot) (k n : Nat), decode cc pc = .ok (.ireturn, 1) → P r u → gw D A s.heap (wf u) H locs → k ≤ mc → n ≤ ms → W p l e rm s m args below meth c H locs k n Q (F0 m pc ls [.int r])) →
      lv_has ls maxL (lv_args 0 av) → gw D A s.heap w s.heap [] → W p l e rm s m args below meth c s.heap [] 0 0 Q (F0 m 0 ls [])) : GWi l y ws rm D cy ss av w P wf mc ms := by
  intro sz
  have h9 : vx_Met l y ws rm (va_Pc av (gPreX D cy ss w sz)) (va_Qi P (gPost D w sz wf) (va_A w sz)) (fun _ _ _ => False) mc ms (va_A w sz) := by
    refine vx_ofWH (cc := cc) (maxL := maxL) (ret := some .int) hy hw ?_
    intro p e s m args below meth c s₁ B hml hv
    obtain ⟨rfl, ⟨hsz, hP, hK, hD0⟩, hE⟩ := hv
    subst hsz
    have hD := hD0.self (sz := s.heap.size)
    have hl := lv_entry av (n := maxL) hent
    have htab : c.exceptionTable.toList = tableOf hh := vx_table (x := y) B (atoms_spec (ws := ws) B.pre _ (by rw [hw]; exact List.mem_cons_self))
    rw [lg_entry_eq]
    generalize (lg_sl av ++ List.replicate (maxL - (lg_sl av).length) Slot.unset).toArray = ls at hl ⊢
    refine body p e s m _ below meth c (va_A w s.heap.size) _ ls ⟨B.exec, B.bytes, B.notSynchronized, hml, hown ▸ findClass_of_methodNamed B.named, atoms_spec (ws := ws) B.pre, hK, fun q h => Or.inr h⟩ hE htab ?_ hl ⟨hP, hD, va_S.rf⟩
    intro pc r u H locs ls k n hdg hp hw9 hk hn
    refine vx_ret (W.widen hk hn ?_)
    exact W.iret B.exec B.bytes B.returns (fun t ht hW => ⟨⟨r, u, rfl, hp, by rw [ht]; exact hw9.1, hw9.2.1⟩, hw9.2.2.F ht⟩) hw9.2.2.2.2 hdg B.notSynchronized
  intro p e ha hc hk s m args below hf happ hp hK
  obtain ⟨n, o, h1, h2, h3, hq⟩ := h9 p e ha hc hk s m args below hf happ hp hK
  refine ⟨n, o, h1, h2, h3, ?_⟩
  rcases hq with hq | ⟨q, -, E, ce, L, hx, -⟩
  · exact hq
  · exact hx.elim
section GWR
variable {p : Program} {l : Launch} {e : Env} {R : Room} {s : State} {m : MethodId} {args : Array Value} {below : List Frame} {meth : Method} {c : Code} {H : Heap} {locs : List Loc} {cells slots : Nat} {Q : State → Prop}
variable {cc : ByteArray} {pc : Nat} {ls : Array Slot} {rest : List Value} {own : String} {nL : Nat} {Ts : List Cond} {D : va_G} {cy : Nat → ClassId} {ss : Nat → Nat} {A : Nat → Prop} {w : va_W} {a : Nat}
theorem gwS_i {S : Type} {y : MethodName} {ws : List Cond} {rm : Room} {As st0 : List Value} {P : Int32 → S → Prop} {wf : S → va_W} {bytes : ByteArray} {maxL n index mc ms : Nat} {hh : List (Nat × Nat × Nat × Nat)} {C : String} {lv : List (Nat × Value)} (X : gX p s m args meth c cc own nL Ts D cy A) (hE : gEnv ss A s s.heap) (hM : GWi l y ws rm D cy ss As w P wf mc ms) (F : gYW y C bytes maxL hh ws n) (hG : GoodIn Ts (va_wsS own index y ws))
    (hrm : rm.cells = mc ∧ rm.slots = ms ∧ rm.frames + 1 ≤ R.frames ∧ 8 + (maxL + 11) + rm.locals ≤ R.locals) (hn : As.length = n) (hl : lv_has ls nL lv) (hst : st0 = As.reverse ++ rest) (hcat : (rest.map fun v => v.category).sum ≤ 8) (hdg : decode cc pc = .ok (.invokestatic index, 3)) (hcs : cells + mc ≤ R.cells ∧ slots + ms ≤ R.slots) (hw : gw D A s.heap w H locs)
    (kk : ∀ (r : Int32) (u : S) (H1 : Heap) (locs1 : List Loc), P r u → gw D A s.heap (wf u) H1 locs1 → W p l e R s m args below meth c H1 locs1 (cells + mc) (slots + ms) Q (F0 m (pc + 3) ls (.int r :: rest))) : W p l e R s m args below meth c H locs cells slots Q (F0 m pc ls st0) := by
  obtain ⟨hx, hb, hlk, hml, hown, hts, hK, hA⟩ := X
  obtain ⟨hP, hD, hS⟩ := hw
  obtain ⟨⟨ws', hws⟩, hd⟩ := F
  have hF : ∀ q, va_A w H.size q → A q := gfree hD hS hA
  have hr := vx_runSW (R := R) (below := below) (e := e) (H := H) (locs := locs) (cells := cells) (slots := slots) (meth := meth) (As := As) (rest := rest) (g := F0 m pc ls st0) ⟨hx, hb, hml, hown, hts⟩ (hM H.size) (vx_cwSW (R := R) n hts hG hws hrm.1 hrm.2.1 hd.2 hrm.2.2) ⟨gblindX, fun U hU hW => ⟨rfl, ⟨by rw [hU], by rw [hU]; exact hP, va_K.moved hW.alike hK, hD.weaken (fun _ _ _ _ => trivial)⟩, hE.at hS hF hU hW⟩⟩ rfl hn hl.1 hst (lv_room hcat) hdg hcs
  refine va_calli hr hS (fun q _ h => hF q h) hF (fun r u t H1 locs1 ht hvm hp hB hz hk hS1 => ?_)
  exact kk r u H1 locs1 hp ⟨by rw [← ht]; exact hB.1, hB.2.weaken (fun k q _ h => hF q.1 h), hS1⟩
theorem g_lastk {k : Nat} {i : Int32} (hk : i.toNatClampNeg = k) (X : gX p s m args meth c cc own nL Ts D cy A) (hw : gw D A s.heap w H locs) (q0 : Nat) {n : Nat} {f : Nat → Int64} (ha : w[q0]? = some (a, .inl (cy 2, n, .inr (.inl f)))) {x : Int64} (hin : vp_in i n) {w' : va_W} (hset : w.set q0 (a, .inl (cy 2, n, .inr (.inl (vp_updL f k x)))) = w') (hdg : decode cc pc = .ok (.lastore, 1))
    (kk : ∀ (H1 : Heap) (locs1 : List Loc), gw D A s.heap w' H1 locs1 → W p l e R s m args below meth c H1 locs1 cells slots Q (F0 m (pc + 1) ls rest)) : W p l e R s m args below meth c H locs cells slots Q (F0 m pc ls (.long x :: .int i :: .ref a :: rest)) := by
  subst hk
  subst hset
  exact va_last X.1 X.2.1 X.2.2.2.2.2.2.1 hw.1 hw.2.1 hw.2.2 q0 2 ha rfl hin hdg (fun H1 locs1 h1 h2 h3 => kk H1 locs1 ⟨h1, h2, h3⟩)
theorem g_dastk {k : Nat} {i : Int32} (hk : i.toNatClampNeg = k) (X : gX p s m args meth c cc own nL Ts D cy A) (hw : gw D A s.heap w H locs) (q0 : Nat) {n : Nat} {f : Nat → UInt64} (ha : w[q0]? = some (a, .inl (cy 3, n, .inr (.inr (.inr (.inl f)))))) {x : UInt64} (hin : vp_in i n) {w' : va_W} (hset : w.set q0 (a, .inl (cy 3, n, .inr (.inr (.inr (.inl (vf_upd f k x)))))) = w') (hdg : decode cc pc = .ok (.dastore, 1))
    (kk : ∀ (H1 : Heap) (locs1 : List Loc), gw D A s.heap w' H1 locs1 → W p l e R s m args below meth c H1 locs1 cells slots Q (F0 m (pc + 1) ls rest)) : W p l e R s m args below meth c H locs cells slots Q (F0 m pc ls (.double x :: .int i :: .ref a :: rest)) := by
  subst hk
  subst hset
  exact va_dast X.1 X.2.1 X.2.2.2.2.2.2.1 hw.1 hw.2.1 hw.2.2 q0 3 ha rfl hin hdg (fun H1 locs1 h1 h2 h3 => kk H1 locs1 ⟨h1, h2, h3⟩)
theorem g_laldk {k : Nat} {i : Int32} (hk : i.toNatClampNeg = k) (X : gX p s m args meth c cc own nL Ts D cy A) (hw : gw D A s.heap w H locs) (q0 : Nat) {n : Nat} {f : Nat → Int64} (ha : w[q0]? = some (a, .inl (cy 2, n, .inr (.inl f)))) (hin : vp_in i n) (hdg : decode cc pc = .ok (.laload, 1))
    (kk : W p l e R s m args below meth c H locs cells slots Q (F0 m (pc + 1) ls (.long (f k) :: rest))) : W p l e R s m args below meth c H locs cells slots Q (F0 m pc ls (.int i :: .ref a :: rest)) := by
  subst hk
  exact va_lald X.1 X.2.1 X.2.2.2.2.2.2.1 hw.1 q0 2 ha rfl hin hdg kk
theorem g_daldk {k : Nat} {i : Int32} (hk : i.toNatClampNeg = k) (X : gX p s m args meth c cc own nL Ts D cy A) (hw : gw D A s.heap w H locs) (q0 : Nat) {n : Nat} {f : Nat → UInt64} (ha : w[q0]? = some (a, .inl (cy 3, n, .inr (.inr (.inr (.inl f)))))) (hin : vp_in i n) (hdg : decode cc pc = .ok (.daload, 1))
    (kk : W p l e R s m args below meth c H locs cells slots Q (F0 m (pc + 1) ls (.double (f k) :: rest))) : W p l e R s m args below meth c H locs cells slots Q (F0 m pc ls (.int i :: .ref a :: rest)) := by
  subst hk
  exact va_dald X.1 X.2.1 X.2.2.2.2.2.2.1 hw.1 q0 3 ha rfl hin hdg kk
end GWR

