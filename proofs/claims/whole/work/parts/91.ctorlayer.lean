/-! constructors: worlds that grow at their front -/
theorem gArr {args : Array Value} {s : State} {ty : FieldType} (h : (Cond.arrayClass ty).before args s = true) : ∃ cA : ClassId, ArrOfT s cA ty ∧ s.vm.findClass ("[" ++ ty.toString) = some cA := by
  obtain ⟨c, k, comp, h1, h2, h3⟩ := Cond.arrayClass_spec h
  exact ⟨c, fun n z => ⟨fun k9 h9 => (by cases h9), k, h2, comp, h3⟩, h1⟩
theorem gw_by {D : va_G} {A : Nat → Prop} {H0 H : Heap} {ws ws' : va_W} {locs : List Loc} (g : Nat → Nat) (hg : ∀ (k : Nat) (q : Nat × va_E), ws'[k]? = some q → ws[g k]? = some q) (hi : ∀ i j : Nat, i < ws'.length → j < ws'.length → g i = g j → i = j) (h : gw D A H0 ws H locs) : gw D A H0 ws' H locs :=
  ⟨h.1.by g hg, h.2.1.by g hg hi, h.2.2⟩
theorem gw_swap {D : va_G} {A : Nat → Prop} {H0 H : Heap} {a b : va_W} {locs : List Loc} (h : gw D A H0 (a ++ b) H locs) : gw D A H0 (b ++ a) H locs := by
  refine gw_by (fun k => if k < b.length then a.length + k else k - b.length) (fun k q hk => ?_) (fun i j hi hj hij => ?_) h
  · by_cases q9 : k < b.length
    · rw [List.getElem?_append_left q9] at hk
      rw [if_pos q9, List.getElem?_append_right (by omega), Nat.add_sub_cancel_left]
      exact hk
    · rw [List.getElem?_append_right (by omega)] at hk
      rw [if_neg q9, List.getElem?_append_left (List.getElem?_eq_some_iff.mp hk).1]
      exact hk
  · rw [List.length_append] at hi hj
    by_cases q1 : i < b.length <;> by_cases q2 : j < b.length
    · rw [if_pos q1, if_pos q2] at hij
      omega
    · rw [if_pos q1, if_neg q2] at hij
      omega
    · rw [if_neg q1, if_pos q2] at hij
      omega
    · rw [if_neg q1, if_neg q2] at hij
      omega
theorem gw_perm {D : va_G} {A : Nat → Prop} {H0 H : Heap} {L L' rest : va_W} {locs : List Loc} (p : List Nat) (hp : L'.map some = p.map (fun i => L[i]?)) (hn : va_nd p = true) (h : gw D A H0 (L ++ rest) H locs) (hl : p.length = L.length) : gw D A H0 (L' ++ rest) H locs := by
  have hl2 : L'.length = p.length := by
    have := congrArg List.length hp
    simpa using this
  have key : ∀ k : Nat, k < p.length → ∃ i : Nat, p[k]? = some i ∧ i < L.length ∧ L'[k]? = L[i]? := by
    intro k hk
    have h1 : (L'.map some)[k]? = (p.map (fun i => L[i]?))[k]? := by rw [hp]
    rw [List.getElem?_map, List.getElem?_map] at h1
    have h2 : L'[k]? = some (L'[k]'(by omega)) := List.getElem?_eq_getElem (by omega)
    have h3 : p[k]? = some (p[k]'hk) := List.getElem?_eq_getElem hk
    rw [h2, h3] at h1
    have h4 : L[p[k]'hk]? = some (L'[k]'(by omega)) := (Option.some.inj h1).symm
    exact ⟨p[k]'hk, h3, (List.getElem?_eq_some_iff.mp h4).1, by rw [h2, h4]⟩
  refine gw_by (fun k => if k < p.length then (p[k]?).getD 0 else k) (fun k q hk => ?_) (fun i j hi hj hij => ?_) h
  · by_cases q9 : k < p.length
    · obtain ⟨i, h1, h2, h3⟩ := key k q9
      rw [List.getElem?_append_left (by omega), h3] at hk
      rw [if_pos q9, h1]
      show (L ++ rest)[i]? = some q
      rw [List.getElem?_append_left h2]
      exact hk
    · rw [List.getElem?_append_right (by omega)] at hk
      rw [if_neg q9, List.getElem?_append_right (by omega), ← hl, ← hl2]
      exact hk
  · by_cases q1 : i < p.length <;> by_cases q2 : j < p.length
    · obtain ⟨x, h1, h2, -⟩ := key i q1
      obtain ⟨y, h3, h4, -⟩ := key j q2
      rw [if_pos q1, if_pos q2, h1, h3] at hij
      have e : x = y := hij
      subst e
      exact va_nd_inj p hn i j x h1 h3
    · obtain ⟨x, h1, h2, -⟩ := key i q1
      rw [if_pos q1, if_neg q2, h1] at hij
      have e : x = j := hij
      omega
    · obtain ⟨x, h1, h2, -⟩ := key j q2
      rw [if_neg q1, if_pos q2, h1] at hij
      have e : i = x := hij
      omega
    · rw [if_neg q1, if_neg q2] at hij
      exact hij
def gNest (U : State) : Prop := va_Nw (.methodLinkNest RX1 25 yX3_init "BurstGrouper") U ∧ va_Nw (.methodLinkNest RX1 32 yX0_init "BurstGrouper") U ∧ va_Nw (.methodLinkNest RX1 39 yX2_init "BurstGrouper") U ∧ va_Nw (.methodLinkNest RX6 21 yX5_init "BurstGrouper") U
theorem gNest.warm {s U : State} (hW : s.WarmedH U.vm) (h : gNest s) : gNest U := ⟨h.1.warmM hW, h.2.1.warmM hW, h.2.2.1.warmM hW, h.2.2.2.warmM hW⟩
theorem gNest.same {u U : State} (hv : u.vm = U.vm) (h : gNest u) : gNest U := ⟨h.1.same rfl hv, h.2.1.same rfl hv, h.2.2.1.same rfl hv, h.2.2.2.same rfl hv⟩
def gPreN (D : va_G) (cy : Nat → ClassId) (w : va_W) (sz : Nat) (U : State) : Prop := gPre D cy w sz U ∧ gNest U
theorem gblindN {av : List Value} {D : va_G} {cy : Nat → ClassId} {w : va_W} {sz : Nat} : FrameBlind (va_Pc av (gPreN D cy w sz)) := fun a U g mk q => by
  obtain ⟨q0, q1, q2⟩ := q
  obtain ⟨e1, e2⟩ := gblind (av := av) (D := D) (cy := cy) (w := w) (sz := sz) a U g mk ⟨q0, q1⟩
  exact ⟨e1, e2, gNest.same (u := U) (U := U.calling g mk a) rfl q2⟩
def GKv {S : Type} (l : Launch) (y : MethodName) (ws : List Cond) (rm : Room) (D : va_G) (cy : Nat → ClassId) (av : List Value) (w : va_W) (P : S → Prop) (wf : S → va_W) (mc ms : Nat) : Prop := ∀ sz, Met l y ws rm (va_Pc av (gPreN D cy w sz)) (va_Qv P (gPost D w sz wf) (va_A w sz)) mc ms (va_A w sz)
theorem GKv.intro {S : Type} {l : Launch} {y : MethodName} {ws ws' : List Cond} {rm : Room} {D : va_G} {cy : Nat → ClassId} {av : List Value} {w : va_W} {P : S → Prop} {wf : S → va_W} {mc ms : Nat} (cc : ByteArray) (maxL : Nat) (own : String) (hy : plainName y.cls = true) (hown : y.cls = own) (hnm : y.name = "<init>") (hw : ws = Cond.code y cc maxL none :: ws') (hent : (lg_sl av).length ≤ maxL)
    (body : ∀ (p : Program) (e : Env) (s : State) (m : MethodId) (args : Array Value) (below : List Frame) (meth : Method) (c : Code) (A : Nat → Prop) (Q : State → Prop) (ls : Array Slot), gX p s m args meth c cc own maxL ws D cy A → gNest s → meth.name = "<init>" → (∀ (pc : Nat) (u : S) (H : Heap) (locs : List Loc) (ls : Array Slot) (k n : Nat), decode cc pc = .ok (.return_, 1) → P u → gw D A s.heap (wf u) H locs → k ≤ mc → n ≤ ms → W p l e rm s m args below meth c H locs k n Q (F0 m pc ls [])) → lv_has ls maxL (lv_args 0 av) → gw D A s.heap w s.heap [] → W p l e rm s m args below meth c s.heap [] 0 0 Q (F0 m 0 ls [])) : GKv l y ws rm D cy av w P wf mc ms := by
  intro sz
  refine Met.ofW (cc := cc) (maxL := maxL) (ret := none) hy hw ?_
  intro p e s m args below meth c s₁ B hml hv
  obtain ⟨rfl, ⟨hsz, hP, hK, hD0⟩, hN⟩ := hv
  subst hsz
  have hD := hD0.self (sz := s.heap.size)
  have hl := lv_entry av (n := maxL) hent
  rw [lg_entry_eq]
  generalize (lg_sl av ++ List.replicate (maxL - (lg_sl av).length) Slot.unset).toArray = ls at hl ⊢
  refine body p e s m _ below meth c (va_A w s.heap.size) _ ls ⟨B.exec, B.bytes, B.notSynchronized, hml, hown ▸ findClass_of_methodNamed B.named, atoms_spec (ws := ws) B.pre, hK, fun q h => Or.inr h⟩ hN ((name_of_methodNamed B.named B.method).1.trans hnm) ?_ hl ⟨hP, hD, va_S.rf⟩
  intro pc u H locs ls k n hdg hp hw9 hk hn
  refine W.widen hk hn ?_
  exact W.vret B.exec B.bytes B.returns (fun t ht hW => ⟨⟨u, rfl, hp, by rw [ht]; exact hw9.1, hw9.2.1⟩, hw9.2.2.F ht⟩) hw9.2.2.2.2 hdg B.notSynchronized
section GCT
variable {p : Program} {l : Launch} {e : Env} {R : Room} {s : State} {m : MethodId} {args : Array Value} {below : List Frame} {meth : Method} {c : Code} {H : Heap} {locs : List Loc} {cells slots : Nat} {Q : State → Prop}
variable {cc : ByteArray} {pc : Nat} {ls : Array Slot} {rest : List Value} {own : String} {nL : Nat} {Ts : List Cond} {D : va_G} {cy : Nat → ClassId} {A : Nat → Prop} {w : va_W} {a : Nat}
theorem gk_I {S : Type} {y : MethodName} {ws : List Cond} {rm : Room} {b : Nat} {As st0 : List Value} {P : S → Prop} {wf : S → va_W} {bytes : ByteArray} {maxL n index mc ms : Nat} {C : String} {lv : List (Nat × Value)} (X : gX p s m args meth c cc own nL Ts D cy A) (hN : gNest s) (hM : GKv l y ws rm D cy (.ref b :: As) w P wf mc ms) (F : gY y C bytes maxL none ws n) (hG : GoodIn Ts ws) (hini : Cond.initialized y.cls ∈ Ts) (hlk : Cond.methodLink own index y ∈ Ts) (hin : Cond.instanceMethod y ∈ Ts) (hnm : y.name = "<init>")
    (hrm : rm.cells = mc ∧ rm.slots = ms ∧ rm.frames + 1 ≤ R.frames ∧ 8 + (maxL + 11) + rm.locals ≤ R.locals) (hn : As.length = n) (hl : lv_has ls nL lv) (hst : st0 = As.reverse ++ .ref b :: rest) (hcat : (rest.map fun v => v.category).sum ≤ 8) (hdg : decode cc pc = .ok (.invokespecial index, 3)) (hcs : cells + mc ≤ R.cells ∧ slots + ms ≤ R.slots) (hw : gw D A s.heap w H locs)
    (kk : ∀ (u : S) (H1 : Heap) (locs1 : List Loc), P u → gw D A s.heap (wf u) H1 locs1 → W p l e R s m args below meth c H1 locs1 (cells + mc) (slots + ms) Q (F0 m (pc + 3) ls rest)) : W p l e R s m args below meth c H locs cells slots Q (F0 m pc ls st0) := by
  obtain ⟨hx, hb, hlk9, hml, hown, hts, hK, hA⟩ := X
  obtain ⟨hP, hD, hS⟩ := hw
  obtain ⟨⟨ws', hws⟩, -, hd⟩ := F
  have hF : ∀ q, va_A w H.size q → A q := gfree hD hS hA
  have hr := va_runI (R := R) (below := below) (e := e) (H := H) (locs := locs) (cells := cells) (slots := slots) (meth := meth) (As := As) (rest := rest) (g := F0 m pc ls st0) ⟨hx, hb, hml, hown, hts⟩ (hM H.size) (cwI (R := R) n hts hG hws hrm.1 hrm.2.1 (hts _ hini) (hts _ hlk) (hts _ hin) hnm hd hrm.2.2) ⟨gblindN, fun U hU hW => ⟨rfl, ⟨by rw [hU], by rw [hU]; exact hP, va_K.moved hW.alike hK, hD.weaken (fun _ _ _ _ => trivial)⟩, hN.warm hW⟩⟩ rfl hn hl.1 hst (lv_room hcat) hdg hcs
  refine va_callv hr hS (fun q _ h => hF q h) hF (fun u t H1 locs1 ht hvm hp hB hz hk hS1 => ?_)
  exact kk u H1 locs1 hp ⟨by rw [← ht]; exact hB.1, hB.2.weaken (fun k q _ h => hF q.1 h), hS1⟩
theorem gk_IN {S : Type} {y : MethodName} {ws : List Cond} {rm : Room} {b : Nat} {As st0 : List Value} {P : S → Prop} {wf : S → va_W} {bytes : ByteArray} {maxL n index mc ms : Nat} {C host : String} {lv : List (Nat × Value)} (X : gX p s m args meth c cc own nL Ts D cy A) (hN : gNest s) (hM : GKv l y ws rm D cy (.ref b :: As) w P wf mc ms) (F : gY y C bytes maxL none ws n) (hG : GoodIn Ts ws) (hini : Cond.initialized y.cls ∈ Ts) (hlk : va_Nw (.methodLinkNest own index y host) s) (hin : Cond.instanceMethod y ∈ Ts) (hnm : y.name = "<init>")
    (hrm : rm.cells = mc ∧ rm.slots = ms ∧ rm.frames + 1 ≤ R.frames ∧ 8 + (maxL + 11) + rm.locals ≤ R.locals) (hn : As.length = n) (hl : lv_has ls nL lv) (hst : st0 = As.reverse ++ .ref b :: rest) (hcat : (rest.map fun v => v.category).sum ≤ 8) (hdg : decode cc pc = .ok (.invokespecial index, 3)) (hcs : cells + mc ≤ R.cells ∧ slots + ms ≤ R.slots) (hw : gw D A s.heap w H locs)
    (kk : ∀ (u : S) (H1 : Heap) (locs1 : List Loc), P u → gw D A s.heap (wf u) H1 locs1 → W p l e R s m args below meth c H1 locs1 (cells + mc) (slots + ms) Q (F0 m (pc + 3) ls rest)) : W p l e R s m args below meth c H locs cells slots Q (F0 m pc ls st0) := by
  obtain ⟨hx, hb, hlk9, hml, hown, hts, hK, hA⟩ := X
  obtain ⟨hP, hD, hS⟩ := hw
  obtain ⟨⟨ws', hws⟩, -, hd⟩ := F
  have hF : ∀ q, va_A w H.size q → A q := gfree hD hS hA
  have hr := va_runIN (R := R) (below := below) (e := e) (H := H) (locs := locs) (cells := cells) (slots := slots) (meth := meth) (As := As) (rest := rest) (g := F0 m pc ls st0) ⟨hx, hb, hml, hown, hts⟩ (hM H.size) ⟨va_cnB (R := R) n hts hG hws hrm.1 hrm.2.1 hlk (hts _ hini) hd hrm.2.2, hnm, hts _ hin⟩ ⟨gblindN, fun U hU hW => ⟨rfl, ⟨by rw [hU], by rw [hU]; exact hP, va_K.moved hW.alike hK, hD.weaken (fun _ _ _ _ => trivial)⟩, hN.warm hW⟩⟩ rfl hn hl.1 hst (lv_room hcat) hdg hcs
  refine va_callv hr hS (fun q _ h => hF q h) hF (fun u t H1 locs1 ht hvm hp hB hz hk hS1 => ?_)
  exact kk u H1 locs1 hp ⟨by rw [← ht]; exact hB.1, hB.2.weaken (fun k q _ h => hF q.1 h), hS1⟩
theorem g_new {C : String} {T : u_T} {N ci index : Nat} (X : gX p s m args meth c cc own nL Ts D cy A) (hin : ∀ w ∈ u_ws C T N, w ∈ Ts) (ty : Nat → FieldType) (hty : ∀ k, k < N → parseFieldDescriptor (T k).2.2.1 = some (ty k)) (hcl : Cond.classLink own index C ∈ Ts) (hinst : Cond.instantiable C N ∈ Ts) (hini : Cond.initialized C ∈ Ts) (hw : gw D A s.heap w H locs) (hc : vwCl[ci]? = some (C, T, N)) {fs : List Value} (hfs : (List.range N).all (fun j => decide (defaultValue (ty j) = vp_V fs j)) = true) (hcells : cells + 1 ≤ R.cells) (hslots : slots + N ≤ R.slots) (hdg : decode cc pc = .ok (.new index, 3))
    (kk : ∀ (q : Nat) (H1 : Heap), gw D A s.heap ((q, .inr (ci, fs)) :: w) H1 locs → W p l e R s m args below meth c H1 locs (cells + 1) (slots + N) Q (F0 m (pc + 3) ls (.ref q :: rest))) : W p l e R s m args below meth c H locs cells slots Q (F0 m pc ls rest) := by
  have hf : ∀ j, j < N → defaultValue (ty j) = vp_V fs j := fun j hj => of_decide_eq_true (List.all_eq_true.mp hfs j (List.mem_range.mpr hj))
  refine va_new X.1 X.2.1 X.2.2.2.2.2.1 hin ty hty X.2.2.2.2.1 (X.2.2.2.2.2.1 _ hcl) (X.2.2.2.2.2.1 _ hinst) (X.2.2.2.2.2.1 _ hini) X.2.2.2.2.2.2.1 hw.1 hw.2.1 hw.2.2 X.2.2.2.2.2.2.2 hc hf hcells hslots hdg (fun q H1 h1 h2 h3 => ?_)
  exact kk q H1 (gw_swap (a := w) (b := [(q, .inr (ci, fs))]) ⟨h1, h2, h3⟩)
theorem g_newa {atype : ArrayType} (X : gX p s m args meth c cc own nL Ts D cy A) (t0 : Nat) {ty : FieldType} (hty : newarray.typeOf atype = ty) (hT : (gTys cy)[t0]? = some (cy t0, ty)) (hsc : ∀ C, ty ≠ .object C) (harr : Cond.arrayClass ty ∈ Ts) (hw : gw D A s.heap w H locs) {n : Int32} {N' : Nat} {a0 : vp_A} (ha : ∀ cA : ClassId, vp_cell cA a0 = arrV cA N' (fun _ => defaultValue ty)) (hn : ¬ n < 0) (hN : n.toNatClampNeg = N') (hbytes : N' * componentBytes ty ≤ 536870912) (hcells : cells + 1 ≤ R.cells) (hslots : slots + N' ≤ R.slots) (hdg : decode cc pc = .ok (.newarray atype, 2))
    (kk : ∀ (q : Nat) (H1 : Heap), gw D A s.heap ((q, .inl (cy t0, a0)) :: w) H1 locs → W p l e R s m args below meth c H1 locs (cells + 1) (slots + N') Q (F0 m (pc + 2) ls (.ref q :: rest))) : W p l e R s m args below meth c H locs cells slots Q (F0 m pc ls (.int n :: rest)) := by
  have e1 : s.vm.findClass ("[" ++ ty.toString) = some (cy t0) := by
    have h9 := (X.2.2.2.2.2.2.1.2 t0 _ hT).2
    cases ty with
    | object C => exact absurd rfl (hsc C)
    | _ => exact h9
  subst hty
  refine va_newa X.1 X.2.1 (X.2.2.2.2.2.1 _ harr) rfl X.2.2.2.2.2.2.1 hw.1 hw.2.1 hw.2.2 X.2.2.2.2.2.2.2 ha hn hN hbytes hcells hslots hdg (fun q cA H1 hK1 h1 h2 h3 => ?_)
  have e2 : s.vm.findClass ("[" ++ (newarray.typeOf atype).toString) = some cA := by
    have h9 := (hK1.2 (gTys cy).length (cA, newarray.typeOf atype) (by simp)).2
    revert h9
    cases hq : newarray.typeOf atype with
    | object C => exact absurd hq (hsc C)
    | _ => exact fun h9 => h9
  have e3 : cA = cy t0 := Option.some.inj (e2.symm.trans e1)
  subst e3
  exact kk q H1 (gw_swap (a := w) (b := [(q, .inl (cy t0, a0))]) ⟨h1, h2, h3⟩)
theorem g_putF {C : String} {T : u_T} {N ci index : Nat} {ref : String} (X : gX p s m args meth c cc own nL Ts D cy A) (hin2 : meth.name = "<init>") (hin : ∀ w ∈ u_ws C T N, w ∈ Ts) (ty0 : Nat → FieldType) (hty : ∀ k, k < N → parseFieldDescriptor (T k).2.2.1 = some (ty0 k)) (hnm : ∀ a, a < N → ∀ b, b < N → a ≠ b → (T a).2.1 ≠ (T b).2.1) (hw : gw D A s.heap w H locs) (q0 : Nat) {fs : List Value} (he : w[q0]? = some (a, .inr (ci, fs))) (hc : vwCl[ci]? = some (C, T, N)) (k : Nat) (hk : k < N) (hlink : Cond.fieldLink own index ref (T k).2.1 (T k).2.2.1 ∈ Ts) (href : ref = (T k).1) (hfin : (T k).2.2.2 = true) (hdecl : (T k).1 = own) {v : Value} (hn : narrow (ty0 k) v = v) (hfit : fits (ty0 k) v = true) (hl : k < fs.length) {w' : va_W} (hset : w.set q0 (a, .inr (ci, fs.set k v)) = w')
    (hdg : decode cc pc = .ok (.putfield index, 3)) (kk : ∀ (H1 : Heap) (locs1 : List Loc), gw D A s.heap w' H1 locs1 → W p l e R s m args below meth c H1 locs1 cells slots Q (F0 m (pc + 3) ls rest)) : W p l e R s m args below meth c H locs cells slots Q (F0 m pc ls (v :: .ref a :: rest)) := by
  subst href
  subst hset
  exact va_putF X.1 X.2.1 X.2.2.2.2.2.1 hin ty0 hty hnm X.2.2.2.2.1 X.2.2.2.2.2.2.1 hw.1 hw.2.1 hw.2.2 q0 he hc k hk (X.2.2.2.2.2.1 _ hlink) (fun _ h => h) hfin hin2 hdecl (hty k hk) hn hfit hl hdg (fun H1 locs1 h1 h2 h3 => kk H1 locs1 ⟨h1, h2, h3⟩)
end GCT

