/-! ===== methods that may throw ===== -/
abbrev mX {S : Type} (Es : List String) (px : S → Prop) (wf : S → va_W) (D : va_G) (A : Nat → Prop) : String → State → State → Prop := vx_X px (fun E u t => E ∈ Es ∧ va_P D vqCl (wf u) t.heap) A
theorem mMetX {qf : Nat} {l : Launch} {y : MethodName} {ws ws' : List Cond} {rm : Room} {own : String} {cc : ByteArray} {maxL : Nat} {ret : Option FieldType} {av : List Value} {sz : Nat} {D : va_G} {tys : List (ClassId × FieldType)} {wc : va_W} {Qc : (Nat → Prop) → Array Value → State → Outcome → State → Prop} {XC : (Nat → Prop) → String → State → State → Prop} {mc ms : Nat}
    (hy : plainName y.cls = true) (hw : ws = Cond.code y cc maxL ret :: ws') (ho : y.cls = own) (hav : (lg_sl av).length ≤ maxL)
    (body : ∀ (p : Program) (e : Env) (s : State) (m : MethodId) (args : Array Value) (below : List Frame) (meth : Method) (c : Code), p.tables.exec = Jvm.exec → c.code = cc → meth.sig.returnType = ret → (∀ w ∈ ws, w.before args s = true) → s.vm.findClass own = some m.cls → c.maxLocals = maxL → meth.locks = false → (∀ x ∈ c.exceptionTable.toList, False) →
      ∀ A : Nat → Prop, s.heap.size = sz → va_P D vqCl wc s.heap → va_K D vqCl tys s → mD A (wc.map Prod.fst) → va_S A s.heap s.heap [] → (∀ q, s.heap.size ≤ q → A q) → mE qf A s s.heap → ∀ ls : Array Slot, lv_has ls maxL (lv_args 0 av) → ∀ Q : State → Prop, vx_MQ below (Qc A) (XC A) args s mc ms A = Q →
      W p l e rm s m args below meth c s.heap [] 0 0 Q (F0 m 0 ls [])) :
    vx_Met l y ws rm (mPre qf av sz D tys wc) (Qc (va_A wc sz)) (XC (va_A wc sz)) mc ms (va_A wc sz) := by
  refine vx_ofW (cc := cc) (maxL := maxL) (ret := ret) hy hw ?_
  intro p e s m args below meth c s₁ B hml hno hv
  obtain ⟨rfl, hsz, hP, hK, hD0, hE⟩ := hv
  have hts := atoms_spec (ws := ws) B.pre
  have hown : s.vm.findClass own = some m.cls := by rw [← ho]; exact findClass_of_methodNamed B.named
  subst hsz
  have hl := lv_entry av (n := maxL) hav
  rw [lg_entry_eq]
  exact body p e s m _ below meth c B.exec B.bytes B.returns hts hown hml B.notSynchronized hno (va_A wc s.heap.size) rfl hP hK (mD.of (hD0.self (sz := s.heap.size))) va_S.rf (fun q h => Or.inr h) hE _ hl _ rfl
theorem mMetH {qf : Nat} {l : Launch} {y : MethodName} {ws ws' : List Cond} {rm : Room} {own : String} {cc : ByteArray} {maxL : Nat} {ret : Option FieldType} {av : List Value} {sz : Nat} {D : va_G} {tys : List (ClassId × FieldType)} {wc : va_W} {Qc : (Nat → Prop) → Array Value → State → Outcome → State → Prop} {hh : List (Nat × Nat × Nat × Nat)} {XC : (Nat → Prop) → String → State → State → Prop} {mc ms : Nat}
    (hy : plainName y.cls = true) (hw : ws = Cond.codeWith y cc maxL ret hh :: ws') (ho : y.cls = own) (hav : (lg_sl av).length ≤ maxL)
    (body : ∀ (p : Program) (e : Env) (s : State) (m : MethodId) (args : Array Value) (below : List Frame) (meth : Method) (c : Code), p.tables.exec = Jvm.exec → c.code = cc → meth.sig.returnType = ret → (∀ w ∈ ws, w.before args s = true) → s.vm.findClass own = some m.cls → c.maxLocals = maxL → meth.locks = false → c.exceptionTable.toList = tableOf hh →
      ∀ A : Nat → Prop, s.heap.size = sz → va_P D vqCl wc s.heap → va_K D vqCl tys s → mD A (wc.map Prod.fst) → va_S A s.heap s.heap [] → (∀ q, s.heap.size ≤ q → A q) → mE qf A s s.heap → ∀ ls : Array Slot, lv_has ls maxL (lv_args 0 av) → ∀ Q : State → Prop, vx_MQ below (Qc A) (XC A) args s mc ms A = Q →
      W p l e rm s m args below meth c s.heap [] 0 0 Q (F0 m 0 ls [])) :
    vx_Met l y ws rm (mPre qf av sz D tys wc) (Qc (va_A wc sz)) (XC (va_A wc sz)) mc ms (va_A wc sz) := by
  refine vx_ofWH (cc := cc) (maxL := maxL) (ret := ret) hy hw ?_
  intro p e s m args below meth c s₁ B hml hv
  obtain ⟨rfl, hsz, hP, hK, hD0, hE⟩ := hv
  have hts := atoms_spec (ws := ws) B.pre
  have hown : s.vm.findClass own = some m.cls := by rw [← ho]; exact findClass_of_methodNamed B.named
  subst hsz
  have hl := lv_entry av (n := maxL) hav
  rw [lg_entry_eq]
  exact body p e s m _ below meth c B.exec B.bytes B.returns hts hown hml B.notSynchronized (vx_table (x := y) B (hts _ (by rw [hw]; exact List.mem_cons_self))) (va_A wc s.heap.size) rfl hP hK (mD.of (hD0.self (sz := s.heap.size))) va_S.rf (fun q h => Or.inr h) hE _ hl _ rfl
section CallsX
variable {p : Program} {l : Launch} {e : Env} {R : Room} {s : State} {m : MethodId} {args : Array Value} {below : List Frame} {meth : Method} {c : Code} {H H0 : Heap} {locs : List Loc} {cells slots : Nat} {Q : State → Prop} {A0 : Nat → Prop}
variable {y : MethodName} {bytes cc : ByteArray} {maxL nL mc ms n index pc : Nat} {ret : Option FieldType} {ws' : List Cond} {rm : Room} {Ts : List Cond} {own C : String} {b : Addr} {As rest st0 : List Value} {ls : Array Slot} {D : va_G} {tys : List (ClassId × FieldType)} {ws wc : va_W} {as : List Nat} {lv : List (Nat × Value)} {S SX : Type} {qf : Nat}
/-- what comes back of a thrown call -/
def mKx (p : Program) (l : Launch) (e : Env) (R : Room) (s : State) (m : MethodId) (args : Array Value) (below : List Frame) (meth : Method) (c : Code) (H0 : Heap) (A0 : Nat → Prop) (cells slots : Nat) (Q : State → Prop) (D : va_G) (ws : va_W) (ps : List Nat) (wx : SX → va_W) (Es : List String) (px : SX → Prop) (g : JFrame) : Prop :=
  ∀ (E : String) (ce : Cell) (q9 : Addr) (u : SX) (H1 : Heap) (locs1 : List Loc), px u → E ∈ Es → va_P D vqCl (mR ws ps (wx u)) H1 → va_S A0 H0 H1 locs1 → H1[q9]? = some ce → ce.vm = .none → s.vm.findClass E = some ce.cls → vx_W p l e R s m args below meth c H1 locs1 cells slots Q g q9
theorem mXVi {post : Int32 → S → Prop} {wf : S → va_W} {px : SX → Prop} {wx : SX → va_W} {Es : List String} (F : CallFix p m c cc nL s args Ts own) (hM : vx_Met l y ws' rm (mPre qf (.ref b :: As) H.size D tys wc) (mQi post wf D (va_A wc H.size)) (mX Es px wx D (va_A wc H.size)) mc ms (va_A wc H.size)) (cw : CallW R s args own C index y bytes maxL ret ws' rm mc ms n)
    (hE : mE qf A0 s H0) (hK : va_K D vqCl tys s) (hP : va_P D vqCl ws H) (hD : mD A0 as) (has : ws.map Prod.fst = as) (hS : va_S A0 H0 H locs) (hA : ∀ q, H0.size ≤ q → A0 q) (ps : List Nat) (hwc : ps.map (fun i => ws[i]?) = wc.map some) (hnd : va_nd ps = true)
    {qr cr : Nat} {r : vw_C} {fs : List Value} (hcr : vqCl[cr]? = some r) (hrr : r.1 = C) (her : ws[qr]? = some (b, .inr (cr, fs))) (hn : As.length = n) (hl : lv_has ls nL lv) (hst : st0 = As.reverse ++ .ref b :: rest) (hW : (rest.map fun v => v.category).sum ≤ 8) (hdg : decode cc pc = .ok (.invokevirtual index, 3)) (hf : cells + mc ≤ R.cells ∧ slots + ms ≤ R.slots) (hw1 : ∀ u, (wf u).map Prod.fst = wc.map Prod.fst) (hw2 : ∀ u, (wx u).map Prod.fst = wc.map Prod.fst)
    (kx : mKx p l e R s m args below meth c H0 A0 (cells + mc) (slots + ms) Q D ws ps wx Es px (F0 m pc ls rest))
    (kk : ∀ (r : Int32) (u : S) (H1 : Heap) (locs1 : List Loc), post r u → va_P D vqCl (mR ws ps (wf u)) H1 → va_S A0 H0 H1 locs1 → W p l e R s m args below meth c H1 locs1 (cells + mc) (slots + ms) Q (F0 m (pc + 3) ls (.int r :: rest))) : W p l e R s m args below meth c H locs cells slots Q (F0 m pc ls st0) := by
  have hFc := va_free (hD.to has) hS hA ps hwc
  refine vx_calli (vx_runV (As := As) (rest := rest) F hM cw (mPreV hE hS hA hK hP (hD.to has) ps hwc hnd hcr hrr her) rfl hn hl.1 hst (lv_room hW) hdg hf) hS (fun q _ h => hFc q h) hFc (fun q _ h => hFc q h) (fun E ce q9 u t H1 locs ht hvm hp hB hz1 hk1 hS h1 h2 h3 => ?_) (fun r u t H1 locs ht hvm hw hB hz1 hk1 hS => ?_)
  · obtain ⟨hE9, hB⟩ := hB
    rw [ht] at hB
    exact kx E ce q9 u H1 locs hp hE9 (mR_P hP (hD.to has) ps hwc (hw2 u) hk1 hB) hS h1 h2 h3
  · rw [ht] at hB
    exact kk r u H1 locs hw (mR_P hP (hD.to has) ps hwc (hw1 u) hk1 hB) hS
theorem mXVv {post : S → Prop} {wf : S → va_W} {px : SX → Prop} {wx : SX → va_W} {Es : List String} (F : CallFix p m c cc nL s args Ts own) (hM : vx_Met l y ws' rm (mPre qf (.ref b :: As) H.size D tys wc) (mQv post wf D (va_A wc H.size)) (mX Es px wx D (va_A wc H.size)) mc ms (va_A wc H.size)) (cw : CallW R s args own C index y bytes maxL ret ws' rm mc ms n)
    (hE : mE qf A0 s H0) (hK : va_K D vqCl tys s) (hP : va_P D vqCl ws H) (hD : mD A0 as) (has : ws.map Prod.fst = as) (hS : va_S A0 H0 H locs) (hA : ∀ q, H0.size ≤ q → A0 q) (ps : List Nat) (hwc : ps.map (fun i => ws[i]?) = wc.map some) (hnd : va_nd ps = true)
    {qr cr : Nat} {r : vw_C} {fs : List Value} (hcr : vqCl[cr]? = some r) (hrr : r.1 = C) (her : ws[qr]? = some (b, .inr (cr, fs))) (hn : As.length = n) (hl : lv_has ls nL lv) (hst : st0 = As.reverse ++ .ref b :: rest) (hW : (rest.map fun v => v.category).sum ≤ 8) (hdg : decode cc pc = .ok (.invokevirtual index, 3)) (hf : cells + mc ≤ R.cells ∧ slots + ms ≤ R.slots) (hw1 : ∀ u, (wf u).map Prod.fst = wc.map Prod.fst) (hw2 : ∀ u, (wx u).map Prod.fst = wc.map Prod.fst)
    (kx : mKx p l e R s m args below meth c H0 A0 (cells + mc) (slots + ms) Q D ws ps wx Es px (F0 m pc ls rest))
    (kk : ∀ (u : S) (H1 : Heap) (locs1 : List Loc), post u → va_P D vqCl (mR ws ps (wf u)) H1 → va_S A0 H0 H1 locs1 → W p l e R s m args below meth c H1 locs1 (cells + mc) (slots + ms) Q (F0 m (pc + 3) ls rest)) : W p l e R s m args below meth c H locs cells slots Q (F0 m pc ls st0) := by
  have hFc := va_free (hD.to has) hS hA ps hwc
  refine vx_callv (vx_runV (As := As) (rest := rest) F hM cw (mPreV hE hS hA hK hP (hD.to has) ps hwc hnd hcr hrr her) rfl hn hl.1 hst (lv_room hW) hdg hf) hS (fun q _ h => hFc q h) hFc (fun q _ h => hFc q h) (fun E ce q9 u t H1 locs ht hvm hp hB hz1 hk1 hS h1 h2 h3 => ?_) (fun u t H1 locs ht hvm hw hB hz1 hk1 hS => ?_)
  · obtain ⟨hE9, hB⟩ := hB
    rw [ht] at hB
    exact kx E ce q9 u H1 locs hp hE9 (mR_P hP (hD.to has) ps hwc (hw2 u) hk1 hB) hS h1 h2 h3
  · rw [ht] at hB
    exact kk u H1 locs hw (mR_P hP (hD.to has) ps hwc (hw1 u) hk1 hB) hS
theorem mXSv {post : S → Prop} {wf : S → va_W} {px : SX → Prop} {wx : SX → va_W} {Es : List String} (F : CallFix p m c cc nL s args Ts own) (hM : vx_Met l y ws' rm (mPre qf As H.size D tys wc) (mQv post wf D (va_A wc H.size)) (mX Es px wx D (va_A wc H.size)) mc ms (va_A wc H.size)) (cw : CallB R s args own index y bytes maxL ret ws' rm mc ms n ∧ (Cond.static y).before args s = true)
    (hE : mE qf A0 s H0) (hK : va_K D vqCl tys s) (hP : va_P D vqCl ws H) (hD : mD A0 as) (has : ws.map Prod.fst = as) (hS : va_S A0 H0 H locs) (hA : ∀ q, H0.size ≤ q → A0 q) (ps : List Nat) (hwc : ps.map (fun i => ws[i]?) = wc.map some) (hnd : va_nd ps = true)
    (hn : As.length = n) (hl : lv_has ls nL lv) (hst : st0 = As.reverse ++ rest) (hW : (rest.map fun v => v.category).sum ≤ 8) (hdg : decode cc pc = .ok (.invokestatic index, 3)) (hf : cells + mc ≤ R.cells ∧ slots + ms ≤ R.slots) (hw1 : ∀ u, (wf u).map Prod.fst = wc.map Prod.fst) (hw2 : ∀ u, (wx u).map Prod.fst = wc.map Prod.fst)
    (kx : mKx p l e R s m args below meth c H0 A0 (cells + mc) (slots + ms) Q D ws ps wx Es px (F0 m pc ls rest))
    (kk : ∀ (u : S) (H1 : Heap) (locs1 : List Loc), post u → va_P D vqCl (mR ws ps (wf u)) H1 → va_S A0 H0 H1 locs1 → W p l e R s m args below meth c H1 locs1 (cells + mc) (slots + ms) Q (F0 m (pc + 3) ls rest)) : W p l e R s m args below meth c H locs cells slots Q (F0 m pc ls st0) := by
  have hFc := va_free (hD.to has) hS hA ps hwc
  refine vx_callv (vx_runS (As := As) (rest := rest) F hM cw (mPreS hE hS hA hK hP (hD.to has) ps hwc hnd) rfl hn hl.1 hst (lv_room hW) hdg hf) hS (fun q _ h => hFc q h) hFc (fun q _ h => hFc q h) (fun E ce q9 u t H1 locs ht hvm hp hB hz1 hk1 hS h1 h2 h3 => ?_) (fun u t H1 locs ht hvm hw hB hz1 hk1 hS => ?_)
  · obtain ⟨hE9, hB⟩ := hB
    rw [ht] at hB
    exact kx E ce q9 u H1 locs hp hE9 (mR_P hP (hD.to has) ps hwc (hw2 u) hk1 hB) hS h1 h2 h3
  · rw [ht] at hB
    exact kk u H1 locs hw (mR_P hP (hD.to has) ps hwc (hw1 u) hk1 hB) hS
theorem mXWi {hh : List (Nat × Nat × Nat × Nat)} {post : Int32 → S → Prop} {wf : S → va_W} {px : SX → Prop} {wx : SX → va_W} (F : CallFix p m c cc nL s args Ts own) (hM : vx_Met l y ws' rm (mPre qf As H.size D tys wc) (mQi post wf D (va_A wc H.size)) (mX [] px wx D (va_A wc H.size)) mc ms (va_A wc H.size)) (cw : vx_CSW R s args own index y bytes maxL ret hh ws' rm mc ms n)
    (hE : mE qf A0 s H0) (hK : va_K D vqCl tys s) (hP : va_P D vqCl ws H) (hD : mD A0 as) (has : ws.map Prod.fst = as) (hS : va_S A0 H0 H locs) (hA : ∀ q, H0.size ≤ q → A0 q) (ps : List Nat) (hwc : ps.map (fun i => ws[i]?) = wc.map some) (hnd : va_nd ps = true)
    (hn : As.length = n) (hl : lv_has ls nL lv) (hst : st0 = As.reverse ++ rest) (hW : (rest.map fun v => v.category).sum ≤ 8) (hdg : decode cc pc = .ok (.invokestatic index, 3)) (hf : cells + mc ≤ R.cells ∧ slots + ms ≤ R.slots) (hw1 : ∀ u, (wf u).map Prod.fst = wc.map Prod.fst)
    (kk : ∀ (r : Int32) (u : S) (H1 : Heap) (locs1 : List Loc), post r u → va_P D vqCl (mR ws ps (wf u)) H1 → va_S A0 H0 H1 locs1 → W p l e R s m args below meth c H1 locs1 (cells + mc) (slots + ms) Q (F0 m (pc + 3) ls (.int r :: rest))) : W p l e R s m args below meth c H locs cells slots Q (F0 m pc ls st0) := by
  have hFc := va_free (hD.to has) hS hA ps hwc
  refine vx_calli (vx_runSX (As := As) (rest := rest) F hM cw (mPreS hE hS hA hK hP (hD.to has) ps hwc hnd) rfl hn hl.1 hst (lv_room hW) hdg hf) hS (fun q _ h => hFc q h) hFc (fun q _ h => hFc q h) (fun E ce q9 u t H1 locs ht hvm hp hB hz1 hk1 hS h1 h2 h3 => absurd hB.1 List.not_mem_nil) (fun r u t H1 locs ht hvm hw hB hz1 hk1 hS => ?_)
  rw [ht] at hB
  exact kk r u H1 locs hw (mR_P hP (hD.to has) ps hwc (hw1 u) hk1 hB) hS
theorem mXVf {post : UInt32 → S → Prop} {wf : S → va_W} {px : SX → Prop} {wx : SX → va_W} {Es : List String} (F : CallFix p m c cc nL s args Ts own) (hM : vx_Met l y ws' rm (mPre qf (.ref b :: As) H.size D tys wc) (mQf post wf D (va_A wc H.size)) (mX Es px wx D (va_A wc H.size)) mc ms (va_A wc H.size)) (cw : CallW R s args own C index y bytes maxL ret ws' rm mc ms n)
    (hE : mE qf A0 s H0) (hK : va_K D vqCl tys s) (hP : va_P D vqCl ws H) (hD : mD A0 as) (has : ws.map Prod.fst = as) (hS : va_S A0 H0 H locs) (hA : ∀ q, H0.size ≤ q → A0 q) (ps : List Nat) (hwc : ps.map (fun i => ws[i]?) = wc.map some) (hnd : va_nd ps = true)
    {qr cr : Nat} {r : vw_C} {fs : List Value} (hcr : vqCl[cr]? = some r) (hrr : r.1 = C) (her : ws[qr]? = some (b, .inr (cr, fs))) (hn : As.length = n) (hl : lv_has ls nL lv) (hst : st0 = As.reverse ++ .ref b :: rest) (hW : (rest.map fun v => v.category).sum ≤ 8) (hdg : decode cc pc = .ok (.invokevirtual index, 3)) (hf : cells + mc ≤ R.cells ∧ slots + ms ≤ R.slots) (hw1 : ∀ u, (wf u).map Prod.fst = wc.map Prod.fst) (hw2 : ∀ u, (wx u).map Prod.fst = wc.map Prod.fst)
    (kx : mKx p l e R s m args below meth c H0 A0 (cells + mc) (slots + ms) Q D ws ps wx Es px (F0 m pc ls rest))
    (kk : ∀ (r : UInt32) (u : S) (H1 : Heap) (locs1 : List Loc), post r u → va_P D vqCl (mR ws ps (wf u)) H1 → va_S A0 H0 H1 locs1 → W p l e R s m args below meth c H1 locs1 (cells + mc) (slots + ms) Q (F0 m (pc + 3) ls (.float r :: rest))) : W p l e R s m args below meth c H locs cells slots Q (F0 m pc ls st0) := by
  have hFc := va_free (hD.to has) hS hA ps hwc
  refine vx_callf (vx_runV (As := As) (rest := rest) F hM cw (mPreV hE hS hA hK hP (hD.to has) ps hwc hnd hcr hrr her) rfl hn hl.1 hst (lv_room hW) hdg hf) hS (fun q _ h => hFc q h) hFc (fun q _ h => hFc q h) (fun E ce q9 u t H1 locs ht hvm hp hB hz1 hk1 hS h1 h2 h3 => ?_) (fun r u t H1 locs ht hvm hw hB hz1 hk1 hS => ?_)
  · obtain ⟨hE9, hB⟩ := hB
    rw [ht] at hB
    exact kx E ce q9 u H1 locs hp hE9 (mR_P hP (hD.to has) ps hwc (hw2 u) hk1 hB) hS h1 h2 h3
  · rw [ht] at hB
    exact kk r u H1 locs hw (mR_P hP (hD.to has) ps hwc (hw1 u) hk1 hB) hS
theorem mXVd {post : UInt64 → S → Prop} {wf : S → va_W} {px : SX → Prop} {wx : SX → va_W} {Es : List String} (F : CallFix p m c cc nL s args Ts own) (hM : vx_Met l y ws' rm (mPre qf (.ref b :: As) H.size D tys wc) (mQd post wf D (va_A wc H.size)) (mX Es px wx D (va_A wc H.size)) mc ms (va_A wc H.size)) (cw : CallW R s args own C index y bytes maxL ret ws' rm mc ms n)
    (hE : mE qf A0 s H0) (hK : va_K D vqCl tys s) (hP : va_P D vqCl ws H) (hD : mD A0 as) (has : ws.map Prod.fst = as) (hS : va_S A0 H0 H locs) (hA : ∀ q, H0.size ≤ q → A0 q) (ps : List Nat) (hwc : ps.map (fun i => ws[i]?) = wc.map some) (hnd : va_nd ps = true)
    {qr cr : Nat} {r : vw_C} {fs : List Value} (hcr : vqCl[cr]? = some r) (hrr : r.1 = C) (her : ws[qr]? = some (b, .inr (cr, fs))) (hn : As.length = n) (hl : lv_has ls nL lv) (hst : st0 = As.reverse ++ .ref b :: rest) (hW : (rest.map fun v => v.category).sum ≤ 8) (hdg : decode cc pc = .ok (.invokevirtual index, 3)) (hf : cells + mc ≤ R.cells ∧ slots + ms ≤ R.slots) (hw1 : ∀ u, (wf u).map Prod.fst = wc.map Prod.fst) (hw2 : ∀ u, (wx u).map Prod.fst = wc.map Prod.fst)
    (kx : mKx p l e R s m args below meth c H0 A0 (cells + mc) (slots + ms) Q D ws ps wx Es px (F0 m pc ls rest))
    (kk : ∀ (r : UInt64) (u : S) (H1 : Heap) (locs1 : List Loc), post r u → va_P D vqCl (mR ws ps (wf u)) H1 → va_S A0 H0 H1 locs1 → W p l e R s m args below meth c H1 locs1 (cells + mc) (slots + ms) Q (F0 m (pc + 3) ls (.double r :: rest))) : W p l e R s m args below meth c H locs cells slots Q (F0 m pc ls st0) := by
  have hFc := va_free (hD.to has) hS hA ps hwc
  refine vx_calld (vx_runV (As := As) (rest := rest) F hM cw (mPreV hE hS hA hK hP (hD.to has) ps hwc hnd hcr hrr her) rfl hn hl.1 hst (lv_room hW) hdg hf) hS (fun q _ h => hFc q h) hFc (fun q _ h => hFc q h) (fun E ce q9 u t H1 locs ht hvm hp hB hz1 hk1 hS h1 h2 h3 => ?_) (fun r u t H1 locs ht hvm hw hB hz1 hk1 hS => ?_)
  · obtain ⟨hE9, hB⟩ := hB
    rw [ht] at hB
    exact kx E ce q9 u H1 locs hp hE9 (mR_P hP (hD.to has) ps hwc (hw2 u) hk1 hB) hS h1 h2 h3
  · rw [ht] at hB
    exact kk r u H1 locs hw (mR_P hP (hD.to has) ps hwc (hw1 u) hk1 hB) hS
theorem mXVl {post : Int64 → S → Prop} {wf : S → va_W} {px : SX → Prop} {wx : SX → va_W} {Es : List String} (F : CallFix p m c cc nL s args Ts own) (hM : vx_Met l y ws' rm (mPre qf (.ref b :: As) H.size D tys wc) (mQl post wf D (va_A wc H.size)) (mX Es px wx D (va_A wc H.size)) mc ms (va_A wc H.size)) (cw : CallW R s args own C index y bytes maxL ret ws' rm mc ms n)
    (hE : mE qf A0 s H0) (hK : va_K D vqCl tys s) (hP : va_P D vqCl ws H) (hD : mD A0 as) (has : ws.map Prod.fst = as) (hS : va_S A0 H0 H locs) (hA : ∀ q, H0.size ≤ q → A0 q) (ps : List Nat) (hwc : ps.map (fun i => ws[i]?) = wc.map some) (hnd : va_nd ps = true)
    {qr cr : Nat} {r : vw_C} {fs : List Value} (hcr : vqCl[cr]? = some r) (hrr : r.1 = C) (her : ws[qr]? = some (b, .inr (cr, fs))) (hn : As.length = n) (hl : lv_has ls nL lv) (hst : st0 = As.reverse ++ .ref b :: rest) (hW : (rest.map fun v => v.category).sum ≤ 8) (hdg : decode cc pc = .ok (.invokevirtual index, 3)) (hf : cells + mc ≤ R.cells ∧ slots + ms ≤ R.slots) (hw1 : ∀ u, (wf u).map Prod.fst = wc.map Prod.fst) (hw2 : ∀ u, (wx u).map Prod.fst = wc.map Prod.fst)
    (kx : mKx p l e R s m args below meth c H0 A0 (cells + mc) (slots + ms) Q D ws ps wx Es px (F0 m pc ls rest))
    (kk : ∀ (r : Int64) (u : S) (H1 : Heap) (locs1 : List Loc), post r u → va_P D vqCl (mR ws ps (wf u)) H1 → va_S A0 H0 H1 locs1 → W p l e R s m args below meth c H1 locs1 (cells + mc) (slots + ms) Q (F0 m (pc + 3) ls (.long r :: rest))) : W p l e R s m args below meth c H locs cells slots Q (F0 m pc ls st0) := by
  have hFc := va_free (hD.to has) hS hA ps hwc
  refine vx_calll (vx_runV (As := As) (rest := rest) F hM cw (mPreV hE hS hA hK hP (hD.to has) ps hwc hnd hcr hrr her) rfl hn hl.1 hst (lv_room hW) hdg hf) hS (fun q _ h => hFc q h) hFc (fun q _ h => hFc q h) (fun E ce q9 u t H1 locs ht hvm hp hB hz1 hk1 hS h1 h2 h3 => ?_) (fun r u t H1 locs ht hvm hw hB hz1 hk1 hS => ?_)
  · obtain ⟨hE9, hB⟩ := hB
    rw [ht] at hB
    exact kx E ce q9 u H1 locs hp hE9 (mR_P hP (hD.to has) ps hwc (hw2 u) hk1 hB) hS h1 h2 h3
  · rw [ht] at hB
    exact kk r u H1 locs hw (mR_P hP (hD.to has) ps hwc (hw1 u) hk1 hB) hS
end CallsX
theorem mTh {D : va_G} {A : Nat → Prop} {s t : State} {H : Heap} {locs : List Loc} {ws : va_W} (hP : va_P D vqCl ws H) (hS : va_S A s.heap H locs) (h1 : H.size ≤ t.heap.size) (h2 : ∀ q : Nat, q < H.size → t.heap[q]? = H[q]?) : va_P D vqCl ws t.heap ∧ va_F A s t :=
  ⟨hP.kept (fun k q hk => h2 q.1 (hP k q hk).lt), Nat.le_trans hS.1 h1, fun q hq hn => (h2 q (Nat.lt_of_lt_of_le hq hS.1)).trans (hS.2.1 q hq hn)⟩
theorem bad_118 : ∀ w ∈ (vx_atS RX11 118 "java/lang/IllegalStateException" ["java/lang/RuntimeException", "java/lang/Exception"]).filter (fun w => !goodWord w), w ∈ mEs.map (fun E => Cond.castable E E) ++ mDs.map (fun E => Cond.declares (Bundle.initS E)) := by decide +kernel
theorem ot_118 : ∀ w ∈ vx_atS RX11 118 "java/lang/IllegalStateException" ["java/lang/RuntimeException", "java/lang/Exception"], vx_ot w = true := by decide +kernel
theorem bad_142 : ∀ w ∈ (vx_atS RX11 142 "java/lang/UnsupportedOperationException" ["java/lang/RuntimeException", "java/lang/Exception"]).filter (fun w => !goodWord w), w ∈ mEs.map (fun E => Cond.castable E E) ++ mDs.map (fun E => Cond.declares (Bundle.initS E)) := by decide +kernel
theorem ot_142 : ∀ w ∈ vx_atS RX11 142 "java/lang/UnsupportedOperationException" ["java/lang/RuntimeException", "java/lang/Exception"], vx_ot w = true := by decide +kernel
theorem bad_165 : ∀ w ∈ (nx_atS RX11 165 "java/util/NoSuchElementException" ["java/lang/RuntimeException", "java/lang/Exception"]).filter (fun w => !goodWord w), w ∈ mEs.map (fun E => Cond.castable E E) ++ mDs.map (fun E => Cond.declares (Bundle.initS E)) := by decide +kernel
theorem ot_165 : ∀ w ∈ nx_atS RX11 165 "java/util/NoSuchElementException" ["java/lang/RuntimeException", "java/lang/Exception"], vx_ot w = true := by decide +kernel
theorem bad_215 : ∀ w ∈ (vx_atS RX11 215 "java/lang/IllegalArgumentException" ["java/lang/RuntimeException", "java/lang/Exception"]).filter (fun w => !goodWord w), w ∈ mEs.map (fun E => Cond.castable E E) ++ mDs.map (fun E => Cond.declares (Bundle.initS E)) := by decide +kernel
theorem ot_215 : ∀ w ∈ vx_atS RX11 215 "java/lang/IllegalArgumentException" ["java/lang/RuntimeException", "java/lang/Exception"], vx_ot w = true := by decide +kernel
theorem bad_257 : ∀ w ∈ (vx_atS RX11 257 "java/lang/IndexOutOfBoundsException" ["java/lang/RuntimeException", "java/lang/Exception"]).filter (fun w => !goodWord w), w ∈ mEs.map (fun E => Cond.castable E E) ++ mDs.map (fun E => Cond.declares (Bundle.initS E)) := by decide +kernel
theorem ot_257 : ∀ w ∈ vx_atS RX11 257 "java/lang/IndexOutOfBoundsException" ["java/lang/RuntimeException", "java/lang/Exception"], vx_ot w = true := by decide +kernel
theorem bad_343 : ∀ w ∈ (vx_atS RX11 343 "java/lang/ArithmeticException" ["java/lang/RuntimeException", "java/lang/Exception"]).filter (fun w => !goodWord w), w ∈ mEs.map (fun E => Cond.castable E E) ++ mDs.map (fun E => Cond.declares (Bundle.initS E)) := by decide +kernel
theorem ot_343 : ∀ w ∈ vx_atS RX11 343 "java/lang/ArithmeticException" ["java/lang/RuntimeException", "java/lang/Exception"], vx_ot w = true := by decide +kernel
/-- the words of a throw -/
theorem mHat {qf : Nat} {A : Nat → Prop} {s : State} {H : Heap} {args : Array Value} {L : List Cond} (hE : mE qf A s H) (h1 : ∀ w ∈ L.filter goodWord, w.before args s = true) (h2 : ∀ w ∈ L.filter (fun w => !goodWord w), w ∈ mEs.map (fun E => Cond.castable E E) ++ mDs.map (fun E => Cond.declares (Bundle.initS E))) : ∀ w ∈ L, w.before args s = true := by
  refine vx_hat h1 h2 (fun w hw => ?_)
  rcases List.mem_append.mp hw with hw | hw
  · obtain ⟨E, hE2, rfl⟩ := List.mem_map.mp hw
    exact va_Nw.use rfl (hE.2.2.2.2.2.2.1 E hE2)
  · obtain ⟨E, hE2, rfl⟩ := List.mem_map.mp hw
    exact va_Nw.use rfl (hE.2.2.2.2.2.2.2.2.1 E hE2)
theorem mOt {k c : Cond} {L : List Cond} (hk : vx_ot k = true) (hc : vx_ot c = true) (h : ∀ w ∈ L, vx_ot w = true) : ∀ w ∈ k :: c :: L, vx_ot w = true := fun w hw => (List.mem_cons.mp hw).elim (fun e => e ▸ hk) (fun hw => (List.mem_cons.mp hw).elim (fun e => e ▸ hc) (h w))
theorem mStrOf {qf : Nat} {A : Nat → Prop} {s : State} {H : Heap} (hE : mE qf A s H) (i : Nat) {x : String × Nat × String} (h : mStr[i]? = some x) : ∃ sa : Nat, vk_R x.1 x.2.1 x.2.2 sa s := hE.2.2.2.2.2.1 x (List.mem_of_getElem? h)
