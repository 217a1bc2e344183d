/-! ===== making: arrays, objects, constructors ===== -/
theorem va_RA_inj {U : State} {ty : FieldType} (hno : ∀ C, ty ≠ .object C) {c1 c2 : ClassId} (h1 : va_RA U c1 ty) (h2 : va_RA U c2 ty) : c1 = c2 := by
  cases ty with
  | object C => exact absurd rfl (hno C)
  | _ => exact Option.some.inj (Eq.trans (Eq.symm h1) h2)
abbrev mQc {S : Type} (post : S → Prop) (wf : S → va_W) (ad : S → List Nat) (D : va_G) (A : Nat → Prop) : Array Value → State → Outcome → State → Prop := va_Qv post (fun u t => va_P D vqCl (wf u) t.heap ∧ mD A (ad u)) A
section Making
variable {p : Program} {l : Launch} {e : Env} {R : Room} {s : State} {m : MethodId} {args : Array Value} {below : List Frame} {meth : Method} {c : Code} {H H0 : Heap} {locs : List Loc} {cells slots : Nat} {Q : State → Prop} {A0 : Nat → Prop}
variable {y : MethodName} {bytes cc : ByteArray} {maxL nL mc ms n index pc : Nat} {ret : Option FieldType} {ws' : List Cond} {rm : Room} {Ts : List Cond} {own C : String} {b : Addr} {As rest st0 : List Value} {ls : Array Slot} {D : va_G} {tys : List (ClassId × FieldType)} {ws wc wr : va_W} {as : List Nat} {lv : List (Nat × Value)} {S : Type} {qf : Nat}
theorem mNewA {atype : ArrayType} {ty : FieldType} (t0 : Nat) {cX : ClassId} (ht : tys[t0]? = some (cX, ty)) (hno : ∀ C, ty ≠ .object C) (hexec : p.tables.exec = Jvm.exec) (hb : c.code = cc) (harr : (Cond.arrayClass (newarray.typeOf atype)).before args s = true) (hty : newarray.typeOf atype = ty)
    (hK : va_K D vqCl tys s) (hP : va_P D vqCl ws H) (hD : mD A0 as) (has : ws.map Prod.fst = as) (hS : va_S A0 H0 H locs) (hA : ∀ q, H0.size ≤ q → A0 q)
    {n : Int32} {N' : Nat} {a0 : vp_A} (ha : ∀ cA : ClassId, vp_cell cA a0 = arrV cA N' (fun _ => defaultValue ty)) (hn : ¬ n < 0) (hN : n.toNatClampNeg = N') (hbytes : N' * componentBytes ty ≤ 536870912) (hcells : cells + 1 ≤ R.cells) (hslots : slots + N' ≤ R.slots) (hdg : decode cc pc = .ok (.newarray atype, 2))
    (kk : ∀ (q : Nat) (H1 : Heap), va_P D vqCl (ws ++ [(q, .inl (cX, a0))]) H1 → mD A0 (as ++ [q]) → va_S A0 H0 H1 locs → W p l e R s m args below meth c H1 locs (cells + 1) (slots + N') Q (F0 m (pc + 2) ls (.ref q :: rest))) :
    W p l e R s m args below meth c H locs cells slots Q (F0 m pc ls (.int n :: rest)) := by
  refine va_newa hexec hb harr hty hK hP (hD.to has) hS hA ha hn hN hbytes hcells hslots hdg (fun q cA H1 hK1 hP1 hD1 hS1 => ?_)
  have e : cA = cX := by
    have h1 := (hK1.2 tys.length (cA, ty) (by simp)).2
    exact va_RA_inj hno h1 (hK.2 t0 (cX, ty) ht).2
  subst e
  refine kk q H1 hP1 ?_ hS1
  have := mD.of hD1
  rw [List.map_append, has] at this
  exact this
theorem mNewO {own C : String} {T : u_T} {N ci index : Nat} (hexec : p.tables.exec = Jvm.exec) (hb : c.code = cc) (hts : ∀ w ∈ Ts, w.before args s = true) (hin : ∀ w ∈ u_ws C T N, w ∈ Ts) (ty : Nat → FieldType) (hty : ∀ k, k < N → parseFieldDescriptor (T k).2.2.1 = some (ty k)) (hown : s.vm.findClass own = some m.cls) (hcl : (Cond.classLink own index C).before args s = true) (hinst : (Cond.instantiable C N).before args s = true) (hini : (Cond.initialized C).before args s = true)
    (hK : va_K D vqCl tys s) (hP : va_P D vqCl ws H) (hD : mD A0 as) (has : ws.map Prod.fst = as) (hS : va_S A0 H0 H locs) (hA : ∀ q, H0.size ≤ q → A0 q) (hc : vqCl[ci]? = some (C, T, N)) {fs : List Value} (hfs : ∀ j, j < N → defaultValue (ty j) = vp_V fs j) (hcells : cells + 1 ≤ R.cells) (hslots : slots + N ≤ R.slots) (hdg : decode cc pc = .ok (.new index, 3))
    (kk : ∀ (q : Nat) (H1 : Heap), va_P D vqCl (ws ++ [(q, .inr (ci, fs))]) H1 → mD A0 (as ++ [q]) → va_S A0 H0 H1 locs → W p l e R s m args below meth c H1 locs (cells + 1) (slots + N) Q (F0 m (pc + 3) ls (.ref q :: rest))) :
    W p l e R s m args below meth c H locs cells slots Q (F0 m pc ls rest) := by
  refine va_new hexec hb hts hin ty hty hown hcl hinst hini hK hP (hD.to has) hS hA hc hfs hcells hslots hdg (fun q H1 hP1 hD1 hS1 => ?_)
  refine kk q H1 hP1 ?_ hS1
  have := mD.of hD1
  rw [List.map_append, has] at this
  exact this
/-- behind a constructor: its things stand behind the rest -/
theorem mCv {post : S → Prop} {wf : S → va_W} {ad : S → List Nat} {a : Array Value} (hr : va_Run p l e R s m args below meth c H locs cells slots mc ms (F0 m pc ls st0) rest (mQc post wf ad D (va_A wc H.size) a) (va_A wc H.size))
    (hP : va_P D vqCl ws H) (hD : mD A0 as) (has : ws.map Prod.fst = as) (hS : va_S A0 H0 H locs) (hA : ∀ q, H0.size ≤ q → A0 q) (isC isR : List Nat) (hC : isC.map (fun i => ws[i]?) = wc.map some) (hR : isR.map (fun i => ws[i]?) = wr.map some) (hn : va_nd isR = true) (hdis : ∀ i ∈ isR, i ∉ isC) (hw1 : ∀ u, (wf u).map Prod.fst = ad u)
    (kk : ∀ (u : S) (H1 : Heap) (locs1 : List Loc), post u → va_P D vqCl (wr ++ wf u) H1 → mD A0 (wr.map Prod.fst ++ ad u) → va_S A0 H0 H1 locs1 → W p l e R s m args below meth c H1 locs1 (cells + mc) (slots + ms) Q (F0 m (pc + 3) ls rest)) : W p l e R s m args below meth c H locs cells slots Q (F0 m pc ls st0) := by
  have hFc := va_free (hD.to has) hS hA isC hC
  refine va_callv hr hS (fun q _ h => hFc q h) hFc (fun u t H1 locs ht hvm hw hB hz1 hk1 hS => ?_)
  obtain ⟨hP1, hD1⟩ := hB
  rw [ht] at hP1
  have hj := va_join hP (hD.to has) isC isR hC hR hn hdis hk1 hFc hP1 (hD1.to (hw1 u))
  refine kk u H1 locs hw hj.1 ?_ hS
  have := mD.of hj.2
  rw [List.map_append, hw1 u] at this
  exact this
end Making
theorem rg.zero (n : Nat) : rg 0 0 n (fun _ => (0 : Int32)) := fun _ _ => (by decide : (0 : Int) ≤ (0 : Int32).toInt ∧ (0 : Int32).toInt ≤ 0)
theorem pAt {D : va_G} {ws : va_W} {t : State} {H : Heap} (ht : t.heap = H) (hP : va_P D vqCl ws H) : va_P D vqCl ws t.heap := by rw [ht]; exact hP
theorem pf_0 {f : Nat → Int32} {c : Int} : ∀ j : Nat, (j : Int) < (0 : Int32).toInt → (f j).toInt = c := by
  intro j hj
  have e : (0 : Int32).toInt = 0 := by decide
  omega
