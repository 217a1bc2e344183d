/-! ===== the verifier's own rows over the kit: worlds whose things keep their addresses ===== -/
/-- the classes whose objects the worlds hold -/
abbrev vqCl : List vw_C := [(RX0, TX0, 7), (RX1, TX1, 5), (RX2, TX2, 4), (RX3, TX3, 5), (RX4, TX4, 4), (RX5, TX5, 7), (RX6, TX6, 5), (RX7, TX7, 6), (RX8, TX8, 4), (RX9, TX9, 2), (RX10, TX10, 6), (RX11, TX11, 13), (RX12, TX12, 55)]
abbrev mT (cI cZ cC cJ cD : ClassId) : List (ClassId × FieldType) := [(cI, .int), (cZ, .boolean), (cC, .char), (cJ, .long), (cD, .double)]
def fRF : Nat → Int32 := fun j => match j with
  | 0 => 5
  | 1 => 7
  | 2 => 11
  | _ => 13
/-- the String constants of the class's throws: owner, place, text -/
def mStr : List (String × Nat × String) := [(RX11, 116, "the key is in use"), (RX11, 140, "all leases were given"), (RX11, 163, "no lease was given"), (RX11, 172, "the lease is not out, or was read"), (RX11, 198, "the lease was filled, or was not read"), (RX11, 213, "no such way"), (RX11, 220, "too many writes"), (RX11, 225, "too much is promised"), (RX11, 255, "no such group"), (RX11, 264, "the minutes are at their end"), (RX11, 280, "the cache is not down"), (RX11, 304, "the key is in neither memory nor flash"), (RX11, 312, "no such slot"), (RX11, 324, "no promise waits"), (RX11, 327, "no such message"), (RX11, 341, "nothing was asked"), (RX11, 347, "nothing was answered"), (RX11, 355, "no such key"), (RX11, 357, "no such segment"), (RX11, 359, "a number is out of range"), (RX11, 361, "no such lease"), (RX11, 363, "the cache is down"), (RX11, 368, "there is no last answer")]
/-- its nest mates' private constructors -/
def mNs : List (Nat × MethodName) := [(18, yX10_init), (25, yX7_init), (32, yX9_init), (39, yX6_init), (53, yX8_init), (60, yX5_init), (67, yX0_init), (74, yX1_init)]
/-- what it throws -/
def mEs : List String := ["java/lang/ArithmeticException", "java/lang/IllegalArgumentException", "java/lang/IllegalStateException", "java/lang/IndexOutOfBoundsException", "java/lang/UnsupportedOperationException", "java/util/NoSuchElementException"]
/-- whose constructors a throw goes through -/
def mDs : List String := ["java/lang/RuntimeException", "java/lang/Exception", "java/lang/Throwable"]
/-- classes of which the one is not the other's -/
def mNc : List (String × String) := [("java/lang/IllegalStateException", "java/lang/IndexOutOfBoundsException"), ("java/lang/IllegalArgumentException", "java/lang/IndexOutOfBoundsException"), ("java/lang/IllegalStateException", "java/lang/IllegalArgumentException"), ("java/lang/UnsupportedOperationException", "java/lang/IndexOutOfBoundsException"), ("java/lang/UnsupportedOperationException", "java/lang/IllegalArgumentException"), ("java/lang/UnsupportedOperationException", "java/lang/IllegalStateException"), ("java/util/NoSuchElementException", "java/lang/IndexOutOfBoundsException")]
/-- what stands around a method: the row of factors, what a throw needs -/
def mE (qf : Nat) (A : Nat → Prop) (U : State) (H : Heap) : Prop :=
  va_Z "SlipstreamCache" "ROW_FACTORS" "[I" (.ref qf) A U H ∧ va_T .int qf 4 (fun j => .int (fRF j)) A U H ∧
  vx_Zq Bundle.tN "UNASSIGNED_STACK" Bundle.steD A U H ∧ vx_Zq Bundle.tN "SUPPRESSED_SENTINEL" Bundle.listD A U H ∧
  va_Nw (.fieldLinkNest "SlipstreamCache$Sketch" 19 "SlipstreamCache" "ROW_FACTORS" "[I" "SlipstreamCache") U ∧ (∀ x ∈ mStr, ∃ sa : Nat, vk_R x.1 x.2.1 x.2.2 sa U) ∧ (∀ E ∈ mEs, va_Nw (.castable E E) U) ∧ (∀ x ∈ mNs, va_Nw (.methodLinkNest RX11 x.1 x.2 RX11) U) ∧ (∀ E ∈ mDs, va_Nw (.declares (Bundle.initS E)) U) ∧ ∀ x ∈ mNc, va_Nc x.1 x.2 U
theorem mE.moved {qf : Nat} {A : Nat → Prop} {u U : State} {H : Heap} (hW : u.WarmedH U.vm) (h : mE qf A u H) : mE qf A U H := by
  obtain ⟨h1, h2, h5, h6, h7, h8, h9, h10, h11, h12⟩ := h
  exact ⟨va_Z.moved hW.alike h1, va_T.moved hW.alike h2, vx_Zq.moved hW.alike h5, vx_Zq.moved hW.alike h6, va_Nw.warmF hW h7, fun x hx => by obtain ⟨sa, h⟩ := h8 x hx; exact ⟨sa, h.warm hW⟩, fun E hE => va_Nw.warmC hW (h9 E hE), fun x hx => va_Nw.warmM hW (h10 x hx), fun E hE => va_Nw.warmD hW (h11 E hE), fun x hx => va_Nc.moved hW.alike (h12 x hx)⟩
theorem mE.kept {qf : Nat} {A : Nat → Prop} {U : State} {H H1 : Heap} (h : mE qf A U H) (hq : ∀ a : Nat, a < H.size → ¬ A a → H1[a]? = H[a]?) : mE qf A U H1 := by
  obtain ⟨h1, h2, h5, h6, h7⟩ := h
  exact ⟨va_Z.kept h1 hq, va_T.kept h2 hq, vx_Zq.kept h5 hq, vx_Zq.kept h6 hq, h7⟩
theorem mE.narrow {qf : Nat} {A B : Nat → Prop} {U : State} {H : Heap} (h : mE qf A U H) (hAB : ∀ q, B q → A q) : mE qf B U H := by
  obtain ⟨h1, h2, h5, h6, h7⟩ := h
  exact ⟨va_Z.narrow h1 hAB, va_T.narrow h2 hAB, vx_Zq.narrow h5 hAB, vx_Zq.narrow h6 hAB, h7⟩
/-- addresses apart, and of a kind -/
def mD (A : Nat → Prop) (as : List Nat) : Prop := (∀ (i j a : Nat), as[i]? = some a → as[j]? = some a → i = j) ∧ ∀ a, a ∈ as → A a
theorem mD.to {A : Nat → Prop} {as : List Nat} {ws : va_W} (h : mD A as) (he : ws.map Prod.fst = as) : va_D A ws := by
  subst he
  refine ⟨fun i j p q hi hj hpq => ?_, fun k q hk => ?_⟩
  · refine h.1 i j p.1 ?_ ?_
    · rw [List.getElem?_map, hi]; rfl
    · rw [List.getElem?_map, hj, hpq]; rfl
  · exact h.2 _ (List.mem_map.mpr ⟨q, List.mem_of_getElem? hk, rfl⟩)
theorem mD.of {A : Nat → Prop} {ws : va_W} (h : va_D A ws) : mD A (ws.map Prod.fst) := by
  refine ⟨fun i j a hi hj => ?_, fun a ha => ?_⟩
  · rw [List.getElem?_map] at hi hj
    cases hp : ws[i]? with
    | none => rw [hp] at hi; cases hi
    | some p =>
      cases hq : ws[j]? with
      | none => rw [hq] at hj; cases hj
      | some q =>
        rw [hp] at hi; rw [hq] at hj
        exact h.1 i j p q hp hq ((Option.some.inj hi).trans (Option.some.inj hj).symm)
  · obtain ⟨q, hq, rfl⟩ := List.mem_map.mp ha
    obtain ⟨k, hk⟩ := List.getElem?_of_mem hq
    exact h.2 k q hk
/-- what is new at a place -/
def mF (k : Nat) : List Nat → va_W → Option (Nat × va_E)
  | p :: ps, q :: qs => bif Nat.beq k p then some q else mF k ps qs
  | _, _ => none
/-- some places of a world, counted from k on, have new things -/
def mRk : va_W → Nat → List Nat → va_W → va_W
  | [], _, _, _ => []
  | c :: ws, k, ps, qs => (mF k ps qs).getD c :: mRk ws (k + 1) ps qs
abbrev mR (ws : va_W) (ps : List Nat) (qs : va_W) : va_W := mRk ws 0 ps qs
theorem mF_some {k : Nat} {q : Nat × va_E} : ∀ (ps : List Nat) (qs : va_W), mF k ps qs = some q → q ∈ qs
  | [], _, h => by cases h
  | _ :: _, [], h => by cases h
  | p :: ps, c :: qs, h => by
    unfold mF at h
    cases hb : Nat.beq k p with
    | true => rw [hb] at h; cases h; exact List.mem_cons_self
    | false => rw [hb] at h; exact List.mem_cons_of_mem _ (mF_some ps qs h)
theorem mF_none {k : Nat} : ∀ (ps : List Nat) (qs : va_W), ps.length = qs.length → mF k ps qs = none → k ∉ ps
  | [], _, _, _ => List.not_mem_nil
  | _ :: _, [], h, _ => by cases h
  | p :: ps, c :: qs, hl, h => by
    unfold mF at h
    cases hb : Nat.beq k p with
    | true => rw [hb] at h; cases h
    | false =>
      rw [hb] at h
      intro hm
      rcases List.mem_cons.mp hm with e | e
      · subst e; rw [Nat.beq_refl] at hb; cases hb
      · exact mF_none ps qs (Nat.succ.inj hl) h e
theorem mRk_mem (ps : List Nat) (qs : va_W) (hl : ps.length = qs.length) : ∀ (ws : va_W) (k0 k : Nat) (q : Nat × va_E), (mRk ws k0 ps qs)[k]? = some q → q ∈ qs ∨ (ws[k]? = some q ∧ k0 + k ∉ ps)
  | [], _, _, _, h => by cases h
  | c :: ws, k0, 0, q, h => by
    have h1 : (mF k0 ps qs).getD c = q := Option.some.inj h
    cases hf : mF k0 ps qs with
    | some x => rw [hf] at h1; exact Or.inl (by rw [← h1]; exact mF_some ps qs hf)
    | none => rw [hf] at h1; exact Or.inr ⟨by rw [← h1]; rfl, mF_none ps qs hl hf⟩
  | c :: ws, k0, k + 1, q, h => by
    rcases mRk_mem ps qs hl ws (k0 + 1) k q h with h1 | ⟨h1, h2⟩
    · exact Or.inl h1
    · exact Or.inr ⟨h1, by rw [show k0 + (k + 1) = k0 + 1 + k by omega]; exact h2⟩
theorem mR_mem (ps : List Nat) (qs ws : va_W) (hl : ps.length = qs.length) (k : Nat) (q : Nat × va_E) (h : (mR ws ps qs)[k]? = some q) : q ∈ qs ∨ (ws[k]? = some q ∧ k ∉ ps) := by
  have := mRk_mem ps qs hl ws 0 k q h
  rw [Nat.zero_add] at this
  exact this
theorem mR_P {A : Nat → Prop} {D : va_G} {ws wc w1 : va_W} {H H1 : Heap} (hP : va_P D vqCl ws H) (hD : va_D A ws) (ps : List Nat) (hC : ps.map (fun i => ws[i]?) = wc.map some) (h1 : w1.map Prod.fst = wc.map Prod.fst)
    (hk : ∀ q : Nat, q < H.size → ¬ va_A wc H.size q → H1[q]? = H[q]?) (hP1 : va_P D vqCl w1 H1) : va_P D vqCl (mR ws ps w1) H1 := by
  have hlen : ps.length = w1.length := by
    have e1 := congrArg List.length hC
    have e2 := congrArg List.length h1
    simp only [List.length_map] at e1 e2
    rw [e1, e2]
  intro k q hq
  rcases mR_mem ps w1 ws hlen k q hq with h | ⟨h, hn⟩
  · obtain ⟨j, hj⟩ := List.getElem?_of_mem h
    exact hP1 j q hj
  · refine (hP k q h).kept (hk q.1 (hP k q h).lt ?_)
    rintro (⟨j, e, hj⟩ | hlt)
    · have h2 : (ps.map (fun i => ws[i]?))[j]? = some (some (q.1, e)) := by rw [hC, List.getElem?_map, hj]; rfl
      rw [List.getElem?_map] at h2
      cases hi : ps[j]? with
      | none => rw [hi] at h2; cases h2
      | some i =>
        rw [hi] at h2
        have h3 : ws[i]? = some (q.1, e) := Option.some.inj h2
        have := hD.1 i k (q.1, e) q h3 h rfl
        subst this
        exact hn (List.mem_of_getElem? hi)
    · exact absurd (hP k q h).lt (Nat.not_lt.mpr hlt)
/-- the start of a method: its arguments, its world -/
def mPre (qf : Nat) (av : List Value) (sz : Nat) (D : va_G) (tys : List (ClassId × FieldType)) (ws : va_W) : Array Value → State → Prop := va_Pc av (fun U => U.heap.size = sz ∧ va_P D vqCl ws U.heap ∧ va_K D vqCl tys U ∧ va_D (fun _ => True) ws ∧ mE qf (va_A ws sz) U U.heap)
theorem mPre.blind {qf : Nat} {av : List Value} {sz : Nat} {D : va_G} {tys : List (ClassId × FieldType)} {ws : va_W} : FrameBlind (mPre qf av sz D tys ws) := fun a U g mk q => by
  obtain ⟨q0, q1, qP, qK, qD, qE⟩ := q
  exact ⟨q0, q1, qP, va_K.moved (u := U) (U := U.calling g mk a) (Vm.Alike.refl U.vm) qK, qD, mE.moved (u := U) (U := U.calling g mk a) (State.WarmedH.refl U) qE⟩
abbrev mQi {S : Type} (post : Int32 → S → Prop) (wf : S → va_W) (D : va_G) (A : Nat → Prop) : Array Value → State → Outcome → State → Prop := va_Qi post (fun u t => va_P D vqCl (wf u) t.heap) A
abbrev mQv {S : Type} (post : S → Prop) (wf : S → va_W) (D : va_G) (A : Nat → Prop) : Array Value → State → Outcome → State → Prop := va_Qv post (fun u t => va_P D vqCl (wf u) t.heap) A
abbrev mQf {S : Type} (post : UInt32 → S → Prop) (wf : S → va_W) (D : va_G) (A : Nat → Prop) : Array Value → State → Outcome → State → Prop := va_Qf post (fun u t => va_P D vqCl (wf u) t.heap) A
abbrev mQd {S : Type} (post : UInt64 → S → Prop) (wf : S → va_W) (D : va_G) (A : Nat → Prop) : Array Value → State → Outcome → State → Prop := va_Qd post (fun u t => va_P D vqCl (wf u) t.heap) A
abbrev mQl {S : Type} (post : Int64 → S → Prop) (wf : S → va_W) (D : va_G) (A : Nat → Prop) : Array Value → State → Outcome → State → Prop := va_Ql post (fun u t => va_P D vqCl (wf u) t.heap) A
theorem mMet {qf : Nat} {l : Launch} {y : MethodName} {ws ws' : List Cond} {rm : Room} {own : String} {cc : ByteArray} {maxL : Nat} {ret : Option FieldType} {av : List Value} {sz : Nat} {D : va_G} {tys : List (ClassId × FieldType)} {wc : va_W} {Qc : (Nat → Prop) → Array Value → State → Outcome → State → Prop} {mc ms : Nat}
    (hy : plainName y.cls = true) (hw : ws = Cond.code y cc maxL ret :: ws') (ho : y.cls = own) (hav : (lg_sl av).length ≤ maxL)
    (body : ∀ (p : Program) (e : Env) (s : State) (m : MethodId) (args : Array Value) (below : List Frame) (meth : Method) (c : Code), p.tables.exec = Jvm.exec → c.code = cc → meth.sig.returnType = ret → (∀ w ∈ ws, w.before args s = true) → s.vm.findClass own = some m.cls → c.maxLocals = maxL → meth.locks = false →
      ∀ A : Nat → Prop, s.heap.size = sz → va_P D vqCl wc s.heap → va_K D vqCl tys s → mD A (wc.map Prod.fst) → va_S A s.heap s.heap [] → (∀ q, s.heap.size ≤ q → A q) → mE qf A s s.heap → ∀ ls : Array Slot, lv_has ls maxL (lv_args 0 av) → ∀ Q : State → Prop, MQ below (Qc A) args s mc ms A = Q →
      W p l e rm s m args below meth c s.heap [] 0 0 Q (F0 m 0 ls [])) :
    Met l y ws rm (mPre qf av sz D tys wc) (Qc (va_A wc sz)) mc ms (va_A wc sz) := by
  refine Met.ofW (cc := cc) (maxL := maxL) (ret := ret) hy hw ?_
  intro p e s m args below meth c s₁ B hml hv
  obtain ⟨rfl, hsz, hP, hK, hD0, hE⟩ := hv
  have hts := atoms_spec (ws := ws) B.pre
  have hown : s.vm.findClass own = some m.cls := by rw [← ho]; exact findClass_of_methodNamed B.named
  subst hsz
  have hl := lv_entry av (n := maxL) hav
  rw [lg_entry_eq]
  exact body p e s m _ below meth c B.exec B.bytes B.returns hts hown hml B.notSynchronized (va_A wc s.heap.size) rfl hP hK (mD.of (hD0.self (sz := s.heap.size))) va_S.rf (fun q h => Or.inr h) hE _ hl _ rfl
theorem mMetC {qf : Nat} {l : Launch} {y : MethodName} {ws ws' : List Cond} {rm : Room} {own : String} {cc : ByteArray} {maxL : Nat} {ret : Option FieldType} {av : List Value} {sz : Nat} {D : va_G} {tys : List (ClassId × FieldType)} {wc : va_W} {Qc : (Nat → Prop) → Array Value → State → Outcome → State → Prop} {mc ms : Nat}
    (hy : plainName y.cls = true) (hw : ws = Cond.code y cc maxL ret :: ws') (ho : y.cls = own) (hav : (lg_sl av).length ≤ maxL)
    (body : ∀ (p : Program) (e : Env) (s : State) (m : MethodId) (args : Array Value) (below : List Frame) (meth : Method) (c : Code), p.tables.exec = Jvm.exec → c.code = cc → meth.sig.returnType = ret → (∀ w ∈ ws, w.before args s = true) → s.vm.findClass own = some m.cls → c.maxLocals = maxL → meth.locks = false → meth.name = y.name →
      ∀ A : Nat → Prop, s.heap.size = sz → va_P D vqCl wc s.heap → va_K D vqCl tys s → mD A (wc.map Prod.fst) → va_S A s.heap s.heap [] → (∀ q, s.heap.size ≤ q → A q) → mE qf A s s.heap → ∀ ls : Array Slot, lv_has ls maxL (lv_args 0 av) → ∀ Q : State → Prop, MQ below (Qc A) args s mc ms A = Q →
      W p l e rm s m args below meth c s.heap [] 0 0 Q (F0 m 0 ls [])) :
    Met l y ws rm (mPre qf av sz D tys wc) (Qc (va_A wc sz)) mc ms (va_A wc sz) := by
  refine Met.ofW (cc := cc) (maxL := maxL) (ret := ret) hy hw ?_
  intro p e s m args below meth c s₁ B hml hv
  obtain ⟨rfl, hsz, hP, hK, hD0, hE⟩ := hv
  have hts := atoms_spec (ws := ws) B.pre
  have hown : s.vm.findClass own = some m.cls := by rw [← ho]; exact findClass_of_methodNamed B.named
  subst hsz
  have hl := lv_entry av (n := maxL) hav
  rw [lg_entry_eq]
  exact body p e s m _ below meth c B.exec B.bytes B.returns hts hown hml B.notSynchronized (name_of_methodNamed B.named B.method).1 (va_A wc s.heap.size) rfl hP hK (mD.of (hD0.self (sz := s.heap.size))) va_S.rf (fun q h => Or.inr h) hE _ hl _ rfl
section Calls
variable {p : Program} {l : Launch} {e : Env} {R : Room} {s : State} {m : MethodId} {args : Array Value} {below : List Frame} {meth : Method} {c : Code} {H H0 : Heap} {locs : List Loc} {cells slots : Nat} {Q : State → Prop} {A0 : Nat → Prop}
variable {y : MethodName} {bytes cc : ByteArray} {maxL nL mc ms n index pc : Nat} {ret : Option FieldType} {ws' : List Cond} {rm : Room} {Ts : List Cond} {own C : String} {b : Addr} {As rest st0 : List Value} {ls : Array Slot} {D : va_G} {tys : List (ClassId × FieldType)} {ws wc : va_W} {as : List Nat} {lv : List (Nat × Value)} {S : Type} {qf : Nat}
theorem mPreE (hE : mE qf A0 s H0) (hD : va_D A0 ws) (hS : va_S A0 H0 H locs) (hA : ∀ q, H0.size ≤ q → A0 q) (ps : List Nat) (hwc : ps.map (fun i => ws[i]?) = wc.map some) {U : State} (hW : s.WarmedH U.vm) : mE qf (va_A wc H.size) U H :=
  ((hE.kept hS.2.1).narrow (va_free hD hS hA ps hwc)).moved hW
theorem mPreV (hE : mE qf A0 s H0) (hS : va_S A0 H0 H locs) (hA : ∀ q, H0.size ≤ q → A0 q) (hK : va_K D vqCl tys s) (hP : va_P D vqCl ws H) (hD : va_D A0 ws) (ps : List Nat) (hwc : ps.map (fun i => ws[i]?) = wc.map some) (hnd : va_nd ps = true) {qr cr : Nat} {r : vw_C} {fs : List Value} (hcr : vqCl[cr]? = some r) (hrr : r.1 = C) (her : ws[qr]? = some (b, .inr (cr, fs))) :
    PreV s H C b (mPre qf (.ref b :: As) H.size D tys wc) As := by
  refine ⟨mPre.blind, ?_, fun U hU hW => ⟨rfl, by rw [hU], ?_, va_K.moved hW.alike hK, (hD.sub ps hnd hwc).weaken (fun _ _ _ _ => trivial), by rw [hU]; exact mPreE hE hD hS hA ps hwc hW⟩⟩
  · have := va_recv hK hP (ci := cr) (q0 := qr) hcr her
    rw [hrr] at this
    exact this
  · rw [hU]
    refine hP.sub ps ?_
    have : ∀ (l : List Nat) (w : va_W), l.map (fun i => ws[i]?) = w.map some → l.filterMap (fun i => ws[i]?) = w := by
      intro l
      induction l with
      | nil => intro w hw; cases w with
        | nil => rfl
        | cons a w => cases hw
      | cons i l ih => intro w hw; cases w with
        | nil => cases hw
        | cons a w =>
          simp only [List.map_cons, List.cons.injEq] at hw
          simp only [List.filterMap_cons, hw.1, ih w hw.2]
    exact this ps wc hwc
theorem mPreS (hE : mE qf A0 s H0) (hS : va_S A0 H0 H locs) (hA : ∀ q, H0.size ≤ q → A0 q) (hK : va_K D vqCl tys s) (hP : va_P D vqCl ws H) (hD : va_D A0 ws) (ps : List Nat) (hwc : ps.map (fun i => ws[i]?) = wc.map some) (hnd : va_nd ps = true) :
    PreS s H (mPre qf As H.size D tys wc) As := by
  refine ⟨mPre.blind, fun U hU hW => ⟨rfl, by rw [hU], ?_, va_K.moved hW.alike hK, (hD.sub ps hnd hwc).weaken (fun _ _ _ _ => trivial), by rw [hU]; exact mPreE hE hD hS hA ps hwc hW⟩⟩
  rw [hU]
  refine hP.sub ps ?_
  have : ∀ (l : List Nat) (w : va_W), l.map (fun i => ws[i]?) = w.map some → l.filterMap (fun i => ws[i]?) = w := by
    intro l
    induction l with
    | nil => intro w hw; cases w with
      | nil => rfl
      | cons a w => cases hw
    | cons i l ih => intro w hw; cases w with
      | nil => cases hw
      | cons a w =>
        simp only [List.map_cons, List.cons.injEq] at hw
        simp only [List.filterMap_cons, hw.1, ih w hw.2]
  exact this ps wc hwc
theorem mVi {post : Int32 → S → Prop} {wf : S → va_W} (F : CallFix p m c cc nL s args Ts own) (hM : Met l y ws' rm (mPre qf (.ref b :: As) H.size D tys wc) (mQi post wf D (va_A wc H.size)) mc ms (va_A wc H.size)) (cw : CallW R s args own C index y bytes maxL ret ws' rm mc ms n)
    (hE : mE qf A0 s H0) (hK : va_K D vqCl tys s) (hP : va_P D vqCl ws H) (hD : mD A0 as) (has : ws.map Prod.fst = as) (hS : va_S A0 H0 H locs) (hA : ∀ q, H0.size ≤ q → A0 q) (ps : List Nat) (hwc : ps.map (fun i => ws[i]?) = wc.map some) (hnd : va_nd ps = true)
    {qr cr : Nat} {r : vw_C} {fs : List Value} (hcr : vqCl[cr]? = some r) (hrr : r.1 = C) (her : ws[qr]? = some (b, .inr (cr, fs))) (hn : As.length = n) (hl : lv_has ls nL lv) (hst : st0 = As.reverse ++ .ref b :: rest) (hW : (rest.map fun v => v.category).sum ≤ 8) (hdg : decode cc pc = .ok (.invokevirtual index, 3)) (hf : cells + mc ≤ R.cells ∧ slots + ms ≤ R.slots) (hw1 : ∀ u, (wf u).map Prod.fst = wc.map Prod.fst)
    (kk : ∀ (r : Int32) (u : S) (H1 : Heap) (locs1 : List Loc), post r u → va_P D vqCl (mR ws ps (wf u)) H1 → va_S A0 H0 H1 locs1 → W p l e R s m args below meth c H1 locs1 (cells + mc) (slots + ms) Q (F0 m (pc + 3) ls (.int r :: rest))) : W p l e R s m args below meth c H locs cells slots Q (F0 m pc ls st0) := by
  have hFc := va_free (hD.to has) hS hA ps hwc
  refine va_calli (va_runV (As := As) (rest := rest) F hM cw (mPreV hE hS hA hK hP (hD.to has) ps hwc hnd hcr hrr her) rfl hn hl.1 hst (lv_room hW) hdg hf) hS (fun q _ h => hFc q h) hFc (fun r u t H1 locs ht hvm hw hB hz1 hk1 hS => ?_)
  rw [ht] at hB
  exact kk r u H1 locs hw (mR_P hP (hD.to has) ps hwc (hw1 u) hk1 hB) hS
theorem mVf {post : UInt32 → S → Prop} {wf : S → va_W} (F : CallFix p m c cc nL s args Ts own) (hM : Met l y ws' rm (mPre qf (.ref b :: As) H.size D tys wc) (mQf post wf D (va_A wc H.size)) mc ms (va_A wc H.size)) (cw : CallW R s args own C index y bytes maxL ret ws' rm mc ms n)
    (hE : mE qf A0 s H0) (hK : va_K D vqCl tys s) (hP : va_P D vqCl ws H) (hD : mD A0 as) (has : ws.map Prod.fst = as) (hS : va_S A0 H0 H locs) (hA : ∀ q, H0.size ≤ q → A0 q) (ps : List Nat) (hwc : ps.map (fun i => ws[i]?) = wc.map some) (hnd : va_nd ps = true)
    {qr cr : Nat} {r : vw_C} {fs : List Value} (hcr : vqCl[cr]? = some r) (hrr : r.1 = C) (her : ws[qr]? = some (b, .inr (cr, fs))) (hn : As.length = n) (hl : lv_has ls nL lv) (hst : st0 = As.reverse ++ .ref b :: rest) (hW : (rest.map fun v => v.category).sum ≤ 8) (hdg : decode cc pc = .ok (.invokevirtual index, 3)) (hf : cells + mc ≤ R.cells ∧ slots + ms ≤ R.slots) (hw1 : ∀ u, (wf u).map Prod.fst = wc.map Prod.fst)
    (kk : ∀ (r : UInt32) (u : S) (H1 : Heap) (locs1 : List Loc), post r u → va_P D vqCl (mR ws ps (wf u)) H1 → va_S A0 H0 H1 locs1 → W p l e R s m args below meth c H1 locs1 (cells + mc) (slots + ms) Q (F0 m (pc + 3) ls (.float r :: rest))) : W p l e R s m args below meth c H locs cells slots Q (F0 m pc ls st0) := by
  have hFc := va_free (hD.to has) hS hA ps hwc
  refine va_callf (va_runV (As := As) (rest := rest) F hM cw (mPreV hE hS hA hK hP (hD.to has) ps hwc hnd hcr hrr her) rfl hn hl.1 hst (lv_room hW) hdg hf) hS (fun q _ h => hFc q h) hFc (fun r u t H1 locs ht hvm hw hB hz1 hk1 hS => ?_)
  rw [ht] at hB
  exact kk r u H1 locs hw (mR_P hP (hD.to has) ps hwc (hw1 u) hk1 hB) hS
theorem mVd {post : UInt64 → S → Prop} {wf : S → va_W} (F : CallFix p m c cc nL s args Ts own) (hM : Met l y ws' rm (mPre qf (.ref b :: As) H.size D tys wc) (mQd post wf D (va_A wc H.size)) mc ms (va_A wc H.size)) (cw : CallW R s args own C index y bytes maxL ret ws' rm mc ms n)
    (hE : mE qf A0 s H0) (hK : va_K D vqCl tys s) (hP : va_P D vqCl ws H) (hD : mD A0 as) (has : ws.map Prod.fst = as) (hS : va_S A0 H0 H locs) (hA : ∀ q, H0.size ≤ q → A0 q) (ps : List Nat) (hwc : ps.map (fun i => ws[i]?) = wc.map some) (hnd : va_nd ps = true)
    {qr cr : Nat} {r : vw_C} {fs : List Value} (hcr : vqCl[cr]? = some r) (hrr : r.1 = C) (her : ws[qr]? = some (b, .inr (cr, fs))) (hn : As.length = n) (hl : lv_has ls nL lv) (hst : st0 = As.reverse ++ .ref b :: rest) (hW : (rest.map fun v => v.category).sum ≤ 8) (hdg : decode cc pc = .ok (.invokevirtual index, 3)) (hf : cells + mc ≤ R.cells ∧ slots + ms ≤ R.slots) (hw1 : ∀ u, (wf u).map Prod.fst = wc.map Prod.fst)
    (kk : ∀ (r : UInt64) (u : S) (H1 : Heap) (locs1 : List Loc), post r u → va_P D vqCl (mR ws ps (wf u)) H1 → va_S A0 H0 H1 locs1 → W p l e R s m args below meth c H1 locs1 (cells + mc) (slots + ms) Q (F0 m (pc + 3) ls (.double r :: rest))) : W p l e R s m args below meth c H locs cells slots Q (F0 m pc ls st0) := by
  have hFc := va_free (hD.to has) hS hA ps hwc
  refine va_calld (va_runV (As := As) (rest := rest) F hM cw (mPreV hE hS hA hK hP (hD.to has) ps hwc hnd hcr hrr her) rfl hn hl.1 hst (lv_room hW) hdg hf) hS (fun q _ h => hFc q h) hFc (fun r u t H1 locs ht hvm hw hB hz1 hk1 hS => ?_)
  rw [ht] at hB
  exact kk r u H1 locs hw (mR_P hP (hD.to has) ps hwc (hw1 u) hk1 hB) hS
theorem mVl {post : Int64 → S → Prop} {wf : S → va_W} (F : CallFix p m c cc nL s args Ts own) (hM : Met l y ws' rm (mPre qf (.ref b :: As) H.size D tys wc) (mQl post wf D (va_A wc H.size)) mc ms (va_A wc H.size)) (cw : CallW R s args own C index y bytes maxL ret ws' rm mc ms n)
    (hE : mE qf A0 s H0) (hK : va_K D vqCl tys s) (hP : va_P D vqCl ws H) (hD : mD A0 as) (has : ws.map Prod.fst = as) (hS : va_S A0 H0 H locs) (hA : ∀ q, H0.size ≤ q → A0 q) (ps : List Nat) (hwc : ps.map (fun i => ws[i]?) = wc.map some) (hnd : va_nd ps = true)
    {qr cr : Nat} {r : vw_C} {fs : List Value} (hcr : vqCl[cr]? = some r) (hrr : r.1 = C) (her : ws[qr]? = some (b, .inr (cr, fs))) (hn : As.length = n) (hl : lv_has ls nL lv) (hst : st0 = As.reverse ++ .ref b :: rest) (hW : (rest.map fun v => v.category).sum ≤ 8) (hdg : decode cc pc = .ok (.invokevirtual index, 3)) (hf : cells + mc ≤ R.cells ∧ slots + ms ≤ R.slots) (hw1 : ∀ u, (wf u).map Prod.fst = wc.map Prod.fst)
    (kk : ∀ (r : Int64) (u : S) (H1 : Heap) (locs1 : List Loc), post r u → va_P D vqCl (mR ws ps (wf u)) H1 → va_S A0 H0 H1 locs1 → W p l e R s m args below meth c H1 locs1 (cells + mc) (slots + ms) Q (F0 m (pc + 3) ls (.long r :: rest))) : W p l e R s m args below meth c H locs cells slots Q (F0 m pc ls st0) := by
  have hFc := va_free (hD.to has) hS hA ps hwc
  refine va_calll (va_runV (As := As) (rest := rest) F hM cw (mPreV hE hS hA hK hP (hD.to has) ps hwc hnd hcr hrr her) rfl hn hl.1 hst (lv_room hW) hdg hf) hS (fun q _ h => hFc q h) hFc (fun r u t H1 locs ht hvm hw hB hz1 hk1 hS => ?_)
  rw [ht] at hB
  exact kk r u H1 locs hw (mR_P hP (hD.to has) ps hwc (hw1 u) hk1 hB) hS
theorem mVv {post : S → Prop} {wf : S → va_W} (F : CallFix p m c cc nL s args Ts own) (hM : Met l y ws' rm (mPre qf (.ref b :: As) H.size D tys wc) (mQv post wf D (va_A wc H.size)) mc ms (va_A wc H.size)) (cw : CallW R s args own C index y bytes maxL ret ws' rm mc ms n)
    (hE : mE qf A0 s H0) (hK : va_K D vqCl tys s) (hP : va_P D vqCl ws H) (hD : mD A0 as) (has : ws.map Prod.fst = as) (hS : va_S A0 H0 H locs) (hA : ∀ q, H0.size ≤ q → A0 q) (ps : List Nat) (hwc : ps.map (fun i => ws[i]?) = wc.map some) (hnd : va_nd ps = true)
    {qr cr : Nat} {r : vw_C} {fs : List Value} (hcr : vqCl[cr]? = some r) (hrr : r.1 = C) (her : ws[qr]? = some (b, .inr (cr, fs))) (hn : As.length = n) (hl : lv_has ls nL lv) (hst : st0 = As.reverse ++ .ref b :: rest) (hW : (rest.map fun v => v.category).sum ≤ 8) (hdg : decode cc pc = .ok (.invokevirtual index, 3)) (hf : cells + mc ≤ R.cells ∧ slots + ms ≤ R.slots) (hw1 : ∀ u, (wf u).map Prod.fst = wc.map Prod.fst)
    (kk : ∀ (u : S) (H1 : Heap) (locs1 : List Loc), post u → va_P D vqCl (mR ws ps (wf u)) H1 → va_S A0 H0 H1 locs1 → W p l e R s m args below meth c H1 locs1 (cells + mc) (slots + ms) Q (F0 m (pc + 3) ls rest)) : W p l e R s m args below meth c H locs cells slots Q (F0 m pc ls st0) := by
  have hFc := va_free (hD.to has) hS hA ps hwc
  refine va_callv (va_runV (As := As) (rest := rest) F hM cw (mPreV hE hS hA hK hP (hD.to has) ps hwc hnd hcr hrr her) rfl hn hl.1 hst (lv_room hW) hdg hf) hS (fun q _ h => hFc q h) hFc (fun u t H1 locs ht hvm hw hB hz1 hk1 hS => ?_)
  rw [ht] at hB
  exact kk u H1 locs hw (mR_P hP (hD.to has) ps hwc (hw1 u) hk1 hB) hS
theorem mSi {post : Int32 → S → Prop} {wf : S → va_W} (F : CallFix p m c cc nL s args Ts own) (hM : Met l y ws' rm (mPre qf As H.size D tys wc) (mQi post wf D (va_A wc H.size)) mc ms (va_A wc H.size)) (cw : CallB R s args own index y bytes maxL ret ws' rm mc ms n ∧ (Cond.static y).before args s = true)
    (hE : mE qf A0 s H0) (hK : va_K D vqCl tys s) (hP : va_P D vqCl ws H) (hD : mD A0 as) (has : ws.map Prod.fst = as) (hS : va_S A0 H0 H locs) (hA : ∀ q, H0.size ≤ q → A0 q) (ps : List Nat) (hwc : ps.map (fun i => ws[i]?) = wc.map some) (hnd : va_nd ps = true)
    (hn : As.length = n) (hl : lv_has ls nL lv) (hst : st0 = As.reverse ++ rest) (hW : (rest.map fun v => v.category).sum ≤ 8) (hdg : decode cc pc = .ok (.invokestatic index, 3)) (hf : cells + mc ≤ R.cells ∧ slots + ms ≤ R.slots) (hw1 : ∀ u, (wf u).map Prod.fst = wc.map Prod.fst)
    (kk : ∀ (r : Int32) (u : S) (H1 : Heap) (locs1 : List Loc), post r u → va_P D vqCl (mR ws ps (wf u)) H1 → va_S A0 H0 H1 locs1 → W p l e R s m args below meth c H1 locs1 (cells + mc) (slots + ms) Q (F0 m (pc + 3) ls (.int r :: rest))) : W p l e R s m args below meth c H locs cells slots Q (F0 m pc ls st0) := by
  have hFc := va_free (hD.to has) hS hA ps hwc
  refine va_calli (va_runS (As := As) (rest := rest) F hM cw (mPreS hE hS hA hK hP (hD.to has) ps hwc hnd) rfl hn hl.1 hst (lv_room hW) hdg hf) hS (fun q _ h => hFc q h) hFc (fun r u t H1 locs ht hvm hw hB hz1 hk1 hS => ?_)
  rw [ht] at hB
  exact kk r u H1 locs hw (mR_P hP (hD.to has) ps hwc (hw1 u) hk1 hB) hS
theorem mSv {post : S → Prop} {wf : S → va_W} (F : CallFix p m c cc nL s args Ts own) (hM : Met l y ws' rm (mPre qf As H.size D tys wc) (mQv post wf D (va_A wc H.size)) mc ms (va_A wc H.size)) (cw : CallB R s args own index y bytes maxL ret ws' rm mc ms n ∧ (Cond.static y).before args s = true)
    (hE : mE qf A0 s H0) (hK : va_K D vqCl tys s) (hP : va_P D vqCl ws H) (hD : mD A0 as) (has : ws.map Prod.fst = as) (hS : va_S A0 H0 H locs) (hA : ∀ q, H0.size ≤ q → A0 q) (ps : List Nat) (hwc : ps.map (fun i => ws[i]?) = wc.map some) (hnd : va_nd ps = true)
    (hn : As.length = n) (hl : lv_has ls nL lv) (hst : st0 = As.reverse ++ rest) (hW : (rest.map fun v => v.category).sum ≤ 8) (hdg : decode cc pc = .ok (.invokestatic index, 3)) (hf : cells + mc ≤ R.cells ∧ slots + ms ≤ R.slots) (hw1 : ∀ u, (wf u).map Prod.fst = wc.map Prod.fst)
    (kk : ∀ (u : S) (H1 : Heap) (locs1 : List Loc), post u → va_P D vqCl (mR ws ps (wf u)) H1 → va_S A0 H0 H1 locs1 → W p l e R s m args below meth c H1 locs1 (cells + mc) (slots + ms) Q (F0 m (pc + 3) ls rest)) : W p l e R s m args below meth c H locs cells slots Q (F0 m pc ls st0) := by
  have hFc := va_free (hD.to has) hS hA ps hwc
  refine va_callv (va_runS (As := As) (rest := rest) F hM cw (mPreS hE hS hA hK hP (hD.to has) ps hwc hnd) rfl hn hl.1 hst (lv_room hW) hdg hf) hS (fun q _ h => hFc q h) hFc (fun u t H1 locs ht hvm hw hB hz1 hk1 hS => ?_)
  rw [ht] at hB
  exact kk u H1 locs hw (mR_P hP (hD.to has) ps hwc (hw1 u) hk1 hB) hS
end Calls
/-! numbers -/
theorem q_lt {x y : Int32} {a b : Int} (hx : x.toInt = a) (hy : y.toInt = b) (h : x < y) : a < b := by subst hx; subst hy; exact Int32.lt_iff_toInt_lt.mp h
theorem q_nlt {x y : Int32} {a b : Int} (hx : x.toInt = a) (hy : y.toInt = b) (h : ¬ x < y) : b ≤ a := by subst hx; subst hy; exact Int.not_lt.mp (fun h2 => h (Int32.lt_iff_toInt_lt.mpr h2))
theorem q_le {x y : Int32} {a b : Int} (hx : x.toInt = a) (hy : y.toInt = b) (h : x ≤ y) : a ≤ b := by subst hx; subst hy; exact Int32.le_iff_toInt_le.mp h
theorem q_nle {x y : Int32} {a b : Int} (hx : x.toInt = a) (hy : y.toInt = b) (h : ¬ x ≤ y) : b < a := by subst hx; subst hy; exact Int.not_le.mp (fun h2 => h (Int32.le_iff_toInt_le.mpr h2))
theorem q_eq {x y : Int32} {a b : Int} (hx : x.toInt = a) (hy : y.toInt = b) (h : x = y) : a = b := by subst hx; subst hy; rw [h]
theorem q_ne {x y : Int32} {a b : Int} (hx : x.toInt = a) (hy : y.toInt = b) (h : ¬ x = y) : a ≠ b := by subst hx; subst hy; exact fun h2 => h (Int32.toInt_inj.mp h2)
theorem q_bm {z : Int} (h1 : -2147483648 ≤ z) (h2 : z ≤ 2147483647) : z.bmod (2 ^ 32) = z := by
  apply Int.bmod_eq_of_le <;> omega
theorem q_add {x y z : Int32} {a b : Int} (hz : z = x + y) (hx : x.toInt = a) (hy : y.toInt = b) (h : -2147483648 ≤ a + b ∧ a + b ≤ 2147483647) : z.toInt = a + b := by
  subst hx; subst hy; subst hz; rw [Int32.toInt_add]; exact q_bm h.1 h.2
theorem q_sub {x y z : Int32} {a b : Int} (hz : z = x - y) (hx : x.toInt = a) (hy : y.toInt = b) (h : -2147483648 ≤ a - b ∧ a - b ≤ 2147483647) : z.toInt = a - b := by
  subst hx; subst hy; subst hz; rw [Int32.toInt_sub]; exact q_bm h.1 h.2
theorem q_mul {x y z : Int32} {a b : Int} (hz : z = x * y) (hx : x.toInt = a) (hy : y.toInt = b) (h : -2147483648 ≤ a * b ∧ a * b ≤ 2147483647) : z.toInt = a * b := by
  subst hx; subst hy; subst hz; rw [Int32.toInt_mul]; exact q_bm h.1 h.2
theorem q_in {x : Int32} {n : Nat} (h : 0 ≤ x.toInt ∧ x.toInt < n) : vp_in x n := vp_in_iff.mpr h
/-- all of a row's first n within bounds -/
def rg (lo hi : Int) (n : Nat) (f : Nat → Int32) : Prop := ∀ j, j < n → lo ≤ (f j).toInt ∧ (f j).toInt ≤ hi
theorem q_ix {x : Int32} {n : Nat} (h : 0 ≤ x.toInt ∧ x.toInt < n) : x.toNatClampNeg < n ∧ (x.toNatClampNeg : Int) = x.toInt := by
  have : (x.toNatClampNeg : Int) = x.toInt := by
    show ((x.toInt.toNat : Nat) : Int) = x.toInt
    omega
  omega
theorem rg.at {lo hi : Int} {n : Nat} {f : Nat → Int32} (h : rg lo hi n f) {x y : Int32} (hx : 0 ≤ x.toInt ∧ x.toInt < n) (hy : y = f x.toNatClampNeg) : lo ≤ y.toInt ∧ y.toInt ≤ hi := by
  subst hy; exact h _ (q_ix hx).1
theorem rg.up {lo hi : Int} {n : Nat} {f : Nat → Int32} (h : rg lo hi n f) {k : Nat} {x : Int32} (hx : lo ≤ x.toInt ∧ x.toInt ≤ hi) : rg lo hi n (upd f k x) := by
  intro j hj
  show lo ≤ (if j = k then x else f j).toInt ∧ (if j = k then x else f j).toInt ≤ hi
  by_cases e : j = k
  · rw [if_pos e]; exact hx
  · rw [if_neg e]; exact h j hj
theorem rg.mono {lo hi lo' hi' : Int} {n : Nat} {f : Nat → Int32} (h : rg lo hi n f) (h1 : lo' ≤ lo) (h2 : hi ≤ hi') : rg lo' hi' n f := fun j hj => ⟨Int.le_trans h1 (h j hj).1, Int.le_trans (h j hj).2 h2⟩
theorem q_nb {v : Int32} (h : 0 ≤ v.toInt ∧ v.toInt ≤ 1) : narrow .boolean (.int v) = .int v := by
  have : v = 0 ∨ v = 1 := by
    have h0 : v.toInt = 0 ∨ v.toInt = 1 := by omega
    rcases h0 with h0 | h0
    · exact Or.inl (Int32.toInt_inj.mp h0)
    · exact Or.inr (Int32.toInt_inj.mp h0)
  rcases this with rfl | rfl <;> rfl
theorem iv_k (c : Int32) {k : Int} (h : c.toInt = k) : k ≤ c.toInt ∧ c.toInt ≤ k := ⟨Int.le_of_eq h.symm, Int.le_of_eq h⟩
theorem iv_f (x : Int32) : -2147483648 ≤ x.toInt ∧ x.toInt ≤ 2147483647 := ⟨Int32.le_toInt x, Int32.toInt_le x⟩
theorem iv_m {a lo hi lo' hi' : Int} (h : lo ≤ a ∧ a ≤ hi) (h1 : lo' ≤ lo) (h2 : hi ≤ hi') : lo' ≤ a ∧ a ≤ hi' := ⟨Int.le_trans h1 h.1, Int.le_trans h.2 h2⟩
theorem iv_in {x : Int32} {n : Nat} {lo hi : Int} (h : lo ≤ x.toInt ∧ x.toInt ≤ hi) (h0 : 0 ≤ lo) (h1 : hi < n) : vp_in x n := q_in ⟨Int.le_trans h0 h.1, Int.lt_of_le_of_lt h.2 h1⟩
theorem iv_at {lo hi : Int} {n : Nat} {f : Nat → Int32} (h : rg lo hi n f) {x y : Int32} {l2 h2 : Int} (hx : l2 ≤ x.toInt ∧ x.toInt ≤ h2) (h0 : 0 ≤ l2) (h1 : h2 < n) (hy : y = f x.toNatClampNeg) : lo ≤ y.toInt ∧ y.toInt ≤ hi := h.at ⟨Int.le_trans h0 hx.1, Int.lt_of_le_of_lt hx.2 h1⟩ hy
theorem iv_add {x y z : Int32} {la ha lb hb lo hi : Int} (hz : z = x + y) (hx : la ≤ x.toInt ∧ x.toInt ≤ ha) (hy : lb ≤ y.toInt ∧ y.toInt ≤ hb) (h1 : -2147483648 ≤ lo) (h2 : hi ≤ 2147483647) (h3 : lo ≤ la + lb) (h4 : ha + hb ≤ hi) : z.toInt = x.toInt + y.toInt ∧ lo ≤ z.toInt ∧ z.toInt ≤ hi := by
  have h := q_add hz rfl rfl (by omega); omega
theorem iv_sub {x y z : Int32} {la ha lb hb lo hi : Int} (hz : z = x - y) (hx : la ≤ x.toInt ∧ x.toInt ≤ ha) (hy : lb ≤ y.toInt ∧ y.toInt ≤ hb) (h1 : -2147483648 ≤ lo) (h2 : hi ≤ 2147483647) (h3 : lo ≤ la - hb) (h4 : ha - lb ≤ hi) : z.toInt = x.toInt - y.toInt ∧ lo ≤ z.toInt ∧ z.toInt ≤ hi := by
  have h := q_sub hz rfl rfl (by omega); omega
theorem iv_mul {x y z : Int32} {la ha lb hb lo hi : Int} (hz : z = x * y) (hx : la ≤ x.toInt ∧ x.toInt ≤ ha) (hy : lb ≤ y.toInt ∧ y.toInt ≤ hb) (h1 : -2147483648 ≤ lo) (h2 : hi ≤ 2147483647) (p1 : 0 ≤ la) (p2 : 0 ≤ lb) (h3 : lo ≤ la * lb) (h4 : ha * hb ≤ hi) : z.toInt = x.toInt * y.toInt ∧ lo ≤ z.toInt ∧ z.toInt ≤ hi := by
  have e1 : la * lb ≤ x.toInt * y.toInt := Int.mul_le_mul hx.1 hy.1 p2 (Int.le_trans p1 hx.1)
  have e2 : x.toInt * y.toInt ≤ ha * hb := Int.mul_le_mul hx.2 hy.2 (Int.le_trans p2 hy.1) (Int.le_trans p1 (Int.le_trans hx.1 hx.2))
  have h := q_mul hz rfl rfl ⟨by omega, by omega⟩
  exact ⟨h, by omega, by omega⟩
theorem iv_and {x m z : Int32} (hz : z = x &&& m) {k : Nat} (hm : m.toBitVec.toNat = 2 ^ k - 1) {hi : Int} (h2 : k ≤ 30) (h : (2 ^ k : Nat) = hi + 1) : 0 ≤ z.toInt ∧ z.toInt ≤ hi := by
  have h3 := vp_in_iff.mp (pk_andIn x k hm h2)
  subst hz; omega
theorem c_lt {x y : Int32} (h : x < y) : x.toInt < y.toInt := Int32.lt_iff_toInt_lt.mp h
theorem c_nlt {x y : Int32} (h : ¬ x < y) : y.toInt ≤ x.toInt := q_nlt rfl rfl h
theorem c_le {x y : Int32} (h : x ≤ y) : x.toInt ≤ y.toInt := Int32.le_iff_toInt_le.mp h
theorem c_nle {x y : Int32} (h : ¬ x ≤ y) : y.toInt < x.toInt := q_nle rfl rfl h
theorem c_eq {x y : Int32} (h : x = y) : x.toInt = y.toInt := by rw [h]
theorem c_ne {x y : Int32} (h : ¬ x = y) : x.toInt ≠ y.toInt := q_ne rfl rfl h
section Iv
variable {a b la ha lb hb lo hi : Int}
theorem u_lt (A : la ≤ a ∧ a ≤ ha) (B : lb ≤ b ∧ b ≤ hb) (c : a < b) (h1 : lo ≤ la) (h2 : ha ≤ hi ∨ hb - 1 ≤ hi) : lo ≤ a ∧ a ≤ hi := by omega
theorem u_le (A : la ≤ a ∧ a ≤ ha) (B : lb ≤ b ∧ b ≤ hb) (c : a ≤ b) (h1 : lo ≤ la) (h2 : ha ≤ hi ∨ hb ≤ hi) : lo ≤ a ∧ a ≤ hi := by omega
theorem l_lt (A : la ≤ a ∧ a ≤ ha) (B : lb ≤ b ∧ b ≤ hb) (c : b < a) (h1 : lo ≤ la ∨ lo ≤ lb + 1) (h2 : ha ≤ hi) : lo ≤ a ∧ a ≤ hi := by omega
theorem l_le (A : la ≤ a ∧ a ≤ ha) (B : lb ≤ b ∧ b ≤ hb) (c : b ≤ a) (h1 : lo ≤ la ∨ lo ≤ lb) (h2 : ha ≤ hi) : lo ≤ a ∧ a ≤ hi := by omega
theorem e_eq (A : la ≤ a ∧ a ≤ ha) (B : lb ≤ b ∧ b ≤ hb) (c : a = b) (h1 : lo ≤ la ∨ lo ≤ lb) (h2 : ha ≤ hi ∨ hb ≤ hi) : lo ≤ a ∧ a ≤ hi := by omega
theorem n_ne (A : la ≤ a ∧ a ≤ ha) (B : lb ≤ b ∧ b ≤ hb) (c : a ≠ b) (h1 : lo ≤ la ∨ (la = lb ∧ lb = hb ∧ lo ≤ la + 1)) (h2 : ha ≤ hi ∨ (ha = lb ∧ lb = hb ∧ ha - 1 ≤ hi)) : lo ≤ a ∧ a ≤ hi := by omega
theorem z_lt (A : la ≤ a ∧ a ≤ ha) (B : lb ≤ b ∧ b ≤ hb) (c : a < b) (h : hb ≤ la) : False := by omega
theorem z_le (A : la ≤ a ∧ a ≤ ha) (B : lb ≤ b ∧ b ≤ hb) (c : a ≤ b) (h : hb < la) : False := by omega
theorem z_eq (A : la ≤ a ∧ a ≤ ha) (B : lb ≤ b ∧ b ≤ hb) (c : a = b) (h : hb < la ∨ ha < lb) : False := by omega
theorem z_ne (A : la ≤ a ∧ a ≤ ha) (B : lb ≤ b ∧ b ≤ hb) (c : a ≠ b) (h : la = ha ∧ lb = hb ∧ la = lb) : False := by omega
end Iv
theorem nar_b {x : Int32} {lo hi : Int} (h : lo ≤ x.toInt ∧ x.toInt ≤ hi) (h0 : 0 ≤ lo) (h1 : hi ≤ 1) : narrow .boolean (.int x) = .int x := q_nb ⟨by omega, by omega⟩
theorem nar_bz {x : Int32} {lo hi : Int} (h : lo ≤ x.toInt ∧ x.toInt ≤ hi) (h0 : 0 ≤ lo) (h1 : hi ≤ 1) : vp_nar .boolean x = x := by
  have := nar_b h h0 h1
  unfold vp_nar; rw [this]
theorem nar_n {x : Int32} {lo hi : Int} (h : lo ≤ x.toInt ∧ x.toInt ≤ hi) (h0 : 0 ≤ lo) (h1 : hi < 65536) : x = nI x.toInt.toNat ∧ x.toInt.toNat < 65536 := by
  refine ⟨Int32.toInt_inj.mp ?_, by omega⟩
  rw [nI_toInt (by omega)]; omega
theorem nar_c {x : Int32} {lo hi : Int} (h : lo ≤ x.toInt ∧ x.toInt ≤ hi) (h0 : 0 ≤ lo) (h1 : hi < 65536) : narrow .char (.int x) = .int x := by
  obtain ⟨e, hq⟩ := nar_n h h0 h1
  rw [e]; exact (pk_charN hq).1
theorem nar_cz {x : Int32} {lo hi : Int} (h : lo ≤ x.toInt ∧ x.toInt ≤ hi) (h0 : 0 ≤ lo) (h1 : hi < 65536) : vp_nar .char x = x := by
  have := nar_c h h0 h1
  unfold vp_nar; rw [this]
theorem q_nn {x : Int32} {lo hi : Int} (h : lo ≤ x.toInt ∧ x.toInt ≤ hi) (h0 : 0 ≤ lo) : ∃ a : Nat, x = nI a ∧ a < 2 ^ 31 ∧ x.toInt = a := by
  have h1 := (iv_f x).2
  refine ⟨x.toInt.toNat, Int32.toInt_inj.mp ?_, by omega, by omega⟩
  rw [nI_toInt (by omega)]; omega
theorem iv_rem {x y z : Int32} {la ha : Int} {d : Nat} {hi : Int} (hz : z = x - x / y * y) (hx : la ≤ x.toInt ∧ x.toInt ≤ ha) (h0 : 0 ≤ la) (hy : y = nI d) (hd : 0 < d) (hd2 : d < 2 ^ 31) (h1 : (d : Int) - 1 ≤ hi) : z.toInt = x.toInt % d ∧ 0 ≤ z.toInt ∧ z.toInt ≤ hi := by
  obtain ⟨a, rfl, ha, e⟩ := q_nn hx h0
  subst hy
  rw [pk_rem ha hd hd2] at hz
  subst hz
  have hlt := Nat.mod_lt a hd
  rw [nI_toInt (by omega), e]
  refine ⟨by simp, by omega, by omega⟩
theorem iv_div {x y z : Int32} {la ha : Int} {d : Nat} {hi : Int} (hz : z = x / y) (hx : la ≤ x.toInt ∧ x.toInt ≤ ha) (h0 : 0 ≤ la) (hy : y = nI d) (hd : 0 < d) (hd2 : d < 2 ^ 31) (h1 : ha / d ≤ hi) : z.toInt = x.toInt / d ∧ 0 ≤ z.toInt ∧ z.toInt ≤ hi := by
  obtain ⟨a, rfl, ha2, e⟩ := q_nn hx h0
  subst hy
  rw [pk_div ha2 hd hd2] at hz
  subst hz
  have hle := Nat.div_le_self a d
  have e2 : ((a / d : Nat) : Int) = (a : Int) / d := by simp
  rw [nI_toInt (by omega), e]
  refine ⟨e2, by first | exact Int.natCast_nonneg _ | exact Int.ofNat_nonneg _ | exact Int.ofNat_zero_le _, ?_⟩
  rw [e2]
  have h3 : (a : Int) ≤ ha := by rw [← e]; exact hx.2
  exact Int.le_trans (Int.ediv_le_ediv (by omega) h3) h1
theorem iv_min {x y z : Int32} {la ha lb hb lo hi : Int} (hz : z = if y < x then y else x) (hx : la ≤ x.toInt ∧ x.toInt ≤ ha) (hy : lb ≤ y.toInt ∧ y.toInt ≤ hb) (h1 : lo ≤ la) (h2 : lo ≤ lb) (h3 : ha ≤ hi ∨ hb ≤ hi) : lo ≤ z.toInt ∧ z.toInt ≤ hi := by
  by_cases c : y < x
  · rw [if_pos c] at hz; subst hz; have := c_lt c; omega
  · rw [if_neg c] at hz; subst hz; have := c_nlt c; omega
theorem rgRF : rg 5 13 4 fRF := by
  intro j hj
  match j, hj with
  | 0, _ => decide
  | 1, _ => decide
  | 2, _ => decide
  | 3, _ => decide
theorem rg.any (n : Nat) (f : Nat → Int32) : rg (-2147483648) 2147483647 n f := fun j _ => iv_f _
theorem iv_nn {x : Int32} {lo hi : Int} (h : lo ≤ x.toInt ∧ x.toInt ≤ hi) (h0 : 0 ≤ lo) : ¬ x < 0 := by
  intro c
  have c := c_lt c
  have e : (0 : Int32).toInt = 0 := by decide
  omega
theorem iv_cl {x : Int32} {n : Nat} (h : (n : Int) ≤ x.toInt ∧ x.toInt ≤ (n : Int)) : x.toNatClampNeg = n := by
  show x.toInt.toNat = n
  omega
/-- longs -/
def rgl (lo hi : Int) (n : Nat) (f : Nat → Int64) : Prop := ∀ j, j < n → lo ≤ (f j).toInt ∧ (f j).toInt ≤ hi
theorem rgl.one {lo hi : Int} {f : Nat → Int64} {x : Int64} (h : lo ≤ x.toInt ∧ x.toInt ≤ hi) : rgl lo hi 1 (vp_updL f (0 : Int32).toNatClampNeg x) := by
  intro j hj
  have e : j = 0 := by omega
  subst e
  show lo ≤ (if (0 : Nat) = (0 : Int32).toNatClampNeg then x else f 0).toInt ∧ (if (0 : Nat) = (0 : Int32).toNatClampNeg then x else f 0).toInt ≤ hi
  rw [if_pos (by decide)]
  exact h
theorem rgl.mono {lo hi lo' hi' : Int} {n : Nat} {f : Nat → Int64} (h : rgl lo hi n f) (h1 : lo' ≤ lo) (h2 : hi ≤ hi') : rgl lo' hi' n f := fun j hj => ⟨Int.le_trans h1 (h j hj).1, Int.le_trans (h j hj).2 h2⟩
theorem iv_kl (c : Int64) {k : Int} (h : c.toInt = k) : k ≤ c.toInt ∧ c.toInt ≤ k := ⟨Int.le_of_eq h.symm, Int.le_of_eq h⟩
theorem iv_fl (x : Int64) : -9223372036854775808 ≤ x.toInt ∧ x.toInt ≤ 9223372036854775807 := ⟨Int64.le_toInt x, Int64.toInt_le x⟩
theorem iv_i2l {x : Int32} {z : Int64} {lo hi : Int} (hz : z = x.toInt64) (h : lo ≤ x.toInt ∧ x.toInt ≤ hi) : lo ≤ z.toInt ∧ z.toInt ≤ hi := by
  subst hz; rw [Int32.toInt_toInt64]; exact h
theorem iv_atl {lo hi : Int} {n : Nat} {f : Nat → Int64} (h : rgl lo hi n f) {x : Int32} {y : Int64} {l2 h2 : Int} (hx : l2 ≤ x.toInt ∧ x.toInt ≤ h2) (h0 : 0 ≤ l2) (h1 : h2 < n) (hy : y = f x.toNatClampNeg) : lo ≤ y.toInt ∧ y.toInt ≤ hi := by
  subst hy; exact h _ (q_ix ⟨Int.le_trans h0 hx.1, Int.lt_of_le_of_lt hx.2 h1⟩).1
theorem lg_cmp_self (x : Int64) : lg_cmp x x = 0 := by
  unfold lg_cmp
  rw [if_neg (Int64.lt_irrefl), if_pos rfl]
theorem iv_lcmps {x y : Int64} {z : Int32} (hz : z = lg_cmp x y) (h : x = y) : 0 ≤ z.toInt ∧ z.toInt ≤ 0 := by
  subst h; rw [hz, lg_cmp_self]; decide
theorem iv_lcmp {x y : Int64} {z : Int32} {c : Int} (hz : z = lg_cmp x y) (hx : c ≤ x.toInt ∧ x.toInt ≤ c) (hy : c ≤ y.toInt ∧ y.toInt ≤ c) : 0 ≤ z.toInt ∧ z.toInt ≤ 0 :=
  iv_lcmps hz (Int64.toInt_inj.mp (by omega))
theorem iv_sg {z c : Int32} {k : Int} (h : k ≤ z.toInt ∧ z.toInt ≤ k) (hc : c.toInt = k) : z = c := Int32.toInt_inj.mp (by omega)
theorem iv_tri (x : Int32) (lo hi : Int) : (-2147483648 ≤ x.toInt ∧ x.toInt ≤ lo - 1) ∨ (lo ≤ x.toInt ∧ x.toInt ≤ hi) ∨ (hi + 1 ≤ x.toInt ∧ x.toInt ≤ 2147483647) := by
  have := iv_f x; omega
theorem iv_i2c {x z : Int32} (hz : z = (x.toUInt32 % 65536).toInt32) : 0 ≤ z.toInt ∧ z.toInt ≤ 65535 := by
  rw [hz, pk_char, nI_toInt (by omega)]; omega
/-- a row filled from its first place on -/
theorem pf_up {f : Nat → Int32} {k x : Int32} {c lo hi : Int} (h : ∀ j : Nat, (j : Int) < k.toInt → (f j).toInt = c) (hk : lo ≤ k.toInt ∧ k.toInt ≤ hi) (h0 : 0 ≤ lo) (hx : c ≤ x.toInt ∧ x.toInt ≤ c) : ∀ j : Nat, (j : Int) < k.toInt + 1 → (upd f k.toNatClampNeg x j).toInt = c := by
  intro j hj
  have e : k.toNatClampNeg = k.toInt.toNat := rfl
  show (if j = k.toNatClampNeg then x else f j).toInt = c
  by_cases q : j = k.toNatClampNeg
  · rw [if_pos q]; omega
  · rw [if_neg q]; exact h j (by omega)
