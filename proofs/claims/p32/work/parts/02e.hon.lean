/-! ===== what isHonest asks for: sums of sizes, promises that are there, entries no staler than told ===== -/
/-- the sum of g over those that f marks, of the first n -/
def sp : Nat → (Nat → Int32) → (Nat → Int32) → Int
  | 0, _, _ => 0
  | n + 1, f, g => sp n f g + (f n).toInt * (g n).toInt
theorem sp_out {f g : Nat → Int32} {k : Nat} {x : Int32} : ∀ {n : Nat}, n ≤ k → sp n (upd f k x) g = sp n f g
  | 0, _ => rfl
  | n + 1, h => by
    simp only [sp]
    rw [sp_out (n := n) (by omega)]
    show sp n f g + (if n = k then x else f n).toInt * _ = _
    rw [if_neg (by omega)]
theorem sp_upd {f g : Nat → Int32} {k : Nat} {x : Int32} : ∀ {n : Nat}, k < n → sp n (upd f k x) g = sp n f g + (x.toInt - (f k).toInt) * (g k).toInt
  | 0, h => absurd h (Nat.not_lt_zero _)
  | n + 1, h => by
    simp only [sp]
    show sp n (upd f k x) g + (if n = k then x else f n).toInt * _ = _
    by_cases e : n = k
    · subst e; rw [if_pos rfl, sp_out (Nat.le_refl _), Int.sub_mul]; omega
    · rw [if_neg e, sp_upd (n := n) (by omega)]; omega
theorem sp_gout {f g : Nat → Int32} {k : Nat} {x : Int32} : ∀ {n : Nat}, n ≤ k → sp n f (upd g k x) = sp n f g
  | 0, _ => rfl
  | n + 1, h => by
    simp only [sp]
    rw [sp_gout (n := n) (by omega)]
    show sp n f g + _ * (if n = k then x else g n).toInt = _
    rw [if_neg (by omega)]
theorem sp_gupd {f g : Nat → Int32} {k : Nat} {x : Int32} : ∀ {n : Nat}, k < n → sp n f (upd g k x) = sp n f g + (f k).toInt * (x.toInt - (g k).toInt)
  | 0, h => absurd h (Nat.not_lt_zero _)
  | n + 1, h => by
    simp only [sp]
    show sp n f (upd g k x) + _ * (if n = k then x else g n).toInt = _
    by_cases e : n = k
    · subst e; rw [if_pos rfl, sp_gout (Nat.le_refl _), Int.mul_sub]; omega
    · rw [if_neg e, sp_gupd (n := n) (by omega)]; omega
theorem sp_zero {f g : Nat → Int32} : ∀ {n : Nat}, rg 0 0 n f → sp n f g = 0
  | 0, _ => rfl
  | n + 1, h => by
    have h2 := h n (Nat.lt_succ_self n)
    have e : (f n).toInt = 0 := by omega
    simp only [sp]
    rw [sp_zero (n := n) (fun j hj => h j (Nat.lt_succ_of_lt hj)), e]; omega
/-- a promise that waits is in the memory -/
def wp (n : Nat) (w p : Nat → Int32) : Prop := ∀ j, j < n → (w j).toInt = 1 → (p j).toInt = 1
theorem wp_w0 {n : Nat} {w w' p : Nat → Int32} {k : Nat} {x : Int32} (h : wp n w p) (hx : x.toInt = 0) (e : w' = upd w k x) : wp n w' p := by
  intro j hj
  rw [e]
  show (if j = k then x else w j).toInt = 1 → _
  by_cases c : j = k
  · rw [if_pos c]; intro h2; omega
  · rw [if_neg c]; exact h j hj
theorem wp_p1 {n : Nat} {w p p' : Nat → Int32} {k : Nat} {x : Int32} (h : wp n w p) (hx : x.toInt = 1) (e : p' = upd p k x) : wp n w p' := by
  intro j hj h1
  rw [e]
  show (if j = k then x else p j).toInt = 1
  by_cases c : j = k
  · rw [if_pos c]; exact hx
  · rw [if_neg c]; exact h j hj h1
theorem wp_w1 {n : Nat} {w w' p : Nat → Int32} {k : Nat} {x : Int32} (h : wp n w p) (hp : (p k).toInt = 1) (e : w' = upd w k x) : wp n w' p := by
  intro j hj
  rw [e]
  show (if j = k then x else w j).toInt = 1 → _
  by_cases c : j = k
  · rw [if_pos c]; intro _; rw [c]; exact hp
  · rw [if_neg c]; exact h j hj
theorem wp_p0 {n : Nat} {w p p' : Nat → Int32} {k : Nat} {x : Int32} (h : wp n w p) (hw : (w k).toInt = 0) (e : p' = upd p k x) : wp n w p' := by
  intro j hj h1
  rw [e]
  show (if j = k then x else p j).toInt = 1
  by_cases c : j = k
  · rw [c] at h1; omega
  · rw [if_neg c]; exact h j hj h1
theorem wp_z {n : Nat} {w p : Nat → Int32} (h : rg 0 0 n w) : wp n w p := fun j hj h1 => by have := h j hj; omega
/-- an entry: read at m, not behind now; the writing next to its version isn't ahead of m -/
def TI (now L : Int) (K V M : Nat → Int32) (k v m : Int32) : Prop := m.toInt ≤ now ∧ ∀ e : Nat, (e : Int) < L → K e = k → V e = v + 1 → m.toInt ≤ (M e).toInt
/-- the log against the store's versions -/
def LG (L : Int) (K V ver : Nat → Int32) : Prop := (∀ k, k < 32 → 0 ≤ (ver k).toInt ∧ (ver k).toInt ≤ L) ∧ ∀ e : Nat, (e : Int) < L → (V e).toInt ≤ (ver (K e).toNatClampNeg).toInt
theorem TI.later {now now' L : Int} {K V M : Nat → Int32} {k v m : Int32} (h : TI now L K V M k v m) (hn : now ≤ now') : TI now' L K V M k v m := ⟨Int.le_trans h.1 hn, h.2⟩
theorem TI.fresh {now L : Int} {K V M ver : Nat → Int32} {k v m : Int32} {d : Int} (hL : L ≤ 400) (h : LG L K V ver) (hk : 0 ≤ k.toInt ∧ k.toInt ≤ 31) (hd : 0 ≤ d ∧ d ≤ 1) (hv : v.toInt = (ver k.toNatClampNeg).toInt + d) (hm : m.toInt ≤ now) : TI now L K V M k v m := by
  refine ⟨hm, fun e he h1 h2 => ?_⟩
  have h3 := h.2 e he
  rw [h1] at h3
  have h4 := h.1 _ (q_ix (n := 32) ⟨hk.1, by omega⟩).1
  have h5 : (v + 1).toInt = v.toInt + 1 := q_add rfl rfl (by decide) (by omega)
  rw [h2, h5] at h3
  omega
theorem TI.put {now L L' : Int} {K V M K' V' M' : Nat → Int32} {k v m a b c : Int32} {n : Nat} (h : TI now L K V M k v m) (hL : L' = L + 1) (hn : (n : Int) = L) (e1 : K' = upd K n a) (e2 : V' = upd V n b) (e3 : M' = upd M n c) (hc : now ≤ c.toInt) : TI now L' K' V' M' k v m := by
  refine ⟨h.1, fun e he => ?_⟩
  rw [e1, e2, e3]
  show (if e = n then a else K e) = k → (if e = n then b else V e) = v + 1 → _ ≤ (if e = n then c else M e).toInt
  by_cases q : e = n
  · rw [if_pos q, if_pos q, if_pos q]; intro _ _; exact Int.le_trans h.1 hc
  · rw [if_neg q, if_neg q, if_neg q]; exact h.2 e (by omega)
theorem LG.put {L L' : Int} {K V ver K' V' ver' : Nat → Int32} {a : Int32} {n : Nat} (h : LG L K V ver) (hL0 : L ≤ 399) (ha : 0 ≤ a.toInt ∧ a.toInt ≤ 31) (hL : L' = L + 1) (hn : (n : Int) = L) (e1 : K' = upd K n a) (e2 : V' = upd V n (ver a.toNatClampNeg + 1)) (e4 : ver' = upd ver a.toNatClampNeg (ver a.toNatClampNeg + 1)) : LG L' K' V' ver' := by
  have h4 := h.1 _ (q_ix (n := 32) ⟨ha.1, by omega⟩).1
  have h5 : (ver a.toNatClampNeg + 1).toInt = (ver a.toNatClampNeg).toInt + 1 := q_add rfl rfl (by decide) (by omega)
  refine ⟨fun k hk => ?_, fun e he => ?_⟩
  · rw [e4]
    show 0 ≤ (if k = a.toNatClampNeg then _ else ver k).toInt ∧ (if k = a.toNatClampNeg then _ else ver k).toInt ≤ L'
    by_cases q : k = a.toNatClampNeg
    · rw [if_pos q, h5]; omega
    · rw [if_neg q]; have := h.1 k hk; omega
  · rw [e1, e2, e4]
    show (if e = n then _ else V e).toInt ≤ (if (if e = n then a else K e).toNatClampNeg = a.toNatClampNeg then _ else ver (if e = n then a else K e).toNatClampNeg).toInt
    by_cases q : e = n
    · rw [if_pos q, if_pos q, if_pos rfl]; exact Int.le_refl _
    · rw [if_neg q, if_neg q]
      have h6 := h.2 e (by omega)
      by_cases r : (K e).toNatClampNeg = a.toNatClampNeg
      · rw [if_pos r, h5]; rw [r] at h6; omega
      · rw [if_neg r]; exact h6
def TMem (now L : Int) (K V M mv mm : Nat → Int32) : Prop := ∀ k : Int32, 0 ≤ k.toInt → k.toInt ≤ 31 → TI now L K V M k (mv k.toNatClampNeg) (mm k.toNatClampNeg)
def TFl (now L : Int) (K V M sg fv fm : Nat → Int32) : Prop := ∀ q : Nat, q < 16 → 0 ≤ (sg q).toInt → (sg q).toInt ≤ 31 → TI now L K V M (sg q) (fv q) (fm q)
def TLe (now L cnt : Int) (K V M ko wr lv lm : Nat → Int32) : Prop := ∀ q : Nat, q < 60 → (wr q).toInt = 1 → (q : Int) < cnt ∧ TI now L K V M (ko q) (lv q) (lm q)
/-- the index tells of slots that bear their keys; what is behind the next slot in its segment is empty -/
def IX (sg ix : Nat → Int32) : Prop := ∀ k : Int32, 0 ≤ k.toInt → k.toInt ≤ 31 → 0 ≤ (ix k.toNatClampNeg).toInt → sg (ix k.toNatClampNeg).toNatClampNeg = k
def EM (sg : Nat → Int32) (nx : Int) : Prop := nx % 4 ≠ 0 → ∀ q : Nat, q < 16 → nx ≤ q → (q : Int) / 4 = nx / 4 → (sg q).toInt = -1
/-- what a slot that is taken next leaves -/
def NS (sg ix sg' ix' : Nat → Int32) (r : Int) : Prop := (∀ q : Nat, q < 16 → sg' q = sg q ∨ (sg' q).toInt = -1) ∧ (∀ k : Nat, k < 32 → ix' k = ix k ∨ (ix' k).toInt = -1) ∧
  (∀ q : Nat, q < 16 → r ≤ q → (q : Int) / 4 = r / 4 → (sg' q).toInt = -1) ∧ IX sg' ix' ∧ ∀ k : Nat, k < 32 → (ix' k).toInt ≠ r
def QI (now L : Int) (K V M ver mv mm sg fv fm ix : Nat → Int32) (nx : Int) (ko wr lv lm : Nat → Int32) (cnt : Int) (pr sz : Nat → Int32) (fl : Int) (wt : Nat → Int32) (dn : Int) : Prop :=
  LG L K V ver ∧ TMem now L K V M mv mm ∧ TFl now L K V M sg fv fm ∧ TLe now L cnt K V M ko wr lv lm ∧ IX sg ix ∧ EM sg nx ∧ fl = sp 32 pr sz ∧ (dn = 0 → wp 32 wt pr)
section QIs
variable {nw L : Int} {K V M ver mv mm sg fv fm iq : Nat → Int32} {nx : Int} {ko wr lv lm : Nat → Int32} {cnt : Int} {pq sq : Nat → Int32} {fq : Int} {wq : Nat → Int32} {dn : Int}
theorem QI.log (h : QI nw L K V M ver mv mm sg fv fm iq nx ko wr lv lm cnt pq sq fq wq dn) {L' : Int} {K' V' M' ver' : Nat → Int32} {a c : Int32} {n : Nat} (hL0 : L ≤ 399) (ha : 0 ≤ a.toInt ∧ a.toInt ≤ 31) (hL : L' = L + 1) (hn : (n : Int) = L)
    (e1 : K' = upd K n a) (e2 : V' = upd V n (ver a.toNatClampNeg + 1)) (e3 : M' = upd M n c) (e4 : ver' = upd ver a.toNatClampNeg (ver a.toNatClampNeg + 1)) (hc : nw ≤ c.toInt) : QI nw L' K' V' M' ver' mv mm sg fv fm iq nx ko wr lv lm cnt pq sq fq wq dn := by
  obtain ⟨h1, h2, h3, h4, h5, h6, h7, h8⟩ := h
  exact ⟨h1.put hL0 ha hL hn e1 e2 e4, fun k k0 k1 => (h2 k k0 k1).put hL hn e1 e2 e3 hc, fun q hq s0 s1 => (h3 q hq s0 s1).put hL hn e1 e2 e3 hc, fun q hq hw => ⟨(h4 q hq hw).1, (h4 q hq hw).2.put hL hn e1 e2 e3 hc⟩, h5, h6, h7, h8⟩
theorem QI.now (h : QI nw L K V M ver mv mm sg fv fm iq nx ko wr lv lm cnt pq sq fq wq dn) {nw' : Int} (hn : nw ≤ nw') : QI nw' L K V M ver mv mm sg fv fm iq nx ko wr lv lm cnt pq sq fq wq dn := by
  obtain ⟨h1, h2, h3, h4, h5, h6, h7, h8⟩ := h
  exact ⟨h1, fun k k0 k1 => (h2 k k0 k1).later hn, fun q hq s0 s1 => (h3 q hq s0 s1).later hn, fun q hq hw => ⟨(h4 q hq hw).1, (h4 q hq hw).2.later hn⟩, h5, h6, h7, h8⟩
theorem QI.mem (h : QI nw L K V M ver mv mm sg fv fm iq nx ko wr lv lm cnt pq sq fq wq dn) {mv' mm' : Nat → Int32} {k v m : Int32} (hk : 0 ≤ k.toInt ∧ k.toInt ≤ 31) (ht : TI nw L K V M k v m) (e1 : mv' = upd mv k.toNatClampNeg v) (e2 : mm' = upd mm k.toNatClampNeg m) : QI nw L K V M ver mv' mm' sg fv fm iq nx ko wr lv lm cnt pq sq fq wq dn := by
  obtain ⟨h1, h2, h3, h4, h5, h6, h7, h8⟩ := h
  refine ⟨h1, fun j j0 j1 => ?_, h3, h4, h5, h6, h7, h8⟩
  rw [e1, e2]
  show TI nw L K V M j (if j.toNatClampNeg = k.toNatClampNeg then v else mv j.toNatClampNeg) (if j.toNatClampNeg = k.toNatClampNeg then m else mm j.toNatClampNeg)
  by_cases q : j.toNatClampNeg = k.toNatClampNeg
  · rw [if_pos q, if_pos q]
    have a1 := (q_ix (n := 32) ⟨j0, by omega⟩).2
    have a2 := (q_ix (n := 32) ⟨hk.1, by omega⟩).2
    have e : j = k := Int32.toInt_inj.mp (by omega)
    rw [e]; exact ht
  · rw [if_neg q, if_neg q]; exact h2 j j0 j1
theorem QI.pr (h : QI nw L K V M ver mv mm sg fv fm iq nx ko wr lv lm cnt pq sq fq wq dn) {pq' : Nat → Int32} {fq' : Int} (h7 : fq' = sp 32 pq' sq) (h8 : dn = 0 → wp 32 wq pq') : QI nw L K V M ver mv mm sg fv fm iq nx ko wr lv lm cnt pq' sq fq' wq dn :=
  ⟨h.1, h.2.1, h.2.2.1, h.2.2.2.1, h.2.2.2.2.1, h.2.2.2.2.2.1, h7, h8⟩
theorem QI.wt (h : QI nw L K V M ver mv mm sg fv fm iq nx ko wr lv lm cnt pq sq fq wq dn) {wq' : Nat → Int32} {dn' : Int} (h8 : dn' = 0 → wp 32 wq' pq) : QI nw L K V M ver mv mm sg fv fm iq nx ko wr lv lm cnt pq sq fq wq' dn' :=
  ⟨h.1, h.2.1, h.2.2.1, h.2.2.2.1, h.2.2.2.2.1, h.2.2.2.2.2.1, h.2.2.2.2.2.2.1, h8⟩
theorem QI.fl (h : QI nw L K V M ver mv mm sg fv fm iq nx ko wr lv lm cnt pq sq fq wq dn) {sg' fv' fm' iq' : Nat → Int32} {nx' : Int} (h3 : TFl nw L K V M sg' fv' fm') (h5 : IX sg' iq') (h6 : EM sg' nx') : QI nw L K V M ver mv mm sg' fv' fm' iq' nx' ko wr lv lm cnt pq sq fq wq dn :=
  ⟨h.1, h.2.1, h3, h.2.2.2.1, h5, h6, h.2.2.2.2.2.2⟩
theorem QI.le (h : QI nw L K V M ver mv mm sg fv fm iq nx ko wr lv lm cnt pq sq fq wq dn) {ko' wr' lv' lm' : Nat → Int32} {cnt' : Int} (h4 : TLe nw L cnt' K V M ko' wr' lv' lm') : QI nw L K V M ver mv mm sg fv fm iq nx ko' wr' lv' lm' cnt' pq sq fq wq dn :=
  ⟨h.1, h.2.1, h.2.2.1, h4, h.2.2.2.2⟩
theorem QI.sz (h : QI nw L K V M ver mv mm sg fv fm iq nx ko wr lv lm cnt pq sq fq wq dn) {sq' : Nat → Int32} (h7 : fq = sp 32 pq sq') : QI nw L K V M ver mv mm sg fv fm iq nx ko wr lv lm cnt pq sq' fq wq dn :=
  ⟨h.1, h.2.1, h.2.2.1, h.2.2.2.1, h.2.2.2.2.1, h.2.2.2.2.2.1, h7, h.2.2.2.2.2.2.2⟩
end QIs
/-- a slot of a key is laid -/
theorem NS.key {now L : Int} {K V M sg ix sg' ix' sg2 ix2 fv fm fv' fm' : Nat → Int32} {r nx' : Int} {at1 k v m : Int32} (h : NS sg ix sg' ix' r) (hr : at1.toInt = r) (hr2 : 0 ≤ r ∧ r ≤ 15) (hn : nx' = (r + 1) % 16) (hk : 0 ≤ k.toInt ∧ k.toInt ≤ 31)
    (e1 : sg2 = upd sg' at1.toNatClampNeg k) (e2 : ix2 = upd ix' k.toNatClampNeg at1) (e3 : fv' = upd fv at1.toNatClampNeg v) (e4 : fm' = upd fm at1.toNatClampNeg m) (ht : TFl now L K V M sg fv fm) (hi : TI now L K V M k v m) : TFl now L K V M sg2 fv' fm' ∧ IX sg2 ix2 ∧ EM sg2 nx' := by
  obtain ⟨n1, n2, n3, n4, n5⟩ := h
  have a1 := (q_ix (x := at1) (n := 16) ⟨by omega, by omega⟩)
  refine ⟨fun q hq => ?_, fun j j0 j1 => ?_, fun hm q hq hle hdiv => ?_⟩
  · rw [e1, e3, e4]
    show 0 ≤ (if q = at1.toNatClampNeg then k else sg' q).toInt → (if q = at1.toNatClampNeg then k else sg' q).toInt ≤ 31 → TI now L K V M (if q = at1.toNatClampNeg then k else sg' q) (if q = at1.toNatClampNeg then v else fv q) (if q = at1.toNatClampNeg then m else fm q)
    by_cases c : q = at1.toNatClampNeg
    · rw [if_pos c, if_pos c, if_pos c]; intro _ _; exact hi
    · rw [if_neg c, if_neg c, if_neg c]
      intro s0 s1
      rcases n1 q hq with e | e
      · rw [e] at s0 s1 ⊢; exact ht q hq s0 s1
      · omega
  · rw [e1, e2]
    show 0 ≤ (if j.toNatClampNeg = k.toNatClampNeg then at1 else ix' j.toNatClampNeg).toInt → (if (if j.toNatClampNeg = k.toNatClampNeg then at1 else ix' j.toNatClampNeg).toNatClampNeg = at1.toNatClampNeg then k else sg' (if j.toNatClampNeg = k.toNatClampNeg then at1 else ix' j.toNatClampNeg).toNatClampNeg) = j
    have b1 := (q_ix (x := j) (n := 32) ⟨j0, by omega⟩)
    have b2 := (q_ix (x := k) (n := 32) ⟨hk.1, by omega⟩)
    by_cases c : j.toNatClampNeg = k.toNatClampNeg
    · rw [if_pos c, if_pos rfl]; intro _; exact Int32.toInt_inj.mp (by omega)
    · rw [if_neg c]
      intro h0
      have h9 := n5 _ b1.1
      by_cases d : (ix' j.toNatClampNeg).toNatClampNeg = at1.toNatClampNeg
      · exfalso
        have b3 : ((ix' j.toNatClampNeg).toNatClampNeg : Int) = (ix' j.toNatClampNeg).toInt := by
          show (((ix' j.toNatClampNeg).toInt.toNat : Nat) : Int) = _
          omega
        omega
      · rw [if_neg d]; exact n4 j j0 j1 h0
  · rw [e1]
    show (if q = at1.toNatClampNeg then k else sg' q).toInt = -1
    rw [if_neg (by omega)]
    exact n3 q hq (by omega) (by omega)
/-- a mark is laid -/
theorem NS.mark {now L : Int} {K V M sg ix sg' ix' sg2 ix2 fv fm : Nat → Int32} {r nx' : Int} {at1 k w x : Int32} (h : NS sg ix sg' ix' r) (hr : at1.toInt = r) (hr2 : 0 ≤ r ∧ r ≤ 15) (hn : nx' = (r + 1) % 16) (hk : 0 ≤ k.toInt ∧ k.toInt ≤ 31) (hw : 100 ≤ w.toInt) (hx : x.toInt = -1)
    (e1 : sg2 = upd sg' at1.toNatClampNeg w) (e2 : ix2 = upd ix' k.toNatClampNeg x) (ht : TFl now L K V M sg fv fm) : TFl now L K V M sg2 fv fm ∧ IX sg2 ix2 ∧ EM sg2 nx' := by
  obtain ⟨n1, n2, n3, n4, n5⟩ := h
  have a1 := (q_ix (x := at1) (n := 16) ⟨by omega, by omega⟩)
  refine ⟨fun q hq => ?_, fun j j0 j1 => ?_, fun hm q hq hle hdiv => ?_⟩
  · rw [e1]
    show 0 ≤ (if q = at1.toNatClampNeg then w else sg' q).toInt → (if q = at1.toNatClampNeg then w else sg' q).toInt ≤ 31 → TI now L K V M (if q = at1.toNatClampNeg then w else sg' q) (fv q) (fm q)
    by_cases c : q = at1.toNatClampNeg
    · rw [if_pos c]; intro _ _; omega
    · rw [if_neg c]
      intro s0 s1
      rcases n1 q hq with e | e
      · rw [e] at s0 s1 ⊢; exact ht q hq s0 s1
      · omega
  · rw [e1, e2]
    show 0 ≤ (if j.toNatClampNeg = k.toNatClampNeg then x else ix' j.toNatClampNeg).toInt → (if (if j.toNatClampNeg = k.toNatClampNeg then x else ix' j.toNatClampNeg).toNatClampNeg = at1.toNatClampNeg then w else sg' (if j.toNatClampNeg = k.toNatClampNeg then x else ix' j.toNatClampNeg).toNatClampNeg) = j
    have b1 := (q_ix (x := j) (n := 32) ⟨j0, by omega⟩)
    by_cases c : j.toNatClampNeg = k.toNatClampNeg
    · rw [if_pos c]; intro h0; omega
    · rw [if_neg c]
      intro h0
      have h9 := n5 _ b1.1
      by_cases d : (ix' j.toNatClampNeg).toNatClampNeg = at1.toNatClampNeg
      · exfalso
        have b3 : ((ix' j.toNatClampNeg).toNatClampNeg : Int) = (ix' j.toNatClampNeg).toInt := by
          show (((ix' j.toNatClampNeg).toInt.toNat : Nat) : Int) = _
          omega
        omega
      · rw [if_neg d]; exact n4 j j0 j1 h0
  · rw [e1]
    show (if q = at1.toNatClampNeg then w else sg' q).toInt = -1
    rw [if_neg (by omega)]
    exact n3 q hq (by omega) (by omega)
/-- the rows of a segment that is begun anew: the index up to n, the signs from a to n -/
def BA (a b n : Int) (f g : Nat → Int32) : Prop := ∀ j : Nat, j < 32 → ((j : Int) < n → a ≤ (f j).toInt → (f j).toInt < b → (g j).toInt = -1) ∧ (¬((j : Int) < n ∧ a ≤ (f j).toInt ∧ (f j).toInt < b) → g j = f j)
def BS (a n : Int) (f g : Nat → Int32) : Prop := ∀ q : Nat, q < 16 → (a ≤ (q : Int) → (q : Int) < n → (g q).toInt = -1) ∧ (¬(a ≤ (q : Int) ∧ (q : Int) < n) → g q = f q)
theorem BA.zero {a b n : Int} {f : Nat → Int32} (h : n = 0) : BA a b n f f := fun j _ => ⟨fun h1 => by omega, fun _ => rfl⟩
theorem BS.zero {a n : Int} {f : Nat → Int32} (h : n = a) : BS a n f f := fun q _ => ⟨fun h1 h2 => by omega, fun _ => rfl⟩
theorem BA.skip {a b n n' : Int} {f g : Nat → Int32} {k z : Int32} (h : BA a b n f g) (hk : k.toInt = n) (hk0 : 0 ≤ k.toInt ∧ k.toInt ≤ 31) (hn : n' = n + 1) (ez : z = g k.toNatClampNeg) (hz : z.toInt < a ∨ b ≤ z.toInt) : BA a b n' f g := by
  have a1 := q_ix (x := k) (n := 32) ⟨hk0.1, by omega⟩
  intro j hj
  by_cases c : (j : Int) = n
  · have e : j = k.toNatClampNeg := by omega
    have h2 := (h j hj).2 (by omega)
    rw [e] at h2 ⊢
    rw [← h2, ← ez]
    refine ⟨fun _ h3 h4 => by omega, fun _ => ?_⟩
    rw [ez]
  · refine ⟨fun h1 => (h j hj).1 (by omega), fun h1 => (h j hj).2 (by omega)⟩
theorem BA.set {a b n n' : Int} {f g g' : Nat → Int32} {k x : Int32} (h : BA a b n f g) (hk : k.toInt = n) (hk0 : 0 ≤ k.toInt ∧ k.toInt ≤ 31) (hn : n' = n + 1) (hx : x.toInt = -1) (hz : a ≤ (g k.toNatClampNeg).toInt ∧ (g k.toNatClampNeg).toInt < b) (e : g' = upd g k.toNatClampNeg x) : BA a b n' f g' := by
  have a1 := q_ix (x := k) (n := 32) ⟨hk0.1, by omega⟩
  intro j hj
  rw [e]
  show (_ → _ → _ → (if j = k.toNatClampNeg then x else g j).toInt = -1) ∧ (_ → (if j = k.toNatClampNeg then x else g j) = f j)
  by_cases c : j = k.toNatClampNeg
  · have h2 := (h j hj).2 (by omega)
    rw [if_pos c]
    rw [← c, h2] at hz
    exact ⟨fun _ _ _ => hx, fun h1 => absurd ⟨by omega, hz.1, hz.2⟩ h1⟩
  · rw [if_neg c]
    exact ⟨fun h1 => (h j hj).1 (by omega), fun h1 => (h j hj).2 (by omega)⟩
theorem BS.set {a n n' : Int} {f g g' : Nat → Int32} {k x : Int32} (h : BS a n f g) (hk : k.toInt = n) (hk0 : 0 ≤ k.toInt ∧ k.toInt ≤ 15) (ha : a ≤ n) (hn : n' = n + 1) (hx : x.toInt = -1) (e : g' = upd g k.toNatClampNeg x) : BS a n' f g' := by
  have a1 := q_ix (x := k) (n := 16) ⟨hk0.1, by omega⟩
  intro j hj
  rw [e]
  show (_ → _ → (if j = k.toNatClampNeg then x else g j).toInt = -1) ∧ (_ → (if j = k.toNatClampNeg then x else g j) = f j)
  by_cases c : j = k.toNatClampNeg
  · rw [if_pos c]
    exact ⟨fun _ _ => hx, fun h1 => absurd ⟨by omega, by omega⟩ h1⟩
  · rw [if_neg c]
    exact ⟨fun h1 h2 => (h j hj).1 h1 (by omega), fun h1 => (h j hj).2 (by omega)⟩
theorem NS.anew {sg ix sg' ix' : Nat → Int32} {r b n : Int} (h : IX sg ix) (hi : rg (-1) 15 32 ix) (hr : 0 ≤ r ∧ r ≤ 12) (hr4 : r % 4 = 0) (hb : b = r + 4) (hn : 32 ≤ n) (h1 : BA r b n ix ix') (h2 : BS r b sg sg') : NS sg ix sg' ix' r := by
  subst hb
  refine ⟨fun q hq => ?_, fun k hk => ?_, fun q hq h3 h4 => ?_, fun k k0 k1 h0 => ?_, fun k hk e => ?_⟩
  · by_cases c : r ≤ (q : Int) ∧ (q : Int) < r + 4
    · exact Or.inr ((h2 q hq).1 c.1 c.2)
    · exact Or.inl ((h2 q hq).2 c)
  · by_cases c : r ≤ (ix k).toInt ∧ (ix k).toInt < r + 4
    · exact Or.inr ((h1 k hk).1 (by omega) c.1 c.2)
    · exact Or.inl ((h1 k hk).2 (fun d => c ⟨d.2.1, d.2.2⟩))
  · exact (h2 q hq).1 h3 (by omega)
  · have a1 := q_ix (x := k) (n := 32) ⟨k0, by omega⟩
    by_cases c : r ≤ (ix k.toNatClampNeg).toInt ∧ (ix k.toNatClampNeg).toInt < r + 4
    · have := (h1 _ a1.1).1 (by omega) c.1 c.2; omega
    · have e := (h1 _ a1.1).2 (fun d => c ⟨d.2.1, d.2.2⟩)
      rw [e] at h0 ⊢
      have b1 := hi _ a1.1
      have b2 := q_ix (x := ix k.toNatClampNeg) (n := 16) ⟨h0, by omega⟩
      rw [(h2 _ b2.1).2 (by omega)]
      exact h k k0 k1 h0
  · by_cases c : r ≤ (ix k).toInt ∧ (ix k).toInt < r + 4
    · have := (h1 k hk).1 (by omega) c.1 c.2; omega
    · have e2 := (h1 k hk).2 (fun d => c ⟨d.2.1, d.2.2⟩)
      rw [e2] at e
      omega
theorem NS.same {sg ix : Nat → Int32} {r : Int} (h : IX sg ix) (hE : EM sg r) (hr : 0 ≤ r ∧ r ≤ 15) (hr4 : r % 4 ≠ 0) : NS sg ix sg ix r := by
  refine ⟨fun q hq => Or.inl rfl, fun k hk => Or.inl rfl, fun q hq h3 h4 => hE hr4 q hq h3 h4, h, fun k hk e => ?_⟩
  have e1 : (Int32.ofNat k).toInt = k := nI_toInt (by omega)
  have e2 : (Int32.ofNat k).toNatClampNeg = k := by
    show (Int32.ofNat k).toInt.toNat = k
    rw [e1]; omega
  have h9 := h (Int32.ofNat k) (by omega) (by omega) (by rw [e2]; omega)
  rw [e2] at h9
  have b2 := q_ix (x := ix k) (n := 16) ⟨by omega, by omega⟩
  have h8 := hE hr4 _ b2.1 (by omega) (by omega)
  rw [h9] at h8
  omega
theorem TI.stale {now L : Int} {K V M : Nat → Int32} {k v m z zv w t at1 : Int32} (h : TI now L K V M k v m) (h0 : 0 ≤ at1.toInt) (hL : at1.toInt < L) (ez : z = K at1.toNatClampNeg) (hz : z.toInt = k.toInt) (ev : zv = V at1.toNatClampNeg) (ew : w = v + 1) (hv : zv.toInt = w.toInt) (et : t = M at1.toNatClampNeg) : m.toInt ≤ t.toInt := by
  have b := (q_ix (x := at1) (n := at1.toInt.toNat + 1) ⟨h0, by omega⟩).2
  rw [et]
  refine h.2 _ (by omega) ?_ ?_
  · rw [← ez]; exact Int32.toInt_inj.mp hz
  · rw [← ev, ← ew]; exact Int32.toInt_inj.mp hv
/-- what append and takeOut leave -/
def AP (sg ix : Nat → Int32) (nx : Int) (fv fm sg2 ix2 : Nat → Int32) (nx2 : Int) (fv2 fm2 : Nat → Int32) (k v m : Int32) : Prop := ∃ (s1 i1 : Nat → Int32) (r : Int32), NS sg ix s1 i1 nx ∧ r.toInt = nx ∧ sg2 = upd s1 r.toNatClampNeg k ∧ ix2 = upd i1 k.toNatClampNeg r ∧ fv2 = upd fv r.toNatClampNeg v ∧ fm2 = upd fm r.toNatClampNeg m ∧ nx2 = (nx + 1) % 16
def TO (sg ix : Nat → Int32) (nx : Int) (sg2 ix2 : Nat → Int32) (nx2 : Int) (k : Int32) : Prop := (sg2 = sg ∧ ix2 = ix ∧ nx2 = nx) ∨ ∃ (s1 i1 : Nat → Int32) (r w x : Int32), NS sg ix s1 i1 nx ∧ r.toInt = nx ∧ 100 ≤ w.toInt ∧ x.toInt = -1 ∧ sg2 = upd s1 r.toNatClampNeg w ∧ ix2 = upd i1 k.toNatClampNeg x ∧ nx2 = (nx + 1) % 16
section QI2
variable {nw L : Int} {K V M ver mv mm sg fv fm iq : Nat → Int32} {nx : Int} {ko wr lv lm : Nat → Int32} {cnt : Int} {pq sq : Nat → Int32} {fq : Int} {wq : Nat → Int32} {dn : Int}
theorem QI.app (h : QI nw L K V M ver mv mm sg fv fm iq nx ko wr lv lm cnt pq sq fq wq dn) {sg2 ix2 fv2 fm2 : Nat → Int32} {nx2 : Int} {k v m : Int32} (hn : 0 ≤ nx ∧ nx ≤ 15) (hk : 0 ≤ k.toInt ∧ k.toInt ≤ 31) (ht : TI nw L K V M k v m) (a : AP sg iq nx fv fm sg2 ix2 nx2 fv2 fm2 k v m) : QI nw L K V M ver mv mm sg2 fv2 fm2 ix2 nx2 ko wr lv lm cnt pq sq fq wq dn := by
  obtain ⟨s1, i1, r, a1, a2, a3, a4, a5, a6, a7⟩ := a
  obtain ⟨b1, b2, b3⟩ := a1.key a2 hn a7 hk a3 a4 a5 a6 h.2.2.1 ht
  exact h.fl b1 b2 b3
theorem QI.out (h : QI nw L K V M ver mv mm sg fv fm iq nx ko wr lv lm cnt pq sq fq wq dn) {sg2 ix2 : Nat → Int32} {nx2 : Int} {k : Int32} (hn : 0 ≤ nx ∧ nx ≤ 15) (hk : 0 ≤ k.toInt ∧ k.toInt ≤ 31) (a : TO sg iq nx sg2 ix2 nx2 k) : QI nw L K V M ver mv mm sg2 fv fm ix2 nx2 ko wr lv lm cnt pq sq fq wq dn := by
  rcases a with ⟨rfl, rfl, rfl⟩ | ⟨s1, i1, r, w, x, a1, a2, a3, a4, a5, a6, a7⟩
  · exact h
  · obtain ⟨b1, b2, b3⟩ := a1.mark a2 hn a7 hk a3 a4 a5 a6 h.2.2.1
    exact h.fl b1 b2 b3
theorem QI.ix (h : QI nw L K V M ver mv mm sg fv fm iq nx ko wr lv lm cnt pq sq fq wq dn) {iq' : Nat → Int32} (h5 : IX sg iq') : QI nw L K V M ver mv mm sg fv fm iq' nx ko wr lv lm cnt pq sq fq wq dn := h.fl h.2.2.1 h5 h.2.2.2.2.2.1
/-- the entry of a key in the flash -/
theorem QI.fti (h : QI nw L K V M ver mv mm sg fv fm iq nx ko wr lv lm cnt pq sq fq wq dn) {k z : Int32} (hk : 0 ≤ k.toInt ∧ k.toInt ≤ 31) (ez : z = iq k.toNatClampNeg) (hz : 0 ≤ z.toInt ∧ z.toInt ≤ 15) : TI nw L K V M k (fv z.toNatClampNeg) (fm z.toNatClampNeg) := by
  have h1 := h.2.2.2.2.1 k hk.1 hk.2 (by rw [← ez]; exact hz.1)
  rw [← ez] at h1
  have h2 := h.2.2.1 z.toNatClampNeg (q_ix (n := 16) ⟨hz.1, by omega⟩).1
  rw [h1] at h2
  exact h2 hk.1 hk.2
theorem QI.mti (h : QI nw L K V M ver mv mm sg fv fm iq nx ko wr lv lm cnt pq sq fq wq dn) {k : Int32} (hk : 0 ≤ k.toInt ∧ k.toInt ≤ 31) : TI nw L K V M k (mv k.toNatClampNeg) (mm k.toNatClampNeg) := h.2.1 k hk.1 hk.2
theorem QI.lti (h : QI nw L K V M ver mv mm sg fv fm iq nx ko wr lv lm cnt pq sq fq wq dn) {q : Int32} (hq : 0 ≤ q.toInt ∧ q.toInt ≤ 59) (hw : (wr q.toNatClampNeg).toInt = 1) : TI nw L K V M (ko q.toNatClampNeg) (lv q.toNatClampNeg) (lm q.toNatClampNeg) := (h.2.2.2.1 _ (q_ix (n := 60) ⟨hq.1, by omega⟩).1 hw).2
theorem QI.vers (h : QI nw L K V M ver mv mm sg fv fm iq nx ko wr lv lm cnt pq sq fq wq dn) {k : Int32} (hk : 0 ≤ k.toInt ∧ k.toInt ≤ 31) : 0 ≤ (ver k.toNatClampNeg).toInt ∧ (ver k.toNatClampNeg).toInt ≤ L := h.1.1 _ (q_ix (n := 32) ⟨hk.1, by omega⟩).1
/-- a lease is given, a lease is read -/
theorem QI.give (h : QI nw L K V M ver mv mm sg fv fm iq nx ko wr lv lm cnt pq sq fq wq dn) {ko' : Nat → Int32} {cnt' : Int} {n : Nat} {k : Int32} (hn : (n : Int) = cnt) (e : ko' = upd ko n k) (hc : cnt' = cnt + 1) : QI nw L K V M ver mv mm sg fv fm iq nx ko' wr lv lm cnt' pq sq fq wq dn := by
  refine h.le (fun q hq hw => ?_)
  obtain ⟨a, b⟩ := h.2.2.2.1 q hq hw
  refine ⟨by omega, ?_⟩
  rw [e]
  show TI nw L K V M (if q = n then k else ko q) (lv q) (lm q)
  rw [if_neg (by omega)]; exact b
theorem QI.read (h : QI nw L K V M ver mv mm sg fv fm iq nx ko wr lv lm cnt pq sq fq wq dn) {wr' lv' lm' : Nat → Int32} {q x v m : Int32} (hq : 0 ≤ q.toInt ∧ q.toInt < cnt) (ht : TI nw L K V M (ko q.toNatClampNeg) v m) (e1 : wr' = upd wr q.toNatClampNeg x) (e2 : lv' = upd lv q.toNatClampNeg v) (e3 : lm' = upd lm q.toNatClampNeg m) : QI nw L K V M ver mv mm sg fv fm iq nx ko wr' lv' lm' cnt pq sq fq wq dn := by
  have a1 := (q_ix (x := q) (n := q.toInt.toNat + 1) ⟨hq.1, by omega⟩).2
  refine h.le (fun j hj => ?_)
  rw [e1, e2, e3]
  show (if j = q.toNatClampNeg then x else wr j).toInt = 1 → (j : Int) < cnt ∧ TI nw L K V M (ko j) (if j = q.toNatClampNeg then v else lv j) (if j = q.toNatClampNeg then m else lm j)
  by_cases c : j = q.toNatClampNeg
  · rw [if_pos c, if_pos c, if_pos c]; intro _; rw [c]; exact ⟨by omega, ht⟩
  · rw [if_neg c, if_neg c, if_neg c]; exact h.2.2.2.1 j hj
/-- the memory is lost -/
theorem QI.crash (h : QI nw L K V M ver mv mm sg fv fm iq nx ko wr lv lm cnt pq sq fq wq dn) {pq' iq' : Nat → Int32} {fq' dn' : Int} (hp : rg 0 0 32 pq') (hf : fq' = 0) (hi : rg (-1) (-1) 32 iq') (hd : dn' = 1) : QI nw L K V M ver mv mm sg fv fm iq' nx ko wr lv lm cnt pq' sq fq' wq dn' := by
  refine ⟨h.1, h.2.1, h.2.2.1, h.2.2.2.1, fun k k0 k1 h0 => ?_, h.2.2.2.2.2.1, by rw [hf, sp_zero hp], fun h1 => by omega⟩
  have := hi _ (q_ix (x := k) (n := 32) ⟨k0, by omega⟩).1
  omega
end QI2
theorem IX.set {sg ix ix' : Nat → Int32} {k x : Int32} (h : IX sg ix) (hk : 0 ≤ k.toInt ∧ k.toInt ≤ 31) (e : ix' = upd ix k.toNatClampNeg x) (hx : x.toInt = -1 ∨ sg x.toNatClampNeg = k) : IX sg ix' := by
  intro j j0 j1
  rw [e]
  show 0 ≤ (if j.toNatClampNeg = k.toNatClampNeg then x else ix j.toNatClampNeg).toInt → sg (if j.toNatClampNeg = k.toNatClampNeg then x else ix j.toNatClampNeg).toNatClampNeg = j
  by_cases c : j.toNatClampNeg = k.toNatClampNeg
  · rw [if_pos c]
    intro h0
    have b1 := (q_ix (x := j) (n := 32) ⟨j0, by omega⟩)
    have b2 := (q_ix (x := k) (n := 32) ⟨hk.1, by omega⟩)
    rcases hx with hx | hx
    · omega
    · rw [hx]; exact Int32.toInt_inj.mp (by omega)
  · rw [if_neg c]; exact h j j0 j1
theorem upd_id {f : Nat → Int32} {k : Nat} {x : Int32} (h : (f k).toInt = x.toInt) : f = upd f k x := by
  funext j
  show f j = if j = k then x else f j
  by_cases c : j = k
  · rw [if_pos c, c]; exact Int32.toInt_inj.mp h
  · rw [if_neg c]
theorem sp_ge {f g : Nat → Int32} {k : Nat} : ∀ {n : Nat}, rg 0 1 n f → rg 1 4 n g → k < n → (f k).toInt = 1 → (g k).toInt ≤ sp n f g
  | 0, _, _, h, _ => absurd h (Nat.not_lt_zero _)
  | n + 1, r, s, h, e => by
    have nn : ∀ {m : Nat}, m ≤ n → 0 ≤ sp m f g := by
      intro m
      induction m with
      | zero => intro _; exact Int.le_refl _
      | succ m ih =>
        intro hm
        have a1 := ih (by omega)
        have a2 := r m (by omega)
        have a3 := s m (by omega)
        simp only [sp]
        have a4 := Int.mul_nonneg a2.1 (Int.le_trans (by decide) a3.1)
        omega
    simp only [sp]
    by_cases c : n = k
    · subst c
      rw [e]
      have := nn (Nat.le_refl n)
      omega
    · have a1 := sp_ge (n := n) (fun j hj => r j (Nat.lt_succ_of_lt hj)) (fun j hj => s j (Nat.lt_succ_of_lt hj)) (by omega : k < n) e
      have a2 := r n (Nat.lt_succ_self n)
      have a3 := s n (Nat.lt_succ_self n)
      have a4 := Int.mul_nonneg a2.1 (Int.le_trans (by decide) a3.1)
      omega
theorem cn_zero {f : Nat → Int32} : ∀ {n : Nat}, rg 0 1 n f → cn n f ≤ 0 → rg 0 0 n f
  | 0, _, _ => fun j hj => absurd hj (Nat.not_lt_zero _)
  | n + 1, r, h => by
    have h1 := cn_bd (n := n) (fun j hj => r j (Nat.lt_succ_of_lt hj))
    have h2 := r n (Nat.lt_succ_self n)
    simp only [cn] at h
    have h3 := cn_zero (n := n) (fun j hj => r j (Nat.lt_succ_of_lt hj)) (by omega)
    intro j hj
    by_cases c : j = n
    · rw [c]; omega
    · exact h3 j (by omega)
/-- the sizes of those chosen -/
def so : Nat → (Nat → Int32) → (Nat → Int32) → Int
  | 0, _, _ => 0
  | n + 1, od, sz => so n od sz + (sz (od n).toNatClampNeg).toInt
theorem so_out {od sz : Nat → Int32} {k : Nat} {x : Int32} : ∀ {n : Nat}, n ≤ k → so n (upd od k x) sz = so n od sz
  | 0, _ => rfl
  | n + 1, h => by
    simp only [so]
    rw [so_out (n := n) (by omega)]
    show _ + (sz (if n = k then x else od n).toNatClampNeg).toInt = _
    rw [if_neg (by omega)]
/-- while leavers are chosen for a key -/
def LC (c la fl : Int) (od ch pr wt sz : Nat → Int32) (k : Int32) : Prop :=
  (∀ i : Nat, (i : Int) < c → (0 ≤ (od i).toInt ∧ (od i).toInt ≤ 31) ∧ (pr (od i).toNatClampNeg).toInt = 1 ∧ (wt (od i).toNatClampNeg).toInt = 0 ∧ (ch (od i).toNatClampNeg).toInt = 1) ∧
  (∀ i j : Nat, i < j → (j : Int) < c → od i ≠ od j) ∧ ((pr k.toNatClampNeg).toInt = 1 → la ≤ 0 ∧ c = 0) ∧ ((pr k.toNatClampNeg).toInt = 0 → la = fl + (sz k.toNatClampNeg).toInt - 12 - so c.toNat od sz)
/-- the leavers from the place p on -/
def CH (p c fl : Int) (od pr wt sz : Nat → Int32) (k : Int32) : Prop :=
  (∀ i : Nat, p ≤ (i : Int) → (i : Int) < c → (0 ≤ (od i).toInt ∧ (od i).toInt ≤ 31) ∧ (pr (od i).toNatClampNeg).toInt = 1 ∧ (wt (od i).toNatClampNeg).toInt = 0) ∧
  (∀ i j : Nat, i < j → (j : Int) < c → od i ≠ od j) ∧ ((pr k.toNatClampNeg).toInt = 1 → c ≤ p) ∧ ((pr k.toNatClampNeg).toInt = 0 → fl + (sz k.toNatClampNeg).toInt - (so c.toNat od sz - so p.toNat od sz) ≤ 12)
theorem LC.zero {la fl : Int} {od ch pr wt sz : Nat → Int32} {k : Int32} {c : Int} (hc : c = 0) (h1 : (pr k.toNatClampNeg).toInt = 1 → la ≤ 0) (h0 : (pr k.toNatClampNeg).toInt = 0 → la = fl + (sz k.toNatClampNeg).toInt - 12) : LC c la fl od ch pr wt sz k := by
  subst hc
  exact ⟨fun i hi => by omega, fun i j _ hj => by omega, fun h => ⟨h1 h, rfl⟩, fun h => by rw [h0 h]; show _ = _ - (0 : Int); omega⟩
theorem LC.add {c c' la la' fl : Int} {od ch pr wt sz od' ch' : Nat → Int32} {k q x : Int32} {n : Nat} (h : LC c la fl od ch pr wt sz k) (hla : 0 < la) (hn : (n : Int) = c) (hc : c' = c + 1) (hq : 0 ≤ q.toInt ∧ q.toInt ≤ 31) (hp : (pr q.toNatClampNeg).toInt = 1) (hw : (wt q.toNatClampNeg).toInt = 0) (hch : (ch q.toNatClampNeg).toInt = 0) (hx : x.toInt = 1)
    (e1 : od' = upd od n q) (e2 : ch' = upd ch q.toNatClampNeg x) (el : la' = la - (sz q.toNatClampNeg).toInt) : LC c' la' fl od' ch' pr wt sz k := by
  obtain ⟨h1, h2, h3, h4⟩ := h
  have on : ∀ i : Nat, od' i = if i = n then q else od i := fun i => by rw [e1]; rfl
  have cw : ∀ j : Nat, (ch' j).toInt = if j = q.toNatClampNeg then x.toInt else (ch j).toInt := fun j => by
    rw [e2]; show (if j = q.toNatClampNeg then x else ch j).toInt = _
    by_cases e : j = q.toNatClampNeg
    · rw [if_pos e, if_pos e]
    · rw [if_neg e, if_neg e]
  refine ⟨fun i hi => ?_, fun i j hij hj => ?_, fun hk => ?_, fun hk => ?_⟩
  · rw [on]
    by_cases e : i = n
    · rw [if_pos e]; exact ⟨hq, hp, hw, by rw [cw, if_pos rfl]; exact hx⟩
    · rw [if_neg e]
      obtain ⟨a1, a2, a3, a4⟩ := h1 i (by omega)
      refine ⟨a1, a2, a3, ?_⟩
      rw [cw]
      by_cases e9 : (od i).toNatClampNeg = q.toNatClampNeg
      · rw [if_pos e9]; exact hx
      · rw [if_neg e9]; exact a4
  · rw [on, on]
    by_cases e : j = n
    · rw [if_neg (by omega), if_pos e]
      intro hh
      have a4 := (h1 i (by omega)).2.2.2
      rw [hh] at a4; omega
    · rw [if_neg (by omega), if_neg e]; exact h2 i j hij (by omega)
  · have := h3 hk; omega
  · have := h4 hk
    have e9 : c'.toNat = n + 1 := by omega
    have e8 : c.toNat = n := by omega
    rw [e9]
    simp only [so]
    rw [e1, so_out (Nat.le_refl n)]
    show la' = _ - (_ + (sz (if n = n then q else od n).toNatClampNeg).toInt)
    rw [if_pos rfl]
    rw [e8] at this
    omega
theorem LC.done {c la fl : Int} {od ch pr wt sz : Nat → Int32} {k : Int32} (h : LC c la fl od ch pr wt sz k) (hl : la ≤ 0) : CH 0 c fl od pr wt sz k := by
  obtain ⟨h1, h2, h3, h4⟩ := h
  refine ⟨fun i _ hi => ⟨(h1 i hi).1, (h1 i hi).2.1, (h1 i hi).2.2.1⟩, h2, fun hk => by have := h3 hk; omega, fun hk => ?_⟩
  have := h4 hk
  show _ - (_ - (0 : Int)) ≤ 12
  omega
theorem CH.step {p p' c fl fl' : Int} {od pr wt sz pr' : Nat → Int32} {k q x : Int32} {n : Nat} (h : CH p c fl od pr wt sz k) (hn : (n : Int) = p) (hp : p' = p + 1) (hc : p < c) (eq1 : q = od n) (hx : x.toInt = 0) (hk : 0 ≤ k.toInt ∧ k.toInt ≤ 31) (e : pr' = upd pr q.toNatClampNeg x) (ef : fl' = fl - (sz q.toNatClampNeg).toInt) (rp : (pr k.toNatClampNeg).toInt = 0 ∨ (pr k.toNatClampNeg).toInt = 1) : CH p' c fl' od pr' wt sz k := by
  obtain ⟨h1, h2, h3, h4⟩ := h
  obtain ⟨a1, a2, a3⟩ := h1 n (by omega) (by omega)
  rw [← eq1] at a1 a2 a3
  have rp0 : (pr k.toNatClampNeg).toInt = 0 := by
    rcases rp with r | r
    · exact r
    · have := h3 r; omega
  have cw : ∀ j : Nat, j ≠ q.toNatClampNeg → pr' j = pr j := fun j hj => by rw [e]; exact if_neg hj
  have b1 := q_ix (x := q) (n := 32) ⟨a1.1, by omega⟩
  refine ⟨fun i hi hi2 => ?_, h2, fun hk1 => ?_, fun _ => ?_⟩
  · obtain ⟨c1, c2, c3⟩ := h1 i (by omega) hi2
    refine ⟨c1, ?_, c3⟩
    have d := h2 n i (by omega) hi2
    rw [← eq1] at d
    have b2 := q_ix (x := od i) (n := 32) ⟨c1.1, by omega⟩
    rw [cw _ (fun e9 => d (Int32.toInt_inj.mp (by omega)))]
    exact c2
  · exfalso
    have : (pr' k.toNatClampNeg).toInt = 0 := by
      by_cases e9 : k.toNatClampNeg = q.toNatClampNeg
      · rw [e9] at rp0; omega
      · rw [cw _ e9]; exact rp0
    omega
  · have := h4 rp0
    have e9 : p'.toNat = n + 1 := by omega
    have e8 : p.toNat = n := by omega
    rw [e9]
    simp only [so]
    rw [← eq1]
    rw [e8] at this
    omega
theorem BA.cast {a b n a' b' n' : Int} {f g : Nat → Int32} (h : BA a b n f g) (ha : a' = a) (hb : b' = b) (hn : n' = n) : BA a' b' n' f g := by subst ha; subst hb; subst hn; exact h
theorem BS.cast {a n a' n' : Int} {f g : Nat → Int32} (h : BS a n f g) (ha : a' = a) (hn : n' = n) : BS a' n' f g := by subst ha; subst hn; exact h
theorem sp_z0 {f g : Nat → Int32} : sp (0 : Int32).toInt.toNat f g = 0 := rfl
theorem sp_step {f g : Nat → Int32} {k k' : Int32} (h : k'.toInt = k.toInt + 1) (h0 : 0 ≤ k.toInt) : sp k'.toInt.toNat f g = sp k.toInt.toNat f g + (f k.toNatClampNeg).toInt * (g k.toNatClampNeg).toInt := by
  rw [show k'.toInt.toNat = k.toInt.toNat + 1 by omega]; rfl
theorem QI.init {now L : Int} {K V M ver mv mm sg fv fm ix : Nat → Int32} {nx : Int} {ko wr lv lm : Nat → Int32} {cnt : Int} {pr sz : Nat → Int32} {fl : Int} {wt : Nat → Int32} {dn : Int} (hn : now = 0) (hL : L = 0) (h1 : rg 0 0 32 ver) (h2 : rg 0 0 32 mm) (h3 : rg (-1) (-1) 16 sg) (h4 : rg 0 0 60 wr) (h5 : rg (-1) (-1) 32 ix) (h6 : nx = 0) (h7 : rg 0 0 32 pr) (h8 : fl = 0) (h9 : rg 0 0 32 wt) : QI now L K V M ver mv mm sg fv fm ix nx ko wr lv lm cnt pr sz fl wt dn := by
  refine ⟨⟨fun k hk => by have := h1 k hk; omega, fun e he => by omega⟩, fun k k0 k1 => ⟨by have := h2 _ (q_ix (x := k) (n := 32) ⟨k0, by omega⟩).1; omega, fun e he => by omega⟩, fun q hq s0 => by have := h3 q hq; omega, fun q hq hw => by have := h4 q hq; omega, fun k k0 k1 h0 => by have := h5 _ (q_ix (x := k) (n := 32) ⟨k0, by omega⟩).1; omega, fun h0 => by omega, by rw [h8, sp_zero h7], fun _ => wp_z h9⟩
