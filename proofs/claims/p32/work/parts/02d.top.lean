/-! ===== clauses, rows with holes, counts, floats ===== -/
theorem cl_no {a la ha lo hi : Int} (A : la ≤ a ∧ a ≤ ha) (h : ha < lo ∨ hi < la) : ¬ (lo ≤ a ∧ a ≤ hi) := by omega
theorem cl_at {f : Nat → Int32} {i : Nat} {z : Int32} {lo hi : Int} (e : z = f i) (h : lo ≤ z.toInt ∧ z.toInt ≤ hi) : lo ≤ (f i).toInt ∧ (f i).toInt ≤ hi := by rw [← e]; exact h
theorem cl_ta {f : Nat → Int32} {i : Nat} {z : Int32} {lo hi : Int} (e : z = f i) (h : lo ≤ (f i).toInt ∧ (f i).toInt ≤ hi) : lo ≤ z.toInt ∧ z.toInt ≤ hi := by rw [e]; exact h
theorem cl_in {a la ha lb hb l h : Int} (A : la ≤ a ∧ a ≤ ha) (B : lb ≤ a ∧ a ≤ hb) (h1 : l ≤ la ∨ l ≤ lb) (h2 : ha ≤ h ∨ hb ≤ h) : l ≤ a ∧ a ≤ h := by omega
def rh3 (n : Nat) (f : Nat → Int32) : Prop := ∀ j, j < n → ((-1) ≤ (f j).toInt ∧ (f j).toInt ≤ (-1)) ∨ (0 ≤ (f j).toInt ∧ (f j).toInt ≤ 31) ∨ (100 ≤ (f j).toInt ∧ (f j).toInt ≤ 131)
theorem rh3.at {n : Nat} {f : Nat → Int32} (h : rh3 n f) {x y : Int32} {l2 h2 : Int} (hx : l2 ≤ x.toInt ∧ x.toInt ≤ h2) (h0 : 0 ≤ l2) (h1 : h2 < n) (hy : y = f x.toNatClampNeg) :
    ((-1) ≤ y.toInt ∧ y.toInt ≤ (-1)) ∨ (0 ≤ y.toInt ∧ y.toInt ≤ 31) ∨ (100 ≤ y.toInt ∧ y.toInt ≤ 131) := by
  rw [hy]; exact h _ (q_ix ⟨Int.le_trans h0 hx.1, Int.lt_of_le_of_lt hx.2 h1⟩).1
theorem rh3.up {n : Nat} {f : Nat → Int32} (h : rh3 n f) {k : Nat} {x : Int32} (hx : ((-1) ≤ x.toInt ∧ x.toInt ≤ (-1)) ∨ (0 ≤ x.toInt ∧ x.toInt ≤ 31) ∨ (100 ≤ x.toInt ∧ x.toInt ≤ 131)) : rh3 n (upd f k x) := by
  intro j hj
  show ((-1) ≤ (if j = k then x else f j).toInt ∧ (if j = k then x else f j).toInt ≤ (-1)) ∨ (0 ≤ (if j = k then x else f j).toInt ∧ (if j = k then x else f j).toInt ≤ 31) ∨ (100 ≤ (if j = k then x else f j).toInt ∧ (if j = k then x else f j).toInt ≤ 131)
  by_cases e : j = k
  · rw [if_pos e]; exact hx
  · rw [if_neg e]; exact h j hj
theorem rh3.of0 {n : Nat} {f : Nat → Int32} (h : rg (-1) (-1) n f) : rh3 n f := fun j hj => Or.inl (h j hj)
theorem rh3.of1 {n : Nat} {f : Nat → Int32} (h : rg 0 31 n f) : rh3 n f := fun j hj => Or.inr (Or.inl (h j hj))
theorem rh3.of2 {n : Nat} {f : Nat → Int32} (h : rg 100 131 n f) : rh3 n f := fun j hj => Or.inr (Or.inr (h j hj))
/-- the sum of a row's first n -/
def cn : Nat → (Nat → Int32) → Int
  | 0, _ => 0
  | n + 1, f => cn n f + (f n).toInt
theorem cn_bd {f : Nat → Int32} : ∀ {n : Nat}, rg 0 1 n f → 0 ≤ cn n f ∧ cn n f ≤ n
  | 0, _ => by simp [cn]
  | n + 1, h => by
    have h1 := cn_bd (n := n) (fun j hj => h j (Nat.lt_succ_of_lt hj))
    have h2 := h n (Nat.lt_succ_self n)
    simp only [cn]
    omega
theorem cn_out {f : Nat → Int32} {k : Nat} {x : Int32} : ∀ {n : Nat}, n ≤ k → cn n (upd f k x) = cn n f
  | 0, _ => rfl
  | n + 1, h => by
    simp only [cn]
    rw [cn_out (n := n) (by omega)]
    show cn n f + (if n = k then x else f n).toInt = _
    rw [if_neg (by omega)]
theorem cn_upd {f : Nat → Int32} {k : Nat} {x : Int32} : ∀ {n : Nat}, k < n → cn n (upd f k x) = cn n f - (f k).toInt + x.toInt
  | 0, h => absurd h (Nat.not_lt_zero _)
  | n + 1, h => by
    simp only [cn]
    show cn n (upd f k x) + (if n = k then x else f n).toInt = _
    by_cases e : n = k
    · subst e; rw [if_pos rfl, cn_out (Nat.le_refl _)]; omega
    · rw [if_neg e, cn_upd (n := n) (by omega)]; omega
theorem cn_upi {n : Nat} {f f2 : Nat → Int32} {i x : Int32} {l h : Int} (hi : l ≤ i.toInt ∧ i.toInt ≤ h) (h0 : 0 ≤ l) (h1 : h < (n : Int)) (e : f2 = upd f i.toNatClampNeg x) : cn n f2 = cn n f - (f i.toNatClampNeg).toInt + x.toInt := by
  rw [e]; exact cn_upd (q_ix ⟨Int.le_trans h0 hi.1, Int.lt_of_le_of_lt hi.2 h1⟩).1
theorem cn_ge {f : Nat → Int32} {k : Nat} : ∀ {n : Nat}, rg 0 1 n f → k < n → (f k).toInt ≤ cn n f
  | 0, _, h => absurd h (Nat.not_lt_zero _)
  | n + 1, r, h => by
    have h1 := cn_bd (n := n) (fun j hj => r j (Nat.lt_succ_of_lt hj))
    have h2 := r n (Nat.lt_succ_self n)
    simp only [cn]
    by_cases e : n = k
    · subst e; omega
    · have := cn_ge (n := n) (fun j hj => r j (Nat.lt_succ_of_lt hj)) (by omega : k < n)
      omega
theorem cn_pos {n : Nat} {f : Nat → Int32} (r : rg 0 1 n f) {i : Int32} {l h : Int} (hi : l ≤ i.toInt ∧ i.toInt ≤ h) (h0 : 0 ≤ l) (h1 : h < (n : Int)) (hf : 1 ≤ (f i.toNatClampNeg).toInt) : 1 ≤ cn n f :=
  Int.le_trans hf (cn_ge r (q_ix ⟨Int.le_trans h0 hi.1, Int.lt_of_le_of_lt hi.2 h1⟩).1)
theorem cn_z {f : Nat → Int32} : cn (0 : Int32).toInt.toNat f = 0 := rfl
theorem cn_step {f : Nat → Int32} {k k' : Int32} (h : k'.toInt = k.toInt + 1) (h0 : 0 ≤ k.toInt) : cn k'.toInt.toNat f = cn k.toInt.toNat f + (f k.toNatClampNeg).toInt := by
  rw [show k'.toInt.toNat = k.toInt.toNat + 1 by omega]; rfl
theorem cn_mono {f : Nat → Int32} {N a : Nat} (r : rg 0 1 N f) : ∀ {b : Nat}, a ≤ b → b ≤ N → cn a f ≤ cn b f
  | 0, h, _ => by rw [Nat.le_zero.mp h]; exact Int.le_refl _
  | b + 1, h, h2 => by
    by_cases e : a = b + 1
    · rw [e]; exact Int.le_refl _
    · have h3 := cn_mono (a := a) r (b := b) (by omega) (by omega)
      have h4 := r b (by omega)
      simp only [cn]
      omega
theorem cn_lt {f : Nat → Int32} {N a b : Nat} {x : Int} (r : rg 0 1 N f) (ha : a ≤ N) (h : x + cn a f < cn b f) (hx : 0 ≤ x) : a < b := by
  rcases Nat.lt_or_ge a b with h1 | h1
  · exact h1
  · have := cn_mono r h1 ha
    omega
theorem cn_r0 {f : Nat → Int32} : ∀ {n : Nat}, rg 0 0 n f → cn n f = 0
  | 0, _ => rfl
  | n + 1, h => by
    have h1 := cn_r0 (n := n) (fun j hj => h j (Nat.lt_succ_of_lt hj))
    have h2 := h n (Nat.lt_succ_self n)
    simp only [cn]
    omega
def eqn (n : Nat) (f g : Nat → Int32) : Prop := ∀ j, j < n → f j = g j
theorem eqn_bump {n : Nat} {f g f' g' : Nat → Int32} (h : eqn n f g) {i : Int32} {l u : Int} (hi : l ≤ i.toInt ∧ i.toInt ≤ u) (h0 : 0 ≤ l) (h1 : u < (n : Int)) (e1 : f' = upd f i.toNatClampNeg (f i.toNatClampNeg + 1)) (e2 : g' = upd g i.toNatClampNeg (g i.toNatClampNeg + 1)) : eqn n f' g' := by
  intro j hj
  rw [e1, e2, h _ (q_ix ⟨Int.le_trans h0 hi.1, Int.lt_of_le_of_lt hi.2 h1⟩).1]
  show (if j = i.toNatClampNeg then _ else f j) = (if j = i.toNatClampNeg then _ else g j)
  by_cases e : j = i.toNatClampNeg
  · rw [if_pos e, if_pos e]
  · rw [if_neg e, if_neg e]; exact h j hj
theorem outL {f : Nat → Int64} {x : Int64} : vp_updL f (0 : Int32).toNatClampNeg x 0 = x := by
  show (if (0 : Nat) = (0 : Int32).toNatClampNeg then x else f 0) = x
  exact if_pos (by decide)
theorem eqn_z {n : Nat} {f g : Nat → Int32} (h1 : rg 0 0 n f) (h2 : rg 0 0 n g) : eqn n f g := fun j hj => by
  have a := h1 j hj
  have b := h2 j hj
  exact Int32.toInt_inj.mp (by omega)
