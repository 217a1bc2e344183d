set_option maxHeartbeats 4000000 in
set_option maxRecDepth 100000 in
theorem kX12_in_1 (l : Launch) (dC : Nat → ClassId) (dI : Nat → Nat → Nat) (cI cZ cC cJ cD : ClassId) (qf : Nat) (sz : Nat) (p1 p2 p3 : Int32) (bp1 : (-2147483648) ≤ p1.toInt ∧ p1.toInt ≤ (-1)) (bp2 : 0 ≤ p2.toInt ∧ p2.toInt ≤ 0) (bp3 : 31 ≤ p3.toInt ∧ p3.toInt ≤ 31) : Met l yX12_in wsX12_in ({ frames := 1, cells := 0, slots := 0, locals := 0 } : Room) (mPre qf [.int p1, .int p2, .int p3] sz (dC, dI) (mT cI cZ cC cJ cD) []) (mQi (fun (r : Int32) (u : Unit) => (0 ≤ r.toInt ∧ r.toInt ≤ 0) ∧ True) (fun (u : Unit) => []) (dC, dI) (va_A [] sz)) 0 0 (va_A [] sz) := by
  refine mMet (Qc := fun A => mQi (fun (r : Int32) (u : Unit) => (0 ≤ r.toInt ∧ r.toInt ≤ 0) ∧ True) (fun (u : Unit) => []) (dC, dI) A) (y := yX12_in) (ws := wsX12_in) (av := [.int p1, .int p2, .int p3]) (wc := []) (cc := cX12_in) (maxL := 3) (ret := (some .boolean)) (own := RX12) (by decide) rfl rfl (Nat.le_of_ble_eq_true rfl) ?_
  intro p e s m args below meth c hx hb hr hts hown hml hlk A hsz hP hK hD hS hA hE ls hl Q hQ
  have hl : lv_has ls 3 [(0, .int p1), (1, .int p2), (2, .int p3)] := hl
  refine lv_iload_n hx hb dX12_in_0 rfl (lv_at hl 0 rfl) ?_
  refine lv_iload_n hx hb dX12_in_1 rfl (lv_at hl 1 rfl) ?_
  refine lv_icmp_lt (tgt := 14) hx hb dX12_in_2 (by decide) (fun c1 => ?_) (fun c => (z_le bp2 bp1 (c_nlt c) (by decide)).elim)
  have c1 := c_lt c1
  refine lv_iconst (v := 0) hx hb dX12_in_14 (by decide) ?_
  subst hQ
  exact W.zret (v := (0 : Int32)) hx hb hr (nar_b (iv_k 0 (k := 0) (by decide)) (by decide) (by decide)) (fun t ht hW => ⟨⟨(0 : Int32), (), rfl, ⟨iv_m (iv_k 0 (k := 0) (by decide)) (by decide) (by decide), trivial⟩, pAt ht hP⟩, hS.F ht⟩) hS.2.2 dX12_in_15
set_option maxHeartbeats 4000000 in
set_option maxRecDepth 100000 in
theorem kX12_isKey_1 (l : Launch) (dC : Nat → ClassId) (dI : Nat → Nat → Nat) (cI cZ cC cJ cD : ClassId) (qf : Nat) (sz : Nat) (p1 : Int32) (bp1 : (-2147483648) ≤ p1.toInt ∧ p1.toInt ≤ (-1)) : Met l yX12_isKey wsX12_isKey ({ frames := 2, cells := 0, slots := 0, locals := 22 } : Room) (mPre qf [.int p1] sz (dC, dI) (mT cI cZ cC cJ cD) []) (mQi (fun (r : Int32) (u : Unit) => (0 ≤ r.toInt ∧ r.toInt ≤ 0) ∧ True) (fun (u : Unit) => []) (dC, dI) (va_A [] sz)) 0 0 (va_A [] sz) := by
  refine mMet (Qc := fun A => mQi (fun (r : Int32) (u : Unit) => (0 ≤ r.toInt ∧ r.toInt ≤ 0) ∧ True) (fun (u : Unit) => []) (dC, dI) A) (y := yX12_isKey) (ws := wsX12_isKey) (av := [.int p1]) (wc := []) (cc := cX12_isKey) (maxL := 1) (ret := (some .boolean)) (own := RX12) (by decide) rfl rfl (Nat.le_of_ble_eq_true rfl) ?_
  intro p e s m args below meth c hx hb hr hts hown hml hlk A hsz hP hK hD hS hA hE ls hl Q hQ
  have hl : lv_has ls 1 [(0, .int p1)] := hl
  refine lv_iload_n hx hb dX12_isKey_0 rfl (lv_at hl 0 rfl) ?_
  refine lv_iconst (v := 0) hx hb dX12_isKey_1 (by decide) ?_
  refine lv_bipush (v := 31) hx hb dX12_isKey_2 (by decide) ?_
  refine mSi (As := [.int p1, .int 0, .int 31]) (rest := []) (wc := []) ⟨hx, hb, hml, hown, hts⟩ (kX12_in_1 l dC dI cI cZ cC cJ cD qf  _ p1 (0 : Int32) (31 : Int32) (iv_m bp1 (by decide) (by decide)) (iv_m (iv_k 0 (k := 0) (by decide)) (by decide) (by decide)) (iv_m (iv_k 31 (k := 31) (by decide)) (by decide) (by decide))) (va_cwS 3 hts gX12_isKey_X12_in rfl rfl rfl (by decide +kernel) ⟨(Nat.le_of_ble_eq_true rfl), (Nat.le_of_ble_eq_true rfl)⟩) hE hK hP hD rfl hS hA [] rfl rfl rfl hl rfl (Nat.le_of_ble_eq_true rfl) dX12_isKey_4 ⟨(Nat.le_of_ble_eq_true rfl), (Nat.le_of_ble_eq_true rfl)⟩ (fun _ => rfl) (fun z1 uu2 H locs hw hP hS => ?_)
  have bz1 : 0 ≤ z1.toInt ∧ z1.toInt ≤ 0 := hw.1
  have hP : va_P (dC, dI) vqCl [] H := hP
  subst hQ
  exact W.zret (v := z1) hx hb hr (nar_b bz1 (by decide) (by decide)) (fun t ht hW => ⟨⟨z1, (), rfl, ⟨iv_m bz1 (by decide) (by decide), trivial⟩, pAt ht hP⟩, hS.F ht⟩) hS.2.2 dX12_isKey_7
set_option maxHeartbeats 4000000 in
set_option maxRecDepth 100000 in
theorem kX11_requireKey_2 (l : Launch) (dC : Nat → ClassId) (dI : Nat → Nat → Nat) (cI cZ cC cJ cD : ClassId) (qf : Nat) (sz : Nat) (p1 : Int32) (bp1 : 32 ≤ p1.toInt ∧ p1.toInt ≤ 2147483647) (hlf : l.stackTraces = false) : vx_Met l yX11_requireKey wsX11_requireKey ({ frames := 6, cells := 1, slots := 6, locals := 82 } : Room) (mPre qf [.int p1] sz (dC, dI) (mT cI cZ cC cJ cD) []) (mQv (fun (u : Unit) => False) (fun (u : Unit) => []) (dC, dI) (va_A [] sz)) (mX ["java/lang/IndexOutOfBoundsException"] (fun (u : Unit) => True) (fun (u : Unit) => []) (dC, dI) (va_A [] sz)) 1 6 (va_A [] sz) := by
  refine mMetX (Qc := fun A => mQv (fun (u : Unit) => False) (fun (u : Unit) => []) (dC, dI) A) (XC := fun A => (mX ["java/lang/IndexOutOfBoundsException"] (fun (u : Unit) => True) (fun (u : Unit) => []) (dC, dI) A)) (y := yX11_requireKey) (ws := wsX11_requireKey) (av := [.int p1]) (wc := []) (cc := cX11_requireKey) (maxL := 1) (ret := none) (own := RX11) (by decide) rfl rfl (Nat.le_of_ble_eq_true rfl) ?_
  intro p e s m args below meth c hx hb hr hts hown hml hlk hno A hsz hP hK hD hS hA hE ls hl Q hQ
  have hl : lv_has ls 1 [(0, .int p1)] := hl
  refine lv_iload_n hx hb dX11_requireKey_0 rfl (lv_at hl 0 rfl) ?_
  refine lv_if_lt (tgt := 10) hx hb dX11_requireKey_1 (by decide) (fun c => (z_lt bp1 (iv_k 0 (k := 0) (by decide)) (c_lt c) (by decide)).elim) (fun c1 => ?_)
  have c1 := c_nlt c1
  refine lv_iload_n hx hb dX11_requireKey_4 rfl (lv_at hl 0 rfl) ?_
  refine lv_bipush (v := 32) hx hb dX11_requireKey_5 (by decide) ?_
  refine lv_icmp_lt (tgt := 21) hx hb dX11_requireKey_7 (by decide) (fun c => (z_lt bp1 (iv_k 32 (k := 32) (by decide)) (c_lt c) (by decide)).elim) (fun c2 => ?_)
  have c2 := c_nlt c2
  subst hQ
  obtain ⟨sa, hstr⟩ := mStrOf hE 17 (x := (RX11, 355, "no such key")) rfl
  refine vx_throwSW (names := ["java/lang/RuntimeException", "java/lang/Exception"]) hx hb hlf hown (by decide +kernel) (by decide +kernel) (hts (.classLink RX11 253 "java/lang/IndexOutOfBoundsException") (List.mem_of_getElem? (i := 1) rfl)) (hts (.initialized "java/lang/IndexOutOfBoundsException") (List.mem_of_getElem? (i := 2) rfl)) hstr (mHat hE (fun w h => hts w (List.mem_cons_of_mem _ (List.mem_append_right _ h))) bad_257) (mOt rfl rfl ot_257) hE.2.2.1 hE.2.2.2.1 hS (hl.1.trans hml.symm) dX11_requireKey_10 dX11_requireKey_13 dX11_requireKey_14 dX11_requireKey_17 dX11_requireKey_20 (fun x hx => (hno x hx).elim) (Nat.le_of_ble_eq_true rfl) (Nat.le_of_ble_eq_true rfl) (Nat.le_of_ble_eq_true rfl) (Nat.le_of_ble_eq_true rfl) hlk (fun t ht h1 h2 => ?_) hS.2.2 (Nat.le_of_ble_eq_true rfl) (Nat.le_of_ble_eq_true rfl)
  exact ⟨(), trivial, ⟨(by simp : "java/lang/IndexOutOfBoundsException" ∈ (["java/lang/IndexOutOfBoundsException"] : List String)), (mTh hP hS h1 h2).1⟩, (mTh hP hS h1 h2).2⟩
set_option maxHeartbeats 4000000 in
set_option maxRecDepth 100000 in
theorem kX9_placeOf_1 (l : Launch) (dC : Nat → ClassId) (dI : Nat → Nat → Nat) (cI cZ cC cJ cD : ClassId) (qf : Nat) (sz : Nat) (p1 p2 : Int32) (bp1 : 0 ≤ p1.toInt ∧ p1.toInt ≤ 31) (bp2 : 0 ≤ p2.toInt ∧ p2.toInt ≤ 0) : Met l yX9_placeOf wsX9_placeOf ({ frames := 1, cells := 0, slots := 0, locals := 0 } : Room) (mPre qf [.int p1, .int p2] sz (dC, dI) (mT cI cZ cC cJ cD) []) (mQi (fun (r : Int32) (u : Unit) => (0 ≤ r.toInt ∧ r.toInt ≤ 15) ∧ True) (fun (u : Unit) => []) (dC, dI) (va_A [] sz)) 0 0 (va_A [] sz) := by
  refine mMet (Qc := fun A => mQi (fun (r : Int32) (u : Unit) => (0 ≤ r.toInt ∧ r.toInt ≤ 15) ∧ True) (fun (u : Unit) => []) (dC, dI) A) (y := yX9_placeOf) (ws := wsX9_placeOf) (av := [.int p1, .int p2]) (wc := []) (cc := cX9_placeOf) (maxL := 2) (ret := (some .int)) (own := RX9) (by decide) rfl rfl (Nat.le_of_ble_eq_true rfl) ?_
  intro p e s m args below meth c hx hb hr hts hown hml hlk A hsz hP hK hD hS hA hE ls hl Q hQ
  have hl : lv_has ls 2 [(0, .int p1), (1, .int p2)] := hl
  refine lv_iload_n hx hb dX9_placeOf_0 rfl (lv_at hl 1 rfl) ?_
  refine lv_bipush (v := 16) hx hb dX9_placeOf_1 (by decide) ?_
  refine lv_imul hx hb dX9_placeOf_3 ?_
  refine lv_topi (fun z1 ez1 => ?_)
  have qz1 := iv_mul (lo := 0) (hi := 0) ez1 bp2 (iv_k 16 (k := 16) (by decide)) (by decide) (by decide) (by decide) (by decide) (by decide) (by decide) 
  try rw [show (16 : Int32).toInt = 16 from rfl] at qz1
  obtain rfl : z1 = (0 : Int32) := iv_sg (k := 0) qz1.2 (by decide)
  refine lv_iload_n hx hb dX9_placeOf_4 rfl (lv_at hl 0 rfl) ?_
  refine va_getsN hx hb hE.1 hS hown (hE.2.2.2.2.1.use rfl) (fun _ h9 => h9) dX9_placeOf_5 ?_
  refine lv_iload_n hx hb dX9_placeOf_8 rfl (lv_at hl 1 rfl) ?_
  refine va_ti (v := .int (fRF (p2).toNatClampNeg)) hx hb hE.2.1 hS (iv_in bp2 (by decide) (by decide)) rfl dX9_placeOf_9 ?_
  refine lv_topi (fun z2 ez2 => ?_)
  have bz2 : 5 ≤ z2.toInt ∧ z2.toInt ≤ 13 := iv_at rgRF bp2 (by decide) (by decide) ez2
  refine lv_imul hx hb dX9_placeOf_10 ?_
  refine lv_topi (fun z3 ez3 => ?_)
  have qz3 := iv_mul (lo := 0) (hi := 403) ez3 bp1 bz2 (by decide) (by decide) (by decide) (by decide) (by decide) (by decide) 
  refine lv_iconst (v := 3) hx hb dX9_placeOf_11 (by decide) ?_
  refine lv_iload_n hx hb dX9_placeOf_12 rfl (lv_at hl 1 rfl) ?_
  refine lv_imul hx hb dX9_placeOf_13 ?_
  refine lv_topi (fun z4 ez4 => ?_)
  have qz4 := iv_mul (lo := 0) (hi := 0) ez4 (iv_k 3 (k := 3) (by decide)) bp2 (by decide) (by decide) (by decide) (by decide) (by decide) (by decide) 
  try rw [show (3 : Int32).toInt = 3 from rfl] at qz4
  obtain rfl : z4 = (0 : Int32) := iv_sg (k := 0) qz4.2 (by decide)
  refine lv_iadd hx hb dX9_placeOf_14 ?_
  refine lv_topi (fun z5 ez5 => ?_)
  have qz5 := iv_add (lo := 0) (hi := 403) ez5 qz3.2 (iv_k 0 (k := 0) (by decide)) (by decide) (by decide) (by decide) (by decide) 
  try rw [show (0 : Int32).toInt = 0 from rfl] at qz5
  refine lv_bipush (v := 15) hx hb dX9_placeOf_15 (by decide) ?_
  refine lv_iand hx hb dX9_placeOf_17 ?_
  refine lv_topi (fun z6 ez6 => ?_)
  have qz6 : 0 ≤ z6.toInt ∧ z6.toInt ≤ 15 := iv_and ez6 (k := 4) (by decide) (by decide) (by decide)
  refine lv_iadd hx hb dX9_placeOf_18 ?_
  refine lv_topi (fun z7 ez7 => ?_)
  have qz7 := iv_add (lo := 0) (hi := 15) ez7 (iv_k 0 (k := 0) (by decide)) qz6 (by decide) (by decide) (by decide) (by decide) 
  try rw [show (0 : Int32).toInt = 0 from rfl] at qz7
  subst hQ
  exact W.iret (v := z7) hx hb hr (fun t ht hW => ⟨⟨z7, (), rfl, ⟨iv_m qz7.2 (by decide) (by decide), trivial⟩, pAt ht hP⟩, hS.F ht⟩) hS.2.2 dX9_placeOf_19
set_option maxHeartbeats 4000000 in
set_option maxRecDepth 100000 in
theorem kX9_placeOf_2 (l : Launch) (dC : Nat → ClassId) (dI : Nat → Nat → Nat) (cI cZ cC cJ cD : ClassId) (qf : Nat) (sz : Nat) (p1 p2 : Int32) (bp1 : 0 ≤ p1.toInt ∧ p1.toInt ≤ 31) (bp2 : 1 ≤ p2.toInt ∧ p2.toInt ≤ 1) : Met l yX9_placeOf wsX9_placeOf ({ frames := 1, cells := 0, slots := 0, locals := 0 } : Room) (mPre qf [.int p1, .int p2] sz (dC, dI) (mT cI cZ cC cJ cD) []) (mQi (fun (r : Int32) (u : Unit) => (16 ≤ r.toInt ∧ r.toInt ≤ 31) ∧ True) (fun (u : Unit) => []) (dC, dI) (va_A [] sz)) 0 0 (va_A [] sz) := by
  refine mMet (Qc := fun A => mQi (fun (r : Int32) (u : Unit) => (16 ≤ r.toInt ∧ r.toInt ≤ 31) ∧ True) (fun (u : Unit) => []) (dC, dI) A) (y := yX9_placeOf) (ws := wsX9_placeOf) (av := [.int p1, .int p2]) (wc := []) (cc := cX9_placeOf) (maxL := 2) (ret := (some .int)) (own := RX9) (by decide) rfl rfl (Nat.le_of_ble_eq_true rfl) ?_
  intro p e s m args below meth c hx hb hr hts hown hml hlk A hsz hP hK hD hS hA hE ls hl Q hQ
  have hl : lv_has ls 2 [(0, .int p1), (1, .int p2)] := hl
  refine lv_iload_n hx hb dX9_placeOf_0 rfl (lv_at hl 1 rfl) ?_
  refine lv_bipush (v := 16) hx hb dX9_placeOf_1 (by decide) ?_
  refine lv_imul hx hb dX9_placeOf_3 ?_
  refine lv_topi (fun z1 ez1 => ?_)
  have qz1 := iv_mul (lo := 16) (hi := 16) ez1 bp2 (iv_k 16 (k := 16) (by decide)) (by decide) (by decide) (by decide) (by decide) (by decide) (by decide) 
  try rw [show (16 : Int32).toInt = 16 from rfl] at qz1
  obtain rfl : z1 = (16 : Int32) := iv_sg (k := 16) qz1.2 (by decide)
  refine lv_iload_n hx hb dX9_placeOf_4 rfl (lv_at hl 0 rfl) ?_
  refine va_getsN hx hb hE.1 hS hown (hE.2.2.2.2.1.use rfl) (fun _ h9 => h9) dX9_placeOf_5 ?_
  refine lv_iload_n hx hb dX9_placeOf_8 rfl (lv_at hl 1 rfl) ?_
  refine va_ti (v := .int (fRF (p2).toNatClampNeg)) hx hb hE.2.1 hS (iv_in bp2 (by decide) (by decide)) rfl dX9_placeOf_9 ?_
  refine lv_topi (fun z2 ez2 => ?_)
  have bz2 : 5 ≤ z2.toInt ∧ z2.toInt ≤ 13 := iv_at rgRF bp2 (by decide) (by decide) ez2
  refine lv_imul hx hb dX9_placeOf_10 ?_
  refine lv_topi (fun z3 ez3 => ?_)
  have qz3 := iv_mul (lo := 0) (hi := 403) ez3 bp1 bz2 (by decide) (by decide) (by decide) (by decide) (by decide) (by decide) 
  refine lv_iconst (v := 3) hx hb dX9_placeOf_11 (by decide) ?_
  refine lv_iload_n hx hb dX9_placeOf_12 rfl (lv_at hl 1 rfl) ?_
  refine lv_imul hx hb dX9_placeOf_13 ?_
  refine lv_topi (fun z4 ez4 => ?_)
  have qz4 := iv_mul (lo := 3) (hi := 3) ez4 (iv_k 3 (k := 3) (by decide)) bp2 (by decide) (by decide) (by decide) (by decide) (by decide) (by decide) 
  try rw [show (3 : Int32).toInt = 3 from rfl] at qz4
  obtain rfl : z4 = (3 : Int32) := iv_sg (k := 3) qz4.2 (by decide)
  refine lv_iadd hx hb dX9_placeOf_14 ?_
  refine lv_topi (fun z5 ez5 => ?_)
  have qz5 := iv_add (lo := 3) (hi := 406) ez5 qz3.2 (iv_k 3 (k := 3) (by decide)) (by decide) (by decide) (by decide) (by decide) 
  try rw [show (3 : Int32).toInt = 3 from rfl] at qz5
  refine lv_bipush (v := 15) hx hb dX9_placeOf_15 (by decide) ?_
  refine lv_iand hx hb dX9_placeOf_17 ?_
  refine lv_topi (fun z6 ez6 => ?_)
  have qz6 : 0 ≤ z6.toInt ∧ z6.toInt ≤ 15 := iv_and ez6 (k := 4) (by decide) (by decide) (by decide)
  refine lv_iadd hx hb dX9_placeOf_18 ?_
  refine lv_topi (fun z7 ez7 => ?_)
  have qz7 := iv_add (lo := 16) (hi := 31) ez7 (iv_k 16 (k := 16) (by decide)) qz6 (by decide) (by decide) (by decide) (by decide) 
  try rw [show (16 : Int32).toInt = 16 from rfl] at qz7
  subst hQ
  exact W.iret (v := z7) hx hb hr (fun t ht hW => ⟨⟨z7, (), rfl, ⟨iv_m qz7.2 (by decide) (by decide), trivial⟩, pAt ht hP⟩, hS.F ht⟩) hS.2.2 dX9_placeOf_19
set_option maxHeartbeats 4000000 in
set_option maxRecDepth 100000 in
theorem kX9_placeOf_3 (l : Launch) (dC : Nat → ClassId) (dI : Nat → Nat → Nat) (cI cZ cC cJ cD : ClassId) (qf : Nat) (sz : Nat) (p1 p2 : Int32) (bp1 : 0 ≤ p1.toInt ∧ p1.toInt ≤ 31) (bp2 : 2 ≤ p2.toInt ∧ p2.toInt ≤ 2) : Met l yX9_placeOf wsX9_placeOf ({ frames := 1, cells := 0, slots := 0, locals := 0 } : Room) (mPre qf [.int p1, .int p2] sz (dC, dI) (mT cI cZ cC cJ cD) []) (mQi (fun (r : Int32) (u : Unit) => (32 ≤ r.toInt ∧ r.toInt ≤ 47) ∧ True) (fun (u : Unit) => []) (dC, dI) (va_A [] sz)) 0 0 (va_A [] sz) := by
  refine mMet (Qc := fun A => mQi (fun (r : Int32) (u : Unit) => (32 ≤ r.toInt ∧ r.toInt ≤ 47) ∧ True) (fun (u : Unit) => []) (dC, dI) A) (y := yX9_placeOf) (ws := wsX9_placeOf) (av := [.int p1, .int p2]) (wc := []) (cc := cX9_placeOf) (maxL := 2) (ret := (some .int)) (own := RX9) (by decide) rfl rfl (Nat.le_of_ble_eq_true rfl) ?_
  intro p e s m args below meth c hx hb hr hts hown hml hlk A hsz hP hK hD hS hA hE ls hl Q hQ
  have hl : lv_has ls 2 [(0, .int p1), (1, .int p2)] := hl
  refine lv_iload_n hx hb dX9_placeOf_0 rfl (lv_at hl 1 rfl) ?_
  refine lv_bipush (v := 16) hx hb dX9_placeOf_1 (by decide) ?_
  refine lv_imul hx hb dX9_placeOf_3 ?_
  refine lv_topi (fun z1 ez1 => ?_)
  have qz1 := iv_mul (lo := 32) (hi := 32) ez1 bp2 (iv_k 16 (k := 16) (by decide)) (by decide) (by decide) (by decide) (by decide) (by decide) (by decide) 
  try rw [show (16 : Int32).toInt = 16 from rfl] at qz1
  obtain rfl : z1 = (32 : Int32) := iv_sg (k := 32) qz1.2 (by decide)
  refine lv_iload_n hx hb dX9_placeOf_4 rfl (lv_at hl 0 rfl) ?_
  refine va_getsN hx hb hE.1 hS hown (hE.2.2.2.2.1.use rfl) (fun _ h9 => h9) dX9_placeOf_5 ?_
  refine lv_iload_n hx hb dX9_placeOf_8 rfl (lv_at hl 1 rfl) ?_
  refine va_ti (v := .int (fRF (p2).toNatClampNeg)) hx hb hE.2.1 hS (iv_in bp2 (by decide) (by decide)) rfl dX9_placeOf_9 ?_
  refine lv_topi (fun z2 ez2 => ?_)
  have bz2 : 5 ≤ z2.toInt ∧ z2.toInt ≤ 13 := iv_at rgRF bp2 (by decide) (by decide) ez2
  refine lv_imul hx hb dX9_placeOf_10 ?_
  refine lv_topi (fun z3 ez3 => ?_)
  have qz3 := iv_mul (lo := 0) (hi := 403) ez3 bp1 bz2 (by decide) (by decide) (by decide) (by decide) (by decide) (by decide) 
  refine lv_iconst (v := 3) hx hb dX9_placeOf_11 (by decide) ?_
  refine lv_iload_n hx hb dX9_placeOf_12 rfl (lv_at hl 1 rfl) ?_
  refine lv_imul hx hb dX9_placeOf_13 ?_
  refine lv_topi (fun z4 ez4 => ?_)
  have qz4 := iv_mul (lo := 6) (hi := 6) ez4 (iv_k 3 (k := 3) (by decide)) bp2 (by decide) (by decide) (by decide) (by decide) (by decide) (by decide) 
  try rw [show (3 : Int32).toInt = 3 from rfl] at qz4
  obtain rfl : z4 = (6 : Int32) := iv_sg (k := 6) qz4.2 (by decide)
  refine lv_iadd hx hb dX9_placeOf_14 ?_
  refine lv_topi (fun z5 ez5 => ?_)
  have qz5 := iv_add (lo := 6) (hi := 409) ez5 qz3.2 (iv_k 6 (k := 6) (by decide)) (by decide) (by decide) (by decide) (by decide) 
  try rw [show (6 : Int32).toInt = 6 from rfl] at qz5
  refine lv_bipush (v := 15) hx hb dX9_placeOf_15 (by decide) ?_
  refine lv_iand hx hb dX9_placeOf_17 ?_
  refine lv_topi (fun z6 ez6 => ?_)
  have qz6 : 0 ≤ z6.toInt ∧ z6.toInt ≤ 15 := iv_and ez6 (k := 4) (by decide) (by decide) (by decide)
  refine lv_iadd hx hb dX9_placeOf_18 ?_
  refine lv_topi (fun z7 ez7 => ?_)
  have qz7 := iv_add (lo := 32) (hi := 47) ez7 (iv_k 32 (k := 32) (by decide)) qz6 (by decide) (by decide) (by decide) (by decide) 
  try rw [show (32 : Int32).toInt = 32 from rfl] at qz7
  subst hQ
  exact W.iret (v := z7) hx hb hr (fun t ht hW => ⟨⟨z7, (), rfl, ⟨iv_m qz7.2 (by decide) (by decide), trivial⟩, pAt ht hP⟩, hS.F ht⟩) hS.2.2 dX9_placeOf_19
set_option maxHeartbeats 4000000 in
set_option maxRecDepth 100000 in
theorem kX9_placeOf_4 (l : Launch) (dC : Nat → ClassId) (dI : Nat → Nat → Nat) (cI cZ cC cJ cD : ClassId) (qf : Nat) (sz : Nat) (p1 p2 : Int32) (bp1 : 0 ≤ p1.toInt ∧ p1.toInt ≤ 31) (bp2 : 3 ≤ p2.toInt ∧ p2.toInt ≤ 3) : Met l yX9_placeOf wsX9_placeOf ({ frames := 1, cells := 0, slots := 0, locals := 0 } : Room) (mPre qf [.int p1, .int p2] sz (dC, dI) (mT cI cZ cC cJ cD) []) (mQi (fun (r : Int32) (u : Unit) => (48 ≤ r.toInt ∧ r.toInt ≤ 63) ∧ True) (fun (u : Unit) => []) (dC, dI) (va_A [] sz)) 0 0 (va_A [] sz) := by
  refine mMet (Qc := fun A => mQi (fun (r : Int32) (u : Unit) => (48 ≤ r.toInt ∧ r.toInt ≤ 63) ∧ True) (fun (u : Unit) => []) (dC, dI) A) (y := yX9_placeOf) (ws := wsX9_placeOf) (av := [.int p1, .int p2]) (wc := []) (cc := cX9_placeOf) (maxL := 2) (ret := (some .int)) (own := RX9) (by decide) rfl rfl (Nat.le_of_ble_eq_true rfl) ?_
  intro p e s m args below meth c hx hb hr hts hown hml hlk A hsz hP hK hD hS hA hE ls hl Q hQ
  have hl : lv_has ls 2 [(0, .int p1), (1, .int p2)] := hl
  refine lv_iload_n hx hb dX9_placeOf_0 rfl (lv_at hl 1 rfl) ?_
  refine lv_bipush (v := 16) hx hb dX9_placeOf_1 (by decide) ?_
  refine lv_imul hx hb dX9_placeOf_3 ?_
  refine lv_topi (fun z1 ez1 => ?_)
  have qz1 := iv_mul (lo := 48) (hi := 48) ez1 bp2 (iv_k 16 (k := 16) (by decide)) (by decide) (by decide) (by decide) (by decide) (by decide) (by decide) 
  try rw [show (16 : Int32).toInt = 16 from rfl] at qz1
  obtain rfl : z1 = (48 : Int32) := iv_sg (k := 48) qz1.2 (by decide)
  refine lv_iload_n hx hb dX9_placeOf_4 rfl (lv_at hl 0 rfl) ?_
  refine va_getsN hx hb hE.1 hS hown (hE.2.2.2.2.1.use rfl) (fun _ h9 => h9) dX9_placeOf_5 ?_
  refine lv_iload_n hx hb dX9_placeOf_8 rfl (lv_at hl 1 rfl) ?_
  refine va_ti (v := .int (fRF (p2).toNatClampNeg)) hx hb hE.2.1 hS (iv_in bp2 (by decide) (by decide)) rfl dX9_placeOf_9 ?_
  refine lv_topi (fun z2 ez2 => ?_)
  have bz2 : 5 ≤ z2.toInt ∧ z2.toInt ≤ 13 := iv_at rgRF bp2 (by decide) (by decide) ez2
  refine lv_imul hx hb dX9_placeOf_10 ?_
  refine lv_topi (fun z3 ez3 => ?_)
  have qz3 := iv_mul (lo := 0) (hi := 403) ez3 bp1 bz2 (by decide) (by decide) (by decide) (by decide) (by decide) (by decide) 
  refine lv_iconst (v := 3) hx hb dX9_placeOf_11 (by decide) ?_
  refine lv_iload_n hx hb dX9_placeOf_12 rfl (lv_at hl 1 rfl) ?_
  refine lv_imul hx hb dX9_placeOf_13 ?_
  refine lv_topi (fun z4 ez4 => ?_)
  have qz4 := iv_mul (lo := 9) (hi := 9) ez4 (iv_k 3 (k := 3) (by decide)) bp2 (by decide) (by decide) (by decide) (by decide) (by decide) (by decide) 
  try rw [show (3 : Int32).toInt = 3 from rfl] at qz4
  obtain rfl : z4 = (9 : Int32) := iv_sg (k := 9) qz4.2 (by decide)
  refine lv_iadd hx hb dX9_placeOf_14 ?_
  refine lv_topi (fun z5 ez5 => ?_)
  have qz5 := iv_add (lo := 9) (hi := 412) ez5 qz3.2 (iv_k 9 (k := 9) (by decide)) (by decide) (by decide) (by decide) (by decide) 
  try rw [show (9 : Int32).toInt = 9 from rfl] at qz5
  refine lv_bipush (v := 15) hx hb dX9_placeOf_15 (by decide) ?_
  refine lv_iand hx hb dX9_placeOf_17 ?_
  refine lv_topi (fun z6 ez6 => ?_)
  have qz6 : 0 ≤ z6.toInt ∧ z6.toInt ≤ 15 := iv_and ez6 (k := 4) (by decide) (by decide) (by decide)
  refine lv_iadd hx hb dX9_placeOf_18 ?_
  refine lv_topi (fun z7 ez7 => ?_)
  have qz7 := iv_add (lo := 48) (hi := 63) ez7 (iv_k 48 (k := 48) (by decide)) qz6 (by decide) (by decide) (by decide) (by decide) 
  try rw [show (48 : Int32).toInt = 48 from rfl] at qz7
  subst hQ
  exact W.iret (v := z7) hx hb hr (fun t ht hW => ⟨⟨z7, (), rfl, ⟨iv_m qz7.2 (by decide) (by decide), trivial⟩, pAt ht hP⟩, hS.F ht⟩) hS.2.2 dX9_placeOf_19
set_option maxHeartbeats 4000000 in
set_option maxRecDepth 100000 in
theorem kX9_leastOf_1 (l : Launch) (dC : Nat → ClassId) (dI : Nat → Nat → Nat) (cI cZ cC cJ cD : ClassId) (qf : Nat) (a0 a0_counters : Nat) (sz : Nat) (f_a0_counters : Nat → Int32) (v_a0_counted p1 : Int32) (rf_a0_counters : rg 0 0 64 f_a0_counters) (bv_a0_counted : 0 ≤ v_a0_counted.toInt ∧ v_a0_counted.toInt ≤ 0) (bp1 : 0 ≤ p1.toInt ∧ p1.toInt ≤ 31) : Met l yX9_leastOf wsX9_leastOf ({ frames := 2, cells := 0, slots := 0, locals := 21 } : Room) (mPre qf [.ref a0, .int p1] sz (dC, dI) (mT cI cZ cC cJ cD) [(a0, .inr (9, [.ref a0_counters, .int v_a0_counted])), (a0_counters, .inl (cI, 64, .inl f_a0_counters))]) (mQi (fun (r : Int32) (u : Unit) => (0 ≤ r.toInt ∧ r.toInt ≤ 0) ∧ True) (fun (u : Unit) => [(a0, .inr (9, [.ref a0_counters, .int v_a0_counted])), (a0_counters, .inl (cI, 64, .inl f_a0_counters))]) (dC, dI) (va_A [(a0, .inr (9, [.ref a0_counters, .int v_a0_counted])), (a0_counters, .inl (cI, 64, .inl f_a0_counters))] sz)) 0 0 (va_A [(a0, .inr (9, [.ref a0_counters, .int v_a0_counted])), (a0_counters, .inl (cI, 64, .inl f_a0_counters))] sz) := by
  refine mMet (Qc := fun A => mQi (fun (r : Int32) (u : Unit) => (0 ≤ r.toInt ∧ r.toInt ≤ 0) ∧ True) (fun (u : Unit) => [(a0, .inr (9, [.ref a0_counters, .int v_a0_counted])), (a0_counters, .inl (cI, 64, .inl f_a0_counters))]) (dC, dI) A) (y := yX9_leastOf) (ws := wsX9_leastOf) (av := [.ref a0, .int p1]) (wc := [(a0, .inr (9, [.ref a0_counters, .int v_a0_counted])), (a0_counters, .inl (cI, 64, .inl f_a0_counters))]) (cc := cX9_leastOf) (maxL := 5) (ret := (some .int)) (own := RX9) (by decide) rfl rfl (Nat.le_of_ble_eq_true rfl) ?_
  intro p e s m args below meth c hx hb hr hts hown hml hlk A hsz hP hK hD hS hA hE ls hl Q hQ
  have hl : lv_has ls 5 [(0, .ref a0), (1, .int p1)] := hl
  have hinX9 : ∀ w ∈ u_ws RX9 TX9 2, w ∈ wsX9_leastOf := fun w h => List.mem_cons_of_mem _ (List.mem_append_left _ (List.mem_append_right _ h))
  refine lv_bipush (v := 15) hx hb dX9_leastOf_0 (by decide) ?_
  refine lv_istore_n (lv' := [(2, .int 15), (0, .ref a0), (1, .int p1)]) hx hb dX9_leastOf_2 rfl hl (by decide) rfl (fun ls hl => ?_)
  refine lv_iconst (v := 0) hx hb dX9_leastOf_3 (by decide) ?_
  refine lv_istore_n (lv' := [(3, .int 0), (2, .int 15), (0, .ref a0), (1, .int p1)]) hx hb dX9_leastOf_4 rfl hl (by decide) rfl (fun ls hl => ?_)
  refine lv_iload_n hx hb dX9_leastOf_5 rfl (lv_at hl 0 rfl) ?_
  refine lv_iconst (v := 4) hx hb dX9_leastOf_6 (by decide) ?_
  refine lv_icmp_ge (tgt := 41) hx hb dX9_leastOf_7 (by decide) (fun c => (z_le (iv_k 4 (k := 4) (by decide)) (iv_k 0 (k := 0) (by decide)) (c_le c) (by decide)).elim) (fun c1 => ?_)
  have c1 := c_nle c1
  refine lv_aload_n hx hb dX9_leastOf_10 rfl (lv_at hl 2 rfl) ?_
  refine va_get (D := (dC, dI)) (ci := 9) (v := .ref a0_counters) (C := RX9) (T := TX9) (N := 2) hx hb hts hinX9 hown hK hP 0 rfl rfl 0 (by decide) (hts (.fieldLink RX9 9 "SlipstreamCache$Sketch" "counters" "[I") (List.mem_of_getElem? (i := 1) rfl)) (fun _ h9 => h9) rfl dX9_leastOf_11 ?_
  refine lv_iload_n hx hb dX9_leastOf_14 rfl (lv_at hl 3 rfl) ?_
  refine lv_iload_n hx hb dX9_leastOf_15 rfl (lv_at hl 0 rfl) ?_
  refine mSi (As := [.int p1, .int 0]) (rest := [.ref a0_counters]) (wc := []) ⟨hx, hb, hml, hown, hts⟩ (kX9_placeOf_1 l dC dI cI cZ cC cJ cD qf  _ p1 (0 : Int32) (iv_m bp1 (by decide) (by decide)) (iv_m (iv_k 0 (k := 0) (by decide)) (by decide) (by decide))) (va_cwS 2 hts gX9_leastOf_X9_placeOf rfl rfl rfl (by decide +kernel) ⟨(Nat.le_of_ble_eq_true rfl), (Nat.le_of_ble_eq_true rfl)⟩) hE hK hP hD rfl hS hA [] rfl rfl rfl hl rfl (Nat.le_of_ble_eq_true rfl) dX9_leastOf_16 ⟨(Nat.le_of_ble_eq_true rfl), (Nat.le_of_ble_eq_true rfl)⟩ (fun _ => rfl) (fun z2 uu3 H locs hw hP hS => ?_)
  have bz2 : 0 ≤ z2.toInt ∧ z2.toInt ≤ 15 := hw.1
  have hP : va_P (dC, dI) vqCl [(a0, .inr (9, [.ref a0_counters, .int v_a0_counted])), (a0_counters, .inl (cI, 64, .inl f_a0_counters))] H := hP
  refine va_iald hx hb hK hP 1 0 rfl rfl (iv_in bz2 (by decide) (by decide)) dX9_leastOf_19 ?_
  refine lv_topi (fun z4 ez4 => ?_)
  have bz4 : 0 ≤ z4.toInt ∧ z4.toInt ≤ 0 := iv_at rf_a0_counters bz2 (by decide) (by decide) ez4
  refine lv_istore (lv' := [(4, .int z4), (3, .int 0), (2, .int 15), (0, .ref a0), (1, .int p1)]) hx hb dX9_leastOf_20 hl (by decide) rfl (fun ls hl => ?_)
  refine lv_iload hx hb dX9_leastOf_22 (lv_at hl 0 rfl) ?_
  refine lv_iload_n hx hb dX9_leastOf_24 rfl (lv_at hl 2 rfl) ?_
  refine lv_icmp_ge (tgt := 33) hx hb dX9_leastOf_25 (by decide) (fun c => (z_le (iv_k 15 (k := 15) (by decide)) bz4 (c_le c) (by decide)).elim) (fun c5 => ?_)
  have c5 := c_nle c5
  refine lv_iload hx hb dX9_leastOf_28 (lv_at hl 0 rfl) ?_
  refine lv_goto (tgt := 34) hx hb dX9_leastOf_30 (by decide) ?_
  refine lv_istore_n (lv' := [(2, .int z4), (4, .int z4), (3, .int 0), (0, .ref a0), (1, .int p1)]) hx hb dX9_leastOf_34 rfl hl (by decide) rfl (fun ls hl => ?_)
  obtain ⟨z6, ez6⟩ : ∃ y : Int32, y = (0 : Int32) + 1 := ⟨_, rfl⟩
  refine lv_iinc (v := z6) (lv' := [(3, .int z6), (2, .int z4), (4, .int z4), (0, .ref a0), (1, .int p1)]) hx hb dX9_leastOf_35 hl (k := 2) rfl (by rw [ez6]; rfl) (by decide) rfl (fun ls hl => ?_)
  have qz6 := iv_add (lo := 1) (hi := 1) ez6 (iv_k 0 (k := 0) (by decide)) (iv_k 1 (k := 1) (by decide)) (by decide) (by decide) (by decide) (by decide)
  try rw [show (1 : Int32).toInt = 1 from rfl] at qz6
  refine lv_goto (tgt := 5) hx hb dX9_leastOf_38 (by decide) ?_
  refine lv_iload_n hx hb dX9_leastOf_5 rfl (lv_at hl 0 rfl) ?_
  refine lv_iconst (v := 4) hx hb dX9_leastOf_6 (by decide) ?_
  refine lv_icmp_ge (tgt := 41) hx hb dX9_leastOf_7 (by decide) (fun c => (z_le (iv_k 4 (k := 4) (by decide)) qz6.2 (c_le c) (by decide)).elim) (fun c7 => ?_)
  have c7 := c_nle c7
  refine lv_aload_n hx hb dX9_leastOf_10 rfl (lv_at hl 3 rfl) ?_
  refine va_get (D := (dC, dI)) (ci := 9) (v := .ref a0_counters) (C := RX9) (T := TX9) (N := 2) hx hb hts hinX9 hown hK hP 0 rfl rfl 0 (by decide) (hts (.fieldLink RX9 9 "SlipstreamCache$Sketch" "counters" "[I") (List.mem_of_getElem? (i := 1) rfl)) (fun _ h9 => h9) rfl dX9_leastOf_11 ?_
  refine lv_iload_n hx hb dX9_leastOf_14 rfl (lv_at hl 4 rfl) ?_
  refine lv_iload_n hx hb dX9_leastOf_15 rfl (lv_at hl 0 rfl) ?_
  refine mSi (As := [.int p1, .int z6]) (rest := [.ref a0_counters]) (wc := []) ⟨hx, hb, hml, hown, hts⟩ (kX9_placeOf_2 l dC dI cI cZ cC cJ cD qf  _ p1 z6 (iv_m bp1 (by decide) (by decide)) (iv_m qz6.2 (by decide) (by decide))) (va_cwS 2 hts gX9_leastOf_X9_placeOf rfl rfl rfl (by decide +kernel) ⟨(Nat.le_of_ble_eq_true rfl), (Nat.le_of_ble_eq_true rfl)⟩) hE hK hP hD rfl hS hA [] rfl rfl rfl hl rfl (Nat.le_of_ble_eq_true rfl) dX9_leastOf_16 ⟨(Nat.le_of_ble_eq_true rfl), (Nat.le_of_ble_eq_true rfl)⟩ (fun _ => rfl) (fun z8 uu9 H locs hw hP hS => ?_)
  have bz8 : 16 ≤ z8.toInt ∧ z8.toInt ≤ 31 := hw.1
  have hP : va_P (dC, dI) vqCl [(a0, .inr (9, [.ref a0_counters, .int v_a0_counted])), (a0_counters, .inl (cI, 64, .inl f_a0_counters))] H := hP
  refine va_iald hx hb hK hP 1 0 rfl rfl (iv_in bz8 (by decide) (by decide)) dX9_leastOf_19 ?_
  refine lv_topi (fun z10 ez10 => ?_)
  have bz10 : 0 ≤ z10.toInt ∧ z10.toInt ≤ 0 := iv_at rf_a0_counters bz8 (by decide) (by decide) ez10
  refine lv_istore (lv' := [(4, .int z10), (3, .int z6), (2, .int z4), (0, .ref a0), (1, .int p1)]) hx hb dX9_leastOf_20 hl (by decide) rfl (fun ls hl => ?_)
  refine lv_iload hx hb dX9_leastOf_22 (lv_at hl 0 rfl) ?_
  refine lv_iload_n hx hb dX9_leastOf_24 rfl (lv_at hl 2 rfl) ?_
  refine lv_icmp_ge (tgt := 33) hx hb dX9_leastOf_25 (by decide) (fun c11 => ?_) (fun c => (z_lt bz10 bz4 (c_nle c) (by decide)).elim)
  have c11 := c_le c11
  refine lv_iload_n hx hb dX9_leastOf_33 rfl (lv_at hl 2 rfl) ?_
  refine lv_istore_n (lv' := [(2, .int z4), (4, .int z10), (3, .int z6), (0, .ref a0), (1, .int p1)]) hx hb dX9_leastOf_34 rfl hl (by decide) rfl (fun ls hl => ?_)
  obtain ⟨z12, ez12⟩ : ∃ y : Int32, y = z6 + 1 := ⟨_, rfl⟩
  refine lv_iinc (v := z12) (lv' := [(3, .int z12), (2, .int z4), (4, .int z10), (0, .ref a0), (1, .int p1)]) hx hb dX9_leastOf_35 hl (k := 2) rfl (by rw [ez12]; rfl) (by decide) rfl (fun ls hl => ?_)
  have qz12 := iv_add (lo := 2) (hi := 2) ez12 qz6.2 (iv_k 1 (k := 1) (by decide)) (by decide) (by decide) (by decide) (by decide)
  try rw [show (1 : Int32).toInt = 1 from rfl] at qz12
  refine lv_goto (tgt := 5) hx hb dX9_leastOf_38 (by decide) ?_
  refine lv_iload_n hx hb dX9_leastOf_5 rfl (lv_at hl 0 rfl) ?_
  refine lv_iconst (v := 4) hx hb dX9_leastOf_6 (by decide) ?_
  refine lv_icmp_ge (tgt := 41) hx hb dX9_leastOf_7 (by decide) (fun c => (z_le (iv_k 4 (k := 4) (by decide)) qz12.2 (c_le c) (by decide)).elim) (fun c13 => ?_)
  have c13 := c_nle c13
  refine lv_aload_n hx hb dX9_leastOf_10 rfl (lv_at hl 3 rfl) ?_
  refine va_get (D := (dC, dI)) (ci := 9) (v := .ref a0_counters) (C := RX9) (T := TX9) (N := 2) hx hb hts hinX9 hown hK hP 0 rfl rfl 0 (by decide) (hts (.fieldLink RX9 9 "SlipstreamCache$Sketch" "counters" "[I") (List.mem_of_getElem? (i := 1) rfl)) (fun _ h9 => h9) rfl dX9_leastOf_11 ?_
  refine lv_iload_n hx hb dX9_leastOf_14 rfl (lv_at hl 4 rfl) ?_
  refine lv_iload_n hx hb dX9_leastOf_15 rfl (lv_at hl 0 rfl) ?_
  refine mSi (As := [.int p1, .int z12]) (rest := [.ref a0_counters]) (wc := []) ⟨hx, hb, hml, hown, hts⟩ (kX9_placeOf_3 l dC dI cI cZ cC cJ cD qf  _ p1 z12 (iv_m bp1 (by decide) (by decide)) (iv_m qz12.2 (by decide) (by decide))) (va_cwS 2 hts gX9_leastOf_X9_placeOf rfl rfl rfl (by decide +kernel) ⟨(Nat.le_of_ble_eq_true rfl), (Nat.le_of_ble_eq_true rfl)⟩) hE hK hP hD rfl hS hA [] rfl rfl rfl hl rfl (Nat.le_of_ble_eq_true rfl) dX9_leastOf_16 ⟨(Nat.le_of_ble_eq_true rfl), (Nat.le_of_ble_eq_true rfl)⟩ (fun _ => rfl) (fun z14 uu15 H locs hw hP hS => ?_)
  have bz14 : 32 ≤ z14.toInt ∧ z14.toInt ≤ 47 := hw.1
  have hP : va_P (dC, dI) vqCl [(a0, .inr (9, [.ref a0_counters, .int v_a0_counted])), (a0_counters, .inl (cI, 64, .inl f_a0_counters))] H := hP
  refine va_iald hx hb hK hP 1 0 rfl rfl (iv_in bz14 (by decide) (by decide)) dX9_leastOf_19 ?_
  refine lv_topi (fun z16 ez16 => ?_)
  have bz16 : 0 ≤ z16.toInt ∧ z16.toInt ≤ 0 := iv_at rf_a0_counters bz14 (by decide) (by decide) ez16
  refine lv_istore (lv' := [(4, .int z16), (3, .int z12), (2, .int z4), (0, .ref a0), (1, .int p1)]) hx hb dX9_leastOf_20 hl (by decide) rfl (fun ls hl => ?_)
  refine lv_iload hx hb dX9_leastOf_22 (lv_at hl 0 rfl) ?_
  refine lv_iload_n hx hb dX9_leastOf_24 rfl (lv_at hl 2 rfl) ?_
  refine lv_icmp_ge (tgt := 33) hx hb dX9_leastOf_25 (by decide) (fun c17 => ?_) (fun c => (z_lt bz16 bz4 (c_nle c) (by decide)).elim)
  have c17 := c_le c17
  refine lv_iload_n hx hb dX9_leastOf_33 rfl (lv_at hl 2 rfl) ?_
  refine lv_istore_n (lv' := [(2, .int z4), (4, .int z16), (3, .int z12), (0, .ref a0), (1, .int p1)]) hx hb dX9_leastOf_34 rfl hl (by decide) rfl (fun ls hl => ?_)
  obtain ⟨z18, ez18⟩ : ∃ y : Int32, y = z12 + 1 := ⟨_, rfl⟩
  refine lv_iinc (v := z18) (lv' := [(3, .int z18), (2, .int z4), (4, .int z16), (0, .ref a0), (1, .int p1)]) hx hb dX9_leastOf_35 hl (k := 2) rfl (by rw [ez18]; rfl) (by decide) rfl (fun ls hl => ?_)
  have qz18 := iv_add (lo := 3) (hi := 3) ez18 qz12.2 (iv_k 1 (k := 1) (by decide)) (by decide) (by decide) (by decide) (by decide)
  try rw [show (1 : Int32).toInt = 1 from rfl] at qz18
  refine lv_goto (tgt := 5) hx hb dX9_leastOf_38 (by decide) ?_
  refine lv_iload_n hx hb dX9_leastOf_5 rfl (lv_at hl 0 rfl) ?_
  refine lv_iconst (v := 4) hx hb dX9_leastOf_6 (by decide) ?_
  refine lv_icmp_ge (tgt := 41) hx hb dX9_leastOf_7 (by decide) (fun c => (z_le (iv_k 4 (k := 4) (by decide)) qz18.2 (c_le c) (by decide)).elim) (fun c19 => ?_)
  have c19 := c_nle c19
  refine lv_aload_n hx hb dX9_leastOf_10 rfl (lv_at hl 3 rfl) ?_
  refine va_get (D := (dC, dI)) (ci := 9) (v := .ref a0_counters) (C := RX9) (T := TX9) (N := 2) hx hb hts hinX9 hown hK hP 0 rfl rfl 0 (by decide) (hts (.fieldLink RX9 9 "SlipstreamCache$Sketch" "counters" "[I") (List.mem_of_getElem? (i := 1) rfl)) (fun _ h9 => h9) rfl dX9_leastOf_11 ?_
  refine lv_iload_n hx hb dX9_leastOf_14 rfl (lv_at hl 4 rfl) ?_
  refine lv_iload_n hx hb dX9_leastOf_15 rfl (lv_at hl 0 rfl) ?_
  refine mSi (As := [.int p1, .int z18]) (rest := [.ref a0_counters]) (wc := []) ⟨hx, hb, hml, hown, hts⟩ (kX9_placeOf_4 l dC dI cI cZ cC cJ cD qf  _ p1 z18 (iv_m bp1 (by decide) (by decide)) (iv_m qz18.2 (by decide) (by decide))) (va_cwS 2 hts gX9_leastOf_X9_placeOf rfl rfl rfl (by decide +kernel) ⟨(Nat.le_of_ble_eq_true rfl), (Nat.le_of_ble_eq_true rfl)⟩) hE hK hP hD rfl hS hA [] rfl rfl rfl hl rfl (Nat.le_of_ble_eq_true rfl) dX9_leastOf_16 ⟨(Nat.le_of_ble_eq_true rfl), (Nat.le_of_ble_eq_true rfl)⟩ (fun _ => rfl) (fun z20 uu21 H locs hw hP hS => ?_)
  have bz20 : 48 ≤ z20.toInt ∧ z20.toInt ≤ 63 := hw.1
  have hP : va_P (dC, dI) vqCl [(a0, .inr (9, [.ref a0_counters, .int v_a0_counted])), (a0_counters, .inl (cI, 64, .inl f_a0_counters))] H := hP
  refine va_iald hx hb hK hP 1 0 rfl rfl (iv_in bz20 (by decide) (by decide)) dX9_leastOf_19 ?_
  refine lv_topi (fun z22 ez22 => ?_)
  have bz22 : 0 ≤ z22.toInt ∧ z22.toInt ≤ 0 := iv_at rf_a0_counters bz20 (by decide) (by decide) ez22
  refine lv_istore (lv' := [(4, .int z22), (3, .int z18), (2, .int z4), (0, .ref a0), (1, .int p1)]) hx hb dX9_leastOf_20 hl (by decide) rfl (fun ls hl => ?_)
  refine lv_iload hx hb dX9_leastOf_22 (lv_at hl 0 rfl) ?_
  refine lv_iload_n hx hb dX9_leastOf_24 rfl (lv_at hl 2 rfl) ?_
  refine lv_icmp_ge (tgt := 33) hx hb dX9_leastOf_25 (by decide) (fun c23 => ?_) (fun c => (z_lt bz22 bz4 (c_nle c) (by decide)).elim)
  have c23 := c_le c23
  refine lv_iload_n hx hb dX9_leastOf_33 rfl (lv_at hl 2 rfl) ?_
  refine lv_istore_n (lv' := [(2, .int z4), (4, .int z22), (3, .int z18), (0, .ref a0), (1, .int p1)]) hx hb dX9_leastOf_34 rfl hl (by decide) rfl (fun ls hl => ?_)
  obtain ⟨z24, ez24⟩ : ∃ y : Int32, y = z18 + 1 := ⟨_, rfl⟩
  refine lv_iinc (v := z24) (lv' := [(3, .int z24), (2, .int z4), (4, .int z22), (0, .ref a0), (1, .int p1)]) hx hb dX9_leastOf_35 hl (k := 2) rfl (by rw [ez24]; rfl) (by decide) rfl (fun ls hl => ?_)
  have qz24 := iv_add (lo := 4) (hi := 4) ez24 qz18.2 (iv_k 1 (k := 1) (by decide)) (by decide) (by decide) (by decide) (by decide)
  try rw [show (1 : Int32).toInt = 1 from rfl] at qz24
  refine lv_goto (tgt := 5) hx hb dX9_leastOf_38 (by decide) ?_
  refine lv_iload_n hx hb dX9_leastOf_5 rfl (lv_at hl 0 rfl) ?_
  refine lv_iconst (v := 4) hx hb dX9_leastOf_6 (by decide) ?_
  refine lv_icmp_ge (tgt := 41) hx hb dX9_leastOf_7 (by decide) (fun c25 => ?_) (fun c => (z_lt qz24.2 (iv_k 4 (k := 4) (by decide)) (c_nle c) (by decide)).elim)
  have c25 := c_le c25
  refine lv_iload_n hx hb dX9_leastOf_41 rfl (lv_at hl 1 rfl) ?_
  subst hQ
  exact W.iret (v := z4) hx hb hr (fun t ht hW => ⟨⟨z4, (), rfl, ⟨iv_m bz4 (by decide) (by decide), trivial⟩, pAt ht hP⟩, hS.F ht⟩) hS.2.2 dX9_leastOf_42
set_option maxHeartbeats 4000000 in
set_option maxRecDepth 100000 in
theorem kX10_put_1 (l : Launch) (dC : Nat → ClassId) (dI : Nat → Nat → Nat) (cI cZ cC cJ cD : ClassId) (qf : Nat) (a0 a0_values a0_versions a0_logKeys a0_logVersions a0_logMinutes : Nat) (sz : Nat) (f_a0_values : Nat → Int32) (f_a0_versions : Nat → Int32) (f_a0_logKeys : Nat → Int32) (f_a0_logVersions : Nat → Int32) (f_a0_logMinutes : Nat → Int32) (v_a0_logged p1 p2 p3 : Int32) (rf_a0_values : rg 0 0 32 f_a0_values) (rf_a0_versions : rg 0 0 32 f_a0_versions) (rf_a0_logKeys : rg 0 0 400 f_a0_logKeys) (rf_a0_logVersions : rg 0 0 400 f_a0_logVersions) (rf_a0_logMinutes : rg 0 0 400 f_a0_logMinutes) (bv_a0_logged : 0 ≤ v_a0_logged.toInt ∧ v_a0_logged.toInt ≤ 0) (bp1 : 0 ≤ p1.toInt ∧ p1.toInt ≤ 31) (bp3 : 0 ≤ p3.toInt ∧ p3.toInt ≤ 0) : Met l yX10_put wsX10_put ({ frames := 1, cells := 0, slots := 0, locals := 0 } : Room) (mPre qf [.ref a0, .int p1, .int p2, .int p3] sz (dC, dI) (mT cI cZ cC cJ cD) [(a0, .inr (10, [.ref a0_values, .ref a0_versions, .ref a0_logKeys, .ref a0_logVersions, .ref a0_logMinutes, .int v_a0_logged])), (a0_values, .inl (cI, 32, .inl f_a0_values)), (a0_versions, .inl (cI, 32, .inl f_a0_versions)), (a0_logKeys, .inl (cI, 400, .inl f_a0_logKeys)), (a0_logVersions, .inl (cI, 400, .inl f_a0_logVersions)), (a0_logMinutes, .inl (cI, 400, .inl f_a0_logMinutes))]) (mQi (fun (r : Int32) (u : (Int32) × (Nat → Int32) × (Nat → Int32) × (Nat → Int32) × (Nat → Int32) × (Nat → Int32)) => (1 ≤ r.toInt ∧ r.toInt ≤ 1) ∧ (1 ≤ (u.1).toInt ∧ (u.1).toInt ≤ 1) ∧ (1 ≤ ((u.2.2.1) p1.toNatClampNeg).toInt ∧ ((u.2.2.1) p1.toNatClampNeg).toInt ≤ 1) ∧ rg 0 1 32 (u.2.2.1) ∧ rg 0 31 400 (u.2.2.2.1) ∧ rg 0 1 400 (u.2.2.2.2.1) ∧ rg 0 0 400 (u.2.2.2.2.2) ∧ True) (fun (u : (Int32) × (Nat → Int32) × (Nat → Int32) × (Nat → Int32) × (Nat → Int32) × (Nat → Int32)) => [(a0, .inr (10, [.ref a0_values, .ref a0_versions, .ref a0_logKeys, .ref a0_logVersions, .ref a0_logMinutes, .int (u.1)])), (a0_values, .inl (cI, 32, .inl (u.2.1))), (a0_versions, .inl (cI, 32, .inl (u.2.2.1))), (a0_logKeys, .inl (cI, 400, .inl (u.2.2.2.1))), (a0_logVersions, .inl (cI, 400, .inl (u.2.2.2.2.1))), (a0_logMinutes, .inl (cI, 400, .inl (u.2.2.2.2.2)))]) (dC, dI) (va_A [(a0, .inr (10, [.ref a0_values, .ref a0_versions, .ref a0_logKeys, .ref a0_logVersions, .ref a0_logMinutes, .int v_a0_logged])), (a0_values, .inl (cI, 32, .inl f_a0_values)), (a0_versions, .inl (cI, 32, .inl f_a0_versions)), (a0_logKeys, .inl (cI, 400, .inl f_a0_logKeys)), (a0_logVersions, .inl (cI, 400, .inl f_a0_logVersions)), (a0_logMinutes, .inl (cI, 400, .inl f_a0_logMinutes))] sz)) 0 0 (va_A [(a0, .inr (10, [.ref a0_values, .ref a0_versions, .ref a0_logKeys, .ref a0_logVersions, .ref a0_logMinutes, .int v_a0_logged])), (a0_values, .inl (cI, 32, .inl f_a0_values)), (a0_versions, .inl (cI, 32, .inl f_a0_versions)), (a0_logKeys, .inl (cI, 400, .inl f_a0_logKeys)), (a0_logVersions, .inl (cI, 400, .inl f_a0_logVersions)), (a0_logMinutes, .inl (cI, 400, .inl f_a0_logMinutes))] sz) := by
  refine mMet (Qc := fun A => mQi (fun (r : Int32) (u : (Int32) × (Nat → Int32) × (Nat → Int32) × (Nat → Int32) × (Nat → Int32) × (Nat → Int32)) => (1 ≤ r.toInt ∧ r.toInt ≤ 1) ∧ (1 ≤ (u.1).toInt ∧ (u.1).toInt ≤ 1) ∧ (1 ≤ ((u.2.2.1) p1.toNatClampNeg).toInt ∧ ((u.2.2.1) p1.toNatClampNeg).toInt ≤ 1) ∧ rg 0 1 32 (u.2.2.1) ∧ rg 0 31 400 (u.2.2.2.1) ∧ rg 0 1 400 (u.2.2.2.2.1) ∧ rg 0 0 400 (u.2.2.2.2.2) ∧ True) (fun (u : (Int32) × (Nat → Int32) × (Nat → Int32) × (Nat → Int32) × (Nat → Int32) × (Nat → Int32)) => [(a0, .inr (10, [.ref a0_values, .ref a0_versions, .ref a0_logKeys, .ref a0_logVersions, .ref a0_logMinutes, .int (u.1)])), (a0_values, .inl (cI, 32, .inl (u.2.1))), (a0_versions, .inl (cI, 32, .inl (u.2.2.1))), (a0_logKeys, .inl (cI, 400, .inl (u.2.2.2.1))), (a0_logVersions, .inl (cI, 400, .inl (u.2.2.2.2.1))), (a0_logMinutes, .inl (cI, 400, .inl (u.2.2.2.2.2)))]) (dC, dI) A) (y := yX10_put) (ws := wsX10_put) (av := [.ref a0, .int p1, .int p2, .int p3]) (wc := [(a0, .inr (10, [.ref a0_values, .ref a0_versions, .ref a0_logKeys, .ref a0_logVersions, .ref a0_logMinutes, .int v_a0_logged])), (a0_values, .inl (cI, 32, .inl f_a0_values)), (a0_versions, .inl (cI, 32, .inl f_a0_versions)), (a0_logKeys, .inl (cI, 400, .inl f_a0_logKeys)), (a0_logVersions, .inl (cI, 400, .inl f_a0_logVersions)), (a0_logMinutes, .inl (cI, 400, .inl f_a0_logMinutes))]) (cc := cX10_put) (maxL := 4) (ret := (some .int)) (own := RX10) (by decide) rfl rfl (Nat.le_of_ble_eq_true rfl) ?_
  intro p e s m args below meth c hx hb hr hts hown hml hlk A hsz hP hK hD hS hA hE ls hl Q hQ
  have hl : lv_has ls 4 [(0, .ref a0), (1, .int p1), (2, .int p2), (3, .int p3)] := hl
  have hinX10 : ∀ w ∈ u_ws RX10 TX10 6, w ∈ wsX10_put := fun w h => List.mem_cons_of_mem _ (List.mem_append_left _ (List.mem_append_right _ h))
  refine lv_aload_n hx hb dX10_put_0 rfl (lv_at hl 0 rfl) ?_
  refine va_get (D := (dC, dI)) (ci := 10) (v := .ref a0_values) (C := RX10) (T := TX10) (N := 6) hx hb hts hinX10 hown hK hP 0 rfl rfl 0 (by decide) (hts (.fieldLink RX10 9 "SlipstreamCache$Store" "values" "[I") (List.mem_of_getElem? (i := 1) rfl)) (fun _ h9 => h9) rfl dX10_put_1 ?_
  refine lv_iload_n hx hb dX10_put_4 rfl (lv_at hl 1 rfl) ?_
  refine lv_iload_n hx hb dX10_put_5 rfl (lv_at hl 2 rfl) ?_
  refine va_iast hx hb hK hP (hD.to rfl) hS 1 0 rfl rfl (iv_in bp1 (by decide) (by decide)) dX10_put_6 (fun H locs hP _ hS => ?_)
  obtain ⟨f1, ef1⟩ : ∃ y, y = upd f_a0_values (p1).toNatClampNeg p2 := ⟨_, rfl⟩
  rw [← ef1] at hP
  have hP : va_P (dC, dI) vqCl [(a0, .inr (10, [.ref a0_values, .ref a0_versions, .ref a0_logKeys, .ref a0_logVersions, .ref a0_logMinutes, .int v_a0_logged])), (a0_values, .inl (cI, 32, .inl f1)), (a0_versions, .inl (cI, 32, .inl f_a0_versions)), (a0_logKeys, .inl (cI, 400, .inl f_a0_logKeys)), (a0_logVersions, .inl (cI, 400, .inl f_a0_logVersions)), (a0_logMinutes, .inl (cI, 400, .inl f_a0_logMinutes))] H := hP
  refine lv_aload_n hx hb dX10_put_7 rfl (lv_at hl 0 rfl) ?_
  refine va_get (D := (dC, dI)) (ci := 10) (v := .ref a0_versions) (C := RX10) (T := TX10) (N := 6) hx hb hts hinX10 hown hK hP 0 rfl rfl 1 (by decide) (hts (.fieldLink RX10 15 "SlipstreamCache$Store" "versions" "[I") (List.mem_of_getElem? (i := 2) rfl)) (fun _ h9 => h9) rfl dX10_put_8 ?_
  refine lv_iload_n hx hb dX10_put_11 rfl (lv_at hl 1 rfl) ?_
  refine lv_dup2_11 hx hb dX10_put_12 rfl rfl ?_
  refine va_iald hx hb hK hP 2 0 rfl rfl (iv_in bp1 (by decide) (by decide)) dX10_put_13 ?_
  refine lv_topi (fun z2 ez2 => ?_)
  have bz2 : 0 ≤ z2.toInt ∧ z2.toInt ≤ 0 := iv_at rf_a0_versions bp1 (by decide) (by decide) ez2
  refine lv_iconst (v := 1) hx hb dX10_put_14 (by decide) ?_
  refine lv_iadd hx hb dX10_put_15 ?_
  refine lv_topi (fun z3 ez3 => ?_)
  have qz3 := iv_add (lo := 1) (hi := 1) ez3 bz2 (iv_k 1 (k := 1) (by decide)) (by decide) (by decide) (by decide) (by decide) 
  try rw [show (1 : Int32).toInt = 1 from rfl] at qz3
  obtain rfl : z3 = (1 : Int32) := iv_sg (k := 1) qz3.2 (by decide)
  refine va_iast hx hb hK hP (hD.to rfl) hS 2 0 rfl rfl (iv_in bp1 (by decide) (by decide)) dX10_put_16 (fun H locs hP _ hS => ?_)
  obtain ⟨f4, ef4⟩ : ∃ y, y = upd f_a0_versions (p1).toNatClampNeg (1 : Int32) := ⟨_, rfl⟩
  rw [← ef4] at hP
  have rf4 : rg 0 1 32 f4 := by rw [ef4]; exact (rg.mono rf_a0_versions (by decide) (by decide)).up (iv_m (iv_k 1 (k := 1) (by decide)) (by decide) (by decide))
  have tf4 : 1 ≤ (f4 (p1).toNatClampNeg).toInt ∧ (f4 (p1).toNatClampNeg).toInt ≤ 1 := by rw [ef4, pk_us]; exact (iv_k 1 (k := 1) (by decide))
  have hP : va_P (dC, dI) vqCl [(a0, .inr (10, [.ref a0_values, .ref a0_versions, .ref a0_logKeys, .ref a0_logVersions, .ref a0_logMinutes, .int v_a0_logged])), (a0_values, .inl (cI, 32, .inl f1)), (a0_versions, .inl (cI, 32, .inl f4)), (a0_logKeys, .inl (cI, 400, .inl f_a0_logKeys)), (a0_logVersions, .inl (cI, 400, .inl f_a0_logVersions)), (a0_logMinutes, .inl (cI, 400, .inl f_a0_logMinutes))] H := hP
  refine lv_aload_n hx hb dX10_put_17 rfl (lv_at hl 0 rfl) ?_
  refine va_get (D := (dC, dI)) (ci := 10) (v := .int v_a0_logged) (C := RX10) (T := TX10) (N := 6) hx hb hts hinX10 hown hK hP 0 rfl rfl 5 (by decide) (hts (.fieldLink RX10 27 "SlipstreamCache$Store" "logged" "I") (List.mem_of_getElem? (i := 3) rfl)) (fun _ h9 => h9) rfl dX10_put_18 ?_
  refine lv_sipush (v := 400) hx hb dX10_put_21 (by decide) ?_
  refine lv_icmp_ge (tgt := 72) hx hb dX10_put_24 (by decide) (fun c => (z_le (iv_k 400 (k := 400) (by decide)) bv_a0_logged (c_le c) (by decide)).elim) (fun c5 => ?_)
  have c5 := c_nle c5
  refine lv_aload_n hx hb dX10_put_27 rfl (lv_at hl 0 rfl) ?_
  refine va_get (D := (dC, dI)) (ci := 10) (v := .ref a0_logKeys) (C := RX10) (T := TX10) (N := 6) hx hb hts hinX10 hown hK hP 0 rfl rfl 2 (by decide) (hts (.fieldLink RX10 18 "SlipstreamCache$Store" "logKeys" "[I") (List.mem_of_getElem? (i := 4) rfl)) (fun _ h9 => h9) rfl dX10_put_28 ?_
  refine lv_aload_n hx hb dX10_put_31 rfl (lv_at hl 0 rfl) ?_
  refine va_get (D := (dC, dI)) (ci := 10) (v := .int v_a0_logged) (C := RX10) (T := TX10) (N := 6) hx hb hts hinX10 hown hK hP 0 rfl rfl 5 (by decide) (hts (.fieldLink RX10 27 "SlipstreamCache$Store" "logged" "I") (List.mem_of_getElem? (i := 3) rfl)) (fun _ h9 => h9) rfl dX10_put_32 ?_
  refine lv_iload_n hx hb dX10_put_35 rfl (lv_at hl 1 rfl) ?_
  refine va_iast hx hb hK hP (hD.to rfl) hS 3 0 rfl rfl (iv_in bv_a0_logged (by decide) (by decide)) dX10_put_36 (fun H locs hP _ hS => ?_)
  obtain ⟨f6, ef6⟩ : ∃ y, y = upd f_a0_logKeys (v_a0_logged).toNatClampNeg p1 := ⟨_, rfl⟩
  rw [← ef6] at hP
  have rf6 : rg 0 31 400 f6 := by rw [ef6]; exact (rg.mono rf_a0_logKeys (by decide) (by decide)).up (iv_m bp1 (by decide) (by decide))
  have hP : va_P (dC, dI) vqCl [(a0, .inr (10, [.ref a0_values, .ref a0_versions, .ref a0_logKeys, .ref a0_logVersions, .ref a0_logMinutes, .int v_a0_logged])), (a0_values, .inl (cI, 32, .inl f1)), (a0_versions, .inl (cI, 32, .inl f4)), (a0_logKeys, .inl (cI, 400, .inl f6)), (a0_logVersions, .inl (cI, 400, .inl f_a0_logVersions)), (a0_logMinutes, .inl (cI, 400, .inl f_a0_logMinutes))] H := hP
  refine lv_aload_n hx hb dX10_put_37 rfl (lv_at hl 0 rfl) ?_
  refine va_get (D := (dC, dI)) (ci := 10) (v := .ref a0_logVersions) (C := RX10) (T := TX10) (N := 6) hx hb hts hinX10 hown hK hP 0 rfl rfl 3 (by decide) (hts (.fieldLink RX10 21 "SlipstreamCache$Store" "logVersions" "[I") (List.mem_of_getElem? (i := 5) rfl)) (fun _ h9 => h9) rfl dX10_put_38 ?_
  refine lv_aload_n hx hb dX10_put_41 rfl (lv_at hl 0 rfl) ?_
  refine va_get (D := (dC, dI)) (ci := 10) (v := .int v_a0_logged) (C := RX10) (T := TX10) (N := 6) hx hb hts hinX10 hown hK hP 0 rfl rfl 5 (by decide) (hts (.fieldLink RX10 27 "SlipstreamCache$Store" "logged" "I") (List.mem_of_getElem? (i := 3) rfl)) (fun _ h9 => h9) rfl dX10_put_42 ?_
  refine lv_aload_n hx hb dX10_put_45 rfl (lv_at hl 0 rfl) ?_
  refine va_get (D := (dC, dI)) (ci := 10) (v := .ref a0_versions) (C := RX10) (T := TX10) (N := 6) hx hb hts hinX10 hown hK hP 0 rfl rfl 1 (by decide) (hts (.fieldLink RX10 15 "SlipstreamCache$Store" "versions" "[I") (List.mem_of_getElem? (i := 2) rfl)) (fun _ h9 => h9) rfl dX10_put_46 ?_
  refine lv_iload_n hx hb dX10_put_49 rfl (lv_at hl 1 rfl) ?_
  refine va_iald hx hb hK hP 2 0 rfl rfl (iv_in bp1 (by decide) (by decide)) dX10_put_50 ?_
  refine lv_topi (fun z7 ez7 => ?_)
  have bz7 : 1 ≤ z7.toInt ∧ z7.toInt ≤ 1 := by rw [ez7]; exact tf4
  refine va_iast hx hb hK hP (hD.to rfl) hS 4 0 rfl rfl (iv_in bv_a0_logged (by decide) (by decide)) dX10_put_51 (fun H locs hP _ hS => ?_)
  obtain ⟨f8, ef8⟩ : ∃ y, y = upd f_a0_logVersions (v_a0_logged).toNatClampNeg z7 := ⟨_, rfl⟩
  rw [← ef8] at hP
  have rf8 : rg 0 1 400 f8 := by rw [ef8]; exact (rg.mono rf_a0_logVersions (by decide) (by decide)).up (iv_m bz7 (by decide) (by decide))
  have tf8 : 1 ≤ (f8 (v_a0_logged).toNatClampNeg).toInt ∧ (f8 (v_a0_logged).toNatClampNeg).toInt ≤ 1 := by rw [ef8, pk_us]; exact bz7
  have hP : va_P (dC, dI) vqCl [(a0, .inr (10, [.ref a0_values, .ref a0_versions, .ref a0_logKeys, .ref a0_logVersions, .ref a0_logMinutes, .int v_a0_logged])), (a0_values, .inl (cI, 32, .inl f1)), (a0_versions, .inl (cI, 32, .inl f4)), (a0_logKeys, .inl (cI, 400, .inl f6)), (a0_logVersions, .inl (cI, 400, .inl f8)), (a0_logMinutes, .inl (cI, 400, .inl f_a0_logMinutes))] H := hP
  refine lv_aload_n hx hb dX10_put_52 rfl (lv_at hl 0 rfl) ?_
  refine va_get (D := (dC, dI)) (ci := 10) (v := .ref a0_logMinutes) (C := RX10) (T := TX10) (N := 6) hx hb hts hinX10 hown hK hP 0 rfl rfl 4 (by decide) (hts (.fieldLink RX10 24 "SlipstreamCache$Store" "logMinutes" "[I") (List.mem_of_getElem? (i := 6) rfl)) (fun _ h9 => h9) rfl dX10_put_53 ?_
  refine lv_aload_n hx hb dX10_put_56 rfl (lv_at hl 0 rfl) ?_
  refine va_get (D := (dC, dI)) (ci := 10) (v := .int v_a0_logged) (C := RX10) (T := TX10) (N := 6) hx hb hts hinX10 hown hK hP 0 rfl rfl 5 (by decide) (hts (.fieldLink RX10 27 "SlipstreamCache$Store" "logged" "I") (List.mem_of_getElem? (i := 3) rfl)) (fun _ h9 => h9) rfl dX10_put_57 ?_
  refine lv_iload_n hx hb dX10_put_60 rfl (lv_at hl 3 rfl) ?_
  refine va_iast hx hb hK hP (hD.to rfl) hS 5 0 rfl rfl (iv_in bv_a0_logged (by decide) (by decide)) dX10_put_61 (fun H locs hP _ hS => ?_)
  obtain ⟨f9, ef9⟩ : ∃ y, y = upd f_a0_logMinutes (v_a0_logged).toNatClampNeg p3 := ⟨_, rfl⟩
  rw [← ef9] at hP
  have rf9 : rg 0 0 400 f9 := by rw [ef9]; exact (rg.mono rf_a0_logMinutes (by decide) (by decide)).up (iv_m bp3 (by decide) (by decide))
  have hP : va_P (dC, dI) vqCl [(a0, .inr (10, [.ref a0_values, .ref a0_versions, .ref a0_logKeys, .ref a0_logVersions, .ref a0_logMinutes, .int v_a0_logged])), (a0_values, .inl (cI, 32, .inl f1)), (a0_versions, .inl (cI, 32, .inl f4)), (a0_logKeys, .inl (cI, 400, .inl f6)), (a0_logVersions, .inl (cI, 400, .inl f8)), (a0_logMinutes, .inl (cI, 400, .inl f9))] H := hP
  refine lv_aload_n hx hb dX10_put_62 rfl (lv_at hl 0 rfl) ?_
  refine lv_dup hx hb dX10_put_63 rfl ?_
  refine va_get (D := (dC, dI)) (ci := 10) (v := .int v_a0_logged) (C := RX10) (T := TX10) (N := 6) hx hb hts hinX10 hown hK hP 0 rfl rfl 5 (by decide) (hts (.fieldLink RX10 27 "SlipstreamCache$Store" "logged" "I") (List.mem_of_getElem? (i := 3) rfl)) (fun _ h9 => h9) rfl dX10_put_64 ?_
  refine lv_iconst (v := 1) hx hb dX10_put_67 (by decide) ?_
  refine lv_iadd hx hb dX10_put_68 ?_
  refine lv_topi (fun z10 ez10 => ?_)
  have qz10 := iv_add (lo := 1) (hi := 1) ez10 bv_a0_logged (iv_k 1 (k := 1) (by decide)) (by decide) (by decide) (by decide) (by decide) 
  try rw [show (1 : Int32).toInt = 1 from rfl] at qz10
  obtain rfl : z10 = (1 : Int32) := iv_sg (k := 1) qz10.2 (by decide)
  refine va_put (D := (dC, dI)) (ci := 10) (v := .int 1) (ty := .int) (C := RX10) (T := TX10) (N := 6) hx hb hts hinX10 tyX10 tyX10_ok nmX10 hown hK hP (hD.to rfl) hS 0 rfl rfl 5 (by decide) (hts (.fieldLink RX10 27 "SlipstreamCache$Store" "logged" "I") (List.mem_of_getElem? (i := 3) rfl)) (fun _ h9 => h9) rfl (by decide +kernel) rfl rfl (Nat.le_of_ble_eq_true rfl) dX10_put_69 (fun H locs hP _ hS => ?_)
  have hP : va_P (dC, dI) vqCl [(a0, .inr (10, [.ref a0_values, .ref a0_versions, .ref a0_logKeys, .ref a0_logVersions, .ref a0_logMinutes, .int 1])), (a0_values, .inl (cI, 32, .inl f1)), (a0_versions, .inl (cI, 32, .inl f4)), (a0_logKeys, .inl (cI, 400, .inl f6)), (a0_logVersions, .inl (cI, 400, .inl f8)), (a0_logMinutes, .inl (cI, 400, .inl f9))] H := hP
  refine lv_aload_n hx hb dX10_put_72 rfl (lv_at hl 0 rfl) ?_
  refine va_get (D := (dC, dI)) (ci := 10) (v := .ref a0_versions) (C := RX10) (T := TX10) (N := 6) hx hb hts hinX10 hown hK hP 0 rfl rfl 1 (by decide) (hts (.fieldLink RX10 15 "SlipstreamCache$Store" "versions" "[I") (List.mem_of_getElem? (i := 2) rfl)) (fun _ h9 => h9) rfl dX10_put_73 ?_
  refine lv_iload_n hx hb dX10_put_76 rfl (lv_at hl 1 rfl) ?_
  refine va_iald hx hb hK hP 2 0 rfl rfl (iv_in bp1 (by decide) (by decide)) dX10_put_77 ?_
  refine lv_topi (fun z11 ez11 => ?_)
  have ez11 : z11 = z7 := ez11.trans ez7.symm
  subst ez11
  subst hQ
  exact W.iret (v := z7) hx hb hr (fun t ht hW => ⟨⟨z7, ((1 : Int32), f1, f4, f6, f8, f9), rfl, ⟨iv_m bz7 (by decide) (by decide), iv_m (iv_k 1 (k := 1) (by decide)) (by decide) (by decide), iv_m tf4 (by decide) (by decide), rg.mono rf4 (by decide) (by decide), rg.mono rf6 (by decide) (by decide), rg.mono rf8 (by decide) (by decide), rg.mono rf9 (by decide) (by decide), trivial⟩, pAt ht hP⟩, hS.F ht⟩) hS.2.2 dX10_put_78
set_option maxHeartbeats 4000000 in
set_option maxRecDepth 100000 in
theorem kX7_send_1 (l : Launch) (dC : Nat → ClassId) (dI : Nat → Nat → Nat) (cI cZ cC cJ cD : ClassId) (qf : Nat) (a0 a0_values a0_versions a0_sentKeys a0_sentVersions a0_sentValues : Nat) (sz : Nat) (f_a0_sentKeys : Nat → Int32) (f_a0_sentVersions : Nat → Int32) (f_a0_sentValues : Nat → Int32) (v_a0_count p1 p2 p3 : Int32) (rf_a0_sentKeys : rg 0 0 400 f_a0_sentKeys) (rf_a0_sentVersions : rg 0 0 400 f_a0_sentVersions) (rf_a0_sentValues : rg 0 0 400 f_a0_sentValues) (bv_a0_count : 0 ≤ v_a0_count.toInt ∧ v_a0_count.toInt ≤ 0) (bp1 : 0 ≤ p1.toInt ∧ p1.toInt ≤ 31) (bp2 : 1 ≤ p2.toInt ∧ p2.toInt ≤ 1) : Met l yX7_send wsX7_send ({ frames := 1, cells := 0, slots := 0, locals := 0 } : Room) (mPre qf [.ref a0, .int p1, .int p2, .int p3] sz (dC, dI) (mT cI cZ cC cJ cD) [(a0, .inr (7, [.ref a0_values, .ref a0_versions, .ref a0_sentKeys, .ref a0_sentVersions, .ref a0_sentValues, .int v_a0_count])), (a0_sentKeys, .inl (cI, 400, .inl f_a0_sentKeys)), (a0_sentVersions, .inl (cI, 400, .inl f_a0_sentVersions)), (a0_sentValues, .inl (cI, 400, .inl f_a0_sentValues))]) (mQv (fun (u : (Int32) × (Nat → Int32) × (Nat → Int32) × (Nat → Int32)) => (1 ≤ (u.1).toInt ∧ (u.1).toInt ≤ 1) ∧ rg 0 31 400 (u.2.1) ∧ rg 0 1 400 (u.2.2.1) ∧ True) (fun (u : (Int32) × (Nat → Int32) × (Nat → Int32) × (Nat → Int32)) => [(a0, .inr (7, [.ref a0_values, .ref a0_versions, .ref a0_sentKeys, .ref a0_sentVersions, .ref a0_sentValues, .int (u.1)])), (a0_sentKeys, .inl (cI, 400, .inl (u.2.1))), (a0_sentVersions, .inl (cI, 400, .inl (u.2.2.1))), (a0_sentValues, .inl (cI, 400, .inl (u.2.2.2)))]) (dC, dI) (va_A [(a0, .inr (7, [.ref a0_values, .ref a0_versions, .ref a0_sentKeys, .ref a0_sentVersions, .ref a0_sentValues, .int v_a0_count])), (a0_sentKeys, .inl (cI, 400, .inl f_a0_sentKeys)), (a0_sentVersions, .inl (cI, 400, .inl f_a0_sentVersions)), (a0_sentValues, .inl (cI, 400, .inl f_a0_sentValues))] sz)) 0 0 (va_A [(a0, .inr (7, [.ref a0_values, .ref a0_versions, .ref a0_sentKeys, .ref a0_sentVersions, .ref a0_sentValues, .int v_a0_count])), (a0_sentKeys, .inl (cI, 400, .inl f_a0_sentKeys)), (a0_sentVersions, .inl (cI, 400, .inl f_a0_sentVersions)), (a0_sentValues, .inl (cI, 400, .inl f_a0_sentValues))] sz) := by
  refine mMet (Qc := fun A => mQv (fun (u : (Int32) × (Nat → Int32) × (Nat → Int32) × (Nat → Int32)) => (1 ≤ (u.1).toInt ∧ (u.1).toInt ≤ 1) ∧ rg 0 31 400 (u.2.1) ∧ rg 0 1 400 (u.2.2.1) ∧ True) (fun (u : (Int32) × (Nat → Int32) × (Nat → Int32) × (Nat → Int32)) => [(a0, .inr (7, [.ref a0_values, .ref a0_versions, .ref a0_sentKeys, .ref a0_sentVersions, .ref a0_sentValues, .int (u.1)])), (a0_sentKeys, .inl (cI, 400, .inl (u.2.1))), (a0_sentVersions, .inl (cI, 400, .inl (u.2.2.1))), (a0_sentValues, .inl (cI, 400, .inl (u.2.2.2)))]) (dC, dI) A) (y := yX7_send) (ws := wsX7_send) (av := [.ref a0, .int p1, .int p2, .int p3]) (wc := [(a0, .inr (7, [.ref a0_values, .ref a0_versions, .ref a0_sentKeys, .ref a0_sentVersions, .ref a0_sentValues, .int v_a0_count])), (a0_sentKeys, .inl (cI, 400, .inl f_a0_sentKeys)), (a0_sentVersions, .inl (cI, 400, .inl f_a0_sentVersions)), (a0_sentValues, .inl (cI, 400, .inl f_a0_sentValues))]) (cc := cX7_send) (maxL := 4) (ret := none) (own := RX7) (by decide) rfl rfl (Nat.le_of_ble_eq_true rfl) ?_
  intro p e s m args below meth c hx hb hr hts hown hml hlk A hsz hP hK hD hS hA hE ls hl Q hQ
  have hl : lv_has ls 4 [(0, .ref a0), (1, .int p1), (2, .int p2), (3, .int p3)] := hl
  have hinX7 : ∀ w ∈ u_ws RX7 TX7 6, w ∈ wsX7_send := fun w h => List.mem_cons_of_mem _ (List.mem_append_left _ (List.mem_append_right _ h))
  refine lv_aload_n hx hb dX7_send_0 rfl (lv_at hl 0 rfl) ?_
  refine va_get (D := (dC, dI)) (ci := 7) (v := .int v_a0_count) (C := RX7) (T := TX7) (N := 6) hx hb hts hinX7 hown hK hP 0 rfl rfl 5 (by decide) (hts (.fieldLink RX7 27 "SlipstreamCache$Mirror" "count" "I") (List.mem_of_getElem? (i := 1) rfl)) (fun _ h9 => h9) rfl dX7_send_1 ?_
  refine lv_sipush (v := 400) hx hb dX7_send_4 (by decide) ?_
  refine lv_icmp_ge (tgt := 50) hx hb dX7_send_7 (by decide) (fun c => (z_le (iv_k 400 (k := 400) (by decide)) bv_a0_count (c_le c) (by decide)).elim) (fun c1 => ?_)
  have c1 := c_nle c1
  refine lv_aload_n hx hb dX7_send_10 rfl (lv_at hl 0 rfl) ?_
  refine va_get (D := (dC, dI)) (ci := 7) (v := .ref a0_sentKeys) (C := RX7) (T := TX7) (N := 6) hx hb hts hinX7 hown hK hP 0 rfl rfl 2 (by decide) (hts (.fieldLink RX7 18 "SlipstreamCache$Mirror" "sentKeys" "[I") (List.mem_of_getElem? (i := 2) rfl)) (fun _ h9 => h9) rfl dX7_send_11 ?_
  refine lv_aload_n hx hb dX7_send_14 rfl (lv_at hl 0 rfl) ?_
  refine va_get (D := (dC, dI)) (ci := 7) (v := .int v_a0_count) (C := RX7) (T := TX7) (N := 6) hx hb hts hinX7 hown hK hP 0 rfl rfl 5 (by decide) (hts (.fieldLink RX7 27 "SlipstreamCache$Mirror" "count" "I") (List.mem_of_getElem? (i := 1) rfl)) (fun _ h9 => h9) rfl dX7_send_15 ?_
  refine lv_iload_n hx hb dX7_send_18 rfl (lv_at hl 1 rfl) ?_
  refine va_iast hx hb hK hP (hD.to rfl) hS 1 0 rfl rfl (iv_in bv_a0_count (by decide) (by decide)) dX7_send_19 (fun H locs hP _ hS => ?_)
  obtain ⟨f2, ef2⟩ : ∃ y, y = upd f_a0_sentKeys (v_a0_count).toNatClampNeg p1 := ⟨_, rfl⟩
  rw [← ef2] at hP
  have rf2 : rg 0 31 400 f2 := by rw [ef2]; exact (rg.mono rf_a0_sentKeys (by decide) (by decide)).up (iv_m bp1 (by decide) (by decide))
  have hP : va_P (dC, dI) vqCl [(a0, .inr (7, [.ref a0_values, .ref a0_versions, .ref a0_sentKeys, .ref a0_sentVersions, .ref a0_sentValues, .int v_a0_count])), (a0_sentKeys, .inl (cI, 400, .inl f2)), (a0_sentVersions, .inl (cI, 400, .inl f_a0_sentVersions)), (a0_sentValues, .inl (cI, 400, .inl f_a0_sentValues))] H := hP
  refine lv_aload_n hx hb dX7_send_20 rfl (lv_at hl 0 rfl) ?_
  refine va_get (D := (dC, dI)) (ci := 7) (v := .ref a0_sentVersions) (C := RX7) (T := TX7) (N := 6) hx hb hts hinX7 hown hK hP 0 rfl rfl 3 (by decide) (hts (.fieldLink RX7 21 "SlipstreamCache$Mirror" "sentVersions" "[I") (List.mem_of_getElem? (i := 3) rfl)) (fun _ h9 => h9) rfl dX7_send_21 ?_
  refine lv_aload_n hx hb dX7_send_24 rfl (lv_at hl 0 rfl) ?_
  refine va_get (D := (dC, dI)) (ci := 7) (v := .int v_a0_count) (C := RX7) (T := TX7) (N := 6) hx hb hts hinX7 hown hK hP 0 rfl rfl 5 (by decide) (hts (.fieldLink RX7 27 "SlipstreamCache$Mirror" "count" "I") (List.mem_of_getElem? (i := 1) rfl)) (fun _ h9 => h9) rfl dX7_send_25 ?_
  refine lv_iload_n hx hb dX7_send_28 rfl (lv_at hl 2 rfl) ?_
  refine va_iast hx hb hK hP (hD.to rfl) hS 2 0 rfl rfl (iv_in bv_a0_count (by decide) (by decide)) dX7_send_29 (fun H locs hP _ hS => ?_)
  obtain ⟨f3, ef3⟩ : ∃ y, y = upd f_a0_sentVersions (v_a0_count).toNatClampNeg p2 := ⟨_, rfl⟩
  rw [← ef3] at hP
  have rf3 : rg 0 1 400 f3 := by rw [ef3]; exact (rg.mono rf_a0_sentVersions (by decide) (by decide)).up (iv_m bp2 (by decide) (by decide))
  have tf3 : 1 ≤ (f3 (v_a0_count).toNatClampNeg).toInt ∧ (f3 (v_a0_count).toNatClampNeg).toInt ≤ 1 := by rw [ef3, pk_us]; exact bp2
  have hP : va_P (dC, dI) vqCl [(a0, .inr (7, [.ref a0_values, .ref a0_versions, .ref a0_sentKeys, .ref a0_sentVersions, .ref a0_sentValues, .int v_a0_count])), (a0_sentKeys, .inl (cI, 400, .inl f2)), (a0_sentVersions, .inl (cI, 400, .inl f3)), (a0_sentValues, .inl (cI, 400, .inl f_a0_sentValues))] H := hP
  refine lv_aload_n hx hb dX7_send_30 rfl (lv_at hl 0 rfl) ?_
  refine va_get (D := (dC, dI)) (ci := 7) (v := .ref a0_sentValues) (C := RX7) (T := TX7) (N := 6) hx hb hts hinX7 hown hK hP 0 rfl rfl 4 (by decide) (hts (.fieldLink RX7 24 "SlipstreamCache$Mirror" "sentValues" "[I") (List.mem_of_getElem? (i := 4) rfl)) (fun _ h9 => h9) rfl dX7_send_31 ?_
  refine lv_aload_n hx hb dX7_send_34 rfl (lv_at hl 0 rfl) ?_
  refine va_get (D := (dC, dI)) (ci := 7) (v := .int v_a0_count) (C := RX7) (T := TX7) (N := 6) hx hb hts hinX7 hown hK hP 0 rfl rfl 5 (by decide) (hts (.fieldLink RX7 27 "SlipstreamCache$Mirror" "count" "I") (List.mem_of_getElem? (i := 1) rfl)) (fun _ h9 => h9) rfl dX7_send_35 ?_
  refine lv_iload_n hx hb dX7_send_38 rfl (lv_at hl 3 rfl) ?_
  refine va_iast hx hb hK hP (hD.to rfl) hS 3 0 rfl rfl (iv_in bv_a0_count (by decide) (by decide)) dX7_send_39 (fun H locs hP _ hS => ?_)
  obtain ⟨f4, ef4⟩ : ∃ y, y = upd f_a0_sentValues (v_a0_count).toNatClampNeg p3 := ⟨_, rfl⟩
  rw [← ef4] at hP
  have hP : va_P (dC, dI) vqCl [(a0, .inr (7, [.ref a0_values, .ref a0_versions, .ref a0_sentKeys, .ref a0_sentVersions, .ref a0_sentValues, .int v_a0_count])), (a0_sentKeys, .inl (cI, 400, .inl f2)), (a0_sentVersions, .inl (cI, 400, .inl f3)), (a0_sentValues, .inl (cI, 400, .inl f4))] H := hP
  refine lv_aload_n hx hb dX7_send_40 rfl (lv_at hl 0 rfl) ?_
  refine lv_dup hx hb dX7_send_41 rfl ?_
  refine va_get (D := (dC, dI)) (ci := 7) (v := .int v_a0_count) (C := RX7) (T := TX7) (N := 6) hx hb hts hinX7 hown hK hP 0 rfl rfl 5 (by decide) (hts (.fieldLink RX7 27 "SlipstreamCache$Mirror" "count" "I") (List.mem_of_getElem? (i := 1) rfl)) (fun _ h9 => h9) rfl dX7_send_42 ?_
  refine lv_iconst (v := 1) hx hb dX7_send_45 (by decide) ?_
  refine lv_iadd hx hb dX7_send_46 ?_
  refine lv_topi (fun z5 ez5 => ?_)
  have qz5 := iv_add (lo := 1) (hi := 1) ez5 bv_a0_count (iv_k 1 (k := 1) (by decide)) (by decide) (by decide) (by decide) (by decide) 
  try rw [show (1 : Int32).toInt = 1 from rfl] at qz5
  obtain rfl : z5 = (1 : Int32) := iv_sg (k := 1) qz5.2 (by decide)
  refine va_put (D := (dC, dI)) (ci := 7) (v := .int 1) (ty := .int) (C := RX7) (T := TX7) (N := 6) hx hb hts hinX7 tyX7 tyX7_ok nmX7 hown hK hP (hD.to rfl) hS 0 rfl rfl 5 (by decide) (hts (.fieldLink RX7 27 "SlipstreamCache$Mirror" "count" "I") (List.mem_of_getElem? (i := 1) rfl)) (fun _ h9 => h9) rfl (by decide +kernel) rfl rfl (Nat.le_of_ble_eq_true rfl) dX7_send_47 (fun H locs hP _ hS => ?_)
  have hP : va_P (dC, dI) vqCl [(a0, .inr (7, [.ref a0_values, .ref a0_versions, .ref a0_sentKeys, .ref a0_sentVersions, .ref a0_sentValues, .int 1])), (a0_sentKeys, .inl (cI, 400, .inl f2)), (a0_sentVersions, .inl (cI, 400, .inl f3)), (a0_sentValues, .inl (cI, 400, .inl f4))] H := hP
  subst hQ
  exact W.vret hx hb hr (fun t ht hW => ⟨⟨((1 : Int32), f2, f3, f4), rfl, ⟨iv_m (iv_k 1 (k := 1) (by decide)) (by decide) (by decide), rg.mono rf2 (by decide) (by decide), rg.mono rf3 (by decide) (by decide), trivial⟩, pAt ht hP⟩, hS.F ht⟩) hS.2.2 dX7_send_50
set_option maxHeartbeats 4000000 in
set_option maxRecDepth 100000 in
theorem kX11_writeStore_1 (l : Launch) (dC : Nat → ClassId) (dI : Nat → Nat → Nat) (cI cZ cC cJ cD : ClassId) (qf : Nat) (a0 a0_keys a0_store a0_mirror a0_sketch a0_memory a0_flash a0_pledges a0_leases a0_answers a0_choice a0_incoming a0_store_values a0_store_versions a0_store_logKeys a0_store_logVersions a0_store_logMinutes a0_mirror_values a0_mirror_versions a0_mirror_sentKeys a0_mirror_sentVersions a0_mirror_sentValues : Nat) (sz : Nat) (f_a0_store_values : Nat → Int32) (f_a0_store_versions : Nat → Int32) (f_a0_store_logKeys : Nat → Int32) (f_a0_store_logVersions : Nat → Int32) (f_a0_store_logMinutes : Nat → Int32) (f_a0_mirror_sentKeys : Nat → Int32) (f_a0_mirror_sentVersions : Nat → Int32) (f_a0_mirror_sentValues : Nat → Int32) (v_a0_now v_a0_down v_a0_store_logged v_a0_mirror_count p1 p2 : Int32) (rf_a0_store_values : rg 0 0 32 f_a0_store_values) (rf_a0_store_versions : rg 0 0 32 f_a0_store_versions) (rf_a0_store_logKeys : rg 0 0 400 f_a0_store_logKeys) (rf_a0_store_logVersions : rg 0 0 400 f_a0_store_logVersions) (rf_a0_store_logMinutes : rg 0 0 400 f_a0_store_logMinutes) (rf_a0_mirror_sentKeys : rg 0 0 400 f_a0_mirror_sentKeys) (rf_a0_mirror_sentVersions : rg 0 0 400 f_a0_mirror_sentVersions) (rf_a0_mirror_sentValues : rg 0 0 400 f_a0_mirror_sentValues) (bv_a0_now : 0 ≤ v_a0_now.toInt ∧ v_a0_now.toInt ≤ 0) (bv_a0_down : 0 ≤ v_a0_down.toInt ∧ v_a0_down.toInt ≤ 0) (bv_a0_store_logged : 0 ≤ v_a0_store_logged.toInt ∧ v_a0_store_logged.toInt ≤ 0) (bv_a0_mirror_count : 0 ≤ v_a0_mirror_count.toInt ∧ v_a0_mirror_count.toInt ≤ 0) (bp1 : 0 ≤ p1.toInt ∧ p1.toInt ≤ 31) : Met l yX11_writeStore wsX11_writeStore ({ frames := 2, cells := 0, slots := 0, locals := 23 } : Room) (mPre qf [.ref a0, .int p1, .int p2] sz (dC, dI) (mT cI cZ cC cJ cD) [(a0, .inr (11, [.ref a0_keys, .ref a0_store, .ref a0_mirror, .ref a0_sketch, .ref a0_memory, .ref a0_flash, .ref a0_pledges, .ref a0_leases, .ref a0_answers, .ref a0_choice, .ref a0_incoming, .int v_a0_now, .int v_a0_down])), (a0_store, .inr (10, [.ref a0_store_values, .ref a0_store_versions, .ref a0_store_logKeys, .ref a0_store_logVersions, .ref a0_store_logMinutes, .int v_a0_store_logged])), (a0_mirror, .inr (7, [.ref a0_mirror_values, .ref a0_mirror_versions, .ref a0_mirror_sentKeys, .ref a0_mirror_sentVersions, .ref a0_mirror_sentValues, .int v_a0_mirror_count])), (a0_store_values, .inl (cI, 32, .inl f_a0_store_values)), (a0_store_versions, .inl (cI, 32, .inl f_a0_store_versions)), (a0_store_logKeys, .inl (cI, 400, .inl f_a0_store_logKeys)), (a0_store_logVersions, .inl (cI, 400, .inl f_a0_store_logVersions)), (a0_store_logMinutes, .inl (cI, 400, .inl f_a0_store_logMinutes)), (a0_mirror_sentKeys, .inl (cI, 400, .inl f_a0_mirror_sentKeys)), (a0_mirror_sentVersions, .inl (cI, 400, .inl f_a0_mirror_sentVersions)), (a0_mirror_sentValues, .inl (cI, 400, .inl f_a0_mirror_sentValues))]) (mQi (fun (r : Int32) (u : (Int32) × (Int32) × (Nat → Int32) × (Nat → Int32) × (Nat → Int32) × (Nat → Int32) × (Nat → Int32) × (Nat → Int32) × (Nat → Int32) × (Nat → Int32)) => (1 ≤ r.toInt ∧ r.toInt ≤ 1) ∧ (1 ≤ (u.1).toInt ∧ (u.1).toInt ≤ 1) ∧ (1 ≤ (u.2.1).toInt ∧ (u.2.1).toInt ≤ 1) ∧ (1 ≤ ((u.2.2.2.1) p1.toNatClampNeg).toInt ∧ ((u.2.2.2.1) p1.toNatClampNeg).toInt ≤ 1) ∧ rg 0 1 32 (u.2.2.2.1) ∧ rg 0 31 400 (u.2.2.2.2.1) ∧ rg 0 1 400 (u.2.2.2.2.2.1) ∧ rg 0 0 400 (u.2.2.2.2.2.2.1) ∧ rg 0 31 400 (u.2.2.2.2.2.2.2.1) ∧ rg 0 1 400 (u.2.2.2.2.2.2.2.2.1) ∧ True) (fun (u : (Int32) × (Int32) × (Nat → Int32) × (Nat → Int32) × (Nat → Int32) × (Nat → Int32) × (Nat → Int32) × (Nat → Int32) × (Nat → Int32) × (Nat → Int32)) => [(a0, .inr (11, [.ref a0_keys, .ref a0_store, .ref a0_mirror, .ref a0_sketch, .ref a0_memory, .ref a0_flash, .ref a0_pledges, .ref a0_leases, .ref a0_answers, .ref a0_choice, .ref a0_incoming, .int v_a0_now, .int v_a0_down])), (a0_store, .inr (10, [.ref a0_store_values, .ref a0_store_versions, .ref a0_store_logKeys, .ref a0_store_logVersions, .ref a0_store_logMinutes, .int (u.1)])), (a0_mirror, .inr (7, [.ref a0_mirror_values, .ref a0_mirror_versions, .ref a0_mirror_sentKeys, .ref a0_mirror_sentVersions, .ref a0_mirror_sentValues, .int (u.2.1)])), (a0_store_values, .inl (cI, 32, .inl (u.2.2.1))), (a0_store_versions, .inl (cI, 32, .inl (u.2.2.2.1))), (a0_store_logKeys, .inl (cI, 400, .inl (u.2.2.2.2.1))), (a0_store_logVersions, .inl (cI, 400, .inl (u.2.2.2.2.2.1))), (a0_store_logMinutes, .inl (cI, 400, .inl (u.2.2.2.2.2.2.1))), (a0_mirror_sentKeys, .inl (cI, 400, .inl (u.2.2.2.2.2.2.2.1))), (a0_mirror_sentVersions, .inl (cI, 400, .inl (u.2.2.2.2.2.2.2.2.1))), (a0_mirror_sentValues, .inl (cI, 400, .inl (u.2.2.2.2.2.2.2.2.2)))]) (dC, dI) (va_A [(a0, .inr (11, [.ref a0_keys, .ref a0_store, .ref a0_mirror, .ref a0_sketch, .ref a0_memory, .ref a0_flash, .ref a0_pledges, .ref a0_leases, .ref a0_answers, .ref a0_choice, .ref a0_incoming, .int v_a0_now, .int v_a0_down])), (a0_store, .inr (10, [.ref a0_store_values, .ref a0_store_versions, .ref a0_store_logKeys, .ref a0_store_logVersions, .ref a0_store_logMinutes, .int v_a0_store_logged])), (a0_mirror, .inr (7, [.ref a0_mirror_values, .ref a0_mirror_versions, .ref a0_mirror_sentKeys, .ref a0_mirror_sentVersions, .ref a0_mirror_sentValues, .int v_a0_mirror_count])), (a0_store_values, .inl (cI, 32, .inl f_a0_store_values)), (a0_store_versions, .inl (cI, 32, .inl f_a0_store_versions)), (a0_store_logKeys, .inl (cI, 400, .inl f_a0_store_logKeys)), (a0_store_logVersions, .inl (cI, 400, .inl f_a0_store_logVersions)), (a0_store_logMinutes, .inl (cI, 400, .inl f_a0_store_logMinutes)), (a0_mirror_sentKeys, .inl (cI, 400, .inl f_a0_mirror_sentKeys)), (a0_mirror_sentVersions, .inl (cI, 400, .inl f_a0_mirror_sentVersions)), (a0_mirror_sentValues, .inl (cI, 400, .inl f_a0_mirror_sentValues))] sz)) 0 0 (va_A [(a0, .inr (11, [.ref a0_keys, .ref a0_store, .ref a0_mirror, .ref a0_sketch, .ref a0_memory, .ref a0_flash, .ref a0_pledges, .ref a0_leases, .ref a0_answers, .ref a0_choice, .ref a0_incoming, .int v_a0_now, .int v_a0_down])), (a0_store, .inr (10, [.ref a0_store_values, .ref a0_store_versions, .ref a0_store_logKeys, .ref a0_store_logVersions, .ref a0_store_logMinutes, .int v_a0_store_logged])), (a0_mirror, .inr (7, [.ref a0_mirror_values, .ref a0_mirror_versions, .ref a0_mirror_sentKeys, .ref a0_mirror_sentVersions, .ref a0_mirror_sentValues, .int v_a0_mirror_count])), (a0_store_values, .inl (cI, 32, .inl f_a0_store_values)), (a0_store_versions, .inl (cI, 32, .inl f_a0_store_versions)), (a0_store_logKeys, .inl (cI, 400, .inl f_a0_store_logKeys)), (a0_store_logVersions, .inl (cI, 400, .inl f_a0_store_logVersions)), (a0_store_logMinutes, .inl (cI, 400, .inl f_a0_store_logMinutes)), (a0_mirror_sentKeys, .inl (cI, 400, .inl f_a0_mirror_sentKeys)), (a0_mirror_sentVersions, .inl (cI, 400, .inl f_a0_mirror_sentVersions)), (a0_mirror_sentValues, .inl (cI, 400, .inl f_a0_mirror_sentValues))] sz) := by
  refine mMet (Qc := fun A => mQi (fun (r : Int32) (u : (Int32) × (Int32) × (Nat → Int32) × (Nat → Int32) × (Nat → Int32) × (Nat → Int32) × (Nat → Int32) × (Nat → Int32) × (Nat → Int32) × (Nat → Int32)) => (1 ≤ r.toInt ∧ r.toInt ≤ 1) ∧ (1 ≤ (u.1).toInt ∧ (u.1).toInt ≤ 1) ∧ (1 ≤ (u.2.1).toInt ∧ (u.2.1).toInt ≤ 1) ∧ (1 ≤ ((u.2.2.2.1) p1.toNatClampNeg).toInt ∧ ((u.2.2.2.1) p1.toNatClampNeg).toInt ≤ 1) ∧ rg 0 1 32 (u.2.2.2.1) ∧ rg 0 31 400 (u.2.2.2.2.1) ∧ rg 0 1 400 (u.2.2.2.2.2.1) ∧ rg 0 0 400 (u.2.2.2.2.2.2.1) ∧ rg 0 31 400 (u.2.2.2.2.2.2.2.1) ∧ rg 0 1 400 (u.2.2.2.2.2.2.2.2.1) ∧ True) (fun (u : (Int32) × (Int32) × (Nat → Int32) × (Nat → Int32) × (Nat → Int32) × (Nat → Int32) × (Nat → Int32) × (Nat → Int32) × (Nat → Int32) × (Nat → Int32)) => [(a0, .inr (11, [.ref a0_keys, .ref a0_store, .ref a0_mirror, .ref a0_sketch, .ref a0_memory, .ref a0_flash, .ref a0_pledges, .ref a0_leases, .ref a0_answers, .ref a0_choice, .ref a0_incoming, .int v_a0_now, .int v_a0_down])), (a0_store, .inr (10, [.ref a0_store_values, .ref a0_store_versions, .ref a0_store_logKeys, .ref a0_store_logVersions, .ref a0_store_logMinutes, .int (u.1)])), (a0_mirror, .inr (7, [.ref a0_mirror_values, .ref a0_mirror_versions, .ref a0_mirror_sentKeys, .ref a0_mirror_sentVersions, .ref a0_mirror_sentValues, .int (u.2.1)])), (a0_store_values, .inl (cI, 32, .inl (u.2.2.1))), (a0_store_versions, .inl (cI, 32, .inl (u.2.2.2.1))), (a0_store_logKeys, .inl (cI, 400, .inl (u.2.2.2.2.1))), (a0_store_logVersions, .inl (cI, 400, .inl (u.2.2.2.2.2.1))), (a0_store_logMinutes, .inl (cI, 400, .inl (u.2.2.2.2.2.2.1))), (a0_mirror_sentKeys, .inl (cI, 400, .inl (u.2.2.2.2.2.2.2.1))), (a0_mirror_sentVersions, .inl (cI, 400, .inl (u.2.2.2.2.2.2.2.2.1))), (a0_mirror_sentValues, .inl (cI, 400, .inl (u.2.2.2.2.2.2.2.2.2)))]) (dC, dI) A) (y := yX11_writeStore) (ws := wsX11_writeStore) (av := [.ref a0, .int p1, .int p2]) (wc := [(a0, .inr (11, [.ref a0_keys, .ref a0_store, .ref a0_mirror, .ref a0_sketch, .ref a0_memory, .ref a0_flash, .ref a0_pledges, .ref a0_leases, .ref a0_answers, .ref a0_choice, .ref a0_incoming, .int v_a0_now, .int v_a0_down])), (a0_store, .inr (10, [.ref a0_store_values, .ref a0_store_versions, .ref a0_store_logKeys, .ref a0_store_logVersions, .ref a0_store_logMinutes, .int v_a0_store_logged])), (a0_mirror, .inr (7, [.ref a0_mirror_values, .ref a0_mirror_versions, .ref a0_mirror_sentKeys, .ref a0_mirror_sentVersions, .ref a0_mirror_sentValues, .int v_a0_mirror_count])), (a0_store_values, .inl (cI, 32, .inl f_a0_store_values)), (a0_store_versions, .inl (cI, 32, .inl f_a0_store_versions)), (a0_store_logKeys, .inl (cI, 400, .inl f_a0_store_logKeys)), (a0_store_logVersions, .inl (cI, 400, .inl f_a0_store_logVersions)), (a0_store_logMinutes, .inl (cI, 400, .inl f_a0_store_logMinutes)), (a0_mirror_sentKeys, .inl (cI, 400, .inl f_a0_mirror_sentKeys)), (a0_mirror_sentVersions, .inl (cI, 400, .inl f_a0_mirror_sentVersions)), (a0_mirror_sentValues, .inl (cI, 400, .inl f_a0_mirror_sentValues))]) (cc := cX11_writeStore) (maxL := 4) (ret := (some .int)) (own := RX11) (by decide) rfl rfl (Nat.le_of_ble_eq_true rfl) ?_
  intro p e s m args below meth c hx hb hr hts hown hml hlk A hsz hP hK hD hS hA hE ls hl Q hQ
  have hl : lv_has ls 4 [(0, .ref a0), (1, .int p1), (2, .int p2)] := hl
  have hinX11 : ∀ w ∈ u_ws RX11 TX11 13, w ∈ wsX11_writeStore := fun w h => List.mem_cons_of_mem _ (List.mem_append_left _ (List.mem_append_left _ (List.mem_append_left _ (List.mem_append_right _ h))))
  refine lv_aload_n hx hb dX11_writeStore_0 rfl (lv_at hl 0 rfl) ?_
  refine va_get (D := (dC, dI)) (ci := 11) (v := .ref a0_store) (C := RX11) (T := TX11) (N := 13) hx hb hts hinX11 hown hK hP 0 rfl rfl 1 (by decide) (hts (.fieldLink RX11 19 "SlipstreamCache" "store" "LSlipstreamCache$Store;") (List.mem_of_getElem? (i := 1) rfl)) (fun _ h9 => h9) rfl dX11_writeStore_1 ?_
  refine lv_iload_n hx hb dX11_writeStore_4 rfl (lv_at hl 1 rfl) ?_
  refine lv_iload_n hx hb dX11_writeStore_5 rfl (lv_at hl 2 rfl) ?_
  refine lv_aload_n hx hb dX11_writeStore_6 rfl (lv_at hl 0 rfl) ?_
  refine va_get (D := (dC, dI)) (ci := 11) (v := .int v_a0_now) (C := RX11) (T := TX11) (N := 13) hx hb hts hinX11 hown hK hP 0 rfl rfl 11 (by decide) (hts (.fieldLink RX11 88 "SlipstreamCache" "now" "I") (List.mem_of_getElem? (i := 2) rfl)) (fun _ h9 => h9) rfl dX11_writeStore_7 ?_
  refine mVi (As := [.int p1, .int p2, .int v_a0_now]) (rest := []) (wc := [(a0_store, .inr (10, [.ref a0_store_values, .ref a0_store_versions, .ref a0_store_logKeys, .ref a0_store_logVersions, .ref a0_store_logMinutes, .int v_a0_store_logged])), (a0_store_values, .inl (cI, 32, .inl f_a0_store_values)), (a0_store_versions, .inl (cI, 32, .inl f_a0_store_versions)), (a0_store_logKeys, .inl (cI, 400, .inl f_a0_store_logKeys)), (a0_store_logVersions, .inl (cI, 400, .inl f_a0_store_logVersions)), (a0_store_logMinutes, .inl (cI, 400, .inl f_a0_store_logMinutes))]) ⟨hx, hb, hml, hown, hts⟩ (kX10_put_1 l dC dI cI cZ cC cJ cD qf a0_store a0_store_values a0_store_versions a0_store_logKeys a0_store_logVersions a0_store_logMinutes _ f_a0_store_values f_a0_store_versions f_a0_store_logKeys f_a0_store_logVersions f_a0_store_logMinutes v_a0_store_logged p1 p2 v_a0_now (rg.mono rf_a0_store_values (by decide) (by decide)) (rg.mono rf_a0_store_versions (by decide) (by decide)) (rg.mono rf_a0_store_logKeys (by decide) (by decide)) (rg.mono rf_a0_store_logVersions (by decide) (by decide)) (rg.mono rf_a0_store_logMinutes (by decide) (by decide)) (iv_m bv_a0_store_logged (by decide) (by decide)) (iv_m bp1 (by decide) (by decide)) (iv_m bv_a0_now (by decide) (by decide))) (cwV 3 hts gX11_writeStore_X10_put rfl rfl rfl (by decide +kernel) ⟨(Nat.le_of_ble_eq_true rfl), (Nat.le_of_ble_eq_true rfl)⟩) hE hK hP hD rfl hS hA [1, 3, 4, 5, 6, 7] rfl rfl (qr := 1) (cr := 10) rfl rfl rfl rfl hl rfl (Nat.le_of_ble_eq_true rfl) dX11_writeStore_10 ⟨(Nat.le_of_ble_eq_true rfl), (Nat.le_of_ble_eq_true rfl)⟩ (fun _ => rfl) (fun z1 uu2 H locs hw hP hS => ?_)
  obtain ⟨g3, g4, g5, g6, g7, g8⟩ := uu2
  have bz1 : 1 ≤ z1.toInt ∧ z1.toInt ≤ 1 := hw.1
  have bg3 : 1 ≤ g3.toInt ∧ g3.toInt ≤ 1 := hw.2.1
  have t9 : 1 ≤ (g5 (p1).toNatClampNeg).toInt ∧ (g5 (p1).toNatClampNeg).toInt ≤ 1 := hw.2.2.1
  have rg5 : rg 0 1 32 g5 := hw.2.2.2.1
  have rg6 : rg 0 31 400 g6 := hw.2.2.2.2.1
  have rg7 : rg 0 1 400 g7 := hw.2.2.2.2.2.1
  have rg8 : rg 0 0 400 g8 := hw.2.2.2.2.2.2.1
  have hP : va_P (dC, dI) vqCl [(a0, .inr (11, [.ref a0_keys, .ref a0_store, .ref a0_mirror, .ref a0_sketch, .ref a0_memory, .ref a0_flash, .ref a0_pledges, .ref a0_leases, .ref a0_answers, .ref a0_choice, .ref a0_incoming, .int v_a0_now, .int v_a0_down])), (a0_store, .inr (10, [.ref a0_store_values, .ref a0_store_versions, .ref a0_store_logKeys, .ref a0_store_logVersions, .ref a0_store_logMinutes, .int g3])), (a0_mirror, .inr (7, [.ref a0_mirror_values, .ref a0_mirror_versions, .ref a0_mirror_sentKeys, .ref a0_mirror_sentVersions, .ref a0_mirror_sentValues, .int v_a0_mirror_count])), (a0_store_values, .inl (cI, 32, .inl g4)), (a0_store_versions, .inl (cI, 32, .inl g5)), (a0_store_logKeys, .inl (cI, 400, .inl g6)), (a0_store_logVersions, .inl (cI, 400, .inl g7)), (a0_store_logMinutes, .inl (cI, 400, .inl g8)), (a0_mirror_sentKeys, .inl (cI, 400, .inl f_a0_mirror_sentKeys)), (a0_mirror_sentVersions, .inl (cI, 400, .inl f_a0_mirror_sentVersions)), (a0_mirror_sentValues, .inl (cI, 400, .inl f_a0_mirror_sentValues))] H := hP
  refine lv_istore_n (lv' := [(3, .int z1), (0, .ref a0), (1, .int p1), (2, .int p2)]) hx hb dX11_writeStore_13 rfl hl (by decide) rfl (fun ls hl => ?_)
  refine lv_aload_n hx hb dX11_writeStore_14 rfl (lv_at hl 1 rfl) ?_
  refine va_get (D := (dC, dI)) (ci := 11) (v := .ref a0_mirror) (C := RX11) (T := TX11) (N := 13) hx hb hts hinX11 hown hK hP 0 rfl rfl 2 (by decide) (hts (.fieldLink RX11 26 "SlipstreamCache" "mirror" "LSlipstreamCache$Mirror;") (List.mem_of_getElem? (i := 3) rfl)) (fun _ h9 => h9) rfl dX11_writeStore_15 ?_
  refine lv_iload_n hx hb dX11_writeStore_18 rfl (lv_at hl 2 rfl) ?_
  refine lv_iload_n hx hb dX11_writeStore_19 rfl (lv_at hl 0 rfl) ?_
  refine lv_iload_n hx hb dX11_writeStore_20 rfl (lv_at hl 3 rfl) ?_
  refine mVv (As := [.int p1, .int z1, .int p2]) (rest := []) (wc := [(a0_mirror, .inr (7, [.ref a0_mirror_values, .ref a0_mirror_versions, .ref a0_mirror_sentKeys, .ref a0_mirror_sentVersions, .ref a0_mirror_sentValues, .int v_a0_mirror_count])), (a0_mirror_sentKeys, .inl (cI, 400, .inl f_a0_mirror_sentKeys)), (a0_mirror_sentVersions, .inl (cI, 400, .inl f_a0_mirror_sentVersions)), (a0_mirror_sentValues, .inl (cI, 400, .inl f_a0_mirror_sentValues))]) ⟨hx, hb, hml, hown, hts⟩ (kX7_send_1 l dC dI cI cZ cC cJ cD qf a0_mirror a0_mirror_values a0_mirror_versions a0_mirror_sentKeys a0_mirror_sentVersions a0_mirror_sentValues _ f_a0_mirror_sentKeys f_a0_mirror_sentVersions f_a0_mirror_sentValues v_a0_mirror_count p1 z1 p2 (rg.mono rf_a0_mirror_sentKeys (by decide) (by decide)) (rg.mono rf_a0_mirror_sentVersions (by decide) (by decide)) (rg.mono rf_a0_mirror_sentValues (by decide) (by decide)) (iv_m bv_a0_mirror_count (by decide) (by decide)) (iv_m bp1 (by decide) (by decide)) (iv_m bz1 (by decide) (by decide))) (cwV 3 hts gX11_writeStore_X7_send rfl rfl rfl (by decide +kernel) ⟨(Nat.le_of_ble_eq_true rfl), (Nat.le_of_ble_eq_true rfl)⟩) hE hK hP hD rfl hS hA [2, 8, 9, 10] rfl rfl (qr := 2) (cr := 7) rfl rfl rfl rfl hl rfl (Nat.le_of_ble_eq_true rfl) dX11_writeStore_21 ⟨(Nat.le_of_ble_eq_true rfl), (Nat.le_of_ble_eq_true rfl)⟩ (fun _ => rfl) (fun uu11 H locs hw hP hS => ?_)
  obtain ⟨g12, g13, g14, g15⟩ := uu11
  have bg12 : 1 ≤ g12.toInt ∧ g12.toInt ≤ 1 := hw.1
  have rg13 : rg 0 31 400 g13 := hw.2.1
  have rg14 : rg 0 1 400 g14 := hw.2.2.1
  have hP : va_P (dC, dI) vqCl [(a0, .inr (11, [.ref a0_keys, .ref a0_store, .ref a0_mirror, .ref a0_sketch, .ref a0_memory, .ref a0_flash, .ref a0_pledges, .ref a0_leases, .ref a0_answers, .ref a0_choice, .ref a0_incoming, .int v_a0_now, .int v_a0_down])), (a0_store, .inr (10, [.ref a0_store_values, .ref a0_store_versions, .ref a0_store_logKeys, .ref a0_store_logVersions, .ref a0_store_logMinutes, .int g3])), (a0_mirror, .inr (7, [.ref a0_mirror_values, .ref a0_mirror_versions, .ref a0_mirror_sentKeys, .ref a0_mirror_sentVersions, .ref a0_mirror_sentValues, .int g12])), (a0_store_values, .inl (cI, 32, .inl g4)), (a0_store_versions, .inl (cI, 32, .inl g5)), (a0_store_logKeys, .inl (cI, 400, .inl g6)), (a0_store_logVersions, .inl (cI, 400, .inl g7)), (a0_store_logMinutes, .inl (cI, 400, .inl g8)), (a0_mirror_sentKeys, .inl (cI, 400, .inl g13)), (a0_mirror_sentVersions, .inl (cI, 400, .inl g14)), (a0_mirror_sentValues, .inl (cI, 400, .inl g15))] H := hP
  refine lv_iload_n hx hb dX11_writeStore_24 rfl (lv_at hl 0 rfl) ?_
  subst hQ
  exact W.iret (v := z1) hx hb hr (fun t ht hW => ⟨⟨z1, (g3, g12, g4, g5, g6, g7, g8, g13, g14, g15), rfl, ⟨iv_m bz1 (by decide) (by decide), iv_m bg3 (by decide) (by decide), iv_m bg12 (by decide) (by decide), iv_m t9 (by decide) (by decide), rg.mono rg5 (by decide) (by decide), rg.mono rg6 (by decide) (by decide), rg.mono rg7 (by decide) (by decide), rg.mono rg8 (by decide) (by decide), rg.mono rg13 (by decide) (by decide), rg.mono rg14 (by decide) (by decide), trivial⟩, pAt ht hP⟩, hS.F ht⟩) hS.2.2 dX11_writeStore_25
set_option maxHeartbeats 4000000 in
set_option maxRecDepth 100000 in
theorem kX3_loseIndex_1 (l : Launch) (dC : Nat → ClassId) (dI : Nat → Nat → Nat) (cI cZ cC cJ cD : ClassId) (qf : Nat) (a0 a0_copies a0_signs a0_index a0_wears : Nat) (sz : Nat) (f_a0_index : Nat → Int32) (v_a0_next : Int32) (rf_a0_index : rg (-1) (-1) 32 f_a0_index) (bv_a0_next : 0 ≤ v_a0_next.toInt ∧ v_a0_next.toInt ≤ 0) : Met l yX3_loseIndex wsX3_loseIndex ({ frames := 1, cells := 0, slots := 0, locals := 0 } : Room) (mPre qf [.ref a0] sz (dC, dI) (mT cI cZ cC cJ cD) [(a0, .inr (3, [.ref a0_copies, .ref a0_signs, .ref a0_index, .ref a0_wears, .int v_a0_next])), (a0_index, .inl (cI, 32, .inl f_a0_index))]) (mQv (fun (u : (Nat → Int32)) => rg (-1) (-1) 32 (u) ∧ True) (fun (u : (Nat → Int32)) => [(a0, .inr (3, [.ref a0_copies, .ref a0_signs, .ref a0_index, .ref a0_wears, .int v_a0_next])), (a0_index, .inl (cI, 32, .inl (u)))]) (dC, dI) (va_A [(a0, .inr (3, [.ref a0_copies, .ref a0_signs, .ref a0_index, .ref a0_wears, .int v_a0_next])), (a0_index, .inl (cI, 32, .inl f_a0_index))] sz)) 0 0 (va_A [(a0, .inr (3, [.ref a0_copies, .ref a0_signs, .ref a0_index, .ref a0_wears, .int v_a0_next])), (a0_index, .inl (cI, 32, .inl f_a0_index))] sz) := by
  refine mMet (Qc := fun A => mQv (fun (u : (Nat → Int32)) => rg (-1) (-1) 32 (u) ∧ True) (fun (u : (Nat → Int32)) => [(a0, .inr (3, [.ref a0_copies, .ref a0_signs, .ref a0_index, .ref a0_wears, .int v_a0_next])), (a0_index, .inl (cI, 32, .inl (u)))]) (dC, dI) A) (y := yX3_loseIndex) (ws := wsX3_loseIndex) (av := [.ref a0]) (wc := [(a0, .inr (3, [.ref a0_copies, .ref a0_signs, .ref a0_index, .ref a0_wears, .int v_a0_next])), (a0_index, .inl (cI, 32, .inl f_a0_index))]) (cc := cX3_loseIndex) (maxL := 2) (ret := none) (own := RX3) (by decide) rfl rfl (Nat.le_of_ble_eq_true rfl) ?_
  intro p e s m args below meth c hx hb hr hts hown hml hlk A hsz hP hK hD hS hA hE ls hl Q hQ
  have hl : lv_has ls 2 [(0, .ref a0)] := hl
  have hinX3 : ∀ w ∈ u_ws RX3 TX3 5, w ∈ wsX3_loseIndex := fun w h => List.mem_cons_of_mem _ (List.mem_append_left _ (List.mem_append_right _ h))
  refine lv_iconst (v := 0) hx hb dX3_loseIndex_0 (by decide) ?_
  refine lv_istore_n (lv' := [(1, .int 0), (0, .ref a0)]) hx hb dX3_loseIndex_1 rfl hl (by decide) rfl (fun ls hl => ?_)
  have L2_0 : ∀ (n : Nat) (k2_1 : Int32) (f2_a0_index : Nat → Int32), (0 ≤ k2_1.toInt ∧ k2_1.toInt ≤ 32) → (rg (-1) (-1) 32 f2_a0_index) → (∀ j : Nat, (j : Int) < k2_1.toInt → (f2_a0_index j).toInt = (-1)) → (32 + 1 - k2_1.toInt).toNat < n → ∀ (H : Heap) (locs : List Loc), va_P (dC, dI) vqCl [(a0, .inr (3, [.ref a0_copies, .ref a0_signs, .ref a0_index, .ref a0_wears, .int v_a0_next])), (a0_index, .inl (cI, 32, .inl f2_a0_index))] H → va_S A s.heap H locs → ∀ ls : Array Slot, lv_has ls 2 [(1, .int k2_1), (0, .ref a0)] → W p l e ({ frames := 1, cells := 0, slots := 0, locals := 0 } : Room) s m args below meth c H locs 0 0 Q (F0 m 2 ls []) := by
    intro n
    induction n with
    | zero =>
      intro k2_1 f2_a0_index bk2_1 rf2_a0_index pf2_a0_index hm
      exact absurd hm (Nat.not_lt_zero _)
    | succ n ih =>
      intro k2_1 f2_a0_index bk2_1 rf2_a0_index pf2_a0_index hm H locs hP hS ls hl
      refine lv_iload_n hx hb dX3_loseIndex_2 rfl (lv_at hl 0 rfl) ?_
      refine lv_bipush (v := 32) hx hb dX3_loseIndex_3 (by decide) ?_
      refine lv_icmp_ge (tgt := 21) hx hb dX3_loseIndex_5 (by decide) (fun c2 => ?_) (fun c2 => ?_)
      · have c2 := c_le c2
        have bk2_1_c2 : 32 ≤ k2_1.toInt ∧ k2_1.toInt ≤ 32 := l_le bk2_1 (iv_k 32 (k := 32) (by decide)) c2 (by decide) (by decide)
        have rf2_a0_index_c2 : rg (-1) (-1) 32 f2_a0_index := fun j hj => by have h9 := pf2_a0_index j (by omega); omega
        subst hQ
        exact W.vret hx hb hr (fun t ht hW => ⟨⟨(f2_a0_index), rfl, ⟨rg.mono rf2_a0_index_c2 (by decide) (by decide), trivial⟩, pAt ht hP⟩, hS.F ht⟩) hS.2.2 dX3_loseIndex_21
      · have c2 := c_nle c2
        have bk2_1_c2 : 0 ≤ k2_1.toInt ∧ k2_1.toInt ≤ 31 := u_lt bk2_1 (iv_k 32 (k := 32) (by decide)) c2 (by decide) (by decide)
        refine lv_aload_n hx hb dX3_loseIndex_8 rfl (lv_at hl 1 rfl) ?_
        refine va_get (D := (dC, dI)) (ci := 3) (v := .ref a0_index) (C := RX3) (T := TX3) (N := 5) hx hb hts hinX3 hown hK hP 0 rfl rfl 2 (by decide) (hts (.fieldLink RX3 24 "SlipstreamCache$Flash" "index" "[I") (List.mem_of_getElem? (i := 1) rfl)) (fun _ h9 => h9) rfl dX3_loseIndex_9 ?_
        refine lv_iload_n hx hb dX3_loseIndex_12 rfl (lv_at hl 0 rfl) ?_
        refine lv_iconst (v := (-1)) hx hb dX3_loseIndex_13 (by decide) ?_
        refine va_iast hx hb hK hP (hD.to rfl) hS 1 0 rfl rfl (iv_in bk2_1_c2 (by decide) (by decide)) dX3_loseIndex_14 (fun H locs hP _ hS => ?_)
        obtain ⟨f3, ef3⟩ : ∃ y, y = upd f2_a0_index (k2_1).toNatClampNeg ((-1) : Int32) := ⟨_, rfl⟩
        rw [← ef3] at hP
        have rf3 : rg (-1) (-1) 32 f3 := by rw [ef3]; exact (rg.mono rf2_a0_index (by decide) (by decide)).up (iv_m (iv_k (-1) (k := (-1)) (by decide)) (by decide) (by decide))
        have pf3 : ∀ j : Nat, (j : Int) < k2_1.toInt + 1 → (f3 j).toInt = (-1) := by rw [ef3]; exact pf_up pf2_a0_index bk2_1_c2 (by decide) (iv_k (-1) (k := (-1)) (by decide))
        have hP : va_P (dC, dI) vqCl [(a0, .inr (3, [.ref a0_copies, .ref a0_signs, .ref a0_index, .ref a0_wears, .int v_a0_next])), (a0_index, .inl (cI, 32, .inl f3))] H := hP
        obtain ⟨z4, ez4⟩ : ∃ y : Int32, y = k2_1 + 1 := ⟨_, rfl⟩
        refine lv_iinc (v := z4) (lv' := [(1, .int z4), (0, .ref a0)]) hx hb dX3_loseIndex_15 hl (k := 0) rfl (by rw [ez4]; rfl) (by decide) rfl (fun ls hl => ?_)
        have qz4 := iv_add (lo := 1) (hi := 32) ez4 bk2_1_c2 (iv_k 1 (k := 1) (by decide)) (by decide) (by decide) (by decide) (by decide)
        try rw [show (1 : Int32).toInt = 1 from rfl] at qz4
        refine lv_goto (tgt := 2) hx hb dX3_loseIndex_18 (by decide) ?_
        exact ih z4 f3 (iv_m qz4.2 (by decide) (by decide)) (rg.mono rf3 (by decide) (by decide)) (fun j hj => pf3 j (by omega)) (by omega) _ _ hP hS ls (lv_sub hl [0, 1] rfl)
  exact L2_0 _ (0 : Int32) f_a0_index (iv_m (iv_k 0 (k := 0) (by decide)) (by decide) (by decide)) (rg.mono rf_a0_index (by decide) (by decide)) pf_0 (Nat.lt_succ_self _) _ _ hP hS ls (lv_sub hl [0, 1] rfl)
set_option maxHeartbeats 4000000 in
set_option maxRecDepth 100000 in
theorem kX4_init_1 (l : Launch) (dC : Nat → ClassId) (dI : Nat → Nat → Nat) (cI cZ cC cJ cD : ClassId) (qf : Nat) (a0 : Nat) (sz : Nat) : Met l yX4_init wsX4_init ({ frames := 1, cells := 4, slots := 100, locals := 12 } : Room) (mPre qf [.ref a0] sz (dC, dI) (mT cI cZ cC cJ cD) [(a0, .inr (4, [.null, .null, .null, .null]))]) (mQc (fun (u : (Nat) × (Nat) × (Nat) × (Nat) × (Nat → Int32) × (Nat → Int32) × (Nat → Int32) × (Nat → Int32)) => rg 1 1 32 (u.2.2.2.2.1) ∧ rg 1 1 32 (u.2.2.2.2.2.1) ∧ rg 0 0 32 (u.2.2.2.2.2.2.1) ∧ rg 0 0 4 (u.2.2.2.2.2.2.2) ∧ True) (fun (u : (Nat) × (Nat) × (Nat) × (Nat) × (Nat → Int32) × (Nat → Int32) × (Nat → Int32) × (Nat → Int32)) => [(a0, .inr (4, [.ref (u.1), .ref (u.2.1), .ref (u.2.2.1), .ref (u.2.2.2.1)])), ((u.1), .inl (cI, 32, .inl (u.2.2.2.2.1))), ((u.2.1), .inl (cI, 32, .inl (u.2.2.2.2.2.1))), ((u.2.2.1), .inl (cI, 32, .inl (u.2.2.2.2.2.2.1))), ((u.2.2.2.1), .inl (cI, 4, .inl (u.2.2.2.2.2.2.2)))]) (fun (u : (Nat) × (Nat) × (Nat) × (Nat) × (Nat → Int32) × (Nat → Int32) × (Nat → Int32) × (Nat → Int32)) => [a0, (u.1), (u.2.1), (u.2.2.1), (u.2.2.2.1)]) (dC, dI) (va_A [(a0, .inr (4, [.null, .null, .null, .null]))] sz)) 4 100 (va_A [(a0, .inr (4, [.null, .null, .null, .null]))] sz) := by
  refine mMetC (Qc := fun A => mQc (fun (u : (Nat) × (Nat) × (Nat) × (Nat) × (Nat → Int32) × (Nat → Int32) × (Nat → Int32) × (Nat → Int32)) => rg 1 1 32 (u.2.2.2.2.1) ∧ rg 1 1 32 (u.2.2.2.2.2.1) ∧ rg 0 0 32 (u.2.2.2.2.2.2.1) ∧ rg 0 0 4 (u.2.2.2.2.2.2.2) ∧ True) (fun (u : (Nat) × (Nat) × (Nat) × (Nat) × (Nat → Int32) × (Nat → Int32) × (Nat → Int32) × (Nat → Int32)) => [(a0, .inr (4, [.ref (u.1), .ref (u.2.1), .ref (u.2.2.1), .ref (u.2.2.2.1)])), ((u.1), .inl (cI, 32, .inl (u.2.2.2.2.1))), ((u.2.1), .inl (cI, 32, .inl (u.2.2.2.2.2.1))), ((u.2.2.1), .inl (cI, 32, .inl (u.2.2.2.2.2.2.1))), ((u.2.2.2.1), .inl (cI, 4, .inl (u.2.2.2.2.2.2.2)))]) (fun (u : (Nat) × (Nat) × (Nat) × (Nat) × (Nat → Int32) × (Nat → Int32) × (Nat → Int32) × (Nat → Int32)) => [a0, (u.1), (u.2.1), (u.2.2.1), (u.2.2.2.1)]) (dC, dI) A) (y := yX4_init) (ws := wsX4_init) (av := [.ref a0]) (wc := [(a0, .inr (4, [.null, .null, .null, .null]))]) (cc := cX4_init) (maxL := 2) (ret := none) (own := RX4) (by decide) rfl rfl (Nat.le_of_ble_eq_true rfl) ?_
  intro p e s m args below meth c hx hb hr hts hown hml hlk hini A hsz hP hK hD hS hA hE ls hl Q hQ
  have hl : lv_has ls 2 [(0, .ref a0)] := hl
  have hinX4 : ∀ w ∈ u_ws RX4 TX4 4, w ∈ wsX4_init := fun w h => List.mem_cons_of_mem _ (List.mem_append_left _ (List.mem_append_right _ h))
  refine lv_aload_n hx hb dX4_init_0 rfl (lv_at hl 0 rfl) ?_
  refine W.objInit hx hb hown (hts (.methodLink RX4 3 objectInit) (List.mem_of_getElem? (i := 1) rfl)) (hts (.instanceMethod objectInit) (List.mem_of_getElem? (i := 2) rfl)) (hts (.code objectInit ⟨#[0xb1]⟩ 1 none) (List.mem_of_getElem? (i := 3) rfl)) rfl (by rw [hml]; exact hl.1) rfl dX4_init_1 (Nat.le_of_ble_eq_true rfl) (Nat.le_of_ble_eq_true rfl) ?_
  refine W.eq (g2 := F0 m 4 ls []) rfl ?_
  refine lv_aload_n hx hb dX4_init_4 rfl (lv_at hl 0 rfl) ?_
  refine lv_bipush (v := 32) hx hb dX4_init_5 (by decide) ?_
  refine mNewA (ty := .int) (N' := 32) (a0 := (32, .inl (fun _ => (0 : Int32)))) 0 rfl (fun _ h => nomatch h) hx hb (hts (.arrayClass .int) (List.mem_of_getElem? (i := 4) rfl)) rfl hK hP hD rfl hS hA (fun _ => rfl) (iv_nn (iv_k 32 (k := 32) (by decide)) (by decide)) (iv_cl (iv_k 32 (k := 32) (by decide))) (by decide) (Nat.le_of_ble_eq_true rfl) (Nat.le_of_ble_eq_true rfl) dX4_init_7 (fun n1 H hP hD hS => ?_)
  have hP : va_P (dC, dI) vqCl [(a0, .inr (4, [.null, .null, .null, .null])), (n1, .inl (cI, 32, .inl (fun _ => (0 : Int32))))] H := hP
  have hD : mD A [a0, n1] := hD
  refine va_putF (D := (dC, dI)) (ci := 4) (v := .ref n1) (ty := (.array .int)) (C := RX4) (T := TX4) (N := 4) hx hb hts hinX4 tyX4 tyX4_ok nmX4 hown hK hP (hD.to rfl) hS 0 rfl rfl 0 (by decide) (hts (.fieldLink RX4 9 "SlipstreamCache$Keys" "sizes" "[I") (List.mem_of_getElem? (i := 5) rfl)) (fun _ h9 => h9) rfl hini rfl (by decide +kernel) rfl rfl (Nat.le_of_ble_eq_true rfl) dX4_init_9 (fun H locs hP _ hS => ?_)
  have hP : va_P (dC, dI) vqCl [(a0, .inr (4, [.ref n1, .null, .null, .null])), (n1, .inl (cI, 32, .inl (fun _ => (0 : Int32))))] H := hP
  refine lv_aload_n hx hb dX4_init_12 rfl (lv_at hl 0 rfl) ?_
  refine lv_bipush (v := 32) hx hb dX4_init_13 (by decide) ?_
  refine mNewA (ty := .int) (N' := 32) (a0 := (32, .inl (fun _ => (0 : Int32)))) 0 rfl (fun _ h => nomatch h) hx hb (hts (.arrayClass .int) (List.mem_of_getElem? (i := 4) rfl)) rfl hK hP hD rfl hS hA (fun _ => rfl) (iv_nn (iv_k 32 (k := 32) (by decide)) (by decide)) (iv_cl (iv_k 32 (k := 32) (by decide))) (by decide) (Nat.le_of_ble_eq_true rfl) (Nat.le_of_ble_eq_true rfl) dX4_init_15 (fun n2 H hP hD hS => ?_)
  have hP : va_P (dC, dI) vqCl [(a0, .inr (4, [.ref n1, .null, .null, .null])), (n1, .inl (cI, 32, .inl (fun _ => (0 : Int32)))), (n2, .inl (cI, 32, .inl (fun _ => (0 : Int32))))] H := hP
  have hD : mD A [a0, n1, n2] := hD
  refine va_putF (D := (dC, dI)) (ci := 4) (v := .ref n2) (ty := (.array .int)) (C := RX4) (T := TX4) (N := 4) hx hb hts hinX4 tyX4 tyX4_ok nmX4 hown hK hP (hD.to rfl) hS 0 rfl rfl 1 (by decide) (hts (.fieldLink RX4 15 "SlipstreamCache$Keys" "costs" "[I") (List.mem_of_getElem? (i := 6) rfl)) (fun _ h9 => h9) rfl hini rfl (by decide +kernel) rfl rfl (Nat.le_of_ble_eq_true rfl) dX4_init_17 (fun H locs hP _ hS => ?_)
  have hP : va_P (dC, dI) vqCl [(a0, .inr (4, [.ref n1, .ref n2, .null, .null])), (n1, .inl (cI, 32, .inl (fun _ => (0 : Int32)))), (n2, .inl (cI, 32, .inl (fun _ => (0 : Int32))))] H := hP
  refine lv_aload_n hx hb dX4_init_20 rfl (lv_at hl 0 rfl) ?_
  refine lv_bipush (v := 32) hx hb dX4_init_21 (by decide) ?_
  refine mNewA (ty := .int) (N' := 32) (a0 := (32, .inl (fun _ => (0 : Int32)))) 0 rfl (fun _ h => nomatch h) hx hb (hts (.arrayClass .int) (List.mem_of_getElem? (i := 4) rfl)) rfl hK hP hD rfl hS hA (fun _ => rfl) (iv_nn (iv_k 32 (k := 32) (by decide)) (by decide)) (iv_cl (iv_k 32 (k := 32) (by decide))) (by decide) (Nat.le_of_ble_eq_true rfl) (Nat.le_of_ble_eq_true rfl) dX4_init_23 (fun n3 H hP hD hS => ?_)
  have hP : va_P (dC, dI) vqCl [(a0, .inr (4, [.ref n1, .ref n2, .null, .null])), (n1, .inl (cI, 32, .inl (fun _ => (0 : Int32)))), (n2, .inl (cI, 32, .inl (fun _ => (0 : Int32)))), (n3, .inl (cI, 32, .inl (fun _ => (0 : Int32))))] H := hP
  have hD : mD A [a0, n1, n2, n3] := hD
  refine va_putF (D := (dC, dI)) (ci := 4) (v := .ref n3) (ty := (.array .int)) (C := RX4) (T := TX4) (N := 4) hx hb hts hinX4 tyX4 tyX4_ok nmX4 hown hK hP (hD.to rfl) hS 0 rfl rfl 2 (by decide) (hts (.fieldLink RX4 18 "SlipstreamCache$Keys" "groups" "[I") (List.mem_of_getElem? (i := 7) rfl)) (fun _ h9 => h9) rfl hini rfl (by decide +kernel) rfl rfl (Nat.le_of_ble_eq_true rfl) dX4_init_25 (fun H locs hP _ hS => ?_)
  have hP : va_P (dC, dI) vqCl [(a0, .inr (4, [.ref n1, .ref n2, .ref n3, .null])), (n1, .inl (cI, 32, .inl (fun _ => (0 : Int32)))), (n2, .inl (cI, 32, .inl (fun _ => (0 : Int32)))), (n3, .inl (cI, 32, .inl (fun _ => (0 : Int32))))] H := hP
  refine lv_aload_n hx hb dX4_init_28 rfl (lv_at hl 0 rfl) ?_
  refine lv_iconst (v := 4) hx hb dX4_init_29 (by decide) ?_
  refine mNewA (ty := .int) (N' := 4) (a0 := (4, .inl (fun _ => (0 : Int32)))) 0 rfl (fun _ h => nomatch h) hx hb (hts (.arrayClass .int) (List.mem_of_getElem? (i := 4) rfl)) rfl hK hP hD rfl hS hA (fun _ => rfl) (iv_nn (iv_k 4 (k := 4) (by decide)) (by decide)) (iv_cl (iv_k 4 (k := 4) (by decide))) (by decide) (Nat.le_of_ble_eq_true rfl) (Nat.le_of_ble_eq_true rfl) dX4_init_30 (fun n4 H hP hD hS => ?_)
  have hP : va_P (dC, dI) vqCl [(a0, .inr (4, [.ref n1, .ref n2, .ref n3, .null])), (n1, .inl (cI, 32, .inl (fun _ => (0 : Int32)))), (n2, .inl (cI, 32, .inl (fun _ => (0 : Int32)))), (n3, .inl (cI, 32, .inl (fun _ => (0 : Int32)))), (n4, .inl (cI, 4, .inl (fun _ => (0 : Int32))))] H := hP
  have hD : mD A [a0, n1, n2, n3, n4] := hD
  refine va_putF (D := (dC, dI)) (ci := 4) (v := .ref n4) (ty := (.array .int)) (C := RX4) (T := TX4) (N := 4) hx hb hts hinX4 tyX4 tyX4_ok nmX4 hown hK hP (hD.to rfl) hS 0 rfl rfl 3 (by decide) (hts (.fieldLink RX4 21 "SlipstreamCache$Keys" "numbers" "[I") (List.mem_of_getElem? (i := 8) rfl)) (fun _ h9 => h9) rfl hini rfl (by decide +kernel) rfl rfl (Nat.le_of_ble_eq_true rfl) dX4_init_32 (fun H locs hP _ hS => ?_)
  have hP : va_P (dC, dI) vqCl [(a0, .inr (4, [.ref n1, .ref n2, .ref n3, .ref n4])), (n1, .inl (cI, 32, .inl (fun _ => (0 : Int32)))), (n2, .inl (cI, 32, .inl (fun _ => (0 : Int32)))), (n3, .inl (cI, 32, .inl (fun _ => (0 : Int32)))), (n4, .inl (cI, 4, .inl (fun _ => (0 : Int32))))] H := hP
  refine lv_iconst (v := 0) hx hb dX4_init_35 (by decide) ?_
  refine lv_istore_n (lv' := [(1, .int 0), (0, .ref a0)]) hx hb dX4_init_36 rfl hl (by decide) rfl (fun ls hl => ?_)
  have L37_4 : ∀ (n : Nat) (k37_1 : Int32) (f37_n1 : Nat → Int32) (f37_n2 : Nat → Int32), (0 ≤ k37_1.toInt ∧ k37_1.toInt ≤ 32) → (rg 0 1 32 f37_n1) → (rg 0 1 32 f37_n2) → (∀ j : Nat, (j : Int) < k37_1.toInt → (f37_n1 j).toInt = 1) → (∀ j : Nat, (j : Int) < k37_1.toInt → (f37_n2 j).toInt = 1) → (32 + 1 - k37_1.toInt).toNat < n → ∀ (H : Heap) (locs : List Loc), va_P (dC, dI) vqCl [(a0, .inr (4, [.ref n1, .ref n2, .ref n3, .ref n4])), (n1, .inl (cI, 32, .inl f37_n1)), (n2, .inl (cI, 32, .inl f37_n2)), (n3, .inl (cI, 32, .inl (fun _ => (0 : Int32)))), (n4, .inl (cI, 4, .inl (fun _ => (0 : Int32))))] H → va_S A s.heap H locs → ∀ ls : Array Slot, lv_has ls 2 [(1, .int k37_1), (0, .ref a0)] → W p l e ({ frames := 1, cells := 4, slots := 100, locals := 12 } : Room) s m args below meth c H locs 4 100 Q (F0 m 37 ls []) := by
    intro n
    induction n with
    | zero =>
      intro k37_1 f37_n1 f37_n2 bk37_1 rf37_n1 rf37_n2 pf37_n1 pf37_n2 hm
      exact absurd hm (Nat.not_lt_zero _)
    | succ n ih =>
      intro k37_1 f37_n1 f37_n2 bk37_1 rf37_n1 rf37_n2 pf37_n1 pf37_n2 hm H locs hP hS ls hl
      refine lv_iload_n hx hb dX4_init_37 rfl (lv_at hl 0 rfl) ?_
      refine lv_bipush (v := 32) hx hb dX4_init_38 (by decide) ?_
      refine lv_icmp_ge (tgt := 63) hx hb dX4_init_40 (by decide) (fun c6 => ?_) (fun c6 => ?_)
      · have c6 := c_le c6
        have bk37_1_c6 : 32 ≤ k37_1.toInt ∧ k37_1.toInt ≤ 32 := l_le bk37_1 (iv_k 32 (k := 32) (by decide)) c6 (by decide) (by decide)
        have rf37_n1_c6 : rg 1 1 32 f37_n1 := fun j hj => by have h9 := pf37_n1 j (by omega); omega
        have rf37_n2_c6 : rg 1 1 32 f37_n2 := fun j hj => by have h9 := pf37_n2 j (by omega); omega
        subst hQ
        exact W.vret hx hb hr (fun t ht hW => ⟨⟨(n1, n2, n3, n4, f37_n1, f37_n2, (fun _ => (0 : Int32)), (fun _ => (0 : Int32))), rfl, ⟨rg.mono rf37_n1_c6 (by decide) (by decide), rg.mono rf37_n2_c6 (by decide) (by decide), rg.mono (rg.zero _) (by decide) (by decide), rg.mono (rg.zero _) (by decide) (by decide), trivial⟩, pAt ht hP, hD⟩, hS.F ht⟩) hS.2.2 dX4_init_63
      · have c6 := c_nle c6
        have bk37_1_c6 : 0 ≤ k37_1.toInt ∧ k37_1.toInt ≤ 31 := u_lt bk37_1 (iv_k 32 (k := 32) (by decide)) c6 (by decide) (by decide)
        refine lv_aload_n hx hb dX4_init_43 rfl (lv_at hl 1 rfl) ?_
        refine va_get (D := (dC, dI)) (ci := 4) (v := .ref n1) (C := RX4) (T := TX4) (N := 4) hx hb hts hinX4 hown hK hP 0 rfl rfl 0 (by decide) (hts (.fieldLink RX4 9 "SlipstreamCache$Keys" "sizes" "[I") (List.mem_of_getElem? (i := 5) rfl)) (fun _ h9 => h9) rfl dX4_init_44 ?_
        refine lv_iload_n hx hb dX4_init_47 rfl (lv_at hl 0 rfl) ?_
        refine lv_iconst (v := 1) hx hb dX4_init_48 (by decide) ?_
        refine va_iast hx hb hK hP (hD.to rfl) hS 1 0 rfl rfl (iv_in bk37_1_c6 (by decide) (by decide)) dX4_init_49 (fun H locs hP _ hS => ?_)
        obtain ⟨f7, ef7⟩ : ∃ y, y = upd f37_n1 (k37_1).toNatClampNeg (1 : Int32) := ⟨_, rfl⟩
        rw [← ef7] at hP
        have rf7 : rg 0 1 32 f7 := by rw [ef7]; exact (rg.mono rf37_n1 (by decide) (by decide)).up (iv_m (iv_k 1 (k := 1) (by decide)) (by decide) (by decide))
        have pf7 : ∀ j : Nat, (j : Int) < k37_1.toInt + 1 → (f7 j).toInt = 1 := by rw [ef7]; exact pf_up pf37_n1 bk37_1_c6 (by decide) (iv_k 1 (k := 1) (by decide))
        have tf7 : 1 ≤ (f7 (k37_1).toNatClampNeg).toInt ∧ (f7 (k37_1).toNatClampNeg).toInt ≤ 1 := by rw [ef7, pk_us]; exact (iv_k 1 (k := 1) (by decide))
        have hP : va_P (dC, dI) vqCl [(a0, .inr (4, [.ref n1, .ref n2, .ref n3, .ref n4])), (n1, .inl (cI, 32, .inl f7)), (n2, .inl (cI, 32, .inl f37_n2)), (n3, .inl (cI, 32, .inl (fun _ => (0 : Int32)))), (n4, .inl (cI, 4, .inl (fun _ => (0 : Int32))))] H := hP
        refine lv_aload_n hx hb dX4_init_50 rfl (lv_at hl 1 rfl) ?_
        refine va_get (D := (dC, dI)) (ci := 4) (v := .ref n2) (C := RX4) (T := TX4) (N := 4) hx hb hts hinX4 hown hK hP 0 rfl rfl 1 (by decide) (hts (.fieldLink RX4 15 "SlipstreamCache$Keys" "costs" "[I") (List.mem_of_getElem? (i := 6) rfl)) (fun _ h9 => h9) rfl dX4_init_51 ?_
        refine lv_iload_n hx hb dX4_init_54 rfl (lv_at hl 0 rfl) ?_
        refine lv_iconst (v := 1) hx hb dX4_init_55 (by decide) ?_
        refine va_iast hx hb hK hP (hD.to rfl) hS 2 0 rfl rfl (iv_in bk37_1_c6 (by decide) (by decide)) dX4_init_56 (fun H locs hP _ hS => ?_)
        obtain ⟨f8, ef8⟩ : ∃ y, y = upd f37_n2 (k37_1).toNatClampNeg (1 : Int32) := ⟨_, rfl⟩
        rw [← ef8] at hP
        have rf8 : rg 0 1 32 f8 := by rw [ef8]; exact (rg.mono rf37_n2 (by decide) (by decide)).up (iv_m (iv_k 1 (k := 1) (by decide)) (by decide) (by decide))
        have pf8 : ∀ j : Nat, (j : Int) < k37_1.toInt + 1 → (f8 j).toInt = 1 := by rw [ef8]; exact pf_up pf37_n2 bk37_1_c6 (by decide) (iv_k 1 (k := 1) (by decide))
        have tf8 : 1 ≤ (f8 (k37_1).toNatClampNeg).toInt ∧ (f8 (k37_1).toNatClampNeg).toInt ≤ 1 := by rw [ef8, pk_us]; exact (iv_k 1 (k := 1) (by decide))
        have hP : va_P (dC, dI) vqCl [(a0, .inr (4, [.ref n1, .ref n2, .ref n3, .ref n4])), (n1, .inl (cI, 32, .inl f7)), (n2, .inl (cI, 32, .inl f8)), (n3, .inl (cI, 32, .inl (fun _ => (0 : Int32)))), (n4, .inl (cI, 4, .inl (fun _ => (0 : Int32))))] H := hP
        obtain ⟨z9, ez9⟩ : ∃ y : Int32, y = k37_1 + 1 := ⟨_, rfl⟩
        refine lv_iinc (v := z9) (lv' := [(1, .int z9), (0, .ref a0)]) hx hb dX4_init_57 hl (k := 0) rfl (by rw [ez9]; rfl) (by decide) rfl (fun ls hl => ?_)
        have qz9 := iv_add (lo := 1) (hi := 32) ez9 bk37_1_c6 (iv_k 1 (k := 1) (by decide)) (by decide) (by decide) (by decide) (by decide)
        try rw [show (1 : Int32).toInt = 1 from rfl] at qz9
        refine lv_goto (tgt := 37) hx hb dX4_init_60 (by decide) ?_
        exact ih z9 f7 f8 (iv_m qz9.2 (by decide) (by decide)) (rg.mono rf7 (by decide) (by decide)) (rg.mono rf8 (by decide) (by decide)) (fun j hj => pf7 j (by omega)) (fun j hj => pf8 j (by omega)) (by omega) _ _ hP hS ls (lv_sub hl [0, 1] rfl)
  exact L37_4 _ (0 : Int32) (fun _ => (0 : Int32)) (fun _ => (0 : Int32)) (iv_m (iv_k 0 (k := 0) (by decide)) (by decide) (by decide)) (rg.mono (rg.zero _) (by decide) (by decide)) (rg.mono (rg.zero _) (by decide) (by decide)) pf_0 pf_0 (Nat.lt_succ_self _) _ _ hP hS ls (lv_sub hl [0, 1] rfl)
set_option maxHeartbeats 4000000 in
set_option maxRecDepth 100000 in
theorem kX2_init_1 (l : Launch) (dC : Nat → ClassId) (dI : Nat → Nat → Nat) (cI cZ cC cJ cD : ClassId) (qf : Nat) (a0 : Nat) (sz : Nat) (p1 : Int32) (bp1 : 32 ≤ p1.toInt ∧ p1.toInt ≤ 32) : Met l yX2_init wsX2_init ({ frames := 1, cells := 4, slots := 128, locals := 12 } : Room) (mPre qf [.ref a0, .int p1] sz (dC, dI) (mT cI cZ cC cJ cD) [(a0, .inr (2, [.null, .null, .null, .null]))]) (mQc (fun (u : (Nat) × (Nat) × (Nat) × (Nat) × (Nat → Int32) × (Nat → Int32) × (Nat → Int32) × (Nat → Int32)) => rg 0 0 32 (u.2.2.2.2.1) ∧ rg 0 0 32 (u.2.2.2.2.2.1) ∧ rg 0 0 32 (u.2.2.2.2.2.2.1) ∧ rg 0 0 32 (u.2.2.2.2.2.2.2) ∧ True) (fun (u : (Nat) × (Nat) × (Nat) × (Nat) × (Nat → Int32) × (Nat → Int32) × (Nat → Int32) × (Nat → Int32)) => [(a0, .inr (2, [.ref (u.1), .ref (u.2.1), .ref (u.2.2.1), .ref (u.2.2.2.1)])), ((u.1), .inl (cI, 32, .inl (u.2.2.2.2.1))), ((u.2.1), .inl (cI, 32, .inl (u.2.2.2.2.2.1))), ((u.2.2.1), .inl (cI, 32, .inl (u.2.2.2.2.2.2.1))), ((u.2.2.2.1), .inl (cI, 32, .inl (u.2.2.2.2.2.2.2)))]) (fun (u : (Nat) × (Nat) × (Nat) × (Nat) × (Nat → Int32) × (Nat → Int32) × (Nat → Int32) × (Nat → Int32)) => [a0, (u.1), (u.2.1), (u.2.2.1), (u.2.2.2.1)]) (dC, dI) (va_A [(a0, .inr (2, [.null, .null, .null, .null]))] sz)) 4 128 (va_A [(a0, .inr (2, [.null, .null, .null, .null]))] sz) := by
  refine mMetC (Qc := fun A => mQc (fun (u : (Nat) × (Nat) × (Nat) × (Nat) × (Nat → Int32) × (Nat → Int32) × (Nat → Int32) × (Nat → Int32)) => rg 0 0 32 (u.2.2.2.2.1) ∧ rg 0 0 32 (u.2.2.2.2.2.1) ∧ rg 0 0 32 (u.2.2.2.2.2.2.1) ∧ rg 0 0 32 (u.2.2.2.2.2.2.2) ∧ True) (fun (u : (Nat) × (Nat) × (Nat) × (Nat) × (Nat → Int32) × (Nat → Int32) × (Nat → Int32) × (Nat → Int32)) => [(a0, .inr (2, [.ref (u.1), .ref (u.2.1), .ref (u.2.2.1), .ref (u.2.2.2.1)])), ((u.1), .inl (cI, 32, .inl (u.2.2.2.2.1))), ((u.2.1), .inl (cI, 32, .inl (u.2.2.2.2.2.1))), ((u.2.2.1), .inl (cI, 32, .inl (u.2.2.2.2.2.2.1))), ((u.2.2.2.1), .inl (cI, 32, .inl (u.2.2.2.2.2.2.2)))]) (fun (u : (Nat) × (Nat) × (Nat) × (Nat) × (Nat → Int32) × (Nat → Int32) × (Nat → Int32) × (Nat → Int32)) => [a0, (u.1), (u.2.1), (u.2.2.1), (u.2.2.2.1)]) (dC, dI) A) (y := yX2_init) (ws := wsX2_init) (av := [.ref a0, .int p1]) (wc := [(a0, .inr (2, [.null, .null, .null, .null]))]) (cc := cX2_init) (maxL := 3) (ret := none) (own := RX2) (by decide) rfl rfl (Nat.le_of_ble_eq_true rfl) ?_
  intro p e s m args below meth c hx hb hr hts hown hml hlk hini A hsz hP hK hD hS hA hE ls hl Q hQ
  have hl : lv_has ls 3 [(0, .ref a0), (1, .int p1)] := hl
  have hinX2 : ∀ w ∈ u_ws RX2 TX2 4, w ∈ wsX2_init := fun w h => List.mem_cons_of_mem _ (List.mem_append_right _ h)
  refine lv_aload_n hx hb dX2_init_0 rfl (lv_at hl 0 rfl) ?_
  refine W.objInit hx hb hown (hts (.methodLink RX2 1 objectInit) (List.mem_of_getElem? (i := 1) rfl)) (hts (.instanceMethod objectInit) (List.mem_of_getElem? (i := 2) rfl)) (hts (.code objectInit ⟨#[0xb1]⟩ 1 none) (List.mem_of_getElem? (i := 3) rfl)) rfl (by rw [hml]; exact hl.1) rfl dX2_init_1 (Nat.le_of_ble_eq_true rfl) (Nat.le_of_ble_eq_true rfl) ?_
  refine W.eq (g2 := F0 m 4 ls []) rfl ?_
  refine lv_iload_n hx hb dX2_init_4 rfl (lv_at hl 1 rfl) ?_
  refine lv_if_le (tgt := 12) hx hb dX2_init_5 (by decide) (fun c => (z_le bp1 (iv_k 0 (k := 0) (by decide)) (c_le c) (by decide)).elim) (fun c1 => ?_)
  have c1 := c_nle c1
  refine lv_iload_n hx hb dX2_init_8 rfl (lv_at hl 1 rfl) ?_
  refine lv_goto (tgt := 13) hx hb dX2_init_9 (by decide) ?_
  refine lv_istore_n (lv' := [(2, .int p1), (0, .ref a0), (1, .int p1)]) hx hb dX2_init_13 rfl hl (by decide) rfl (fun ls hl => ?_)
  refine lv_aload_n hx hb dX2_init_14 rfl (lv_at hl 1 rfl) ?_
  refine lv_iload_n hx hb dX2_init_15 rfl (lv_at hl 0 rfl) ?_
  refine mNewA (ty := .int) (N' := 32) (a0 := (32, .inl (fun _ => (0 : Int32)))) 0 rfl (fun _ h => nomatch h) hx hb (hts (.arrayClass .int) (List.mem_of_getElem? (i := 4) rfl)) rfl hK hP hD rfl hS hA (fun _ => rfl) (iv_nn bp1 (by decide)) (iv_cl bp1) (by decide) (Nat.le_of_ble_eq_true rfl) (Nat.le_of_ble_eq_true rfl) dX2_init_16 (fun n2 H hP hD hS => ?_)
  have hP : va_P (dC, dI) vqCl [(a0, .inr (2, [.null, .null, .null, .null])), (n2, .inl (cI, 32, .inl (fun _ => (0 : Int32))))] H := hP
  have hD : mD A [a0, n2] := hD
  refine va_putF (D := (dC, dI)) (ci := 2) (v := .ref n2) (ty := (.array .int)) (C := RX2) (T := TX2) (N := 4) hx hb hts hinX2 tyX2 tyX2_ok nmX2 hown hK hP (hD.to rfl) hS 0 rfl rfl 0 (by decide) (hts (.fieldLink RX2 7 "SlipstreamCache$Copies" "values" "[I") (List.mem_of_getElem? (i := 5) rfl)) (fun _ h9 => h9) rfl hini rfl (by decide +kernel) rfl rfl (Nat.le_of_ble_eq_true rfl) dX2_init_18 (fun H locs hP _ hS => ?_)
  have hP : va_P (dC, dI) vqCl [(a0, .inr (2, [.ref n2, .null, .null, .null])), (n2, .inl (cI, 32, .inl (fun _ => (0 : Int32))))] H := hP
  refine lv_aload_n hx hb dX2_init_21 rfl (lv_at hl 1 rfl) ?_
  refine lv_iload_n hx hb dX2_init_22 rfl (lv_at hl 0 rfl) ?_
  refine mNewA (ty := .int) (N' := 32) (a0 := (32, .inl (fun _ => (0 : Int32)))) 0 rfl (fun _ h => nomatch h) hx hb (hts (.arrayClass .int) (List.mem_of_getElem? (i := 4) rfl)) rfl hK hP hD rfl hS hA (fun _ => rfl) (iv_nn bp1 (by decide)) (iv_cl bp1) (by decide) (Nat.le_of_ble_eq_true rfl) (Nat.le_of_ble_eq_true rfl) dX2_init_23 (fun n3 H hP hD hS => ?_)
  have hP : va_P (dC, dI) vqCl [(a0, .inr (2, [.ref n2, .null, .null, .null])), (n2, .inl (cI, 32, .inl (fun _ => (0 : Int32)))), (n3, .inl (cI, 32, .inl (fun _ => (0 : Int32))))] H := hP
  have hD : mD A [a0, n2, n3] := hD
  refine va_putF (D := (dC, dI)) (ci := 2) (v := .ref n3) (ty := (.array .int)) (C := RX2) (T := TX2) (N := 4) hx hb hts hinX2 tyX2 tyX2_ok nmX2 hown hK hP (hD.to rfl) hS 0 rfl rfl 1 (by decide) (hts (.fieldLink RX2 13 "SlipstreamCache$Copies" "versions" "[I") (List.mem_of_getElem? (i := 6) rfl)) (fun _ h9 => h9) rfl hini rfl (by decide +kernel) rfl rfl (Nat.le_of_ble_eq_true rfl) dX2_init_25 (fun H locs hP _ hS => ?_)
  have hP : va_P (dC, dI) vqCl [(a0, .inr (2, [.ref n2, .ref n3, .null, .null])), (n2, .inl (cI, 32, .inl (fun _ => (0 : Int32)))), (n3, .inl (cI, 32, .inl (fun _ => (0 : Int32))))] H := hP
  refine lv_aload_n hx hb dX2_init_28 rfl (lv_at hl 1 rfl) ?_
  refine lv_iload_n hx hb dX2_init_29 rfl (lv_at hl 0 rfl) ?_
  refine mNewA (ty := .int) (N' := 32) (a0 := (32, .inl (fun _ => (0 : Int32)))) 0 rfl (fun _ h => nomatch h) hx hb (hts (.arrayClass .int) (List.mem_of_getElem? (i := 4) rfl)) rfl hK hP hD rfl hS hA (fun _ => rfl) (iv_nn bp1 (by decide)) (iv_cl bp1) (by decide) (Nat.le_of_ble_eq_true rfl) (Nat.le_of_ble_eq_true rfl) dX2_init_30 (fun n4 H hP hD hS => ?_)
  have hP : va_P (dC, dI) vqCl [(a0, .inr (2, [.ref n2, .ref n3, .null, .null])), (n2, .inl (cI, 32, .inl (fun _ => (0 : Int32)))), (n3, .inl (cI, 32, .inl (fun _ => (0 : Int32)))), (n4, .inl (cI, 32, .inl (fun _ => (0 : Int32))))] H := hP
  have hD : mD A [a0, n2, n3, n4] := hD
  refine va_putF (D := (dC, dI)) (ci := 2) (v := .ref n4) (ty := (.array .int)) (C := RX2) (T := TX2) (N := 4) hx hb hts hinX2 tyX2 tyX2_ok nmX2 hown hK hP (hD.to rfl) hS 0 rfl rfl 2 (by decide) (hts (.fieldLink RX2 16 "SlipstreamCache$Copies" "minutes" "[I") (List.mem_of_getElem? (i := 7) rfl)) (fun _ h9 => h9) rfl hini rfl (by decide +kernel) rfl rfl (Nat.le_of_ble_eq_true rfl) dX2_init_32 (fun H locs hP _ hS => ?_)
  have hP : va_P (dC, dI) vqCl [(a0, .inr (2, [.ref n2, .ref n3, .ref n4, .null])), (n2, .inl (cI, 32, .inl (fun _ => (0 : Int32)))), (n3, .inl (cI, 32, .inl (fun _ => (0 : Int32)))), (n4, .inl (cI, 32, .inl (fun _ => (0 : Int32))))] H := hP
  refine lv_aload_n hx hb dX2_init_35 rfl (lv_at hl 1 rfl) ?_
  refine lv_iload_n hx hb dX2_init_36 rfl (lv_at hl 0 rfl) ?_
  refine mNewA (ty := .int) (N' := 32) (a0 := (32, .inl (fun _ => (0 : Int32)))) 0 rfl (fun _ h => nomatch h) hx hb (hts (.arrayClass .int) (List.mem_of_getElem? (i := 4) rfl)) rfl hK hP hD rfl hS hA (fun _ => rfl) (iv_nn bp1 (by decide)) (iv_cl bp1) (by decide) (Nat.le_of_ble_eq_true rfl) (Nat.le_of_ble_eq_true rfl) dX2_init_37 (fun n5 H hP hD hS => ?_)
  have hP : va_P (dC, dI) vqCl [(a0, .inr (2, [.ref n2, .ref n3, .ref n4, .null])), (n2, .inl (cI, 32, .inl (fun _ => (0 : Int32)))), (n3, .inl (cI, 32, .inl (fun _ => (0 : Int32)))), (n4, .inl (cI, 32, .inl (fun _ => (0 : Int32)))), (n5, .inl (cI, 32, .inl (fun _ => (0 : Int32))))] H := hP
  have hD : mD A [a0, n2, n3, n4, n5] := hD
  refine va_putF (D := (dC, dI)) (ci := 2) (v := .ref n5) (ty := (.array .int)) (C := RX2) (T := TX2) (N := 4) hx hb hts hinX2 tyX2 tyX2_ok nmX2 hown hK hP (hD.to rfl) hS 0 rfl rfl 3 (by decide) (hts (.fieldLink RX2 19 "SlipstreamCache$Copies" "numbers" "[I") (List.mem_of_getElem? (i := 8) rfl)) (fun _ h9 => h9) rfl hini rfl (by decide +kernel) rfl rfl (Nat.le_of_ble_eq_true rfl) dX2_init_39 (fun H locs hP _ hS => ?_)
  have hP : va_P (dC, dI) vqCl [(a0, .inr (2, [.ref n2, .ref n3, .ref n4, .ref n5])), (n2, .inl (cI, 32, .inl (fun _ => (0 : Int32)))), (n3, .inl (cI, 32, .inl (fun _ => (0 : Int32)))), (n4, .inl (cI, 32, .inl (fun _ => (0 : Int32)))), (n5, .inl (cI, 32, .inl (fun _ => (0 : Int32))))] H := hP
  subst hQ
  exact W.vret hx hb hr (fun t ht hW => ⟨⟨(n2, n3, n4, n5, (fun _ => (0 : Int32)), (fun _ => (0 : Int32)), (fun _ => (0 : Int32)), (fun _ => (0 : Int32))), rfl, ⟨rg.mono (rg.zero _) (by decide) (by decide), rg.mono (rg.zero _) (by decide) (by decide), rg.mono (rg.zero _) (by decide) (by decide), rg.mono (rg.zero _) (by decide) (by decide), trivial⟩, pAt ht hP, hD⟩, hS.F ht⟩) hS.2.2 dX2_init_42
set_option maxHeartbeats 4000000 in
set_option maxRecDepth 100000 in
theorem kX5_init_1 (l : Launch) (dC : Nat → ClassId) (dI : Nat → Nat → Nat) (cI cZ cC cJ cD : ClassId) (qf : Nat) (a0 : Nat) (sz : Nat) (v_a0_count : Int32) (bv_a0_count : 0 ≤ v_a0_count.toInt ∧ v_a0_count.toInt ≤ 0) : Met l yX5_init wsX5_init ({ frames := 2, cells := 9, slots := 484, locals := 34 } : Room) (mPre qf [.ref a0] sz (dC, dI) (mT cI cZ cC cJ cD) [(a0, .inr (5, [.null, .null, .null, .null, .null, .int v_a0_count, .long 0]))]) (mQc (fun (u : (Nat) × (Nat) × (Nat) × (Nat) × (Nat) × (Nat) × (Nat) × (Nat) × (Nat) × (Nat → Int32) × (Nat → Int32) × (Nat → Int32) × (Nat → Int32) × (Nat → Int32) × (Nat → Int32) × (Nat → Int32) × (Nat → Int32)) => rg 0 0 60 (u.2.2.2.2.2.2.2.2.2.1) ∧ rg 0 0 60 (u.2.2.2.2.2.2.2.2.2.2.1) ∧ rg 0 0 60 (u.2.2.2.2.2.2.2.2.2.2.2.1) ∧ rg 0 0 60 (u.2.2.2.2.2.2.2.2.2.2.2.2.1) ∧ rg 0 0 60 (u.2.2.2.2.2.2.2.2.2.2.2.2.2.1) ∧ rg 0 0 60 (u.2.2.2.2.2.2.2.2.2.2.2.2.2.2.1) ∧ rg 0 0 60 (u.2.2.2.2.2.2.2.2.2.2.2.2.2.2.2.1) ∧ rg 0 0 60 (u.2.2.2.2.2.2.2.2.2.2.2.2.2.2.2.2) ∧ True) (fun (u : (Nat) × (Nat) × (Nat) × (Nat) × (Nat) × (Nat) × (Nat) × (Nat) × (Nat) × (Nat → Int32) × (Nat → Int32) × (Nat → Int32) × (Nat → Int32) × (Nat → Int32) × (Nat → Int32) × (Nat → Int32) × (Nat → Int32)) => [(a0, .inr (5, [.ref (u.1), .ref (u.2.2.2.2.2.1), .ref (u.2.2.2.2.2.2.1), .ref (u.2.2.2.2.2.2.2.1), .ref (u.2.2.2.2.2.2.2.2.1), .int 0, .long 0])), ((u.1), .inr (2, [.ref (u.2.1), .ref (u.2.2.1), .ref (u.2.2.2.1), .ref (u.2.2.2.2.1)])), ((u.2.1), .inl (cI, 60, .inl (u.2.2.2.2.2.2.2.2.2.1))), ((u.2.2.1), .inl (cI, 60, .inl (u.2.2.2.2.2.2.2.2.2.2.1))), ((u.2.2.2.1), .inl (cI, 60, .inl (u.2.2.2.2.2.2.2.2.2.2.2.1))), ((u.2.2.2.2.1), .inl (cI, 60, .inl (u.2.2.2.2.2.2.2.2.2.2.2.2.1))), ((u.2.2.2.2.2.1), .inl (cI, 60, .inl (u.2.2.2.2.2.2.2.2.2.2.2.2.2.1))), ((u.2.2.2.2.2.2.1), .inl (cI, 60, .inl (u.2.2.2.2.2.2.2.2.2.2.2.2.2.2.1))), ((u.2.2.2.2.2.2.2.1), .inl (cZ, 60, .inl (u.2.2.2.2.2.2.2.2.2.2.2.2.2.2.2.1))), ((u.2.2.2.2.2.2.2.2.1), .inl (cC, 60, .inl (u.2.2.2.2.2.2.2.2.2.2.2.2.2.2.2.2)))]) (fun (u : (Nat) × (Nat) × (Nat) × (Nat) × (Nat) × (Nat) × (Nat) × (Nat) × (Nat) × (Nat → Int32) × (Nat → Int32) × (Nat → Int32) × (Nat → Int32) × (Nat → Int32) × (Nat → Int32) × (Nat → Int32) × (Nat → Int32)) => [a0, (u.1), (u.2.1), (u.2.2.1), (u.2.2.2.1), (u.2.2.2.2.1), (u.2.2.2.2.2.1), (u.2.2.2.2.2.2.1), (u.2.2.2.2.2.2.2.1), (u.2.2.2.2.2.2.2.2.1)]) (dC, dI) (va_A [(a0, .inr (5, [.null, .null, .null, .null, .null, .int v_a0_count, .long 0]))] sz)) 9 484 (va_A [(a0, .inr (5, [.null, .null, .null, .null, .null, .int v_a0_count, .long 0]))] sz) := by
  refine mMetC (Qc := fun A => mQc (fun (u : (Nat) × (Nat) × (Nat) × (Nat) × (Nat) × (Nat) × (Nat) × (Nat) × (Nat) × (Nat → Int32) × (Nat → Int32) × (Nat → Int32) × (Nat → Int32) × (Nat → Int32) × (Nat → Int32) × (Nat → Int32) × (Nat → Int32)) => rg 0 0 60 (u.2.2.2.2.2.2.2.2.2.1) ∧ rg 0 0 60 (u.2.2.2.2.2.2.2.2.2.2.1) ∧ rg 0 0 60 (u.2.2.2.2.2.2.2.2.2.2.2.1) ∧ rg 0 0 60 (u.2.2.2.2.2.2.2.2.2.2.2.2.1) ∧ rg 0 0 60 (u.2.2.2.2.2.2.2.2.2.2.2.2.2.1) ∧ rg 0 0 60 (u.2.2.2.2.2.2.2.2.2.2.2.2.2.2.1) ∧ rg 0 0 60 (u.2.2.2.2.2.2.2.2.2.2.2.2.2.2.2.1) ∧ rg 0 0 60 (u.2.2.2.2.2.2.2.2.2.2.2.2.2.2.2.2) ∧ True) (fun (u : (Nat) × (Nat) × (Nat) × (Nat) × (Nat) × (Nat) × (Nat) × (Nat) × (Nat) × (Nat → Int32) × (Nat → Int32) × (Nat → Int32) × (Nat → Int32) × (Nat → Int32) × (Nat → Int32) × (Nat → Int32) × (Nat → Int32)) => [(a0, .inr (5, [.ref (u.1), .ref (u.2.2.2.2.2.1), .ref (u.2.2.2.2.2.2.1), .ref (u.2.2.2.2.2.2.2.1), .ref (u.2.2.2.2.2.2.2.2.1), .int 0, .long 0])), ((u.1), .inr (2, [.ref (u.2.1), .ref (u.2.2.1), .ref (u.2.2.2.1), .ref (u.2.2.2.2.1)])), ((u.2.1), .inl (cI, 60, .inl (u.2.2.2.2.2.2.2.2.2.1))), ((u.2.2.1), .inl (cI, 60, .inl (u.2.2.2.2.2.2.2.2.2.2.1))), ((u.2.2.2.1), .inl (cI, 60, .inl (u.2.2.2.2.2.2.2.2.2.2.2.1))), ((u.2.2.2.2.1), .inl (cI, 60, .inl (u.2.2.2.2.2.2.2.2.2.2.2.2.1))), ((u.2.2.2.2.2.1), .inl (cI, 60, .inl (u.2.2.2.2.2.2.2.2.2.2.2.2.2.1))), ((u.2.2.2.2.2.2.1), .inl (cI, 60, .inl (u.2.2.2.2.2.2.2.2.2.2.2.2.2.2.1))), ((u.2.2.2.2.2.2.2.1), .inl (cZ, 60, .inl (u.2.2.2.2.2.2.2.2.2.2.2.2.2.2.2.1))), ((u.2.2.2.2.2.2.2.2.1), .inl (cC, 60, .inl (u.2.2.2.2.2.2.2.2.2.2.2.2.2.2.2.2)))]) (fun (u : (Nat) × (Nat) × (Nat) × (Nat) × (Nat) × (Nat) × (Nat) × (Nat) × (Nat) × (Nat → Int32) × (Nat → Int32) × (Nat → Int32) × (Nat → Int32) × (Nat → Int32) × (Nat → Int32) × (Nat → Int32) × (Nat → Int32)) => [a0, (u.1), (u.2.1), (u.2.2.1), (u.2.2.2.1), (u.2.2.2.2.1), (u.2.2.2.2.2.1), (u.2.2.2.2.2.2.1), (u.2.2.2.2.2.2.2.1), (u.2.2.2.2.2.2.2.2.1)]) (dC, dI) A) (y := yX5_init) (ws := wsX5_init) (av := [.ref a0]) (wc := [(a0, .inr (5, [.null, .null, .null, .null, .null, .int v_a0_count, .long 0]))]) (cc := cX5_init) (maxL := 1) (ret := none) (own := RX5) (by decide) rfl rfl (Nat.le_of_ble_eq_true rfl) ?_
  intro p e s m args below meth c hx hb hr hts hown hml hlk hini A hsz hP hK hD hS hA hE ls hl Q hQ
  have hl : lv_has ls 1 [(0, .ref a0)] := hl
  have hinX2 : ∀ w ∈ u_ws RX2 TX2 4, w ∈ wsX5_init := fun w h => List.mem_cons_of_mem _ (List.mem_append_left _ (List.mem_append_right _ h))
  have hinX5 : ∀ w ∈ u_ws RX5 TX5 7, w ∈ wsX5_init := fun w h => List.mem_cons_of_mem _ (List.mem_append_right _ h)
  refine lv_aload_n hx hb dX5_init_0 rfl (lv_at hl 0 rfl) ?_
  refine W.objInit hx hb hown (hts (.methodLink RX5 3 objectInit) (List.mem_of_getElem? (i := 1) rfl)) (hts (.instanceMethod objectInit) (List.mem_of_getElem? (i := 2) rfl)) (hts (.code objectInit ⟨#[0xb1]⟩ 1 none) (List.mem_of_getElem? (i := 3) rfl)) rfl (by rw [hml]; exact hl.1) rfl dX5_init_1 (Nat.le_of_ble_eq_true rfl) (Nat.le_of_ble_eq_true rfl) ?_
  refine W.eq (g2 := F0 m 4 ls []) rfl ?_
  refine lv_aload_n hx hb dX5_init_4 rfl (lv_at hl 0 rfl) ?_
  refine mNewO (ci := 2) (fs := [.null, .null, .null, .null]) (C := RX2) (T := TX2) (N := 4) hx hb hts hinX2 tyX2 tyX2_ok hown (hts (.classLink RX5 9 RX2) (List.mem_of_getElem? (i := 4) rfl)) (hts (.instantiable RX2 4) (List.mem_of_getElem? (i := 5) rfl)) (hts (.initialized RX2) (List.mem_of_getElem? (i := 6) rfl)) hK hP hD rfl hS hA rfl (fun j hj => by match j, hj with | 0, _ => rfl | 1, _ => rfl | 2, _ => rfl | 3, _ => rfl) (Nat.le_of_ble_eq_true rfl) (Nat.le_of_ble_eq_true rfl) dX5_init_5 (fun n1 H hP hD hS => ?_)
  have hP : va_P (dC, dI) vqCl [(a0, .inr (5, [.null, .null, .null, .null, .null, .int v_a0_count, .long 0])), (n1, .inr (2, [.null, .null, .null, .null]))] H := hP
  have hD : mD A [a0, n1] := hD
  refine lv_dup hx hb dX5_init_8 rfl ?_
  refine lv_bipush (v := 60) hx hb dX5_init_9 (by decide) ?_
  refine mCv (wc := [(n1, .inr (2, [.null, .null, .null, .null]))]) (wr := [(a0, .inr (5, [.null, .null, .null, .null, .null, .int v_a0_count, .long 0]))]) (va_runI (As := [.int 60]) (rest := [.ref n1, .ref a0]) ⟨hx, hb, hml, hown, hts⟩ (kX2_init_3 l dC dI cI cZ cC cJ cD qf n1 _ (60 : Int32) (iv_m (iv_k 60 (k := 60) (by decide)) (by decide) (by decide))) (cwI 1 hts gX5_init_X2_init rfl rfl rfl (hts (.initialized RX2) (List.mem_of_getElem? (i := 6) rfl)) (hts (.methodLink RX5 11 yX2_init) (List.mem_of_getElem? (i := 17) rfl)) (hts (.instanceMethod yX2_init) (List.mem_of_getElem? (i := 18) rfl)) rfl (by decide +kernel) ⟨(Nat.le_of_ble_eq_true rfl), (Nat.le_of_ble_eq_true rfl)⟩) (mPreS hE hS hA hK hP (hD.to rfl) [1] rfl rfl) rfl rfl hl.1 rfl (lv_room (Nat.le_of_ble_eq_true rfl)) dX5_init_11 ⟨(Nat.le_of_ble_eq_true rfl), (Nat.le_of_ble_eq_true rfl)⟩) hP hD rfl hS hA [1] [0] rfl rfl (by decide) (by decide) (fun _ => rfl) (fun u2 H locs hw hP hD hS => ?_)
  obtain ⟨n3, n4, n5, n6, g7, g8, g9, g10⟩ := u2
  have rg7 : rg 0 0 60 g7 := hw.1
  have rg8 : rg 0 0 60 g8 := hw.2.1
  have rg9 : rg 0 0 60 g9 := hw.2.2.1
  have rg10 : rg 0 0 60 g10 := hw.2.2.2.1
  have hP : va_P (dC, dI) vqCl [(a0, .inr (5, [.null, .null, .null, .null, .null, .int v_a0_count, .long 0])), (n1, .inr (2, [.ref n3, .ref n4, .ref n5, .ref n6])), (n3, .inl (cI, 60, .inl g7)), (n4, .inl (cI, 60, .inl g8)), (n5, .inl (cI, 60, .inl g9)), (n6, .inl (cI, 60, .inl g10))] H := hP
  have hD : mD A [a0, n1, n3, n4, n5, n6] := hD
  refine va_putF (D := (dC, dI)) (ci := 5) (v := .ref n1) (ty := (.object "SlipstreamCache$Copies")) (C := RX5) (T := TX5) (N := 7) hx hb hts hinX5 tyX5 tyX5_ok nmX5 hown hK hP (hD.to rfl) hS 0 rfl rfl 0 (by decide) (hts (.fieldLink RX5 14 "SlipstreamCache$Leases" "copies" "LSlipstreamCache$Copies;") (List.mem_of_getElem? (i := 7) rfl)) (fun _ h9 => h9) rfl hini rfl (by decide +kernel) rfl rfl (Nat.le_of_ble_eq_true rfl) dX5_init_14 (fun H locs hP _ hS => ?_)
  have hP : va_P (dC, dI) vqCl [(a0, .inr (5, [.ref n1, .null, .null, .null, .null, .int v_a0_count, .long 0])), (n1, .inr (2, [.ref n3, .ref n4, .ref n5, .ref n6])), (n3, .inl (cI, 60, .inl g7)), (n4, .inl (cI, 60, .inl g8)), (n5, .inl (cI, 60, .inl g9)), (n6, .inl (cI, 60, .inl g10))] H := hP
  refine lv_aload_n hx hb dX5_init_17 rfl (lv_at hl 0 rfl) ?_
  refine lv_bipush (v := 60) hx hb dX5_init_18 (by decide) ?_
  refine mNewA (ty := .int) (N' := 60) (a0 := (60, .inl (fun _ => (0 : Int32)))) 0 rfl (fun _ h => nomatch h) hx hb (hts (.arrayClass .int) (List.mem_of_getElem? (i := 8) rfl)) rfl hK hP hD rfl hS hA (fun _ => rfl) (iv_nn (iv_k 60 (k := 60) (by decide)) (by decide)) (iv_cl (iv_k 60 (k := 60) (by decide))) (by decide) (Nat.le_of_ble_eq_true rfl) (Nat.le_of_ble_eq_true rfl) dX5_init_20 (fun n11 H hP hD hS => ?_)
  have hP : va_P (dC, dI) vqCl [(a0, .inr (5, [.ref n1, .null, .null, .null, .null, .int v_a0_count, .long 0])), (n1, .inr (2, [.ref n3, .ref n4, .ref n5, .ref n6])), (n3, .inl (cI, 60, .inl g7)), (n4, .inl (cI, 60, .inl g8)), (n5, .inl (cI, 60, .inl g9)), (n6, .inl (cI, 60, .inl g10)), (n11, .inl (cI, 60, .inl (fun _ => (0 : Int32))))] H := hP
  have hD : mD A [a0, n1, n3, n4, n5, n6, n11] := hD
  refine va_putF (D := (dC, dI)) (ci := 5) (v := .ref n11) (ty := (.array .int)) (C := RX5) (T := TX5) (N := 7) hx hb hts hinX5 tyX5 tyX5_ok nmX5 hown hK hP (hD.to rfl) hS 0 rfl rfl 1 (by decide) (hts (.fieldLink RX5 20 "SlipstreamCache$Leases" "keyOf" "[I") (List.mem_of_getElem? (i := 9) rfl)) (fun _ h9 => h9) rfl hini rfl (by decide +kernel) rfl rfl (Nat.le_of_ble_eq_true rfl) dX5_init_22 (fun H locs hP _ hS => ?_)
  have hP : va_P (dC, dI) vqCl [(a0, .inr (5, [.ref n1, .ref n11, .null, .null, .null, .int v_a0_count, .long 0])), (n1, .inr (2, [.ref n3, .ref n4, .ref n5, .ref n6])), (n3, .inl (cI, 60, .inl g7)), (n4, .inl (cI, 60, .inl g8)), (n5, .inl (cI, 60, .inl g9)), (n6, .inl (cI, 60, .inl g10)), (n11, .inl (cI, 60, .inl (fun _ => (0 : Int32))))] H := hP
  refine lv_aload_n hx hb dX5_init_25 rfl (lv_at hl 0 rfl) ?_
  refine lv_bipush (v := 60) hx hb dX5_init_26 (by decide) ?_
  refine mNewA (ty := .int) (N' := 60) (a0 := (60, .inl (fun _ => (0 : Int32)))) 0 rfl (fun _ h => nomatch h) hx hb (hts (.arrayClass .int) (List.mem_of_getElem? (i := 8) rfl)) rfl hK hP hD rfl hS hA (fun _ => rfl) (iv_nn (iv_k 60 (k := 60) (by decide)) (by decide)) (iv_cl (iv_k 60 (k := 60) (by decide))) (by decide) (Nat.le_of_ble_eq_true rfl) (Nat.le_of_ble_eq_true rfl) dX5_init_28 (fun n12 H hP hD hS => ?_)
  have hP : va_P (dC, dI) vqCl [(a0, .inr (5, [.ref n1, .ref n11, .null, .null, .null, .int v_a0_count, .long 0])), (n1, .inr (2, [.ref n3, .ref n4, .ref n5, .ref n6])), (n3, .inl (cI, 60, .inl g7)), (n4, .inl (cI, 60, .inl g8)), (n5, .inl (cI, 60, .inl g9)), (n6, .inl (cI, 60, .inl g10)), (n11, .inl (cI, 60, .inl (fun _ => (0 : Int32)))), (n12, .inl (cI, 60, .inl (fun _ => (0 : Int32))))] H := hP
  have hD : mD A [a0, n1, n3, n4, n5, n6, n11, n12] := hD
  refine va_putF (D := (dC, dI)) (ci := 5) (v := .ref n12) (ty := (.array .int)) (C := RX5) (T := TX5) (N := 7) hx hb hts hinX5 tyX5 tyX5_ok nmX5 hown hK hP (hD.to rfl) hS 0 rfl rfl 2 (by decide) (hts (.fieldLink RX5 24 "SlipstreamCache$Leases" "given" "[I") (List.mem_of_getElem? (i := 10) rfl)) (fun _ h9 => h9) rfl hini rfl (by decide +kernel) rfl rfl (Nat.le_of_ble_eq_true rfl) dX5_init_30 (fun H locs hP _ hS => ?_)
  have hP : va_P (dC, dI) vqCl [(a0, .inr (5, [.ref n1, .ref n11, .ref n12, .null, .null, .int v_a0_count, .long 0])), (n1, .inr (2, [.ref n3, .ref n4, .ref n5, .ref n6])), (n3, .inl (cI, 60, .inl g7)), (n4, .inl (cI, 60, .inl g8)), (n5, .inl (cI, 60, .inl g9)), (n6, .inl (cI, 60, .inl g10)), (n11, .inl (cI, 60, .inl (fun _ => (0 : Int32)))), (n12, .inl (cI, 60, .inl (fun _ => (0 : Int32))))] H := hP
  refine lv_aload_n hx hb dX5_init_33 rfl (lv_at hl 0 rfl) ?_
  refine lv_bipush (v := 60) hx hb dX5_init_34 (by decide) ?_
  refine mNewA (ty := .boolean) (N' := 60) (a0 := (60, .inl (fun _ => (0 : Int32)))) 1 rfl (fun _ h => nomatch h) hx hb (hts (.arrayClass .boolean) (List.mem_of_getElem? (i := 11) rfl)) rfl hK hP hD rfl hS hA (fun _ => rfl) (iv_nn (iv_k 60 (k := 60) (by decide)) (by decide)) (iv_cl (iv_k 60 (k := 60) (by decide))) (by decide) (Nat.le_of_ble_eq_true rfl) (Nat.le_of_ble_eq_true rfl) dX5_init_36 (fun n13 H hP hD hS => ?_)
  have hP : va_P (dC, dI) vqCl [(a0, .inr (5, [.ref n1, .ref n11, .ref n12, .null, .null, .int v_a0_count, .long 0])), (n1, .inr (2, [.ref n3, .ref n4, .ref n5, .ref n6])), (n3, .inl (cI, 60, .inl g7)), (n4, .inl (cI, 60, .inl g8)), (n5, .inl (cI, 60, .inl g9)), (n6, .inl (cI, 60, .inl g10)), (n11, .inl (cI, 60, .inl (fun _ => (0 : Int32)))), (n12, .inl (cI, 60, .inl (fun _ => (0 : Int32)))), (n13, .inl (cZ, 60, .inl (fun _ => (0 : Int32))))] H := hP
  have hD : mD A [a0, n1, n3, n4, n5, n6, n11, n12, n13] := hD
  refine va_putF (D := (dC, dI)) (ci := 5) (v := .ref n13) (ty := (.array .boolean)) (C := RX5) (T := TX5) (N := 7) hx hb hts hinX5 tyX5 tyX5_ok nmX5 hown hK hP (hD.to rfl) hS 0 rfl rfl 3 (by decide) (hts (.fieldLink RX5 27 "SlipstreamCache$Leases" "wasRead" "[Z") (List.mem_of_getElem? (i := 12) rfl)) (fun _ h9 => h9) rfl hini rfl (by decide +kernel) rfl rfl (Nat.le_of_ble_eq_true rfl) dX5_init_38 (fun H locs hP _ hS => ?_)
  have hP : va_P (dC, dI) vqCl [(a0, .inr (5, [.ref n1, .ref n11, .ref n12, .ref n13, .null, .int v_a0_count, .long 0])), (n1, .inr (2, [.ref n3, .ref n4, .ref n5, .ref n6])), (n3, .inl (cI, 60, .inl g7)), (n4, .inl (cI, 60, .inl g8)), (n5, .inl (cI, 60, .inl g9)), (n6, .inl (cI, 60, .inl g10)), (n11, .inl (cI, 60, .inl (fun _ => (0 : Int32)))), (n12, .inl (cI, 60, .inl (fun _ => (0 : Int32)))), (n13, .inl (cZ, 60, .inl (fun _ => (0 : Int32))))] H := hP
  refine lv_aload_n hx hb dX5_init_41 rfl (lv_at hl 0 rfl) ?_
  refine lv_bipush (v := 60) hx hb dX5_init_42 (by decide) ?_
  refine mNewA (ty := .char) (N' := 60) (a0 := (60, .inl (fun _ => (0 : Int32)))) 2 rfl (fun _ h => nomatch h) hx hb (hts (.arrayClass .char) (List.mem_of_getElem? (i := 13) rfl)) rfl hK hP hD rfl hS hA (fun _ => rfl) (iv_nn (iv_k 60 (k := 60) (by decide)) (by decide)) (iv_cl (iv_k 60 (k := 60) (by decide))) (by decide) (Nat.le_of_ble_eq_true rfl) (Nat.le_of_ble_eq_true rfl) dX5_init_44 (fun n14 H hP hD hS => ?_)
  have hP : va_P (dC, dI) vqCl [(a0, .inr (5, [.ref n1, .ref n11, .ref n12, .ref n13, .null, .int v_a0_count, .long 0])), (n1, .inr (2, [.ref n3, .ref n4, .ref n5, .ref n6])), (n3, .inl (cI, 60, .inl g7)), (n4, .inl (cI, 60, .inl g8)), (n5, .inl (cI, 60, .inl g9)), (n6, .inl (cI, 60, .inl g10)), (n11, .inl (cI, 60, .inl (fun _ => (0 : Int32)))), (n12, .inl (cI, 60, .inl (fun _ => (0 : Int32)))), (n13, .inl (cZ, 60, .inl (fun _ => (0 : Int32)))), (n14, .inl (cC, 60, .inl (fun _ => (0 : Int32))))] H := hP
  have hD : mD A [a0, n1, n3, n4, n5, n6, n11, n12, n13, n14] := hD
  refine va_putF (D := (dC, dI)) (ci := 5) (v := .ref n14) (ty := (.array .char)) (C := RX5) (T := TX5) (N := 7) hx hb hts hinX5 tyX5 tyX5_ok nmX5 hown hK hP (hD.to rfl) hS 0 rfl rfl 4 (by decide) (hts (.fieldLink RX5 31 "SlipstreamCache$Leases" "ends" "[C") (List.mem_of_getElem? (i := 14) rfl)) (fun _ h9 => h9) rfl hini rfl (by decide +kernel) rfl rfl (Nat.le_of_ble_eq_true rfl) dX5_init_46 (fun H locs hP _ hS => ?_)
  have hP : va_P (dC, dI) vqCl [(a0, .inr (5, [.ref n1, .ref n11, .ref n12, .ref n13, .ref n14, .int v_a0_count, .long 0])), (n1, .inr (2, [.ref n3, .ref n4, .ref n5, .ref n6])), (n3, .inl (cI, 60, .inl g7)), (n4, .inl (cI, 60, .inl g8)), (n5, .inl (cI, 60, .inl g9)), (n6, .inl (cI, 60, .inl g10)), (n11, .inl (cI, 60, .inl (fun _ => (0 : Int32)))), (n12, .inl (cI, 60, .inl (fun _ => (0 : Int32)))), (n13, .inl (cZ, 60, .inl (fun _ => (0 : Int32)))), (n14, .inl (cC, 60, .inl (fun _ => (0 : Int32))))] H := hP
  refine lv_aload_n hx hb dX5_init_49 rfl (lv_at hl 0 rfl) ?_
  refine lv_iconst (v := 0) hx hb dX5_init_50 (by decide) ?_
  refine va_put (D := (dC, dI)) (ci := 5) (v := .int 0) (ty := .int) (C := RX5) (T := TX5) (N := 7) hx hb hts hinX5 tyX5 tyX5_ok nmX5 hown hK hP (hD.to rfl) hS 0 rfl rfl 5 (by decide) (hts (.fieldLink RX5 35 "SlipstreamCache$Leases" "count" "I") (List.mem_of_getElem? (i := 15) rfl)) (fun _ h9 => h9) rfl (by decide +kernel) rfl rfl (Nat.le_of_ble_eq_true rfl) dX5_init_51 (fun H locs hP _ hS => ?_)
  have hP : va_P (dC, dI) vqCl [(a0, .inr (5, [.ref n1, .ref n11, .ref n12, .ref n13, .ref n14, .int 0, .long 0])), (n1, .inr (2, [.ref n3, .ref n4, .ref n5, .ref n6])), (n3, .inl (cI, 60, .inl g7)), (n4, .inl (cI, 60, .inl g8)), (n5, .inl (cI, 60, .inl g9)), (n6, .inl (cI, 60, .inl g10)), (n11, .inl (cI, 60, .inl (fun _ => (0 : Int32)))), (n12, .inl (cI, 60, .inl (fun _ => (0 : Int32)))), (n13, .inl (cZ, 60, .inl (fun _ => (0 : Int32)))), (n14, .inl (cC, 60, .inl (fun _ => (0 : Int32))))] H := hP
  refine lv_aload_n hx hb dX5_init_54 rfl (lv_at hl 0 rfl) ?_
  refine lv_lconst (v := 0) hx hb dX5_init_55 (by decide) ?_
  refine va_put (D := (dC, dI)) (ci := 5) (v := .long 0) (ty := .long) (C := RX5) (T := TX5) (N := 7) hx hb hts hinX5 tyX5 tyX5_ok nmX5 hown hK hP (hD.to rfl) hS 0 rfl rfl 6 (by decide) (hts (.fieldLink RX5 39 "SlipstreamCache$Leases" "costs" "J") (List.mem_of_getElem? (i := 16) rfl)) (fun _ h9 => h9) rfl (by decide +kernel) rfl rfl (Nat.le_of_ble_eq_true rfl) dX5_init_56 (fun H locs hP _ hS => ?_)
  have hP : va_P (dC, dI) vqCl [(a0, .inr (5, [.ref n1, .ref n11, .ref n12, .ref n13, .ref n14, .int 0, .long 0])), (n1, .inr (2, [.ref n3, .ref n4, .ref n5, .ref n6])), (n3, .inl (cI, 60, .inl g7)), (n4, .inl (cI, 60, .inl g8)), (n5, .inl (cI, 60, .inl g9)), (n6, .inl (cI, 60, .inl g10)), (n11, .inl (cI, 60, .inl (fun _ => (0 : Int32)))), (n12, .inl (cI, 60, .inl (fun _ => (0 : Int32)))), (n13, .inl (cZ, 60, .inl (fun _ => (0 : Int32)))), (n14, .inl (cC, 60, .inl (fun _ => (0 : Int32))))] H := hP
  subst hQ
  exact W.vret hx hb hr (fun t ht hW => ⟨⟨(n1, n3, n4, n5, n6, n11, n12, n13, n14, g7, g8, g9, g10, (fun _ => (0 : Int32)), (fun _ => (0 : Int32)), (fun _ => (0 : Int32)), (fun _ => (0 : Int32))), rfl, ⟨rg.mono rg7 (by decide) (by decide), rg.mono rg8 (by decide) (by decide), rg.mono rg9 (by decide) (by decide), rg.mono rg10 (by decide) (by decide), rg.mono (rg.zero _) (by decide) (by decide), rg.mono (rg.zero _) (by decide) (by decide), rg.mono (rg.zero _) (by decide) (by decide), rg.mono (rg.zero _) (by decide) (by decide), trivial⟩, pAt ht hP, hD⟩, hS.F ht⟩) hS.2.2 dX5_init_59
